/-! calls: addInterpreter -/
section OPS2
variable {m : Mem} {A : Ab} {x y z w : Int32}
theorem bt_nI {n : Nat} (hn : n < 1024) {p : Nat} : bt (nI n) p = n.testBit p := by
  show (BitVec.ofNat 32 n).getLsbD p = n.testBit p
  rw [BitVec.getLsbD_ofNat]
  by_cases h : p < 32
  · simp [h]
  · rw [Nat.testBit_lt_two_pow (x := n) (i := p) (Nat.lt_of_lt_of_le hn (Nat.pow_le_pow_right (n := 2) (by omega) (by omega : 10 ≤ p)))]
    simp
theorem ct_le (S : Nat → Bool) : ∀ n, ct S n ≤ n
  | 0 => Nat.le_refl _
  | n + 1 => by
    have := ct_le S n
    rw [ct]
    split <;> omega
theorem s6_hire {c : Nat} {r : Row} (hC : CR c m r) (hn : NumW r) (h10 : ppl r < 10) : ∃ m', f_X6_hire c x y z m = some (nI (ppl r), m') ∧ CR c m' (hireR r x y z) ∧ FrC c m m' := by
  have hp : m.1 (c + 1) 0 = nI (ppl r) := by rw [hC.1.people]; exact hn.2.1
  unfold f_X6_hire
  rw [hp, if_pos (by rw [show (10 : Int32) = nI 10 from rfl, pz_lt (by omega) (by omega)]; exact h10)]
  simp (disch := omega) only [pz_nm, pz_in, pz_cl, si_ne, hp]
  have e : ∀ (m13 : Mem) (v : Int32), (si m13 (c + 1) 0 v).1 (c + 1) 0 - 1 = v - 1 := fun m13 v => by rw [si_at]
  rw [e, show nI (ppl r) + 1 - 1 = nI (ppl r) from Int32.add_sub_cancel _ _]
  have l2 : loc 2 (ppl r) = some (13 + ppl r) := by simp [loc, h10]
  have l3 : loc 3 (ppl r) = some (23 + ppl r) := by simp [loc, h10]
  have l4 : loc 4 (ppl r) = some (33 + ppl r) := by simp [loc, h10]
  have l5 : loc 5 (ppl r) = some (43 + ppl r) := by simp [loc, h10]
  have l6 : loc 6 (ppl r) = some (53 + ppl r) := by simp [loc, h10]
  have l7 : loc 7 (ppl r) = some (63 + ppl r) := by simp [loc, h10]
  have h := ((((((hC.put0 l2 (by omega) (by omega) x (by omega)).put0 l3 (by omega) (by omega) y (by omega)).put0 l4 (by omega) (by omega) z (by omega)).put0 l5 (by omega) (by omega) 0 (by omega)).put0 l6 (by omega) (by omega) 0 (by omega)).put0 l7 (by omega) (by omega) 0 (by omega)).put0 (k := 1) (j := 0) (i := 7) rfl (by omega) (by omega) (nI (ppl r) + 1) (by omega)
  refine ⟨_, rfl, ?_, ((((((FrC.rf.put (by omega)).put (by omega)).put (by omega)).put (by omega)).put (by omega)).put (by omega)).put (by omega)⟩
  unfold hireR
  rw [hn.2.1, upd_swap _ (i := 7) (j := 13 + ppl r) (by omega), upd_swap _ (i := 7) (j := 23 + ppl r) (by omega), upd_swap _ (i := 7) (j := 33 + ppl r) (by omega), upd_swap _ (i := 7) (j := 43 + ppl r) (by omega), upd_swap _ (i := 7) (j := 53 + ppl r) (by omega), upd_swap _ (i := 7) (j := 63 + ppl r) (by omega)]
  exact h
end OPS2
