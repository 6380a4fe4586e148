/-! calls: addList -/
section ADDL
variable {m : Mem} {A : Ab} {b : Nat → Nat} {N t : Nat} {r : Row} {L : Nat → Nat → Nat}
theorem s8_addL {n : Nat} (hz : m.1 163 = r) (R : RW r) (e9 : r 9 = nI t) (ht : t ≤ 20000) (h9 : m.1 162 9 = nI n) (hn : n ≤ 10) (h30 : hrs r + n ≤ 30) (hL : ∀ k, k < n → ∀ j, j < 4 → m.1 167 (4 * k + j) = nI (L k j)) (hE : ∀ k, k < n → EB (L k)) : lp f_X8_addList_L94 1000000 (0, m) = some (sa m 163 (rE r t L n)) := by
  have e0 : m = sa m 163 (rE r t L 0) := by
    show m = sa m 163 r
    rw [← hz, sa_id]
  have := lp_cnt (body := f_X8_addList_L94) (fun k => (nI (4 * k), sa m 163 (rE r t L k))) (N := n) (t := sa m 163 (rE r t L n)) (fun k hk => ?_) ?_ (n := 1000000) (by omega)
  · rw [← e0] at this
    exact this
  · obtain ⟨R', e', h'⟩ := rE_RW (L := L) R e9 ht k (by omega) (fun i hi => hE i (by omega))
    have q := s8_putHearing (m := sa m 163 (rE r t L k)) (r := rE r t L k) (kd := nI (L k 0)) (lg := nI (L k 1)) (s := nI (L k 2)) (len := nI (L k 3)) (sa_self _ _ _) R'.1.1 (by omega)
    have l0 := hL k hk 0 (by omega)
    rw [Nat.add_zero] at l0
    rw [f_X8_addList_L94, sa_ne _ (by omega), sa_ne _ (by omega), h9, show (4 : Int32) = nI 4 from rfl, pz_mul, if_neg (by rw [pz_le (by omega) (by omega)]; omega), show (1 : Int32) = nI 1 from rfl, show (2 : Int32) = nI 2 from rfl, show (3 : Int32) = nI 3 from rfl, pz_add, pz_add, pz_add, pz_add]
    simp (disch := omega) only [pz_in, pz_cl, pz_nm]
    rw [l0, hL k hk 1 (by omega), hL k hk 2 (by omega), hL k hk 3 (by omega), q, pz_bnd2, e', pz_add, sa_sa]
    rfl
  · rw [f_X8_addList_L94, sa_ne _ (by omega), h9, show (4 : Int32) = nI 4 from rfl, pz_mul, if_pos (by rw [pz_le (by omega) (by omega)]; omega)]
end ADDL
