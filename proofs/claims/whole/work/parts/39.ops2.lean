/-! calls: addInterpreter -/
section OPS2
variable {m : Mem} {A : Ab} {x y z w : Int32}
theorem bt_nI {n : Nat} (hn : n < 1024) {p : Nat} : bt (nI n) p = n.testBit p := by
  show (BitVec.ofNat 32 n).getLsbD p = n.testBit p
  rw [BitVec.getLsbD_ofNat]
  by_cases h : p < 32
  · simp [h]
  · rw [Nat.testBit_lt_two_pow (x := n) (i := p) (Nat.lt_of_lt_of_le hn (Nat.pow_le_pow_right (n := 2) (by omega) (by omega : 10 ≤ p)))]
    simp
theorem s8_ones {n : Nat} (hn : n < 1024) : f_X8_ones (nI n) m = some (nI (ct (fun p => n.testBit p) 10)) := by
  unfold f_X8_ones
  have e : lp (f_X8_ones_L4 (nI n)) 1000000 (0, 0) = some (nI (ct (fun p => n.testBit p) 10)) := by
    refine lp_cnt (fun k => (nI (ct (fun p => n.testBit p) k), nI k)) (N := 10) (fun k hk => ?_) ?_ (by omega)
    · rw [f_X8_ones_L4, show (10 : Int32) = nI 10 from rfl, if_neg (by rw [pz_le (by omega) (by omega)]; omega), shr1 _ hk, bt_nI hn]
      simp only [pz_nm, pz_s, ct]
      by_cases q : n.testBit k = true
      · rw [if_pos q, q, show bI true = nI 1 from rfl, pz_add]
      · have q' : n.testBit k = false := by simpa using q
        rw [if_neg q, q', show bI false = nI 0 from rfl, pz_add]
    · rw [f_X8_ones_L4, show (10 : Int32) = nI 10 from rfl, if_pos (by rw [pz_le (by omega) (by omega)]; omega)]
  rw [e, pz_bnd]
theorem ct_le (S : Nat → Bool) : ∀ n, ct S n ≤ n
  | 0 => Nat.le_refl _
  | n + 1 => by
    have := ct_le S n
    rw [ct]
    split <;> omega
theorem s6_hire {c : Nat} {r : Row} (hC : CR c m r) (hn : NumW r) (h10 : ppl r < 10) : ∃ m', f_X6_hire c x y z m = some (nI (ppl r), m') ∧ CR c m' (hireR r x y z) ∧ FrC c m m' := by
  have hp : m.1 (c + 1) 0 = nI (ppl r) := by rw [hC.1.people]; exact hn.2.1
  unfold f_X6_hire
  rw [hp, if_pos (by rw [show (10 : Int32) = nI 10 from rfl, pz_lt (by omega) (by omega)]; exact h10)]
  simp (disch := omega) only [pz_nm, pz_in, pz_cl, si_ne, hp]
  have e : ∀ (m13 : Mem) (v : Int32), (si m13 (c + 1) 0 v).1 (c + 1) 0 - 1 = v - 1 := fun m13 v => by rw [si_at]
  rw [e, show nI (ppl r) + 1 - 1 = nI (ppl r) from Int32.add_sub_cancel _ _]
  have l2 : loc 2 (ppl r) = some (13 + ppl r) := by simp [loc, h10]
  have l3 : loc 3 (ppl r) = some (23 + ppl r) := by simp [loc, h10]
  have l4 : loc 4 (ppl r) = some (33 + ppl r) := by simp [loc, h10]
  have l5 : loc 5 (ppl r) = some (43 + ppl r) := by simp [loc, h10]
  have l6 : loc 6 (ppl r) = some (53 + ppl r) := by simp [loc, h10]
  have l7 : loc 7 (ppl r) = some (63 + ppl r) := by simp [loc, h10]
  have h := ((((((hC.put0 l2 (by omega) (by omega) x (by omega)).put0 l3 (by omega) (by omega) y (by omega)).put0 l4 (by omega) (by omega) z (by omega)).put0 l5 (by omega) (by omega) 0 (by omega)).put0 l6 (by omega) (by omega) 0 (by omega)).put0 l7 (by omega) (by omega) 0 (by omega)).put0 (k := 1) (j := 0) (i := 7) rfl (by omega) (by omega) (nI (ppl r) + 1) (by omega)
  refine ⟨_, rfl, ?_, ((((((FrC.rf.put (by omega)).put (by omega)).put (by omega)).put (by omega)).put (by omega)).put (by omega)).put (by omega)⟩
  unfold hireR
  rw [hn.2.1, upd_swap _ (i := 7) (j := 13 + ppl r) (by omega), upd_swap _ (i := 7) (j := 23 + ppl r) (by omega), upd_swap _ (i := 7) (j := 33 + ppl r) (by omega), upd_swap _ (i := 7) (j := 43 + ppl r) (by omega), upd_swap _ (i := 7) (j := 53 + ppl r) (by omega), upd_swap _ (i := 7) (j := 63 + ppl r) (by omega)]
  exact h
theorem o_addInterpreter (hC : AC m A) (hM : AM m A) (ok : Ok A) : OPS (w_L_addInterpreter x y z m) (f_X8_addInterpreter x y z) := by
  have gd := ok.2.2.1
  have hn := gd.1.1.1
  have h10 := hn.1
  cases h1 : wth x 1 1023
  · refine ops_throw hC hM ok (c := 1) (by decide) ?_ ?_
    · rw [w_L_addInterpreter, e_X7_addInterpreter, s7_wth, pz_bnd, bI_ite, if_neg (by rw [h1]; simp), pz_jl, pz_bnd]
      rfl
    · rw [f_X8_addInterpreter, s8_wth, pz_bnd, bI_ite, if_neg (by rw [h1]; simp), pz_bnd, if_pos rfl, pz_bnd, pz_nm, si_at, if_neg (by decide)]
  obtain ⟨L, L1, L2, rfl⟩ := wth_of (a := 1) (b := 1023) (by omega) (by omega) h1
  have cl := ct_le (fun p => L.testBit p) 10
  have hpc := popc_dec L (by omega)
  have q1 : ∀ k, k ≤ 10 → (nI k < 2) = (k < 2) := fun k hk => pz_lt (b := (2 : Nat)) (by omega) (by decide)
  have q2 : ∀ k, k ≤ 10 → (nI k ≤ 1) = (k ≤ 1) := fun k hk => pz_le (b := (1 : Nat)) (by omega) (by decide)
  by_cases h2 : ct (fun p => L.testBit p) 10 < 2
  · refine ops_throw hC hM ok (c := 1) (by decide) ?_ ?_
    · rw [w_L_addInterpreter, e_X7_addInterpreter, s7_wth, pz_bnd, bI_ite, if_pos h1, s6_bitCount, pz_bnd, hpc, if_pos (by rw [q1 _ cl]; exact h2), pz_jl, pz_bnd]
      rfl
    · rw [f_X8_addInterpreter, s8_wth, pz_bnd, bI_ite, if_pos h1, s8_ones (by omega), pz_bnd, if_pos (by rw [q2 _ cl]; omega), pz_bnd, if_pos rfl, pz_bnd, pz_nm, si_at, if_neg (by decide)]
  cases h3 : wth y 0 7
  · refine ops_throw hC hM ok (c := 1) (by decide) ?_ ?_
    · rw [w_L_addInterpreter, e_X7_addInterpreter, s7_wth, pz_bnd, bI_ite, if_pos h1, s6_bitCount, pz_bnd, hpc, if_neg (by rw [q1 _ cl]; exact h2), s7_wth, pz_bnd, bI_ite, if_neg (by rw [h3]; simp), pz_jl, pz_bnd]
      rfl
    · rw [f_X8_addInterpreter, s8_wth, pz_bnd, bI_ite, if_pos h1, s8_ones (by omega), pz_bnd, if_neg (by rw [q2 _ cl]; omega), s8_wth, pz_bnd, bI_ite, if_neg (by rw [h3]; simp), pz_bnd, if_pos rfl, pz_bnd, pz_nm, si_at, if_neg (by decide)]
  cases h4 : wth z 1 100
  · refine ops_throw hC hM ok (c := 1) (by decide) ?_ ?_
    · rw [w_L_addInterpreter, e_X7_addInterpreter, s7_wth, pz_bnd, bI_ite, if_pos h1, s6_bitCount, pz_bnd, hpc, if_neg (by rw [q1 _ cl]; exact h2), s7_wth, pz_bnd, bI_ite, if_pos h3, s7_wth, pz_bnd, bI_ite, if_neg (by rw [h4]; simp), pz_jl, pz_bnd]
      rfl
    · rw [f_X8_addInterpreter, s8_wth, pz_bnd, bI_ite, if_pos h1, s8_ones (by omega), pz_bnd, if_neg (by rw [q2 _ cl]; omega), s8_wth, pz_bnd, bI_ite, if_pos h3, s8_wth, pz_bnd, bI_ite, if_neg (by rw [h4]; simp), pz_bnd, if_pos rfl, pz_bnd, pz_nm, si_at, if_neg (by decide)]
  obtain ⟨c, -, c7, rfl⟩ := wth_of (a := 0) (b := 7) (by omega) (by omega) h3
  obtain ⟨q, -, q7, rfl⟩ := wth_of (a := 1) (b := 100) (by omega) (by omega) h4
  have hp : m.1 (1 + 1) 0 = nI (ppl A.r) := by rw [hC.1.1.people]; exact hn.2.1
  have q3 : (nI (ppl A.r) < 10) = (ppl A.r < 10) := pz_lt (b := (10 : Nat)) (by omega) (by decide)
  have q4 : (nI (ppl A.r) = 10) = (ppl A.r = 10) := pz_eq (b := (10 : Nat)) (by omega) (by decide)
  by_cases h5 : ppl A.r = 10
  · refine ops_throw hC hM ok (c := 2) (by decide) ?_ ?_
    · rw [w_L_addInterpreter, e_X7_addInterpreter, s7_wth, pz_bnd, bI_ite, if_pos h1, s6_bitCount, pz_bnd, hpc, if_neg (by rw [q1 _ cl]; exact h2), s7_wth, pz_bnd, bI_ite, if_pos h3, s7_wth, pz_bnd, bI_ite, if_pos h4, hp, if_neg (by rw [q3]; omega), pz_jr, pz_bnd]
      rfl
    · rw [f_X8_addInterpreter, s8_wth, pz_bnd, bI_ite, if_pos h1, s8_ones (by omega), pz_bnd, if_neg (by rw [q2 _ cl]; omega), s8_wth, pz_bnd, bI_ite, if_pos h3, s8_wth, pz_bnd, bI_ite, if_pos h4, pz_bnd, if_neg (by decide), hM.1, hn.2.1, if_pos (by rw [q4]; exact h5), pz_bnd, pz_nm, si_at, if_neg (by decide)]
  refine ops_mut hC hM ok (r' := hireR A.r (nI L) (nI c) (nI q)) (GD_hire gd (by omega) (by omega) (by omega) (by omega)) (y := nI (ppl A.r)) (fun m8 e8 a8 => ?_) (fun m1 am => ?_)
  · have c8 : CR 1 m8 A.r := a8.1
    obtain ⟨m12, e12, c12, f12⟩ := s6_hire (x := nI L) (y := nI c) (z := nI q) c8 hn (by omega)
    refine ⟨m12, ?_, c12, f12⟩
    rw [w_L_addInterpreter, e_X7_addInterpreter, s7_wth, pz_bnd, bI_ite, if_pos h1, s6_bitCount, pz_bnd, hpc, if_neg (by rw [q1 _ cl]; exact h2), s7_wth, pz_bnd, bI_ite, if_pos h3, s7_wth, pz_bnd, bI_ite, if_pos h4, hp, if_pos (by rw [q3]; omega), e8, pz_bnd, e12, pz_bnd2, pz_jr, pz_bnd]
  · rw [f_X8_addInterpreter, s8_wth, pz_bnd, bI_ite, if_pos h1, s8_ones (by omega), pz_bnd, if_neg (by rw [q2 _ cl]; omega), s8_wth, pz_bnd, bI_ite, if_pos h3, s8_wth, pz_bnd, bI_ite, if_pos h4, pz_bnd, if_neg (by decide), am.1, hn.2.1, if_neg (by rw [q4]; exact h5), pz_bnd, pz_nm, si_at, if_pos (by decide)]
    have := m_save (am.set5 (j := 5) (by decide) (by decide) 0) ok (si_at _ _ _ _) (r' := hireR A.r (nI L) (nI c) (nI q)) (y := nI (ppl A.r)) (K := fun m22 => nm (si m22 163 7 ((m22.1 163 7) + 1)) fun m23 => gIn (13 + (m22.1 163 7)) 373 <| nm (si m23 163 (13 + (m22.1 163 7)).toNatClampNeg (nI L)) fun m25 => gIn (23 + (m22.1 163 7)) 373 <| nm (si m25 163 (23 + (m22.1 163 7)).toNatClampNeg (nI c)) fun m27 => gIn (33 + (m22.1 163 7)) 373 <| nm (si m27 163 (33 + (m22.1 163 7)).toNatClampNeg (nI q)) fun m29 => gIn (43 + (m22.1 163 7)) 373 <| nm (si m29 163 (43 + (m22.1 163 7)).toNatClampNeg 0) fun m31 => gIn (53 + (m22.1 163 7)) 373 <| nm (si m31 163 (53 + (m22.1 163 7)).toNatClampNeg 0) fun m33 => gIn (63 + (m22.1 163 7)) 373 <| nm (si m33 163 (63 + (m22.1 163 7)).toNatClampNeg 0) fun m35 => some (m22.1 163 7, m35)) (fun m9 z9 _ _ => by
      have z7 : m9.1 163 7 = nI (ppl A.r) := by rw [z9]; exact hn.2.1
      have pl : ppl A.r ≤ 9 := by omega
      simp only [z7, show (13 : Int32) = nI 13 from rfl, show (23 : Int32) = nI 23 from rfl, show (33 : Int32) = nI 33 from rfl, show (43 : Int32) = nI 43 from rfl, show (53 : Int32) = nI 53 from rfl, show (63 : Int32) = nI 63 from rfl, pz_add]
      simp (disch := omega) only [pz_nm, pz_in, pz_cl]
      refine ⟨_, rfl, ?_, fun a h1 h2 => ?_, ((((((FrM.rf.put (by omega)).put (by omega)).put (by omega)).put (by omega)).put (by omega)).put (by omega)).put (by omega)⟩
      · rw [sa_si, sa_self, sa_si, sa_self, sa_si, sa_self, sa_si, sa_self, sa_si, sa_self, sa_si, sa_self, sa_si, sa_self, z9]
        unfold hireR
        rw [hn.2.1]
      · rw [si_ne h1, si_ne h1, si_ne h1, si_ne h1, si_ne h1, si_ne h1, si_ne h1])
    obtain ⟨m2, e2, a2, g2, k2⟩ := this
    exact ⟨m2, e2, a2, (FrM.rf.put (by omega)).tr g2, k2⟩
end OPS2
