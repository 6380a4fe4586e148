/-! calls: certify, set -/
theorem i32_le0 {n : Nat} (h : n < 1000000) : (nI n ≤ 0) = (n = 0) := by
  rw [pz_0, pz_le h (by omega)]
  exact propext (by omega)
theorem s8_wth {m : Mem} {x l u : Int32} : f_X8_within x l u m = some (bI (wth x l u)) := s8_within
theorem s7_wth {m : Mem} {x l u : Int32} : f_X7_within x l u m = some (bI (wth x l u)) := s7_within
section OPS1
variable {m : Mem} {A : Ab} {x y z w : Int32}
theorem o_certify (hC : AC m A) (hM : AM m A) (ok : Ok A) : OPS (w_L_certify x y m) (f_X8_certify x y) := by
  have gd := ok.2.2.1
  have hn := gd.1.1.1
  have h10 := hn.1
  cases hp : isp A.r x
  · refine ops_throw hC hM ok (c := 1) (by decide) ?_ ?_
    · rw [w_L_certify, e_X7_certify, s6_has hC.1.1, pz_bnd, bI_ite, if_neg (by rw [hp]; simp), pz_bnd]
      rfl
    · rw [f_X8_certify, s8_isPerson hM.1 hn, pz_bnd, bI_ite, if_neg (by rw [hp]; simp), pz_bnd, pz_nm, si_at, if_neg (by decide)]
  obtain ⟨p, hpl, rfl⟩ := isp_of hn hp
  cases hv : wth y 0 7
  · refine ops_throw hC hM ok (c := 2) (by decide) ?_ ?_
    · rw [w_L_certify, e_X7_certify, s6_has hC.1.1, pz_bnd, bI_ite, if_pos hp, s7_wth, pz_bnd, bI_ite, if_neg (show ¬ wth y 0 7 = true by rw [hv]; simp), pz_bnd]
      rfl
    · rw [f_X8_certify, s8_isPerson hM.1 hn, pz_bnd, bI_ite, if_pos hp, s8_wth, pz_bnd, bI_ite, if_neg (show ¬ wth y 0 7 = true by rw [hv]; simp), pz_bnd, pz_nm, si_at, if_neg (by decide)]
  obtain ⟨v, -, v7, rfl⟩ := wth_of (a := 0) (b := 7) (by omega) (by omega) hv
  have l3 : loc 3 p = some (23 + p) := by
    have : p < 10 := by omega
    simp [loc, this]
  refine ops_mut hC hM ok (r' := upd A.r (23 + p) (nI v)) (GD_cert gd hpl (by omega)) (y := A.r (23 + p)) (fun m8 e8 a8 => ?_) (fun m1 am => ?_)
  · have c8 : CR 1 m8 A.r := a8.1
    refine ⟨si m8 (1 + 3) p (nI v), ?_, c8.put0 l3 (by omega) (by omega) _ (by omega), FrC.rf.put (by omega)⟩
    rw [w_L_certify, e_X7_certify, s6_has hC.1.1, pz_bnd, bI_ite, if_pos hp, s7_wth, pz_bnd, bI_ite, if_pos (show wth (nI v) 0 7 = true from hv), e8, pz_bnd, pz_in (by omega) (by omega), pz_cl (by omega), c8.1.may (by omega)]
    simp only [pz_nm]
    rw [pz_in (by omega) (by omega), pz_bnd]
  · rw [f_X8_certify, s8_isPerson am.1 hn, pz_bnd, bI_ite, if_pos hp, s8_wth, pz_bnd, bI_ite, if_pos (show wth (nI v) 0 7 = true from hv), pz_bnd, pz_nm, si_at, if_pos (by decide)]
    obtain ⟨m2, e2, a2, g2, k2⟩ := m_save (am.set5 (by decide) (by decide) 0) ok (si_at _ _ _ _) (r' := upd A.r (23 + p) (nI v)) (y := A.r (23 + p)) (K := fun m12 => gIn (23 + nI p) 373 <| nm (m12.1 163 (23 + nI p).toNatClampNeg) fun x14 => gIn (23 + nI p) 373 <| nm (si m12 163 (23 + nI p).toNatClampNeg (nI v)) fun m16 => some (x14, m16)) (fun m9 z9 _ _ => by
      rw [show (23 : Int32) = nI 23 from rfl, pz_add, pz_in (by omega) (by omega), pz_cl (by omega)]
      simp only [pz_nm]
      rw [pz_in (by omega) (by omega), z9]
      exact ⟨_, rfl, by rw [sa_si, sa_self, z9], fun a h1 h2 => si_ne h1, FrM.rf.put (by omega)⟩)
    exact ⟨m2, e2, a2, (FrM.rf.put (by omega)).tr g2, k2⟩
def sBd (i : Nat) : Nat := if i = 3 then 1000 else if i = 4 then 2000 else if i = 5 then 5000 else if i = 6 then 100 else 20
theorem sBd_fs : ∀ i, i < 7 → fs2 i = nI (sBd i) := by decide
theorem s8_isValue {i : Nat} (hi : i < 7) : f_X8_isValue (nI i) y m = some (bI (wth y 0 (nI (sBd i)))) := by
  have h3 : (nI i = 3) = (i = 3) := pz_eq (b := (3 : Nat)) (by omega) (by decide)
  have h4 : (nI i = 4) = (i = 4) := pz_eq (b := (4 : Nat)) (by omega) (by decide)
  have h5 : (nI i = 5) = (i = 5) := pz_eq (b := (5 : Nat)) (by omega) (by decide)
  have h6 : (nI i = 6) = (i = 6) := pz_eq (b := (6 : Nat)) (by omega) (by decide)
  unfold f_X8_isValue
  simp only [s8_wth, pz_bnd, pz_bo]
  unfold sBd
  by_cases e3 : i = 3
  · rw [if_pos (by rw [h3]; exact e3), if_pos e3]; rfl
  rw [if_neg (by rw [h3]; exact e3), if_neg e3]
  by_cases e4 : i = 4
  · rw [if_pos (by rw [h4]; exact e4), if_pos e4]; rfl
  rw [if_neg (by rw [h4]; exact e4), if_neg e4]
  by_cases e5 : i = 5
  · rw [if_pos (by rw [h5]; exact e5), if_pos e5]; rfl
  rw [if_neg (by rw [h5]; exact e5), if_neg e5]
  by_cases e6 : i = 6
  · rw [if_pos (by rw [h6]; exact e6), if_pos e6]; rfl
  rw [if_neg (by rw [h6]; exact e6), if_neg e6]; rfl
theorem s8_isSetting : f_X8_isSetting x m = some (bI (wth x 0 6)) := by
  unfold f_X8_isSetting
  rw [s8_wth, pz_bnd, pz_bo]
theorem s7_isSetting : f_X7_isSetting x m = some (bI (wth x 0 6)) := by
  have e : (7 ≤ x) = (6 < x) := by
    rw [Int32.lt_iff_toInt_lt, Int32.le_iff_toInt_le, show (7 : Int32).toInt = 7 by decide, show (6 : Int32).toInt = 6 by decide]
    exact propext (by omega)
  unfold f_X7_isSetting wth
  by_cases h1 : x < 0
  · simp [h1, bI]
  · by_cases h2 : 6 < x
    · have : 7 ≤ x := by rw [e]; exact h2
      simp [h1, h2, this, bI]
    · have : ¬ 7 ≤ x := by rw [e]; exact h2
      simp [h1, h2, this, bI]
theorem o_set (hC : AC m A) (hM : AM m A) (ok : Ok A) : OPS (w_L_set x y m) (f_X8_set x y) := by
  have gd := ok.2.2.1
  cases hp : wth x 0 6
  · refine ops_throw hC hM ok (c := 1) (by decide) ?_ ?_
    · rw [w_L_set, e_X7_set, s7_isSetting, pz_bnd, bI_ite, if_neg (by rw [hp]; simp), pz_bnd]
      rfl
    · rw [f_X8_set, s8_isSetting, pz_bnd, bI_ite, if_neg (by rw [hp]; simp), pz_bnd, pz_nm, si_at, if_neg (by decide)]
  obtain ⟨i, -, hi, rfl⟩ := wth_of (a := 0) (b := 6) (by omega) (by omega) hp
  have sb : sBd i ≤ 5000 := by
    unfold sBd
    by_cases e3 : i = 3
    · rw [if_pos e3]; omega
    rw [if_neg e3]
    by_cases e4 : i = 4
    · rw [if_pos e4]; omega
    rw [if_neg e4]
    by_cases e5 : i = 5
    · rw [if_pos e5]; omega
    rw [if_neg e5]
    by_cases e6 : i = 6
    · rw [if_pos e6]; omega
    rw [if_neg e6]; omega
  cases hv : wth y 0 (nI (sBd i))
  · refine ops_throw hC hM ok (c := 2) (by decide) ?_ ?_
    · rw [w_L_set, e_X7_set, s7_isSetting, pz_bnd, bI_ite, if_pos hp, pz_in (by omega) (by omega), pz_cl (by omega), sBd_fs i (by omega), s7_wth, pz_bnd, bI_ite, if_neg (show ¬ wth y 0 (nI (sBd i)) = true by rw [hv]; simp), pz_bnd]
      rfl
    · rw [f_X8_set, s8_isSetting, pz_bnd, bI_ite, if_pos hp, s8_isValue (by omega), pz_bnd, bI_ite, if_neg (by rw [hv]; simp), pz_bnd, pz_nm, si_at, if_neg (by decide)]
  obtain ⟨v, -, v7, rfl⟩ := wth_of (a := 0) (b := sBd i) (by omega) (by omega) hv
  have l18 : loc 18 i = some i := by
    have : i < 7 := by omega
    simp [loc, this]
  refine ops_mut hC hM ok (r' := upd A.r i (nI v)) (GD_set gd (by omega) (by omega)) (y := A.r i) (fun m8 e8 a8 => ?_) (fun m1 am => ?_)
  · have c8 : CR 1 m8 A.r := a8.1
    refine ⟨si m8 (1 + 18) i (nI v), ?_, c8.put0 l18 (by omega) (by omega) _ (by omega), FrC.rf.put (by omega)⟩
    rw [w_L_set, e_X7_set, s7_isSetting, pz_bnd, bI_ite, if_pos hp, pz_in (by omega) (by omega), pz_cl (by omega), sBd_fs i (by omega), s7_wth, pz_bnd, bI_ite, if_pos (show wth (nI v) 0 (nI (sBd i)) = true from hv), e8, pz_bnd, pz_in (by omega) (by omega), c8.1.setting (by omega)]
    simp only [pz_nm]
    rw [pz_in (by omega) (by omega), pz_bnd]
  · rw [f_X8_set, s8_isSetting, pz_bnd, bI_ite, if_pos hp, s8_isValue (by omega), pz_bnd, bI_ite, if_pos hv, pz_bnd, pz_nm, si_at, if_pos (by decide)]
    obtain ⟨m2, e2, a2, g2, k2⟩ := m_save (am.set5 (by decide) (by decide) 0) ok (si_at _ _ _ _) (r' := upd A.r i (nI v)) (y := A.r i) (K := fun m12 => gIn (0 + nI i) 373 <| nm (m12.1 163 (0 + nI i).toNatClampNeg) fun x14 => gIn (0 + nI i) 373 <| nm (si m12 163 (0 + nI i).toNatClampNeg (nI v)) fun m16 => some (x14, m16)) (fun m9 z9 _ _ => by
      rw [pz_0, pz_add, Nat.zero_add, pz_in (by omega) (by omega), pz_cl (by omega)]
      simp only [pz_nm]
      rw [pz_in (by omega) (by omega), z9]
      exact ⟨_, rfl, by rw [sa_si, sa_self, z9], fun a h1 h2 => si_ne h1, FrM.rf.put (by omega)⟩)
    exact ⟨m2, e2, a2, (FrM.rf.put (by omega)).tr g2, k2⟩
end OPS1
