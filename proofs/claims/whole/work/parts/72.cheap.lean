/-! calls: cheapest -/
section CHEAP
variable {m : Mem} {A : Ab} {x y : Int32}
theorem FrL.fr {m m' : Mem} (h : FrL m m') : FrM m m' := ⟨fun a ha => h.1 a (by omega) (by omega) (by omega), h.2.2⟩
theorem FrL.am {m m' : Mem} (h : FrL m m') (hM : AM m A) : AM m' A := by
  obtain ⟨h1, h2, h3, h4, h5⟩ := hM
  refine ⟨?_, ?_, fun k hk i hi => ?_, ?_, fun i hi => ?_⟩
  · rw [h.1 163 (by omega) (by omega) (by omega)]; exact h1
  · rw [h.2.1 1 (by omega) (by omega) (by omega)]; exact h2
  · rw [h.1 164 (by omega) (by omega) (by omega)]; exact h3 k hk i hi
  · rw [h.2.1 3 (by omega) (by omega) (by omega)]; exact h4
  · rw [h.1 165 (by omega) (by omega) (by omega)]; exact h5 i hi
theorem FrP.ac {m m' : Mem} (h : FrP m m') (hC : AC m A) : AC m' A := hC.scr fun a ha => h.1 a (by omega)
theorem FrP.xx {m m' : Mem} (h : FrP m m') : FrX m m' := fun a ha => h.1 a (by omega)
theorem o_cheapest (hC : AC m A) (hM : AM m A) (ok : Ok A) : OPS (w_L_cheapest x y m) (f_X8_cheapest x y) := by
  have gd := ok.2.2.1
  have hn := gd.1.1.1
  have h30 := hn.2.2.1
  cases hp : ish A.r x
  · refine ops_throw hC hM ok (c := 1) (by decide) ?_ ?_
    · rw [w_L_cheapest, e_X7_cheapest, s3_has hC.1.1, pz_bnd, bI_ite, if_neg (by rw [hp]; simp), pz_bnd]
      rfl
    · rw [f_X8_cheapest, s8_isHearing hM.1 hn, pz_bnd, bI_ite, if_neg (by rw [hp]; simp), pz_bnd, pz_nm, si_at, if_neg (by decide)]
  obtain ⟨h, hh, rfl⟩ := ish_of hn hp
  cases hv : wth y 0 4
  · refine ops_throw hC hM ok (c := 2) (by decide) ?_ ?_
    · rw [w_L_cheapest, e_X7_cheapest, s3_has hC.1.1, pz_bnd, bI_ite, if_pos hp, s7_wth, pz_bnd, bI_ite, if_neg (by rw [hv]; simp), pz_bnd]
      rfl
    · rw [f_X8_cheapest, s8_isHearing hM.1 hn, pz_bnd, bI_ite, if_pos hp, s8_wth, pz_bnd, bI_ite, if_neg (by rw [hv]; simp), pz_bnd, pz_nm, si_at, if_neg (by decide)]
  obtain ⟨k, -, k4, rfl⟩ := wth_of (a := 0) (b := 4) (by omega) (by omega) hv
  obtain ⟨m1, e1, f1, b1⟩ := s1_seek hC.1 (by omega) gd.1 hh
  refine ops_read hC hM ok (y := fvR (srch A.r h) k) ⟨m1, ?_, f1.ac hC, f1.xx⟩ (fun m2 am => ?_)
  · rw [w_L_cheapest, e_X7_cheapest, s3_has hC.1.1, pz_bnd, bI_ite, if_pos hp, s7_wth, pz_bnd, bI_ite, if_pos hv, e1, pz_bnd, s1_found b1 (by omega), pz_bnd, pz_bnd]
  · obtain ⟨m3, e3, f3⟩ := s8_cheapNow (m := si m2 162 5 0) (k := k) gd.1 hh (am.set5 (j := 5) (by decide) (by decide) 0).1 (by omega)
    refine ⟨m3, ?_, f3.am (am.set5 (by decide) (by decide) 0), (FrM.rf.put (by omega)).tr f3.fr, ?_⟩
    · rw [f_X8_cheapest, s8_isHearing am.1 hn, pz_bnd, bI_ite, if_pos hp, s8_wth, pz_bnd, bI_ite, if_pos hv, pz_bnd, pz_nm, si_at, if_pos (by decide), e3, pz_bnd2]
    · rw [f3.2.1 5 (by omega) (by omega) (by omega), si_at]
end CHEAP
