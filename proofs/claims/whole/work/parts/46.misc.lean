/-! calls: undo, setting, append, clearBuffer, ifVacated -/
theorem RW_cong {r r' : Row} (R : RW r) (g : ∀ i, i < 373 → r' i = r i) : RW r' := by
  obtain ⟨⟨hn, cw, ti, nc, lt⟩, hw, pe, tm, mo⟩ := R
  have h30 := hn.2.2.1
  have h10 := hn.1
  have eH : hrs r' = hrs r := by unfold hrs; rw [g 8 (by omega)]
  have eP : ppl r' = ppl r := by unfold ppl; rw [g 7 (by omega)]
  have sh : ∀ o, o < hrs r → SHr r r' o := fun o ho k hk => g _ (by omega)
  refine ⟨⟨?_, fun o ho => ?_, ⟨fun p hp => ?_, fun i hi => ?_⟩, ?_, ?_⟩, fun o ho => ?_, fun p hp => ?_, fun o ho => ?_, ?_⟩
  · obtain ⟨a, b, d, f⟩ := hn
    exact ⟨by omega, by rw [eP, g 7 (by omega)]; exact b, by omega, by rw [eH, g 8 (by omega)]; exact f⟩
  · rw [eH] at ho
    exact (sh o ho).chw (by omega) (cw o ho)
  · rw [eP] at hp
    rw [g _ (by omega)]
    exact ti.1 p hp
  · rw [g _ (by omega)]
    exact ti.2 i hi
  · intro p a b p10 ab ha hb la lb hc ia ib
    rw [eH] at ha hb
    rw [(sh a ha).eLst] at la
    rw [(sh b hb).eLst] at lb
    rw [(sh a ha).eCl (sh b hb)] at hc
    rw [(sh a ha).eIn (cw a ha).1] at ia
    rw [(sh b hb).eIn (cw b hb).1] at ib
    exact nc p a b p10 ab ha hb la lb hc ia ib
  · intro o ho lo
    rw [eH] at ho
    rw [(sh o ho).eLst] at lo
    rw [(sh o ho).eEnd, g 9 (by omega)]
    exact lt o ho lo
  · rw [eH] at ho
    exact (sh o ho).hw (by omega) (hw o ho)
  · rw [eP] at hp
    rw [g (13 + p) (by omega), g (23 + p) (by omega), g (33 + p) (by omega)]
    exact pe p hp
  · rw [eH] at ho
    rw [sh o ho 2 (by omega), sh o ho 3 (by omega)]
    exact tm o ho
  · obtain ⟨P, V, Q, a, b, d, f, q⟩ := mo
    refine ⟨P, V, Q, by rw [g 10 (by omega)]; exact a, by rw [g 11 (by omega)]; exact b, by rw [g 12 (by omega)]; exact d, f, ?_⟩
    rw [eH, clo_cong (fun o ho => (sh o ho).eLst)]
    exact q
/-- a call that doesn't throw: its answer is compared as it is -/
def OPV (w : Option (Int32 × Mem)) (f : Mem → Option (Int32 × Mem)) : Prop := ∃ y m1 m2 A', w = some (y, m1) ∧ f m1 = some (y, m2) ∧ AC m2 A' ∧ AM m2 A' ∧ Ok A'
section MISC
variable {m : Mem} {A : Ab} {r : Row} {x y z w : Int32}
theorem o_undo (hC : AC m A) (hM : AM m A) (ok : Ok A) : OPS (w_L_undo m) f_X8_undo := by
  have n6 := ok.1
  have k0 : m.1 39 0 = nI A.n := by
    obtain ⟨-, ⟨f, -, -, q, -⟩, -⟩ := hC
    exact q
  have k1 := hM.2.1
  have e0 : (nI A.n = 0) = (A.n = 0) := pz_eq (b := (0 : Nat)) (by omega) (by decide)
  have e1 : (nI A.n ≤ 0) = (A.n = 0) := i32_le0 (by omega)
  by_cases h : A.n = 0
  · refine ops_throw hC hM ok (c := 1) (by decide) ?_ ?_
    · rw [w_L_undo, e_X7_undo, k0, if_pos (by rw [e0]; exact h), pz_bnd]
      rfl
    · rw [f_X8_undo, k1, if_pos (by rw [e1]; exact h), pz_bnd, pz_nm, si_at, if_neg (by decide)]
  have gh := ok.2.2.2.1 (A.n - 1) (by omega)
  obtain ⟨m1, q1, a1, x1⟩ := s4_restore hC n6 h gh.1.1.1.2.2.1
  have am : AM (slm m1 170 0 (nI (A.n - 1)).toInt64) A := hM.frX x1
  generalize hm1 : slm m1 170 0 (nI (A.n - 1)).toInt64 = mm at am
  have j1 : m1.1 39 0 = nI (A.n - 1) := by
    obtain ⟨-, ⟨f, -, -, q, -⟩, -⟩ := a1
    exact q
  have am5 := am.set5 (j := 5) (by decide) (by decide) 0
  have d1 : nI A.n - 1 = nI (A.n - 1) := by rw [show (1 : Int32) = nI 1 from rfl, pk_sub (by omega)]
  have z3 : (si (si mm 162 5 0) 162 1 (nI (A.n - 1))).1 163 = A.r := by rw [si_ne (by omega)]; exact am5.1
  have lp' : lp f_X8_undo_L37 1000000 (0, si (si mm 162 5 0) 162 1 (nI (A.n - 1))) = some (sa (si (si mm 162 5 0) 162 1 (nI (A.n - 1))) 163 (mrg (A.hs (A.n - 1)) A.r)) := by
    have q := s8_undo_L0 (m := si (si mm 162 5 0) 162 1 (nI (A.n - 1))) (n := A.n - 1) (by omega) (si_at _ _ _ _)
    rw [q, z3]
    refine congrArg (fun f => some (sa (si (si mm 162 5 0) 162 1 (nI (A.n - 1))) 163 f)) ?_
    funext i
    unfold mrg
    by_cases u : i < 373
    · rw [if_pos u, if_pos u, si_ne (by omega), si_ne (by omega)]
      exact am.2.2.1 (A.n - 1) (by omega) i u
    · rw [if_neg u, if_neg u]
  refine ops_of (code := 0) (m1 := mm) (y := nI (A.n - 1)) (m2 := sa (si (si mm 162 5 0) 162 1 (nI (A.n - 1))) 163 (mrg (A.hs (A.n - 1)) A.r)) (A' := A.pop) ?_ ?_ ?_ (fun _ => ?_) ?_ ?_ (((FrM.rf.put (by omega)).put (by omega)).arr (by omega)) ?_
  · rw [w_L_undo, e_X7_undo, k0, if_neg (by rw [e0]; exact h), q1, pz_bnd, pz_bnd, j1, ← hm1]
  · rw [f_X8_undo, am.2.1, if_neg (by rw [e1]; exact h), pz_bnd, pz_nm, si_at, if_pos (by decide), si_off (by omega), am.2.1, d1, pz_nm, lp', pz_bnd, sa_ne _ (by omega), si_at]
  · rw [sa_ne _ (by omega), si_off (by omega), si_at]
  · rw [← hm1]
    simp [slm]
  · rw [← hm1]
    exact a1
  · obtain ⟨h1, h2, h3, h4, h5⟩ := am
    refine ⟨sa_self _ _ _, ?_, fun k hk i hi => ?_, ?_, fun i hi => ?_⟩
    · rw [sa_ne _ (by omega), si_at]; rfl
    · have hk : k < A.n - 1 := hk
      rw [sa_ne _ (by omega), si_ne (by omega), si_ne (by omega)]
      exact h3 k (by omega) i hi
    · rw [sa_ne _ (by omega), si_off (by omega), si_off (by omega)]; exact h4
    · rw [sa_ne _ (by omega), si_ne (by omega), si_ne (by omega)]; exact h5 i hi
  · obtain ⟨o1, o2, o3, o4, o5⟩ := ok
    refine ⟨show A.n - 1 ≤ 6 by omega, o2, ?_, fun k hk => o4 k (by have hk : k < A.n - 1 := hk; omega), o5⟩
    obtain ⟨R, t, t1, t2⟩ := gh
    exact ⟨RW_cong R (fun i hi => mrg_in hi), t, t1, (show mrg (A.hs (A.n - 1)) A.r 9 = _ from (mrg_in (by omega)).trans t2)⟩
theorem o_setting (hC : AC m A) (hM : AM m A) (ok : Ok A) : OPS (w_L_setting x m) (f_X8_setting x) := by
  cases hp : wth x 0 6
  · refine ops_throw hC hM ok (c := 1) (by decide) ?_ ?_
    · rw [w_L_setting, e_X7_setting, s7_isSetting, pz_bnd, bI_ite, if_neg (by rw [hp]; simp), pz_bnd]
      rfl
    · rw [f_X8_setting, s8_isSetting, pz_bnd, bI_ite, if_neg (by rw [hp]; simp), pz_bnd, pz_nm, si_at, if_neg (by decide)]
  obtain ⟨i, -, hi, rfl⟩ := wth_of (a := 0) (b := 6) (by omega) (by omega) hp
  refine ops_read hC hM ok (y := A.r i) ⟨m, ?_, hC, FrX.rf⟩ (fun m1 am => ⟨si m1 162 5 0, ?_, am.set5 (by decide) (by decide) 0, FrM.rf.put (by omega), si_at _ _ _ _⟩)
  · rw [w_L_setting, e_X7_setting, s7_isSetting, pz_bnd, bI_ite, if_pos hp, pz_in (by omega) (by omega), pz_cl (by omega), hC.1.1.setting (by omega), pz_nm, pz_bnd]
  · rw [f_X8_setting, s8_isSetting, pz_bnd, bI_ite, if_pos hp, pz_bnd, pz_nm, si_at, if_pos (by decide), pz_0, pz_add, Nat.zero_add, pz_in (by omega) (by omega), pz_cl (by omega), si_ne (by omega), am.1, pz_nm]
theorem o_append (hC : AC m A) (hM : AM m A) (ok : Ok A) : OPS (w_L_append x m) (f_X8_append x) := by
  have b60 := ok.2.1
  have k0 : m.1 155 0 = nI A.bl := hC.2.2.1
  have k1 := hM.2.2.2.1
  cases hp : wth x 33 126
  · refine ops_throw hC hM ok (c := 1) (by decide) ?_ ?_
    · rw [w_L_append, e_X7_append, s7_wth, pz_bnd, bI_ite, if_neg (by rw [hp]; simp), pz_bnd]
      rfl
    · rw [f_X8_append, s8_wth, pz_bnd, bI_ite, if_neg (by rw [hp]; simp), pz_bnd, pz_nm, si_at, if_neg (by decide)]
  obtain ⟨v, v1, v2, rfl⟩ := wth_of (a := 33) (b := 126) (by omega) (by omega) hp
  have e1 : (nI A.bl < 60) = (A.bl < 60) := pz_lt (b := (60 : Nat)) (by omega) (by decide)
  have e2 : (nI A.bl = 60) = (A.bl = 60) := pz_eq (b := (60 : Nat)) (by omega) (by decide)
  have e3 : (60 ≤ nI A.bl) = (60 ≤ A.bl) := pz_le (a := (60 : Nat)) (by decide) (by omega)
  by_cases hb : A.bl = 60
  · refine ops_throw hC hM ok (c := 2) (by decide) ?_ ?_
    · rw [w_L_append, e_X7_append, s7_wth, pz_bnd, bI_ite, if_pos hp, k0, if_neg (by rw [e1]; omega), pz_bnd]
      rfl
    · rw [f_X8_append, s8_wth, pz_bnd, bI_ite, if_pos hp, k1, if_pos (by rw [e2]; exact hb), pz_bnd, pz_nm, si_at, if_neg (by decide)]
  have am0 : AM (slm (si (si m 156 A.bl (nI v)) 155 0 (nI (A.bl + 1))) 170 0 (nI (A.bl + 1)).toInt64) A := hM.frX (fun a ha => by
    show (si (si m 156 A.bl (nI v)) 155 0 (nI (A.bl + 1))).1 a = m.1 a
    rw [si_ne (by omega), si_ne (by omega)])
  generalize hm1 : slm (si (si m 156 A.bl (nI v)) 155 0 (nI (A.bl + 1))) 170 0 (nI (A.bl + 1)).toInt64 = mm at am0
  refine ops_of (code := 0) (m1 := mm) (y := nI (A.bl + 1)) (m2 := si (si (si mm 162 5 0) 165 A.bl (nI v)) 162 3 (nI (A.bl + 1))) (A' := Ab.mk A.r A.n A.hs (A.bl + 1) (upd A.bc A.bl (nI v))) ?_ ?_ ?_ (fun _ => ?_) ?_ ?_ (((FrM.rf.put (by omega)).put (by omega)).put (by omega)) ?_
  · rw [w_L_append, e_X7_append, s7_wth, pz_bnd, bI_ite, if_pos hp, k0, if_pos (by rw [e1]; omega), f_X0_put, k0, if_neg (by rw [e3]; omega), pz_in (by omega) (by omega), pz_cl (by omega)]
    simp only [pz_nm, pz_bnd]
    rw [si_at, si_ne (by omega), k0, pz_s, hm1]
  · rw [f_X8_append, s8_wth, pz_bnd, bI_ite, if_pos hp, am0.2.2.2.1, if_neg (by rw [e2]; exact hb), pz_bnd, pz_nm, si_at, if_pos (by decide), si_off (by omega), am0.2.2.2.1, pz_in (by omega) (by omega), pz_cl (by omega)]
    simp only [pz_nm]
    rw [si_at, si_ne (by omega), si_off (by omega), am0.2.2.2.1, pz_s]
  · rw [si_off (by omega), si_ne (by omega), si_at]
  · rw [← hm1]; simp [slm]
  · rw [← hm1]
    obtain ⟨h1, ⟨f, hf, h2, h3, h4⟩, h5, h6⟩ := hC
    have fr : ∀ a, a ≠ 155 → a ≠ 156 → (slm (si (si m 156 A.bl (nI v)) 155 0 (nI (A.bl + 1))) 170 0 (nI (A.bl + 1)).toInt64).1 a = m.1 a := fun a u1 u2 => by
      show (si (si m 156 A.bl (nI v)) 155 0 (nI (A.bl + 1))).1 a = m.1 a
      rw [si_ne u1, si_ne u2]
    refine ⟨h1.fr fun a _ _ => fr a (by omega) (by omega), ⟨f, hf, ?_, ?_, fun k hk => (h4 k hk).fr fun a _ _ => fr a (by omega) (by omega)⟩, ?_, fun i hi => ?_⟩
    · rw [fr 39 (by omega) (by omega)]; exact h2
    · rw [fr 39 (by omega) (by omega)]; exact h3
    · show (si (si m 156 A.bl (nI v)) 155 0 (nI (A.bl + 1))).1 155 0 = nI (A.bl + 1)
      rw [si_at]
    · have hi : i < A.bl + 1 := hi
      show (si (si m 156 A.bl (nI v)) 155 0 (nI (A.bl + 1))).1 156 i = upd A.bc A.bl (nI v) i
      rw [si_ne (by omega)]
      by_cases u : i = A.bl
      · rw [u, si_at, upd_self]
      · rw [si_off (Or.inr u), upd_ne u]
        exact h6 i (by omega)
  · obtain ⟨h1, h2, h3, h4, h5⟩ := am0
    refine ⟨?_, ?_, fun k hk i hi => ?_, ?_, fun i hi => ?_⟩
    · rw [si_ne (by omega), si_ne (by omega), si_ne (by omega)]; exact h1
    · rw [si_off (by omega), si_ne (by omega), si_off (by omega)]; exact h2
    · rw [si_ne (by omega), si_ne (by omega), si_ne (by omega)]; exact h3 k hk i hi
    · rw [si_at]; rfl
    · have hi : i < A.bl + 1 := hi
      rw [si_ne (by omega)]
      show _ = upd A.bc A.bl (nI v) i
      by_cases u : i = A.bl
      · rw [u, si_at, upd_self]
      · rw [si_off (Or.inr u), upd_ne u, si_ne (by omega)]
        exact h5 i (by omega)
  · obtain ⟨o1, o2, o3, o4, o5⟩ := ok
    refine ⟨o1, show A.bl + 1 ≤ 60 by omega, o3, o4, fun i hi => ?_⟩
    have hi : i < A.bl + 1 := hi
    show ∃ q, 33 ≤ q ∧ q ≤ 126 ∧ upd A.bc A.bl (nI v) i = nI q
    by_cases u : i = A.bl
    · rw [u, upd_self]
      exact ⟨v, v1, v2, rfl⟩
    · rw [upd_ne u]
      exact o5 i (by omega)
theorem o_clearBuffer (hC : AC m A) (hM : AM m A) (ok : Ok A) : OPV (f_X7_clearBuffer m) f_X8_clearBuffer := by
  have am0 : AM (si m 155 0 0) A := hM.scr (by omega) 0
  refine ⟨nI A.bl, si m 155 0 0, si (si (si m 155 0 0) 162 5 0) 162 3 0, Ab.mk A.r A.n A.hs 0 A.bc, ?_, ?_, ?_, ?_, ?_⟩
  · rw [f_X7_clearBuffer, pz_nm, hC.2.2.1]
  · rw [f_X8_clearBuffer, pz_nm, pz_nm, si_off (by omega), am0.2.2.2.1]
  · obtain ⟨h1, ⟨f, hf, h2, h3, h4⟩, h5, h6⟩ := hC
    have fr : ∀ a, a ≠ 155 → a ≠ 162 → (si (si (si m 155 0 0) 162 5 0) 162 3 0).1 a = m.1 a := fun a u1 u2 => by rw [si_ne u2, si_ne u2, si_ne u1]
    refine ⟨h1.fr fun a _ _ => fr a (by omega) (by omega), ⟨f, hf, ?_, ?_, fun k hk => (h4 k hk).fr fun a _ _ => fr a (by omega) (by omega)⟩, ?_, fun i hi => ?_⟩
    · rw [fr 39 (by omega) (by omega)]; exact h2
    · rw [fr 39 (by omega) (by omega)]; exact h3
    · rw [si_ne (by omega), si_ne (by omega), si_at]; rfl
    · exact absurd hi (Nat.not_lt_zero _)
  · obtain ⟨h1, h2, h3, h4, h5⟩ := am0
    refine ⟨?_, ?_, fun k hk i hi => ?_, ?_, fun i hi => ?_⟩
    · rw [si_ne (by omega), si_ne (by omega)]; exact h1
    · rw [si_off (by omega), si_off (by omega)]; exact h2
    · rw [si_ne (by omega), si_ne (by omega)]; exact h3 k hk i hi
    · rw [si_at]; rfl
    · exact absurd hi (Nat.not_lt_zero _)
  · obtain ⟨o1, o2, o3, o4, o5⟩ := ok
    exact ⟨o1, Nat.zero_le _, o3, o4, fun i hi => absurd hi (Nat.not_lt_zero _)⟩
end MISC
