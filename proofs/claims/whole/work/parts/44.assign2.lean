/-! calls: assign, whyNot on both sides -/
theorem rsn_bu {r : Row} {h n : Nat} {t : Nat → Nat} (e : rsnR r h n t = 0) : buN r h t n = false := by
  unfold rsnR at e
  cases q : buN r h t n
  · rfl
  · rw [q] at e
    revert e
    cases lst r h <;> cases std r h <;> cases chOK r (lngR r h) n t <;> cases ceN r (kndR r h) t n <;> decide
section ASG2
variable {m : Mem} {A : Ab} {x y z w : Int32}
/-- a call that throws, the model having laid something -/
theorem ops_throw2 {ww : Option (Int32 × Mem)} {f : Mem → Option (Int32 × Mem)} {m m1 : Mem} {A : Ab} (hC : AC m A) (hM : AM m1 A) (ok : Ok A) (g : FrM m m1) {c v : Int32} (c0 : c ≠ 0) (hw : ww = some (c, m)) (hf : f m = some (v, m1)) (h5 : m1.1 162 5 = c) : OPS ww f :=
  ops_of hw hf h5 (fun q => absurd q c0) hC hM g ok
theorem o_assign (hC : AC m A) (hM : AM m A) (ok : Ok A) : OPS (w_L_assign w x y z m) (f_X8_assign w x y z) := by
  have gd := ok.2.2.1
  have hn := gd.1.1.1
  have h30 := hn.2.2.1
  have h10 := hn.1
  by_cases q : (ish A.r w && prs A.r x y z) = true
  case neg =>
    obtain ⟨m', e, ly, -⟩ := s8_refused (w := w) (x := x) (y := y) (z := z) hM.1 hn
    rw [if_neg q] at e
    refine ops_throw2 hC ((ly.am hM).set5 (j := 5) (by decide) (by decide) 1) ok (ly.fr.put (by omega)) (c := 1) (v := 0) (by decide) ?_ ?_ (si_at _ _ _ _)
    · rw [w_L_assign, e_X7_assign, s3_has hC.1.1, pz_bnd, bI_ite, s7_names hC.1.1, pz_bnd, bI_ite]
      cases h1 : ish A.r w
      · rw [if_neg (by simp), pz_jl, pz_bnd]; rfl
      · rw [if_pos rfl, if_neg (by rw [h1, Bool.true_and] at q; exact q), pz_jl, pz_bnd]; rfl
    · rw [f_X8_assign, e, pz_bnd2]
      simp only [pz_nm]
      rw [si_at, if_neg (by decide), pz_bnd, si_at, if_neg (by decide)]
  have q' := q
  rw [Bool.and_eq_true] at q'
  obtain ⟨h1, h2⟩ := q'
  have xne : x ≠ -1 := by
    unfold prs at h2
    rw [Bool.and_eq_true] at h2
    exact isp_ne hn h2.1
  obtain ⟨h, hh, rfl⟩ := ish_of hn h1
  by_cases rw0 : rwo x y z = true
  case neg =>
    obtain ⟨m', e, ly, -⟩ := s8_refused (w := nI h) (x := x) (y := y) (z := z) hM.1 hn
    rw [if_pos q, if_neg rw0] at e
    refine ops_throw2 hC ((ly.am hM).set5 (j := 5) (by decide) (by decide) 2) ok (ly.fr.put (by omega)) (c := 2) (v := 0) (by decide) ?_ ?_ (si_at _ _ _ _)
    · rw [w_L_assign, e_X7_assign, s3_has hC.1.1, pz_bnd, bI_ite, if_pos h1, s7_names hC.1.1, pz_bnd, bI_ite, if_pos h2, s7_row xne, pz_bnd, bI_ite, if_neg rw0, pz_jr, pz_bnd]
      rfl
    · rw [f_X8_assign, e, pz_bnd2]
      simp only [pz_nm]
      rw [si_at, if_neg (by decide), pz_bnd, si_at, if_neg (by decide)]
  obtain ⟨n, t, ht, ex, ey, ez⟩ := row_tri hn h2 rw0
  have hw := gd.1.2.1
  have cws := gd.1.1.2.1
  have rsC : f_X2_reasonAgainst 1 (nI h) x y z m = some (rsnR A.r h n t) := by
    rw [ex, ey, ez]
    exact s2_reason hC.1 hn cws (hw h hh) hh ht
  -- the model up to the reason
  have mod : ∀ m1, AM m1 A → ∃ m4, bnd2 (f_X8_refusedChain (nI h) x y z m1) (fun x2 m3 => nm (si m3 162 5 x2) fun m4 => bnd ((if (m4.1 162 5) = 0 then bnd (f_X8_reason (nI h) m4) fun x8 => (if x8 = 0 then nm (si m4 162 5 0) fun m11 => some m11 else nm (si m4 162 5 3) fun m10 => some m10) else some m4)) (fun (m12 : Mem) => (if (m12.1 162 5) ≤ 0 then bnd (f_X8_save m12) fun m15 => bnd (f_X8_assignTried (nI h) m15) fun m17 => bnd (f_X8_payFor (nI h) 2 m17) fun x19 => some (x19, m17) else some (0, m12)))) = (if ((si m4 162 5 (if rsnR A.r h n t = 0 then 0 else 3)).1 162 5) ≤ 0 then bnd (f_X8_save (si m4 162 5 (if rsnR A.r h n t = 0 then 0 else 3))) fun m15 => bnd (f_X8_assignTried (nI h) m15) fun m17 => bnd (f_X8_payFor (nI h) 2 m17) fun x19 => some (x19, m17) else some (0, si m4 162 5 (if rsnR A.r h n t = 0 then 0 else 3))) ∧ AM m4 A ∧ FrM m1 m4 ∧ TR m4 n t := by
    intro m1 am
    obtain ⟨m', e, ly, tr⟩ := s8_refused (w := nI h) (x := x) (y := y) (z := z) am.1 hn
    rw [if_pos q, if_pos rw0] at e
    obtain ⟨a0, a1, a2, a7⟩ := tr q
    rw [ex] at a0
    rw [ey] at a1
    rw [ez] at a2
    rw [ey, ez] at a7
    have tr := lay_TR ht h10 a0 a1 a2 a7
    have am' := (ly.am am).set5 (j := 5) (by decide) (by decide) 0
    have tr4 : TR (si m' 162 5 0) n t := ⟨by rw [si_off (by omega)]; exact tr.1, fun k hk => by rw [si_ne (by omega)]; exact tr.2 k hk⟩
    refine ⟨si m' 162 5 0, ?_, am', ly.fr.put (by omega), tr4⟩
    rw [e, pz_bnd2]
    simp only [pz_nm]
    rw [si_at, if_pos rfl, s8_reason am'.1 hn cws (hw h hh) hh ht tr4, pz_bnd]
    by_cases z0 : rsnR A.r h n t = 0
    · rw [if_pos z0, if_pos z0, pz_bnd]
    · rw [if_neg z0, if_neg z0, pz_bnd]
  by_cases z0 : rsnR A.r h n t = 0
  case neg =>
    obtain ⟨m4, e4, a4, g4, t4⟩ := mod m hM
    rw [if_neg z0] at e4
    refine ops_throw2 hC (a4.set5 (j := 5) (by decide) (by decide) 3) ok (g4.put (by omega)) (c := 3) (v := 0) (by decide) ?_ ?_ (si_at _ _ _ _)
    · rw [w_L_assign, e_X7_assign, s3_has hC.1.1, pz_bnd, bI_ite, if_pos h1, s7_names hC.1.1, pz_bnd, bI_ite, if_pos h2, s7_row xne, pz_bnd, bI_ite, if_pos rw0, rsC, pz_bnd, if_neg z0, pz_jr, pz_bnd]
      rfl
    · rw [f_X8_assign, e4, si_at, if_neg (by decide)]
  have gd' : GD (giveR A.r h n t) := GD_give gd hh (Or.inr ⟨ht, rsn_bu z0⟩)
  have hg8 : hrs (giveR A.r h n t) = hrs A.r := by unfold hrs; rw [giveR_ne (by omega)]
  refine ops_mut hC hM ok (r' := giveR A.r h n t) gd' (y := payR (giveR A.r h n t) h 2) (fun m8 e8 a8 => ?_) (fun m1 am => ?_)
  · have c8 : CR 1 m8 A.r := a8.1
    obtain ⟨m12, e12, c12, f12⟩ := s3_giveChain (h := h) (n := n) (t := t) c8 hn hh (Or.inr ht)
    have t0 : tri n t 0 = x := by unfold tri; rw [if_pos (by have := ht.1; omega), ex]
    rw [t0, ← ey, ← ez] at e12
    refine ⟨m12, ?_, c12, f12⟩
    rw [w_L_assign, e_X7_assign, s3_has hC.1.1, pz_bnd, bI_ite, if_pos h1, s7_names hC.1.1, pz_bnd, bI_ite, if_pos h2, s7_row xne, pz_bnd, bI_ite, if_pos rw0, rsC, pz_bnd, if_pos z0, e8, pz_bnd, e12, pz_bnd, s2_chainPay c12.1 gd'.1.1.1 (gd'.1.1.2.1 h (by omega)) (by omega), pz_bnd, pz_jr, pz_bnd]
  · obtain ⟨m4, e4, a4, g4, t4⟩ := mod m1 am
    rw [if_pos z0, si_at, if_pos (by decide)] at e4
    obtain ⟨m2, e2, a2, g2, k2⟩ := m_save2 (a4.set5 (j := 5) (by decide) (by decide) 0) ok (si_at _ _ _ _) (r' := giveR A.r h n t) (y := payR (giveR A.r h n t) h 2) (K := fun m15 => bnd (f_X8_assignTried (nI h) m15) fun m17 => bnd (f_X8_payFor (nI h) 2 m17) fun x19 => some (x19, m17)) (fun m9 z9 o1 o2 => by
      have tr9 : TR m9 n t := ⟨by rw [o2 7 (by omega), si_off (by omega)]; exact t4.1, fun k hk => by rw [o1 166 (by omega) (by omega), si_ne (by omega)]; exact t4.2 k hk⟩
      rw [s8_assignTried z9 (by omega) ht.2.1 tr9, pz_bnd, s8_payFor (sa_self _ _ _) gd'.1.1.1 (by omega) (gd'.1.1.2.1 h (by omega)), pz_bnd]
      refine ⟨_, rfl, sa_self _ _ _, fun a ha => sa_ne _ (by omega), fun j hj => ?_, FrM.rf.arr (by omega)⟩
      rw [sa_ne _ (by omega)])
    exact ⟨m2, by rw [f_X8_assign, e4]; exact e2, a2, (g4.put (by omega)).tr g2, k2⟩
theorem o_whyNot (hC : AC m A) (hM : AM m A) (ok : Ok A) : OPS (w_L_whyNot w x y z m) (f_X8_whyNot w x y z) := by
  have gd := ok.2.2.1
  have hn := gd.1.1.1
  have h30 := hn.2.2.1
  have h10 := hn.1
  by_cases q : (ish A.r w && prs A.r x y z) = true
  case neg =>
    obtain ⟨m', e, ly, -⟩ := s8_refused (w := w) (x := x) (y := y) (z := z) hM.1 hn
    rw [if_neg q] at e
    refine ops_throw2 hC ((ly.am hM).set5 (j := 5) (by decide) (by decide) 1) ok (ly.fr.put (by omega)) (c := 1) (v := 0) (by decide) ?_ ?_ (si_at _ _ _ _)
    · rw [w_L_whyNot, e_X7_whyNot, s3_has hC.1.1, pz_bnd, bI_ite, s7_names hC.1.1, pz_bnd, bI_ite]
      cases h1 : ish A.r w
      · rw [if_neg (by simp), pz_jl, pz_bnd]; rfl
      · rw [if_pos rfl, if_neg (by rw [h1, Bool.true_and] at q; exact q), pz_jl, pz_bnd]; rfl
    · rw [f_X8_whyNot, e, pz_bnd2]
      simp only [pz_nm]
      rw [si_at, if_neg (by decide)]
  have q' := q
  rw [Bool.and_eq_true] at q'
  obtain ⟨h1, h2⟩ := q'
  have xne : x ≠ -1 := by
    unfold prs at h2
    rw [Bool.and_eq_true] at h2
    exact isp_ne hn h2.1
  obtain ⟨h, hh, rfl⟩ := ish_of hn h1
  by_cases rw0 : rwo x y z = true
  case neg =>
    obtain ⟨m', e, ly, -⟩ := s8_refused (w := nI h) (x := x) (y := y) (z := z) hM.1 hn
    rw [if_pos q, if_neg rw0] at e
    refine ops_throw2 hC ((ly.am hM).set5 (j := 5) (by decide) (by decide) 2) ok (ly.fr.put (by omega)) (c := 2) (v := 0) (by decide) ?_ ?_ (si_at _ _ _ _)
    · rw [w_L_whyNot, e_X7_whyNot, s3_has hC.1.1, pz_bnd, bI_ite, if_pos h1, s7_names hC.1.1, pz_bnd, bI_ite, if_pos h2, s7_row xne, pz_bnd, bI_ite, if_neg rw0, pz_jr, pz_bnd]
      rfl
    · rw [f_X8_whyNot, e, pz_bnd2]
      simp only [pz_nm]
      rw [si_at, if_neg (by decide)]
  obtain ⟨n, t, ht, ex, ey, ez⟩ := row_tri hn h2 rw0
  have hw := gd.1.2.1
  have cws := gd.1.1.2.1
  have rsC : f_X2_reasonAgainst 1 (nI h) x y z m = some (rsnR A.r h n t) := by
    rw [ex, ey, ez]
    exact s2_reason hC.1 hn cws (hw h hh) hh ht
  refine ops_read hC hM ok (y := rsnR A.r h n t) ⟨m, ?_, hC, FrX.rf⟩ (fun m1 am => ?_)
  · rw [w_L_whyNot, e_X7_whyNot, s3_has hC.1.1, pz_bnd, bI_ite, if_pos h1, s7_names hC.1.1, pz_bnd, bI_ite, if_pos h2, s7_row xne, pz_bnd, bI_ite, if_pos rw0, rsC, pz_bnd, pz_jr, pz_bnd]
  · obtain ⟨m', e, ly, tr⟩ := s8_refused (w := nI h) (x := x) (y := y) (z := z) am.1 hn
    rw [if_pos q, if_pos rw0] at e
    obtain ⟨a0, a1, a2, a7⟩ := tr q
    rw [ex] at a0
    rw [ey] at a1
    rw [ez] at a2
    rw [ey, ez] at a7
    have tr := lay_TR ht h10 a0 a1 a2 a7
    have am' := (ly.am am).set5 (j := 5) (by decide) (by decide) 0
    have tr4 : TR (si m' 162 5 0) n t := ⟨by rw [si_off (by omega)]; exact tr.1, fun k hk => by rw [si_ne (by omega)]; exact tr.2 k hk⟩
    refine ⟨si m' 162 5 0, ?_, am', ly.fr.put (by omega), si_at _ _ _ _⟩
    rw [f_X8_whyNot, e, pz_bnd2]
    simp only [pz_nm]
    rw [si_at, if_pos (by decide), s8_reason am'.1 hn cws (hw h hh) hh ht tr4, pz_bnd]
end ASG2
