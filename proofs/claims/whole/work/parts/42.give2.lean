/-! calls: release, vacate -/
theorem clsh_sym (r : Row) (a b : Nat) : clsh r a b = clsh r b a := by unfold clsh; rw [Bool.and_comm]
theorem busy_iff {r : Row} {x : Int32} {h : Nat} : ∀ {n : Nat}, busyN r x h n = true ↔ ∃ o, o < n ∧ o ≠ h ∧ lst r o = true ∧ inCh r x o = true ∧ clsh r o h = true
  | 0 => by simp [busyN]
  | n + 1 => by
    rw [busyN, Bool.or_eq_true, busy_iff, Bool.and_eq_true, decide_eq_true_eq, Bool.and_eq_true, Bool.and_eq_true]
    constructor
    · rintro (⟨o, h1, h2⟩ | h)
      · exact ⟨o, by omega, h2⟩
      · exact ⟨n, by omega, h⟩
    · rintro ⟨o, h1, h2⟩
      by_cases e : o = n
      · subst e; exact Or.inr h2
      · exact Or.inl ⟨o, by omega, h2⟩
section GIVE2
variable {r : Row} {h n : Nat} {t : Nat → Nat}
theorem giveR_SH {o : Nat} (ho : o ≠ h) : SHr r (giveR r h n t) o := fun k hk => giveR_ne (by omega)
theorem giveR_sz (hn : n ≤ 3) : szN (giveR r h n t) h = n := by unfold szN; rw [giveR_0, pz_cl (by omega)]
theorem giveR_mb {k : Nat} (hk : k < n) (hn : n ≤ 3) (ht : t k < 1000000) : mbN (giveR r h n t) h k = t k := by
  unfold mbN
  rw [giveR_k k (by omega)]
  unfold tri
  rw [if_pos hk, pz_cl ht]
theorem giveR_chw (h10 : ppl r ≤ 10) (ht : n = 0 ∨ Tri r n t) : ChW (giveR r h n t) h := by
  have n3 : n ≤ 3 := by
    rcases ht with rfl | ht
    · omega
    · exact ht.2.1
  have tl : ∀ k, k < n → t k < ppl r := fun k hk => by
    rcases ht with rfl | ht
    · omega
    · exact ht.2.2.1 k hk
  have e7 : ppl (giveR r h n t) = ppl r := by unfold ppl; rw [giveR_ne (by omega)]
  refine ⟨by rw [giveR_sz n3]; exact n3, by rw [giveR_sz n3]; exact giveR_0, fun k hk => ?_, fun k h1 h2 => ?_, fun i j hi hj e => ?_⟩
  · rw [giveR_sz n3] at hk
    have := tl k hk
    rw [giveR_mb hk n3 (by omega), e7, giveR_k k (by omega)]
    exact ⟨this, by unfold tri; rw [if_pos hk]⟩
  · rw [giveR_sz n3] at h1
    rw [giveR_k k h2]
    unfold tri
    rw [if_neg (by omega)]
  · rw [giveR_sz n3] at hi hj
    have a := tl i hi
    have b := tl j hj
    rw [giveR_mb hi n3 (by omega), giveR_mb hj n3 (by omega)] at e
    rcases ht with rfl | ht
    · omega
    · exact ht.2.2.2 i j hi hj e
theorem giveR_in (h10 : ppl r ≤ 10) (ht : n = 0 ∨ Tri r n t) {p : Nat} (hp : p < 10) : inCh (giveR r h n t) (nI p) h = true → ∃ k, k < n ∧ t k = p := by
  intro q
  have n3 : n ≤ 3 := by
    rcases ht with rfl | ht
    · omega
    · exact ht.2.1
  obtain ⟨j, j1, j2⟩ := (inCh_iff (giveR_chw h10 ht) (by omega)).mp q
  rw [giveR_sz n3] at j1
  have : t j < ppl r := by
    rcases ht with rfl | ht
    · omega
    · exact ht.2.2.1 j j1
  rw [giveR_mb j1 n3 (by omega)] at j2
  exact ⟨j, j1, j2⟩
theorem giveR_eLst {o : Nat} : lst (giveR r h n t) o = lst r o := by unfold lst; rw [giveR_ne (by omega)]
theorem giveR_eEnd {o : Nat} : endR (giveR r h n t) o = endR r o := by unfold endR; rw [giveR_ne (i := 73 + 10 * o + 2) (by omega), giveR_ne (i := 73 + 10 * o + 3) (by omega)]
theorem giveR_eCl {a b : Nat} : clsh (giveR r h n t) a b = clsh r a b := by
  unfold clsh
  rw [giveR_eEnd, giveR_eEnd, giveR_ne (i := 73 + 10 * a + 2) (by omega), giveR_ne (i := 73 + 10 * b + 2) (by omega)]
theorem RW_give (R : RW r) (hh : h < hrs r) (ht : n = 0 ∨ (Tri r n t ∧ buN r h t n = false)) : RW (giveR r h n t) := by
  obtain ⟨⟨hn, cw, ti, nc, lt⟩, hw, pe, tm, mo⟩ := R
  have h10 := hn.1
  have ht' : n = 0 ∨ Tri r n t := ht.imp id (fun q => q.1)
  have e7 : ppl (giveR r h n t) = ppl r := by unfold ppl; rw [giveR_ne (by omega)]
  have e8 : hrs (giveR r h n t) = hrs r := by unfold hrs; rw [giveR_ne (by omega)]
  have nb : ∀ k, k < n → ∀ o, o < hrs r → o ≠ h → lst r o = true → inCh r (nI (t k)) o = true → clsh r o h = true → False := by
    intro k hk o ho ne lo io co
    rcases ht with rfl | ⟨-, ht⟩
    · omega
    have : buN r h t n = true := by
      rw [buN_iff n]
      exact ⟨k, hk, busy_iff.mpr ⟨o, ho, ne, lo, io, co⟩⟩
    rw [this] at ht
    cases ht
  refine ⟨⟨?_, fun o ho => ?_, ⟨fun p hp => ?_, fun i hi => ?_⟩, ?_, ?_⟩, fun o ho => ?_, fun p hp => ?_, fun o ho => ?_, ?_⟩
  · obtain ⟨a, b, d, f⟩ := hn
    exact ⟨by omega, by rw [e7, giveR_ne (by omega)]; exact b, by omega, by rw [e8, giveR_ne (by omega)]; exact f⟩
  · rw [e8] at ho
    by_cases q : o = h
    · subst q; exact giveR_chw h10 ht'
    · exact (giveR_SH q).chw (by omega) (cw o ho)
  · rw [e7] at hp
    rw [giveR_ne (by omega)]
    exact ti.1 p hp
  · rw [giveR_ne (by omega)]
    exact ti.2 i hi
  · intro p a b p10 ab ha hb la lb hc ia ib
    rw [e8] at ha hb
    rw [giveR_eLst] at la lb
    rw [giveR_eCl] at hc
    by_cases qa : a = h
    · subst qa
      have qb : b ≠ a := fun e => ab e.symm
      obtain ⟨k, k1, k2⟩ := giveR_in h10 ht' p10 ia
      rw [(giveR_SH qb).eIn (cw b hb).1, ← k2] at ib
      rw [clsh_sym] at hc
      exact nb k k1 b hb qb lb ib hc
    · rw [(giveR_SH qa).eIn (cw a ha).1] at ia
      by_cases qb : b = h
      · subst qb
        obtain ⟨k, k1, k2⟩ := giveR_in h10 ht' p10 ib
        rw [← k2] at ia
        exact nb k k1 a ha qa la ia hc
      · rw [(giveR_SH qb).eIn (cw b hb).1] at ib
        exact nc p a b p10 ab ha hb la lb hc ia ib
  · intro o ho lo
    rw [e8] at ho
    rw [giveR_eLst] at lo
    rw [giveR_eEnd, giveR_ne (by omega)]
    exact lt o ho lo
  · rw [e8] at ho
    by_cases q : o = h
    · subst q
      obtain ⟨a1, a2, a3, a4, a5⟩ := hw o ho
      have l : lngR (giveR r o n t) o = lngR r o := by unfold lngR; rw [giveR_ne (by omega)]
      have k : kndR (giveR r o n t) o = kndR r o := by unfold kndR; rw [giveR_ne (by omega)]
      exact ⟨giveR_chw h10 ht', by rw [l]; exact a2, by rw [l, giveR_ne (by omega)]; exact a3, by rw [k]; exact a4, by rw [k, giveR_ne (by omega)]; exact a5⟩
    · exact (giveR_SH q).hw (by omega) (hw o ho)
  · rw [e7] at hp
    rw [giveR_ne (i := 13 + p) (by omega), giveR_ne (i := 23 + p) (by omega), giveR_ne (i := 33 + p) (by omega)]
    exact pe p hp
  · rw [e8] at ho
    rw [giveR_ne (i := 73 + 10 * o + 2) (by omega), giveR_ne (i := 73 + 10 * o + 3) (by omega)]
    exact tm o ho
  · obtain ⟨P, V, Q, a, b, d, f, q⟩ := mo
    refine ⟨P, V, Q, by rw [giveR_ne (by omega)]; exact a, by rw [giveR_ne (by omega)]; exact b, by rw [giveR_ne (by omega)]; exact d, f, ?_⟩
    rw [e8, clo_cong (fun o _ => giveR_eLst)]
    exact q
theorem GD_give (g : GD r) (hh : h < hrs r) (ht : n = 0 ∨ (Tri r n t ∧ buN r h t n = false)) : GD (giveR r h n t) := by
  obtain ⟨R, u, u1, u2⟩ := g
  exact ⟨RW_give R hh ht, u, u1, by rw [giveR_ne (by omega)]; exact u2⟩
end GIVE2
section OPS3
variable {m : Mem} {A : Ab} {x y z w : Int32}
theorem m_save2 {m : Mem} {A : Ab} (hM : AM m A) (ok : Ok A) (h5 : m.1 162 5 = 0) {r' : Row} {y : Int32} {K : Mem → Option (Int32 × Mem)} (hK : ∀ m9, m9.1 163 = A.r → (∀ a, a ≠ 162 → a ≠ 164 → m9.1 a = m.1 a) → (∀ j, j ≠ 1 → m9.1 162 j = m.1 162 j) → ∃ m2, K m9 = some (y, m2) ∧ m2.1 163 = r' ∧ (∀ a, a = 164 ∨ a = 165 → m2.1 a = m9.1 a) ∧ (∀ j, j = 1 ∨ j = 3 ∨ j = 5 → m2.1 162 j = m9.1 162 j) ∧ FrM m9 m2) : ∃ m2, bnd (f_X8_save m) K = some (y, m2) ∧ AM m2 (A.push.now r') ∧ FrM m m2 ∧ m2.1 162 5 = 0 := by
  obtain ⟨m9, e, am, g, o1, o2⟩ := s8_save hM ok.1
  obtain ⟨m2, e2, r2, o3, o4, g2⟩ := hK m9 am.1 o1 o2
  refine ⟨m2, by rw [e, pz_bnd]; exact e2, am.now r2 o3 (o4 1 (by omega)) (o4 3 (by omega)), g.tr g2, ?_⟩
  rw [o4 5 (by omega), o2 5 (by omega)]
  exact h5
theorem tri_0 (k : Nat) : tri 0 (fun _ => 0) k = -1 := by unfold tri; rw [if_neg (by omega)]
theorem o_release (hC : AC m A) (hM : AM m A) (ok : Ok A) : OPS (w_L_release x m) (f_X8_release x) := by
  have gd := ok.2.2.1
  have hn := gd.1.1.1
  have h30 := hn.2.2.1
  cases h1 : ish A.r x
  · refine ops_throw hC hM ok (c := 1) (by decide) ?_ ?_
    · rw [w_L_release, e_X7_release, s3_has hC.1.1, pz_bnd, bI_ite, if_neg (by rw [h1]; simp), pz_bnd]
      rfl
    · rw [f_X8_release, s8_isHearing hM.1 hn, pz_bnd, bI_ite, if_neg (by rw [h1]; simp), pz_bnd, pz_nm, si_at, if_neg (by decide)]
  obtain ⟨h, hh, rfl⟩ := ish_of hn h1
  cases h2 : (lst A.r h && !std A.r h)
  · refine ops_throw hC hM ok (c := 2) (by decide) ?_ ?_
    · rw [w_L_release, e_X7_release, s3_has hC.1.1, pz_bnd, bI_ite, if_pos h1, s2_isAhead hC.1.1 (by omega), pz_bnd, bI_ite, if_neg (by rw [h2]; simp), pz_bnd]
      rfl
    · rw [f_X8_release, s8_isHearing hM.1 hn, pz_bnd, bI_ite, if_pos h1, s8_isOpen hM.1 (by omega), pz_bnd, bI_ite, if_neg (by rw [h2]; simp), pz_bnd, pz_nm, si_at, if_neg (by decide)]
  have hc := gd.1.1.2.1 h hh
  refine ops_mut hC hM ok (r' := giveR A.r h 0 (fun _ => 0)) (GD_give gd hh (Or.inl rfl)) (y := nI (szN A.r h)) (fun m8 e8 a8 => ?_) (fun m1 am => ?_)
  · have c8 : CR 1 m8 A.r := a8.1
    obtain ⟨m12, e12, c12, f12⟩ := s3_giveChain (h := h) (n := 0) (t := fun _ => 0) c8 hn hh (Or.inl rfl)
    rw [tri_0, tri_0, tri_0] at e12
    refine ⟨m12, ?_, c12, f12⟩
    rw [w_L_release, e_X7_release, s3_has hC.1.1, pz_bnd, bI_ite, if_pos h1, s2_isAhead hC.1.1 (by omega), pz_bnd, bI_ite, if_pos h2, e8, pz_bnd, pz_in (by omega) (by omega), pz_cl (by omega), c8.1.size (by omega), hc.2.1, pz_nm, e12, pz_bnd, pz_bnd]
  · rw [f_X8_release, s8_isHearing am.1 hn, pz_bnd, bI_ite, if_pos h1, s8_isOpen am.1 (by omega), pz_bnd, bI_ite, if_pos h2, pz_bnd, pz_nm, si_at, if_pos (by decide)]
    obtain ⟨m2, e2, a2, g2, k2⟩ := m_save2 (am.set5 (j := 5) (by decide) (by decide) 0) ok (si_at _ _ _ _) (r' := giveR A.r h 0 (fun _ => 0)) (y := nI (szN A.r h)) (K := fun m12 => bnd (f_X8_of (nI h) 5 m12) fun x14 => nm (si m12 162 7 0) fun m15 => bnd (f_X8_assignTried (nI h) m15) fun m17 => some (x14, m17)) (fun m9 z9 _ _ => by
      rw [show (5 : Int32) = nI 5 from rfl, s8_of z9 (by omega) (by omega), pz_bnd, hc.2.1, pz_nm, s8_assignTried (r := A.r) (h := h) (n := 0) (t := fun _ => 0) (by rw [si_ne (by omega)]; exact z9) (by omega) (by omega) ⟨by rw [si_at]; rfl, fun k hk => by omega⟩, pz_bnd]
      refine ⟨_, rfl, sa_self _ _ _, fun a ha => ?_, fun j hj => ?_, (FrM.rf.put (by omega)).arr (by omega)⟩
      · rw [sa_ne _ (by omega), si_ne (by omega)]
      · rw [sa_ne _ (by omega), si_off (by omega)])
    exact ⟨m2, e2, a2, (FrM.rf.put (by omega)).tr g2, k2⟩
theorem halv_n (r : Row) (x : Int32) : ∃ v, v ≤ 2 ∧ halv r x = nI v := by
  unfold halv
  by_cases h1 : r 4 ≤ x
  · rw [if_pos h1]
    by_cases h2 : r 5 ≤ x
    · rw [if_pos h2]; exact ⟨0, by omega, rfl⟩
    · rw [if_neg h2]; exact ⟨1, by omega, rfl⟩
  · rw [if_neg h1]; exact ⟨2, by omega, rfl⟩
theorem o_vacate (hC : AC m A) (hM : AM m A) (ok : Ok A) : OPS (w_L_vacate x m) (f_X8_vacate x) := by
  have gd := ok.2.2.1
  have hn := gd.1.1.1
  have h30 := hn.2.2.1
  cases h1 : ish A.r x
  · refine ops_throw hC hM ok (c := 1) (by decide) ?_ ?_
    · rw [w_L_vacate, e_X7_vacate, s3_has hC.1.1, pz_bnd, bI_ite, if_neg (by rw [h1]; simp), pz_bnd]
      rfl
    · rw [f_X8_vacate, s8_isHearing hM.1 hn, pz_bnd, bI_ite, if_neg (by rw [h1]; simp), pz_bnd, pz_nm, si_at, if_neg (by decide)]
  obtain ⟨h, hh, rfl⟩ := ish_of hn h1
  cases h2 : (lst A.r h && !std A.r h)
  · refine ops_throw hC hM ok (c := 2) (by decide) ?_ ?_
    · rw [w_L_vacate, e_X7_vacate, s3_has hC.1.1, pz_bnd, bI_ite, if_pos h1, s2_isAhead hC.1.1 (by omega), pz_bnd, bI_ite, if_neg (by rw [h2]; simp), pz_bnd]
      rfl
    · rw [f_X8_vacate, s8_isHearing hM.1 hn, pz_bnd, bI_ite, if_pos h1, s8_isOpen hM.1 (by omega), pz_bnd, bI_ite, if_neg (by rw [h2]; simp), pz_bnd, pz_nm, si_at, if_neg (by decide)]
  have hc := gd.1.1.2.1 h hh
  have hl : lst A.r h = true := by rw [Bool.and_eq_true] at h2; exact h2.1
  obtain ⟨v, v2, ev⟩ := halv_n A.r (A.r (73 + 10 * h + 2) - A.r 9)
  have gd' : GD (closeR A.r h 3 (nI v)) := by
    obtain ⟨u, u1, u2⟩ := gd.2
    exact ⟨close_RW gd.1 hh hl v2 (by omega) (by omega), u, u1, by rw [closeR_CE hc hn.1 9 (by omega)]; exact u2⟩
  refine ops_mut hC hM ok (r' := closeR A.r h 3 (nI v)) gd' (y := payR A.r h (nI v)) (fun m8 e8 a8 => ?_) (fun m1 am => ?_)
  · have c8 : CR 1 m8 A.r := a8.1
    obtain ⟨m12, e12, c12, f12⟩ := s2_close (st := 3) (hv := nI v) c8 hn hc hh (by omega)
    refine ⟨m12, ?_, c12, f12⟩
    rw [w_L_vacate, e_X7_vacate, s3_has hC.1.1, pz_bnd, bI_ite, if_pos h1, s2_isAhead hC.1.1 (by omega), pz_bnd, bI_ite, if_pos h2, e8, pz_bnd, pz_in (by omega) (by omega), pz_cl (by omega), c8.1.start (by omega), c8.1.minute, pz_nm, s2_payByNotice c8.1, pz_bnd, ev, show (3 : Int32) = nI 3 from rfl, e12, pz_bnd2, pz_bnd]
  · rw [f_X8_vacate, s8_isHearing am.1 hn, pz_bnd, bI_ite, if_pos h1, s8_isOpen am.1 (by omega), pz_bnd, bI_ite, if_pos h2, pz_bnd, pz_nm, si_at, if_pos (by decide)]
    obtain ⟨m2, e2, a2, g2, k2⟩ := m_save (am.set5 (j := 5) (by decide) (by decide) 0) ok (si_at _ _ _ _) (r' := closeR A.r h 3 (nI v)) (y := payR A.r h (nI v)) (K := fun m12 => bnd (f_X8_of (nI h) 2 m12) fun x14 => bnd (f_X8_halvesBy (x14 - (m12.1 163 9)) m12) fun x16 => bnd2 (f_X8_pay (nI h) x16 m12) fun x18 m19 => nm (si m19 163 11 ((m19.1 163 11) + x18)) fun m20 => bnd (f_X8_put (nI h) 4 3 m20) fun m22 => some (x18, m22)) (fun m9 z9 _ _ => by
      rw [show (2 : Int32) = nI 2 from rfl, s8_of z9 (by omega) (by omega), pz_bnd, z9, s8_halvesBy z9, pz_bnd, ev, s8_pay z9 hn (by omega) hc, pz_bnd2, sa_self, sa_put, pz_nm, show (4 : Int32) = nI 4 from rfl, s8_put (by omega) (by omega), pz_bnd, sa_put]
      have e11 : payM A.r h (nI v) 11 = A.r 11 := by
        unfold payM
        rw [upd_ne (by omega), upd_ne (by omega), payPR_ne hc hn.1 _ _ (Nat.le_refl _) (by omega)]
      rw [e11, closeR_3 hc hn]
      exact ⟨_, rfl, sa_self _ _ _, fun a h1 _ => sa_ne _ h1, FrM.rf.arr (by omega)⟩)
    exact ⟨m2, e2, a2, (FrM.rf.put (by omega)).tr g2, k2⟩
end OPS3
