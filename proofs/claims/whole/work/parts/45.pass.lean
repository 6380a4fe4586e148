/-! calls: pass, tiredIn, undo -/
def goR (r : Row) : Nat → Row × Int32
  | 0 => (r, 0)
  | k + 1 => ((minR (goR r k).1).1, (goR r k).2 + (minR (goR r k).1).2)
theorem goR_KW {r : Row} (K : KW r) : ∀ k, KW (goR r k).1
  | 0 => K
  | k + 1 => minR_KW (goR_KW K k)
theorem goR_RW {r : Row} (R : RW r) : ∀ k, RW (goR r k).1
  | 0 => R
  | k + 1 => minR_RW (goR_RW R k)
theorem goR_9 {r : Row} (K : KW r) {t : Nat} (e : r 9 = nI t) : ∀ k, (goR r k).1 9 = nI (t + k)
  | 0 => e
  | k + 1 => by rw [goR, (minR_SE9 (goR_KW K k)).2, goR_9 K e k, pz_s, Nat.add_assoc]
/-- alike from 373 on -/
def HI (r r' : Row) : Prop := ∀ i, 373 ≤ i → r' i = r i
theorem HI.rf {r : Row} : HI r r := fun _ _ => rfl
theorem HI.tr {r r' r'' : Row} (h : HI r r') (g : HI r' r'') : HI r r'' := fun i hi => (g i hi).trans (h i hi)
theorem HI.put {r r' : Row} {i : Nat} {v : Int32} (h : HI r r') (hi : i < 373) : HI r (upd r' i v) := fun j hj => by
  rw [upd_ne (by omega)]
  exact h j hj
theorem closeR_HI {r : Row} {h st : Nat} {hv : Int32} (hc : ChW r h) (hn : ppl r ≤ 10) (hh : h < 30) : HI r (closeR r h st hv) := by
  have p0 : HI r (payPR r h hv (szN r h)) := fun i hi => payPR_ne hc hn _ i (Nat.le_refl _) (by omega)
  have e : HI r (upd (upd (upd (payPR r h hv (szN r h)) (73 + 10 * h + 4) (nI st)) (82 + 10 * h) (r (82 + 10 * h) + payR r h hv)) 10 (r 10 + payR r h hv)) := ((p0.put (by omega)).put (by omega)).put (by omega)
  unfold closeR
  by_cases s3 : st = 3
  · simp only [if_pos s3]
    exact e.put (by omega)
  · by_cases s2 : st = 2
    · simp only [if_neg s3, if_pos s2]
      exact e.put (by omega)
    · simp only [if_neg s3, if_neg s2]
      exact e
theorem endN_HI {r : Row} (hn : NumW r) (hw : ChWs r) : ∀ k, k ≤ hrs r → HI r (endN r k).1
  | 0, _ => HI.rf
  | k + 1, hk => by
    have e := (endN_all hn hw k (by omega)).1
    have h30 := hn.2.2.1
    refine (endN_HI hn hw k (by omega)).tr ?_
    have hc := e.se.chw (hw k (by omega))
    have h10 : ppl (endN r k).1 ≤ 10 := by rw [e.se.ePpl]; exact hn.1
    show HI _ (endS k (endN r k)).1
    unfold endS
    split
    · split
      · show HI _ (closeR (endN r k).1 k 2 1)
        exact closeR_HI (h := k) hc h10 (by omega)
      · show HI _ (closeR (endN r k).1 k 1 2)
        exact closeR_HI (h := k) hc h10 (by omega)
    · exact HI.rf
theorem trdN_HI {r : Row} (hn : NumW r) (hw : ChWs r) : ∀ k, k ≤ hrs r → HI r (trdN r k)
  | 0, _ => HI.rf
  | k + 1, hk => by
    have e := (trdN_all hn hw k (by omega)).1
    have h30 := hn.2.2.1
    refine (trdN_HI hn hw k (by omega)).tr ?_
    have hc := e.se.chw (hw k (by omega))
    have h10 : ppl (trdN r k) ≤ 10 := by rw [e.se.ePpl]; exact hn.1
    show HI _ (trdS k (trdN r k))
    unfold trdS
    split
    · exact closeR_HI (h := k) hc h10 (by omega)
    · exact HI.rf
theorem minR_HI {r : Row} (K : KW r) : HI r (minR r).1 := by
  have ft := tirN_FA (r := r) (ppl r) K.1.1
  have h0 : HI r (tireR r) := fun i hi => ft i (by omega)
  have s1 : SE r (upd (tireR r) 9 (tireR r 9 + 1)) := ft.se.put (by unfold stat; omega)
  have h1 : HI r (upd (tireR r) 9 (tireR r 9 + 1)) := h0.put (by omega)
  unfold minR
  dsimp only
  have nU := s1.num K.1
  have wU := s1.chws K.2.1
  have le : hrs r ≤ hrs (upd (tireR r) 9 (tireR r 9 + 1)) := by rw [s1.eHrs]; exact Nat.le_refl _
  have e := (endN_all nU wU (hrs r) le).1
  exact h1.tr ((endN_HI nU wU (hrs r) le).tr (trdN_HI (e.se.num nU) (e.se.chws wU) (hrs r) (by rw [e.se.eHrs, s1.eHrs]; exact Nat.le_refl _)))
theorem goR_HI {r : Row} (K : KW r) : ∀ k, HI r (goR r k).1
  | 0 => HI.rf
  | k + 1 => (goR_HI K k).tr (minR_HI (goR_KW K k))
theorem mrg_HI {r r' : Row} (h : HI r r') : mrg r r' = r := by
  funext i
  unfold mrg
  by_cases q : i < 373
  · rw [if_pos q]
  · rw [if_neg q, h i (by omega)]
section PASS
variable {m : Mem} {A : Ab} {r : Row} {x y z w : Int32}
theorem s8_go (hz : m.1 163 = r) (K : KW r) {n : Nat} (hn : n ≤ 1000) : f_X8_go (nI n) m = some ((goR r n).2, sa m 163 (goR r n).1) := by
  unfold f_X8_go
  have e : lp (f_X8_go_L4 (nI n)) 1000000 (0, 0, m) = some ((goR r n).2, sa m 163 (goR r n).1) := by
    have e0 : m = sa m 163 (goR r 0).1 := by
      show m = sa m 163 r
      rw [← hz, sa_id]
    have := lp_cnt (body := f_X8_go_L4 (nI n)) (fun k => ((goR r k).2, nI k, sa m 163 (goR r k).1)) (N := n) (t := ((goR r n).2, sa m 163 (goR r n).1)) (fun k hk => ?_) ?_ (n := 1000000) (by omega)
    · rw [← e0] at this
      exact this
    · rw [f_X8_go_L4, if_neg (by rw [pz_le (by omega) (by omega)]; omega), s8_minute (sa_self _ _ _) (goR_KW K k), pz_bnd2, sa_sa, pz_s, pz_nm]
      rfl
    · rw [f_X8_go_L4, if_pos (by rw [pz_le (by omega) (by omega)]; omega)]
  rw [e, pz_bnd]
theorem e7_passL {n : Nat} (hC : CR 1 m r) (K : KW r) (hn : n ≤ 1000) : ∃ q : Int32 × Mem, lp (e_X7_pass_L61 (nI n)) 1000000 (0, 0, m) = some q ∧ (q.1 = (goR r n).2 ∧ CR 1 q.2 (goR r n).1 ∧ FrC 1 m q.2) := by
  refine lp_inv (fun k (s : Int32 × Int32 × Mem) => s.1 = (goR r k).2 ∧ s.2.1 = nI k ∧ CR 1 s.2.2 (goR r k).1 ∧ FrC 1 m s.2.2) (N := n) (fun k s hk hI => ?_) (fun s hI => ?_) _ ⟨rfl, rfl, hC, FrC.rf⟩ (by omega)
  · obtain ⟨a, b, m1⟩ := s
    obtain ⟨rfl, rfl, h1, h2⟩ := hI
    dsimp only at h1 h2
    obtain ⟨m', e1, e2, e3⟩ := s2_passMinute h1 (goR_KW K k)
    rw [e_X7_pass_L61, if_neg (by rw [pz_le (by omega) (by omega)]; omega), e1, pz_bnd2, pz_s, pz_nm]
    exact ⟨_, rfl, rfl, rfl, e2, h2.tr e3⟩
  · obtain ⟨a, b, m1⟩ := s
    obtain ⟨rfl, rfl, h1, h2⟩ := hI
    rw [e_X7_pass_L61, if_pos (by rw [pz_le (by omega) (by omega)]; omega)]
    exact ⟨_, rfl, rfl, h1, h2⟩
theorem o_pass (hC : AC m A) (hM : AM m A) (ok : Ok A) : OPS (w_L_pass x m) (f_X8_pass x) := by
  have gd := ok.2.2.1
  have K := gd.1.1
  obtain ⟨t, t1, t2⟩ := gd.2
  cases h1 : wth x 1 500
  · refine ops_throw hC hM ok (c := 1) (by decide) ?_ ?_
    · rw [w_L_pass, e_X7_pass, s7_wth, pz_bnd, bI_ite, if_neg (by rw [h1]; simp), pz_bnd]
      rfl
    · rw [f_X8_pass, s8_wth, pz_bnd, bI_ite, if_neg (by rw [h1]; simp), pz_bnd, pz_nm, si_at, if_neg (by decide)]
  obtain ⟨n, -, n2, rfl⟩ := wth_of (a := 1) (b := 500) (by omega) (by omega) h1
  have q3 : (nI (t + n) ≤ 20000) = (t + n ≤ 20000) := pz_le (b := (20000 : Nat)) (by omega) (by decide)
  have m3 : m.1 1 3 = nI t := by rw [hC.1.1.minute, t2]
  by_cases h2 : t + n ≤ 20000
  case neg =>
    refine ops_throw hC hM ok (c := 2) (by decide) ?_ ?_
    · rw [w_L_pass, e_X7_pass, s7_wth, pz_bnd, bI_ite, if_pos h1, m3, pz_add, if_neg (by rw [q3]; exact h2), pz_bnd]
      rfl
    · rw [f_X8_pass, s8_wth, pz_bnd, bI_ite, if_pos h1, hM.1, t2, pz_add, if_neg (by rw [q3]; exact h2), pz_bnd, pz_nm, si_at, if_neg (by decide)]
  have gd' : GD (goR A.r n).1 := ⟨goR_RW gd.1 n, t + n, h2, goR_9 K t2 n⟩
  refine ops_mut hC hM ok (r' := (goR A.r n).1) gd' (y := (goR A.r n).2) (fun m8 e8 a8 => ?_) (fun m1 am => ?_)
  · have c8 : CR 1 m8 A.r := a8.1
    obtain ⟨⟨v, m12⟩, e12, e5, c12, f12⟩ := e7_passL (n := n) c8 K (by omega)
    dsimp only at e5 c12 f12
    refine ⟨m12, ?_, c12, f12⟩
    rw [w_L_pass, e_X7_pass, s7_wth, pz_bnd, bI_ite, if_pos h1, m3, pz_add, if_pos (by rw [q3]; exact h2), e8, pz_bnd, e12, pz_bnd]
    dsimp only
    rw [pz_bnd, e5]
  · rw [f_X8_pass, s8_wth, pz_bnd, bI_ite, if_pos h1, am.1, t2, pz_add, if_pos (by rw [q3]; exact h2), pz_bnd, pz_nm, si_at, if_pos (by decide)]
    obtain ⟨m2, e2, a2, g2, k2⟩ := m_save (am.set5 (j := 5) (by decide) (by decide) 0) ok (si_at _ _ _ _) (r' := (goR A.r n).1) (y := (goR A.r n).2) (K := fun m10 => bnd2 (f_X8_go (nI n) m10) fun x12 m13 => some (x12, m13)) (fun m9 z9 _ _ => by
      rw [s8_go z9 K (by omega), pz_bnd2]
      exact ⟨_, rfl, sa_self _ _ _, fun a h1 _ => sa_ne _ h1, FrM.rf.arr (by omega)⟩)
    exact ⟨m2, e2, a2, (FrM.rf.put (by omega)).tr g2, k2⟩
/-! what would be -/
theorem s7_imagine {n : Nat} (hC : CR 1 m r) (K : KW r) (hn : n ≤ 1000) : ∃ m', f_X7_imagineLater (nI n) m = some m' ∧ CR 20 m' (goR r n).1 ∧ FrC 20 m m' := by
  obtain ⟨m1, e1, c1, f1⟩ := s2_copyFrom (c := 20) hC K.1.2.2.1 (by omega)
  unfold f_X7_imagineLater
  rw [e1, pz_bnd]
  have e : ∃ q : Mem, lp (f_X7_imagineLater_L13 (nI n)) 1000000 (0, m1) = some q ∧ (CR 20 q (goR r n).1 ∧ FrC 20 m q) := by
    refine lp_inv (fun k (s : Int32 × Mem) => s.1 = nI k ∧ CR 20 s.2 (goR r k).1 ∧ FrC 20 m s.2) (N := n) (fun k s hk hI => ?_) (fun s hI => ?_) _ ⟨rfl, c1, f1⟩ (by omega)
    · obtain ⟨a, m2⟩ := s
      obtain ⟨rfl, h1, h2⟩ := hI
      dsimp only at h1 h2
      obtain ⟨m', e1, e2, e3⟩ := s2_passMinute h1 (goR_KW K k)
      rw [f_X7_imagineLater_L13, if_neg (by rw [pz_le (by omega) (by omega)]; omega), e1, pz_bnd2, pz_s, pz_nm]
      exact ⟨_, rfl, rfl, e2, h2.tr e3⟩
    · obtain ⟨a, m2⟩ := s
      obtain ⟨rfl, h1, h2⟩ := hI
      rw [f_X7_imagineLater_L13, if_pos (by rw [pz_le (by omega) (by omega)]; omega)]
      exact ⟨_, rfl, h1, h2⟩
  obtain ⟨m2, e, h1, h2⟩ := e
  rw [e, pz_bnd]
  exact ⟨_, rfl, h1, h2⟩
theorem s8_keep : f_X8_keep m = some (sa m 169 (mrg (m.1 163) (m.1 169))) := by
  unfold f_X8_keep
  have e0 : m = sa m 169 (fun j => if j < 0 then m.1 163 j else m.1 169 j) := by
    have : (fun j => if j < 0 then m.1 163 j else m.1 169 j) = m.1 169 := by
      funext j
      rw [if_neg (by omega)]
    rw [this, sa_id]
  have := lp_cnt (body := f_X8_keep_L2) (fun i => (nI i, sa m 169 (fun j => if j < i then m.1 163 j else m.1 169 j))) (N := 373) (t := sa m 169 (fun j => if j < 373 then m.1 163 j else m.1 169 j)) (fun i hi => ?_) ?_ (n := 1000000) (by omega)
  · rw [← e0] at this
    rw [show (0 : Int32) = nI 0 from rfl, this, pz_bnd]
    rfl
  · rw [f_X8_keep_L2, show (373 : Int32) = nI 373 from rfl, if_neg (by rw [pz_le (by omega) (by omega)]; omega), pz_in (by omega) (by omega), pz_cl (by omega), sa_ne _ (by omega), pz_nm, pz_in (by omega) (by omega), pz_s]
    simp only [pz_nm]
    rw [sa_put]
    have : upd (fun j => if j < i then m.1 163 j else m.1 169 j) i (m.1 163 i) = (fun j => if j < i + 1 then m.1 163 j else m.1 169 j) := by
      funext j
      by_cases z : j = i
      · subst z
        rw [upd_self, if_pos (by omega)]
      · rw [upd_ne z]
        by_cases y : j < i
        · rw [if_pos y, if_pos (by omega)]
        · rw [if_neg y, if_neg (by omega)]
    rw [this]
  · rw [f_X8_keep_L2, show (373 : Int32) = nI 373 from rfl, if_pos (by rw [pz_le (by omega) (by omega)]; omega)]
theorem s8_layBack : f_X8_layBack m = some (sa m 163 (mrg (m.1 169) (m.1 163))) := by
  unfold f_X8_layBack
  have e0 : m = sa m 163 (fun j => if j < 0 then m.1 169 j else m.1 163 j) := by
    have : (fun j => if j < 0 then m.1 169 j else m.1 163 j) = m.1 163 := by
      funext j
      rw [if_neg (by omega)]
    rw [this, sa_id]
  have := lp_cnt (body := f_X8_layBack_L2) (fun i => (nI i, sa m 163 (fun j => if j < i then m.1 169 j else m.1 163 j))) (N := 373) (t := sa m 163 (fun j => if j < 373 then m.1 169 j else m.1 163 j)) (fun i hi => ?_) ?_ (n := 1000000) (by omega)
  · rw [← e0] at this
    rw [show (0 : Int32) = nI 0 from rfl, this, pz_bnd]
    rfl
  · rw [f_X8_layBack_L2, show (373 : Int32) = nI 373 from rfl, if_neg (by rw [pz_le (by omega) (by omega)]; omega), pz_in (by omega) (by omega), pz_cl (by omega), sa_ne _ (by omega), pz_nm, pz_in (by omega) (by omega), pz_s]
    simp only [pz_nm]
    rw [sa_put]
    have : upd (fun j => if j < i then m.1 169 j else m.1 163 j) i (m.1 169 i) = (fun j => if j < i + 1 then m.1 169 j else m.1 163 j) := by
      funext j
      by_cases z : j = i
      · subst z
        rw [upd_self, if_pos (by omega)]
      · rw [upd_ne z]
        by_cases y : j < i
        · rw [if_pos y, if_pos (by omega)]
        · rw [if_neg y, if_neg (by omega)]
    rw [this]
  · rw [f_X8_layBack_L2, show (373 : Int32) = nI 373 from rfl, if_pos (by rw [pz_le (by omega) (by omega)]; omega)]
theorem mrg_mrg {c : Row} (a b : Row) (h : HI a b) : mrg (mrg a c) b = a := by
  funext i
  unfold mrg
  by_cases q : i < 373
  · rw [if_pos q, if_pos q]
  · rw [if_neg q, h i (by omega)]
/-- cells 163 and 169 were borrowed: 163 is laid back -/
theorem s8_tiredThen (hz : m.1 163 = r) (K : KW r) {n p : Nat} (hn : n ≤ 1000) (hp : p < 10) : ∃ m', f_X8_tiredThen (nI p) (nI n) m = some ((goR r n).1 (43 + p), m') ∧ m'.1 163 = r ∧ (∀ a, a ≠ 163 → a ≠ 169 → m'.1 a = m.1 a) ∧ m'.2 = m.2 := by
  unfold f_X8_tiredThen
  rw [s8_keep, pz_bnd, s8_go (by rw [sa_ne _ (by omega)]; exact hz) K hn, pz_bnd2, show (43 : Int32) = nI 43 from rfl, pz_add, pz_in (by omega) (by omega), pz_cl (by omega), sa_self, pz_nm, s8_layBack, pz_bnd]
  refine ⟨_, rfl, ?_, fun a h1 h2 => ?_, rfl⟩
  · rw [sa_self, sa_ne _ (by omega), sa_self, sa_self, hz, mrg_mrg _ _ (goR_HI K n)]
  · rw [sa_ne _ h1, sa_ne _ h1, sa_ne _ h2]
theorem AM.same {m' : Mem} (h : AM m A) (h3 : m'.1 163 = m.1 163) (g : ∀ a, a ≠ 163 → a < 166 → m'.1 a = m.1 a) : AM m' A := by
  obtain ⟨h1, h2, h3', h4, h5⟩ := h
  refine ⟨h3.trans h1, ?_, fun k hk i hi => ?_, ?_, fun i hi => ?_⟩
  · rw [g 162 (by omega) (by omega)]; exact h2
  · rw [g 164 (by omega) (by omega)]; exact h3' k hk i hi
  · rw [g 162 (by omega) (by omega)]; exact h4
  · rw [g 165 (by omega) (by omega)]; exact h5 i hi
theorem o_tiredIn (hC : AC m A) (hM : AM m A) (ok : Ok A) : OPS (w_L_tiredIn x y m) (f_X8_tiredIn x y) := by
  have gd := ok.2.2.1
  have K := gd.1.1
  have hn := K.1
  have h10 := hn.1
  cases h1 : isp A.r x
  · refine ops_throw hC hM ok (c := 1) (by decide) ?_ ?_
    · rw [w_L_tiredIn, e_X7_tiredIn, s6_has hC.1.1, pz_bnd, bI_ite, if_neg (by rw [h1]; simp), pz_bnd]
      rfl
    · rw [f_X8_tiredIn, s8_isPerson hM.1 hn, pz_bnd, bI_ite, if_neg (by rw [h1]; simp), pz_bnd, pz_nm, si_at, if_neg (by decide)]
  obtain ⟨p, hp, rfl⟩ := isp_of hn h1
  cases h2 : wth y 0 500
  · refine ops_throw hC hM ok (c := 2) (by decide) ?_ ?_
    · rw [w_L_tiredIn, e_X7_tiredIn, s6_has hC.1.1, pz_bnd, bI_ite, if_pos h1, s7_wth, pz_bnd, bI_ite, if_neg (by rw [h2]; simp), pz_bnd]
      rfl
    · rw [f_X8_tiredIn, s8_isPerson hM.1 hn, pz_bnd, bI_ite, if_pos h1, s8_wth, pz_bnd, bI_ite, if_neg (by rw [h2]; simp), pz_bnd, pz_nm, si_at, if_neg (by decide)]
  obtain ⟨n, -, n2, rfl⟩ := wth_of (a := 0) (b := 500) (by omega) (by omega) h2
  obtain ⟨m1, e1, c1, f1⟩ := s7_imagine (n := n) hC.1 K (by omega)
  refine ops_read hC hM ok (y := (goR A.r n).1 (43 + p)) ⟨m1, ?_, hC.scr (fun a ha => f1.1 a (by omega)), f1.x (by omega)⟩ (fun m1 am => ?_)
  · rw [w_L_tiredIn, e_X7_tiredIn, s6_has hC.1.1, pz_bnd, bI_ite, if_pos h1, s7_wth, pz_bnd, bI_ite, if_pos h2, e1, pz_bnd, pz_in (by omega) (by omega), pz_cl (by omega), c1.1.tired (by omega), pz_nm, pz_bnd]
  · obtain ⟨m2, e2, z2, o2, l2⟩ := s8_tiredThen (n := n) (p := p) (am.set5 (j := 5) (by decide) (by decide) 0).1 K (by omega) (by omega)
    refine ⟨m2, ?_, (am.set5 (j := 5) (by decide) (by decide) 0).same ?_ (fun a h1 h2 => o2 a h1 (by omega)), (FrM.rf.put (by omega)).tr ⟨fun a ha => o2 a (by omega) (by omega), l2⟩, ?_⟩
    · rw [f_X8_tiredIn, s8_isPerson am.1 hn, pz_bnd, bI_ite, if_pos h1, s8_wth, pz_bnd, bI_ite, if_pos h2, pz_bnd, pz_nm, si_at, if_pos (by decide), e2, pz_bnd2]
    · rw [z2, (am.set5 (j := 5) (by decide) (by decide) 0).1]
    · rw [o2 162 (by omega) (by omega), si_at]
end PASS
