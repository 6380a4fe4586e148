/-! calls: mannable -/
def mnC (r : Row) (k : Nat) : Bool := (lst r k && !std r k) && (decide (szN r k = 0) && decide (¬ (srch r k).2.1 = 0))
def mnR (r : Row) : Nat → Row × Nat
  | 0 => (r, 0)
  | k + 1 => if mnC (mnR r k).1 k = true then (giveR (mnR r k).1 k (srch (mnR r k).1 k).2.1 (srch (mnR r k).1 k).2.2, (mnR r k).2 + 1) else mnR r k
/-- the court that would be and the search alone differ -/
def FrW (m m' : Mem) : Prop := (∀ a, a < 20 ∨ (39 ≤ a ∧ a < 158) ∨ 162 ≤ a → m'.1 a = m.1 a) ∧ m'.2 = m.2
theorem FrW.rf {m : Mem} : FrW m m := ⟨fun _ _ => rfl, rfl⟩
theorem FrW.tr {m m' m'' : Mem} (h : FrW m m') (g : FrW m' m'') : FrW m m'' := ⟨fun a ha => (g.1 a ha).trans (h.1 a ha), g.2.trans h.2⟩
theorem FrC.w {m m' : Mem} (h : FrC 20 m m') : FrW m m' := ⟨fun a ha => h.1 a (by omega), h.2⟩
theorem FrP.w {m m' : Mem} (h : FrP m m') : FrW m m' := ⟨fun a ha => h.1 a (by omega), h.2⟩
/-- the model's row and its search alone differ -/
def FrN (m m' : Mem) : Prop := (∀ a, a ≠ 162 → a ≠ 163 → a ≠ 166 → a ≠ 168 → m'.1 a = m.1 a) ∧ (∀ j, j ≠ 7 → j ≠ 12 → j ≠ 13 → m'.1 162 j = m.1 162 j) ∧ m'.2 = m.2
theorem FrN.rf {m : Mem} : FrN m m := ⟨fun _ _ _ _ _ => rfl, fun _ _ _ _ => rfl, rfl⟩
theorem FrN.tr {m m' m'' : Mem} (h : FrN m m') (g : FrN m' m'') : FrN m m'' := ⟨fun a h1 h2 h3 h4 => (g.1 a h1 h2 h3 h4).trans (h.1 a h1 h2 h3 h4), fun j h1 h2 h3 => (g.2.1 j h1 h2 h3).trans (h.2.1 j h1 h2 h3), g.2.2.trans h.2.2⟩
theorem FrL.n {m m' : Mem} (h : FrL m m') : FrN m m' := ⟨fun a h1 _ h3 h4 => h.1 a h1 h3 h4, h.2.1, h.2.2⟩
theorem FrN.z {m m' : Mem} {f : Row} (h : FrN m m') : FrN m (sa m' 163 f) := ⟨fun a h1 h2 h3 h4 => by rw [sa_ne _ h2]; exact h.1 a h1 h2 h3 h4, fun j h1 h2 h3 => by rw [sa_ne _ (by omega)]; exact h.2.1 j h1 h2 h3, h.2.2⟩
section MANN
variable {m : Mem} {A : Ab} {r : Row}
theorem giveR_hrs {h n : Nat} {t : Nat → Nat} : hrs (giveR r h n t) = hrs r := by unfold hrs; rw [giveR_ne (by omega)]
theorem giveR_HI {h n : Nat} {t : Nat → Nat} (hh : h < 29 + 1) : HI r (giveR r h n t) := fun i hi => giveR_ne (by omega)
theorem mnR_all (R : RW r) : ∀ k, k ≤ hrs r → RW (mnR r k).1 ∧ hrs (mnR r k).1 = hrs r ∧ (mnR r k).2 ≤ k ∧ HI r (mnR r k).1
  | 0, _ => ⟨R, rfl, Nat.le_refl 0, HI.rf⟩
  | k + 1, hk => by
    obtain ⟨a, b, c, d⟩ := mnR_all R k (by omega)
    have h30 := R.1.1.2.2.1
    rw [mnR]
    by_cases q : mnC (mnR r k).1 k = true
    · rw [if_pos q]
      have w := srch_BW (h := k) a (by omega)
      refine ⟨RW_give a (by omega) w.2.2, giveR_hrs.trans b, by show (mnR r k).2 + 1 ≤ k + 1; omega, d.tr (giveR_HI (by omega))⟩
    · rw [if_neg q]
      exact ⟨a, b, by omega, d⟩
theorem s7_mannable (hC : CR 1 m r) (R : RW r) : ∃ m', f_X7_mannable m = some (nI (mnR r (hrs r)).2, m') ∧ FrW m m' := by
  have h30 := R.1.1.2.2.1
  obtain ⟨m0, e0, c0, f0⟩ := s2_copyFrom (c := 20) hC h30 (by omega)
  have e : ∃ t : Int32 × Mem, lp f_X7_mannable_L15 1000000 (0, 0, m0) = some t ∧ (t.1 = nI (mnR r (hrs r)).2 ∧ FrW m t.2) := by
    refine lp_inv (fun i (q : Int32 × Int32 × Mem) => q.1 = nI (mnR r i).2 ∧ q.2.1 = nI i ∧ CR 20 q.2.2 (mnR r i).1 ∧ FrW m q.2.2) (N := hrs r) (fun i q hi hI => ?_) (fun q hI => ?_) _ ⟨rfl, rfl, c0, f0.w⟩ (by omega)
    · obtain ⟨x, y, m1⟩ := q
      obtain ⟨rfl, rfl, c1, f1⟩ := hI
      dsimp only at c1 f1
      obtain ⟨a, b, c, -⟩ := mnR_all R i (by omega)
      have hn := a.1.1
      have cw := a.1.2.1 i (by omega)
      have hk : ∀ q, mnC (mnR r i).1 i = q → mnR r (i + 1) = if q = true then (giveR (mnR r i).1 i (srch (mnR r i).1 i).2.1 (srch (mnR r i).1 i).2.2, (mnR r i).2 + 1) else mnR r i := fun q hq => by rw [← hq, mnR]
      have hun : mnC (mnR r i).1 i = ((lst (mnR r i).1 i && !std (mnR r i).1 i) && (decide (szN (mnR r i).1 i = 0) && decide (¬ (srch (mnR r i).1 i).2.1 = 0))) := rfl
      have e8 : m1.1 (20 + 8) 0 = nI (hrs r) := by rw [c1.1.hearings, hn.2.2.2, b]
      rw [f_X7_mannable_L15, e8, if_neg (by rw [pz_le (by omega) (by omega)]; omega), s2_isAhead c1.1 (by omega), pz_bnd, bI_ite, pz_s]
      by_cases q1 : (lst (mnR r i).1 i && !std (mnR r i).1 i) = true
      case neg =>
        have := hk false (by rw [hun, Bool.eq_false_iff.mpr q1]; rfl)
        rw [if_neg (by simp)] at this
        rw [if_neg q1, pz_nm]
        refine ⟨_, rfl, ?_⟩
        rw [this]
        exact ⟨rfl, rfl, c1, f1⟩
      rw [if_pos q1, pz_in (by omega) (by omega), pz_cl (by omega), c1.1.size (by omega), cw.2.1, pz_nm]
      have s3 := cw.1
      have ez : (nI (szN (mnR r i).1 i) = 0) = (szN (mnR r i).1 i = 0) := pz_eq (b := (0 : Nat)) (by omega) (by decide)
      by_cases q2 : szN (mnR r i).1 i = 0
      case neg =>
        have := hk false (by rw [hun, decide_eq_false q2, Bool.false_and, Bool.and_false])
        rw [if_neg (by simp)] at this
        rw [if_neg (by rw [ez]; exact q2), pz_nm]
        refine ⟨_, rfl, ?_⟩
        rw [this]
        exact ⟨rfl, rfl, c1, f1⟩
      rw [if_pos (by rw [ez]; exact q2)]
      obtain ⟨m2, k1, k2, k3⟩ := s1_seek c1 (by omega) a (h := i) (by omega)
      rw [k1, pz_bnd, k3.2.2.1]
      have w := k3.1
      by_cases q3 : (srch (mnR r i).1 i).2.1 = 0
      · have := hk false (by rw [hun, decide_eq_false (p := ¬ (srch (mnR r i).1 i).2.1 = 0) (fun g => g q3), Bool.and_false, Bool.and_false])
        rw [if_neg (by simp)] at this
        rw [if_pos q3, if_pos (by decide), pz_nm]
        refine ⟨_, rfl, ?_⟩
        rw [this]
        exact ⟨rfl, rfl, c1.frP (by omega) k2, f1.tr k2.w⟩
      · have := hk true (by rw [hun, q1, decide_eq_true q2, decide_eq_true q3]; rfl)
        rw [if_pos rfl] at this
        rw [if_neg q3, if_neg (by rw [i32_le0 (by have := w.2.1; omega)]; exact q3)]
        have g0 := k3.2.2.2 0 (by omega)
        have g1 := k3.2.2.2 1 (by omega)
        have g2 := k3.2.2.2 2 (by omega)
        obtain ⟨m3, j1, j2, j3⟩ := s3_giveChain (c1.frP (by omega) k2) hn (h := i) (n := (srch (mnR r i).1 i).2.1) (t := (srch (mnR r i).1 i).2.2) (by omega) (w.2.2.imp id (fun q => q.1))
        rw [g0, g1, g2, j1, pz_bnd, pz_nm, pz_nm, pz_s]
        refine ⟨_, rfl, ?_⟩
        rw [this]
        exact ⟨rfl, rfl, j2, (f1.tr k2.w).tr j3.w⟩
    · obtain ⟨x, y, m1⟩ := q
      obtain ⟨rfl, rfl, c1, f1⟩ := hI
      dsimp only at c1 f1
      obtain ⟨a, b, c, -⟩ := mnR_all R (hrs r) (Nat.le_refl _)
      have e8 : m1.1 (20 + 8) 0 = nI (hrs r) := by rw [c1.1.hearings, a.1.1.2.2.2, b]
      rw [f_X7_mannable_L15, e8, if_pos (by rw [pz_le (by omega) (by omega)]; omega)]
      exact ⟨_, rfl, rfl, f1⟩
  obtain ⟨⟨v, m'⟩, e1, e2, e3⟩ := e
  dsimp only at e2 e3
  subst e2
  refine ⟨m', ?_, e3⟩
  rw [f_X7_mannable, e0, pz_bnd, e1, pz_bnd]
theorem s8_mannableNow (hz : m.1 163 = r) (R : RW r) : ∃ m', f_X8_mannableNow m = some (nI (mnR r (hrs r)).2, m') ∧ m'.1 163 = r ∧ (∀ a, a ≠ 162 → a ≠ 163 → a ≠ 166 → a ≠ 168 → a ≠ 169 → m'.1 a = m.1 a) ∧ (∀ j, j ≠ 7 → j ≠ 12 → j ≠ 13 → m'.1 162 j = m.1 162 j) ∧ m'.2 = m.2 := by
  have h30 := R.1.1.2.2.1
  generalize hm0 : sa m 169 (mrg (m.1 163) (m.1 169)) = m0
  have z0 : m0.1 163 = r := by rw [← hm0, sa_ne _ (by omega)]; exact hz
  have e : ∃ t : Int32 × Mem, lp f_X8_mannableNow_L8 1000000 (0, 0, m0) = some t ∧ (t.1 = nI (mnR r (hrs r)).2 ∧ t.2.1 163 = (mnR r (hrs r)).1 ∧ FrN m0 t.2) := by
    refine lp_inv (fun i (q : Int32 × Int32 × Mem) => q.1 = nI (mnR r i).2 ∧ q.2.1 = nI i ∧ q.2.2.1 163 = (mnR r i).1 ∧ FrN m0 q.2.2) (N := hrs r) (fun i q hi hI => ?_) (fun q hI => ?_) _ ⟨rfl, rfl, z0, FrN.rf⟩ (by omega)
    · obtain ⟨x, y, m1⟩ := q
      obtain ⟨rfl, rfl, c1, f1⟩ := hI
      dsimp only at c1 f1
      obtain ⟨a, b, c, -⟩ := mnR_all R i (by omega)
      have hn := a.1.1
      have cw := a.1.2.1 i (by omega)
      have hk : ∀ q, mnC (mnR r i).1 i = q → mnR r (i + 1) = if q = true then (giveR (mnR r i).1 i (srch (mnR r i).1 i).2.1 (srch (mnR r i).1 i).2.2, (mnR r i).2 + 1) else mnR r i := fun q hq => by rw [← hq, mnR]
      have hun : mnC (mnR r i).1 i = ((lst (mnR r i).1 i && !std (mnR r i).1 i) && (decide (szN (mnR r i).1 i = 0) && decide (¬ (srch (mnR r i).1 i).2.1 = 0))) := rfl
      rw [f_X8_mannableNow_L8, c1, hn.2.2.2, b, if_neg (by rw [pz_le (by omega) (by omega)]; omega), s8_isOpen c1 (by omega), pz_bnd, bI_ite, pz_s]
      by_cases q1 : (lst (mnR r i).1 i && !std (mnR r i).1 i) = true
      case neg =>
        have := hk false (by rw [hun, Bool.eq_false_iff.mpr q1]; rfl)
        rw [if_neg (by simp)] at this
        rw [if_neg q1, pz_nm]
        refine ⟨_, rfl, ?_⟩
        rw [this]
        exact ⟨rfl, rfl, c1, f1⟩
      rw [if_pos q1, show (5 : Int32) = nI 5 from rfl, s8_of c1 (by omega) (by omega), pz_bnd, cw.2.1]
      have s3 := cw.1
      have ez : (nI (szN (mnR r i).1 i) = 0) = (szN (mnR r i).1 i = 0) := pz_eq (b := (0 : Nat)) (by omega) (by decide)
      by_cases q2 : szN (mnR r i).1 i = 0
      case neg =>
        have := hk false (by rw [hun, decide_eq_false q2, Bool.false_and, Bool.and_false])
        rw [if_neg (by simp)] at this
        rw [if_neg (by rw [ez]; exact q2), pz_nm]
        refine ⟨_, rfl, ?_⟩
        rw [this]
        exact ⟨rfl, rfl, c1, f1⟩
      rw [if_pos (by rw [ez]; exact q2)]
      have q1' := q1
      rw [Bool.and_eq_true] at q1'
      have l2 : std (mnR r i).1 i = false := by simpa using q1'.2
      obtain ⟨m2, k1, k2, k3⟩ := s8_layCheapest (m := m1) a (h := i) (by omega) q1'.1 l2 c1
      have es : srch (mnR r i).1 i = sr3 (mnR r i).1 i := by unfold srch; rw [if_pos q1]
      rw [← es] at k1 k3
      rw [k1, pz_bnd2, bI_ite]
      have w := k3.1
      by_cases q3 : (srch (mnR r i).1 i).2.1 = 0
      · have := hk false (by rw [hun, decide_eq_false (p := ¬ (srch (mnR r i).1 i).2.1 = 0) (fun g => g q3), Bool.and_false, Bool.and_false])
        rw [if_neg (by simp)] at this
        rw [if_neg (by rw [decide_eq_true_eq]; exact fun g => g q3), pz_nm]
        refine ⟨_, rfl, ?_⟩
        rw [this]
        exact ⟨rfl, rfl, by rw [k2.1 163 (by omega) (by omega) (by omega)]; exact c1, f1.tr k2.n⟩
      · have := hk true (by rw [hun, q1, decide_eq_true q2, decide_eq_true q3]; rfl)
        rw [if_pos rfl] at this
        have ht := w.2.2.resolve_left q3
        obtain ⟨-, b2⟩ := k3.2.2 q3
        obtain ⟨m3, l1, l2', l3, l4, l5, l6, l7, l8⟩ := s8_lay (m := m2) (x := m2.1 168 0) (y := m2.1 168 1) (z := m2.1 168 2)
        have t0 : tri (srch (mnR r i).1 i).2.1 (srch (mnR r i).1 i).2.2 0 = nI ((srch (mnR r i).1 i).2.2 0) := if_pos ht.1.1
        have hT : TR m3 (srch (mnR r i).1 i).2.1 (srch (mnR r i).1 i).2.2 := lay_TR ht.1 hn.1 (by rw [l2', b2 0 (by omega)]; exact t0) (by rw [l3, b2 1 (by omega)]) (by rw [l4, b2 2 (by omega)]) (by rw [l5, b2 1 (by omega), b2 2 (by omega)])
        have z3 : m3.1 163 = (mnR r i).1 := by rw [l6 163 (by omega) (by omega), k2.1 163 (by omega) (by omega) (by omega)]; exact c1
        rw [if_pos (decide_eq_true q3), l1, pz_bnd, s8_assignTried z3 (by omega) ht.1.2.1 hT, pz_bnd, pz_nm, pz_nm, pz_s]
        refine ⟨_, rfl, ?_⟩
        rw [this]
        exact ⟨rfl, rfl, sa_self _ _ _, (f1.tr (k2.n.tr (LY.l ⟨l6, l7, l8⟩).n)).z⟩
    · obtain ⟨x, y, m1⟩ := q
      obtain ⟨rfl, rfl, c1, f1⟩ := hI
      dsimp only at c1 f1
      obtain ⟨a, b, c, -⟩ := mnR_all R (hrs r) (Nat.le_refl _)
      rw [f_X8_mannableNow_L8, c1, a.1.1.2.2.2, b, if_pos (by rw [pz_le (by omega) (by omega)]; omega)]
      exact ⟨_, rfl, rfl, c1, f1⟩
  obtain ⟨⟨v, m'⟩, e1, e2, e3, e4⟩ := e
  dsimp only at e2 e3 e4
  subst e2
  obtain ⟨-, -, -, hi⟩ := mnR_all R (hrs r) (Nat.le_refl _)
  refine ⟨sa m' 163 (mrg (m'.1 169) (m'.1 163)), ?_, ?_, fun a a1 a2 a3 a4 a5 => ?_, fun j j1 j2 j3 => ?_, ?_⟩
  · rw [f_X8_mannableNow, s8_keep, hm0, pz_bnd, e1, pz_bnd]
    show (bnd (f_X8_layBack m') fun m30 => some (nI (mnR r (hrs r)).2, m30)) = _
    rw [s8_layBack, pz_bnd]
  · rw [sa_self, e4.1 169 (by omega) (by omega) (by omega) (by omega), e3, ← hm0, sa_self, hz, mrg_mrg _ _ hi]
  · rw [sa_ne _ a2, e4.1 a a1 a2 a3 a4, ← hm0, sa_ne _ a5]
  · rw [sa_ne _ (by omega), e4.2.1 j j1 j2 j3, ← hm0, sa_ne _ (by omega)]
  · rw [sa_2, e4.2.2, ← hm0, sa_2]
theorem o_mannable (hC : AC m A) (hM : AM m A) (ok : Ok A) : OPV (f_X7_mannable m) f_X8_mannable := by
  have gd := ok.2.2.1
  obtain ⟨m1, e1, f1⟩ := s7_mannable hC.1 gd.1
  have am := (hM.frX (m' := m1) (fun a ha => f1.1 a (by omega))).set5 (j := 5) (by decide) (by decide) 0
  obtain ⟨m2, e2, z2, g1, g2, g3⟩ := s8_mannableNow am.1 gd.1
  refine ⟨_, m1, m2, A, e1, ?_, (hC.scr (m' := m1) (fun a ha => f1.1 a (by omega))).frM ⟨fun a ha => by rw [g1 a (by omega) (by omega) (by omega) (by omega) (by omega), si_ne (by omega)], by rw [g3]; rfl⟩ ok.1, ?_, ok⟩
  · rw [f_X8_mannable, pz_nm, e2, pz_bnd2]
  · obtain ⟨b1, b2, b3, b4, b5⟩ := am
    refine ⟨z2, ?_, fun k hk i hi => ?_, ?_, fun i hi => ?_⟩
    · rw [g2 1 (by omega) (by omega) (by omega)]; exact b2
    · rw [g1 164 (by omega) (by omega) (by omega) (by omega) (by omega)]; exact b3 k hk i hi
    · rw [g2 3 (by omega) (by omega) (by omega)]; exact b4
    · rw [g1 165 (by omega) (by omega) (by omega) (by omega) (by omega)]; exact b5 i hi
end MANN
