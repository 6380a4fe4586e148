/-! the class's search -/
def BC (r : Row) (h : Nat) (m : Mem) (s : BS) : Prop := BW r h s ∧ m.1 158 0 = (if s.2.1 = 0 then -1 else nI s.1) ∧ m.1 158 1 = (if s.2.1 = 0 then -1 else nI s.2.1) ∧ ∀ k, k < 3 → m.1 158 (2 + k) = tri s.2.1 s.2.2 k
/-- the best one alone differs -/
def FrK (m m' : Mem) : Prop := (∀ a, a ≠ 158 → m'.1 a = m.1 a) ∧ (∀ j, 5 ≤ j → m'.1 158 j = m.1 158 j) ∧ m'.2 = m.2
/-- cells 158 to 161 alone differ -/
def FrP (m m' : Mem) : Prop := (∀ a, a < 158 ∨ 162 ≤ a → m'.1 a = m.1 a) ∧ m'.2 = m.2
theorem FrK.rf {m : Mem} : FrK m m := ⟨fun _ _ => rfl, fun _ _ => rfl, rfl⟩
theorem FrK.tr {m m' m'' : Mem} (h : FrK m m') (g : FrK m' m'') : FrK m m'' := ⟨fun a ha => (g.1 a ha).trans (h.1 a ha), fun j hj => (g.2.1 j hj).trans (h.2.1 j hj), g.2.2.trans h.2.2⟩
theorem FrP.rf {m : Mem} : FrP m m := ⟨fun _ _ => rfl, rfl⟩
theorem FrP.tr {m m' m'' : Mem} (h : FrP m m') (g : FrP m' m'') : FrP m m'' := ⟨fun a ha => (g.1 a ha).trans (h.1 a ha), g.2.trans h.2⟩
theorem FrP.put {m m' : Mem} {k j : Nat} {v : Int32} (h : FrP m m') (hk : 158 ≤ k ∧ k < 162) : FrP m (si m' k j v) := ⟨fun a ha => by rw [si_ne (by omega)]; exact h.1 a ha, h.2⟩
theorem FrK.p {m m' : Mem} (h : FrK m m') : FrP m m' := ⟨fun a ha => h.1 a (by omega), h.2.2⟩
/-- what the search has laid out -/
def PP (r : Row) (h : Nat) (m : Mem) : Prop := m.1 158 5 = nI (ppl r) ∧ MK (m.1 158 6) (beg r h) ∧ MK (m.1 158 7) (enr r h) ∧ ∀ a, a < ppl r → MK (m.1 159 a) (fol r h a) ∧ m.1 160 a = nI (eN r h a false) ∧ m.1 161 a = nI (eN r h a true)
theorem PP.fr {r : Row} {h : Nat} {m m' : Mem} (p : PP r h m) (g : FrK m m') : PP r h m' := by
  obtain ⟨a1, a2, a3, a4⟩ := p
  refine ⟨by rw [g.2.1 5 (by omega)]; exact a1, by rw [g.2.1 6 (by omega)]; exact a2, by rw [g.2.1 7 (by omega)]; exact a3, fun a ha => ?_⟩
  rw [g.1 159 (by omega), g.1 160 (by omega), g.1 161 (by omega)]
  exact a4 a ha
section SEEK
variable {m : Mem} {r : Row} {h a b c n : Nat} {s : BS}
theorem s1_keep {x1 x2 x3 x4 x5 : Int32} : ∃ m', f_X1_keep x1 x2 x3 x4 x5 m = some m' ∧ FrK m m' ∧ m'.1 158 0 = x1 ∧ m'.1 158 1 = x2 ∧ m'.1 158 2 = x3 ∧ m'.1 158 3 = x4 ∧ m'.1 158 4 = x5 := by
  refine ⟨_, rfl, ⟨fun a ha => ?_, fun j hj => ?_, rfl⟩, ?_, ?_, ?_, ?_, ?_⟩
  · rw [si_ne ha, si_ne ha, si_ne ha, si_ne ha, si_ne ha]
  · rw [si_off (by omega), si_off (by omega), si_off (by omega), si_off (by omega), si_off (by omega)]
  · rw [si_off (by omega), si_off (by omega), si_off (by omega), si_off (by omega), si_at]
  · rw [si_off (by omega), si_off (by omega), si_off (by omega), si_at]
  · rw [si_off (by omega), si_off (by omega), si_at]
  · rw [si_off (by omega), si_at]
  · rw [si_at]
theorem s1_offer {x : Nat} {t : Nat → Nat} {x3 x4 x5 : Int32} (hB : BC r h m s) (hx : x < 1000000) (ht : Tri r n t) (hb : buN r h t n = false) (e3 : x3 = tri n t 0) (e4 : x4 = tri n t 1) (e5 : x5 = tri n t 2) : ∃ m', f_X1_offer (nI x) (nI n) x3 x4 x5 m = some m' ∧ FrK m m' ∧ BC r h m' (ofr x n t s) := by
  obtain ⟨m', k1, k2, k3, k4, k5, k6, k7⟩ := s1_keep (m := m) (x1 := nI x) (x2 := nI n) (x3 := x3) (x4 := x4) (x5 := x5)
  have n0 : ¬ n = 0 := by have := ht.1; omega
  have new : BC r h m' (x, n, t) := by
    refine ⟨⟨hx, ht.2.1, Or.inr ⟨ht, hb⟩⟩, ?_, ?_, fun k hk => ?_⟩
    · rw [k3]; exact (if_neg n0).symm
    · rw [k4]; exact (if_neg n0).symm
    · rcases (show k = 0 ∨ k = 1 ∨ k = 2 by omega) with rfl | rfl | rfl
      · exact k5.trans e3
      · exact k6.trans e4
      · exact k7.trans e5
  have w := hB.1
  unfold f_X1_offer ofr
  rw [hB.2.1]
  by_cases q : s.2.1 = 0
  · rw [if_pos q, if_pos rfl, k1, pz_bnd, if_pos (Or.inl q)]
    exact ⟨_, rfl, k2, new⟩
  · rw [if_neg q, if_neg (by rw [pz_ne1 w.1]; exact id)]
    by_cases z : s.1 ≤ x
    · rw [if_pos (by rw [pz_le w.1 hx]; exact z), if_neg (by rintro (g | g) <;> omega)]
      exact ⟨_, rfl, FrK.rf, hB⟩
    · rw [if_neg (by rw [pz_le w.1 hx]; exact z), k1, pz_bnd, if_pos (Or.inr (by omega))]
      exact ⟨_, rfl, k2, new⟩
theorem g3_out (hc : ppl r ≤ c) : st3 r h a b c s = s := by
  unfold st3
  rw [if_neg]
  intro e
  have := (g3_ok e).1.2.2.1 2 (by omega)
  have : c < ppl r := this
  omega
theorem g2_out (hb : ppl r ≤ b) : st2 r h a b s = s := by
  unfold st2
  rw [if_neg]
  intro e
  have := (g2_ok e).1.2.2.1 1 (by omega)
  have : b < ppl r := this
  omega
theorem g3_outb (hb : ppl r ≤ b) : st3 r h a b c s = s := by
  unfold st3
  rw [if_neg]
  intro e
  have := (g3_ok e).1.2.2.1 1 (by omega)
  have : b < ppl r := this
  omega
theorem s1_thirds (R : RW r) (hh : h < hrs r) (ha : beg r h a = true) (hb : fol r h a b = true) (hP : PP r h m) (hB : BC r h m s) : ∃ m', f_X1_tryThirds (nI a) (nI b) m = some m' ∧ FrK m m' ∧ BC r h m' (fd (st3 r h a b) 10 s) := by
  have h10 := R.1.1.1
  have la := fre_lt (beg_fre ha)
  have lb := fre_lt (fol_fre hb).1
  have M := ((hP.2.2.2 b lb).1.and hP.2.2.1).diff (boI_MK (p := a) (by omega))
  generalize hX : (m.1 159 b &&& m.1 158 7) &&& (boI (nI a) ^^^ (-1)) = X at M
  have e : ∃ m', lp (f_X1_tryThirds_L22 (nI a) (nI b) X) 1000000 (0, m) = some m' ∧ FrK m m' ∧ BC r h m' (fd (st3 r h a b) (ppl r) s) := by
    refine lp_inv (fun i (q : Int32 × Mem) => q.1 = nI i ∧ FrK m q.2 ∧ BC r h q.2 (fd (st3 r h a b) i s)) (N := ppl r) (fun i q hi hI => ?_) (fun q hI => ?_) _ ⟨rfl, FrK.rf, hB⟩ (by omega)
    · obtain ⟨x, m1⟩ := q
      obtain ⟨rfl, f1, b1⟩ := hI
      dsimp only at f1 b1
      have p1 := hP.fr f1
      rw [f_X1_tryThirds_L22, p1.1, if_neg (by rw [pz_le (by omega) (by omega)]; omega), s7_bitOf, pz_bnd, pz_s]
      have eg : g3 r h a b i = (fol r h b i && enr r h i && !decide (i = a)) := by
        unfold g3
        rw [ha, hb]
        cases fol r h b i <;> cases enr r h i <;> by_cases z : i = a <;> simp [z]
      by_cases q : (fol r h b i && enr r h i && !decide (i = a)) = true
      · have q3 : g3 r h a b i = true := by rw [eg]; exact q
        obtain ⟨o1, o2⟩ := g3_ok q3
        have e1 := (p1.2.2.2 a la).2.2
        have e2 := (p1.2.2.2 b lb).2.2
        have e3 := (p1.2.2.2 i hi).2.2
        have c1 := (eN_b R la hh true).2
        have c2 := (eN_b R lb hh true).2
        have c3 := (eN_b R hi hh true).2
        obtain ⟨m2, j1, j2, j3⟩ := s1_offer (x := eN r h a true + eN r h b true + eN r h i true) (n := 3) (t := t3f a b i) (x3 := nI a) (x4 := nI b) (x5 := nI i) b1 (by omega) o1 o2 rfl rfl rfl
        rw [if_neg (by rw [M.has (by omega), q]; simp), pz_in (by omega) (by omega), pz_cl (by omega), e1, pz_nm, pz_in (by omega) (by omega), pz_cl (by omega), e2, pz_nm, pz_in (by omega) (by omega), pz_cl (by omega), e3, pz_nm]
        rw [pz_add, pz_add, show (3 : Int32) = nI 3 from rfl, j1, pz_bnd]
        refine ⟨_, rfl, rfl, f1.tr j2, ?_⟩
        show BC r h m2 (st3 r h a b i (fd (st3 r h a b) i s))
        rw [st3, if_pos q3]
        exact j3
      · rw [if_pos (by rw [M.has (by omega)]; simpa using q), pz_nm]
        refine ⟨_, rfl, rfl, f1, ?_⟩
        show BC r h m1 (st3 r h a b i (fd (st3 r h a b) i s))
        rw [st3, if_neg (by rw [eg]; exact q)]
        exact b1
    · obtain ⟨x, m1⟩ := q
      obtain ⟨rfl, f1, b1⟩ := hI
      dsimp only at f1 b1
      rw [f_X1_tryThirds_L22, (hP.fr f1).1, if_pos (by rw [pz_le (by omega) (by omega)]; omega)]
      exact ⟨_, rfl, f1, b1⟩
  obtain ⟨m', e1, e2, e3⟩ := e
  refine ⟨m', ?_, e2, ?_⟩
  · rw [f_X1_tryThirds, pz_in (by omega) (by omega), pz_cl (by omega), s7_bitOf]
    simp only [pz_nm, pz_bnd]
    rw [hX, e1, pz_bnd]
  · rw [fd_ext (a := ppl r) h10 (fun k s hk => g3_out hk)]
    exact e3
theorem s1_seconds2 (R : RW r) (hh : h < hrs r) (ha : beg r h a = true) (hP : PP r h m) (hB : BC r h m s) : ∃ m', f_X1_trySeconds (nI a) 2 m = some m' ∧ FrK m m' ∧ BC r h m' (fd (st2 r h a) 10 s) := by
  have h10 := R.1.1.1
  have la := fre_lt (beg_fre ha)
  have M := (hP.2.2.2 a la).1.and hP.2.2.1
  generalize hX : m.1 159 a &&& m.1 158 7 = X at M
  have e : ∃ m', lp (f_X1_trySeconds_L29 (nI a) 2 X) 1000000 (0, m) = some m' ∧ FrK m m' ∧ BC r h m' (fd (st2 r h a) (ppl r) s) := by
    refine lp_inv (fun i (q : Int32 × Mem) => q.1 = nI i ∧ FrK m q.2 ∧ BC r h q.2 (fd (st2 r h a) i s)) (N := ppl r) (fun i q hi hI => ?_) (fun q hI => ?_) _ ⟨rfl, FrK.rf, hB⟩ (by omega)
    · obtain ⟨x, m1⟩ := q
      obtain ⟨rfl, f1, b1⟩ := hI
      dsimp only at f1 b1
      have p1 := hP.fr f1
      rw [f_X1_trySeconds_L29, p1.1, if_neg (by rw [pz_le (by omega) (by omega)]; omega), s7_bitOf, pz_bnd, pz_s]
      have eg : g2 r h a i = (fol r h a i && enr r h i) := by
        unfold g2
        rw [ha, Bool.true_and]
      by_cases q : (fol r h a i && enr r h i) = true
      · have q3 : g2 r h a i = true := by rw [eg]; exact q
        obtain ⟨o1, o2⟩ := g2_ok q3
        have e1 := (p1.2.2.2 a la).2.2
        have e3 := (p1.2.2.2 i hi).2.2
        have c1 := (eN_b R la hh true).2
        have c3 := (eN_b R hi hh true).2
        obtain ⟨m2, j1, j2, j3⟩ := s1_offer (x := eN r h a true + eN r h i true) (n := 2) (t := t2f a i) (x3 := nI a) (x4 := nI i) (x5 := -1) b1 (by omega) o1 o2 rfl rfl rfl
        rw [if_neg (by rw [M.has (by omega), q]; simp), if_pos (by decide), pz_in (by omega) (by omega), pz_cl (by omega), e1, pz_nm, pz_in (by omega) (by omega), pz_cl (by omega), e3, pz_nm]
        rw [pz_add, show (2 : Int32) = nI 2 from rfl, j1, pz_bnd]
        refine ⟨_, rfl, rfl, f1.tr j2, ?_⟩
        show BC r h m2 (st2 r h a i (fd (st2 r h a) i s))
        rw [st2, if_pos q3]
        exact j3
      · rw [if_pos (by rw [M.has (by omega)]; simpa using q), pz_nm]
        refine ⟨_, rfl, rfl, f1, ?_⟩
        show BC r h m1 (st2 r h a i (fd (st2 r h a) i s))
        rw [st2, if_neg (by rw [eg]; exact q)]
        exact b1
    · obtain ⟨x, m1⟩ := q
      obtain ⟨rfl, f1, b1⟩ := hI
      dsimp only at f1 b1
      rw [f_X1_trySeconds_L29, (hP.fr f1).1, if_pos (by rw [pz_le (by omega) (by omega)]; omega)]
      exact ⟨_, rfl, f1, b1⟩
  obtain ⟨m', e1, e2, e3⟩ := e
  refine ⟨m', ?_, e2, ?_⟩
  · rw [f_X1_trySeconds, if_pos (by decide), pz_in (by omega) (by omega), pz_cl (by omega)]
    simp only [pz_nm, pz_bnd]
    rw [hX, e1, pz_bnd]
  · rw [fd_ext (a := ppl r) h10 (fun k s hk => g2_out hk)]
    exact e3
theorem s1_seconds3 (R : RW r) (hh : h < hrs r) (ha : beg r h a = true) (hP : PP r h m) (hB : BC r h m s) : ∃ m', f_X1_trySeconds (nI a) 3 m = some m' ∧ FrK m m' ∧ BC r h m' (fd (fun b => fd (st3 r h a b) 10) 10 s) := by
  have h10 := R.1.1.1
  have la := fre_lt (beg_fre ha)
  have M := (hP.2.2.2 a la).1
  generalize hX : m.1 159 a = X at M
  have e : ∃ m', lp (f_X1_trySeconds_L29 (nI a) 3 X) 1000000 (0, m) = some m' ∧ FrK m m' ∧ BC r h m' (fd (fun b => fd (st3 r h a b) 10) (ppl r) s) := by
    refine lp_inv (fun i (q : Int32 × Mem) => q.1 = nI i ∧ FrK m q.2 ∧ BC r h q.2 (fd (fun b => fd (st3 r h a b) 10) i s)) (N := ppl r) (fun i q hi hI => ?_) (fun q hI => ?_) _ ⟨rfl, FrK.rf, hB⟩ (by omega)
    · obtain ⟨x, m1⟩ := q
      obtain ⟨rfl, f1, b1⟩ := hI
      dsimp only at f1 b1
      have p1 := hP.fr f1
      rw [f_X1_trySeconds_L29, p1.1, if_neg (by rw [pz_le (by omega) (by omega)]; omega), s7_bitOf, pz_bnd, pz_s]
      by_cases q : fol r h a i = true
      · obtain ⟨m2, j1, j2, j3⟩ := s1_thirds R hh ha q p1 b1
        rw [if_neg (by rw [M.has (by omega), q]; simp), if_neg (by decide), j1, pz_bnd, pz_nm]
        exact ⟨_, rfl, rfl, f1.tr j2, j3⟩
      · rw [if_pos (by rw [M.has (by omega)]; simpa using q), pz_nm]
        refine ⟨_, rfl, rfl, f1, ?_⟩
        show BC r h m1 (fd (st3 r h a i) 10 (fd (fun b => fd (st3 r h a b) 10) i s))
        rw [fd_id (fun k s _ => by rw [st3, if_neg (by unfold g3; rw [ha]; simp [q])])]
        exact b1
    · obtain ⟨x, m1⟩ := q
      obtain ⟨rfl, f1, b1⟩ := hI
      dsimp only at f1 b1
      rw [f_X1_trySeconds_L29, (hP.fr f1).1, if_pos (by rw [pz_le (by omega) (by omega)]; omega)]
      exact ⟨_, rfl, f1, b1⟩
  obtain ⟨m', e1, e2, e3⟩ := e
  refine ⟨m', ?_, e2, ?_⟩
  · rw [f_X1_trySeconds, if_neg (by decide), pz_in (by omega) (by omega), pz_cl (by omega)]
    simp only [pz_nm, pz_bnd]
    rw [hX, e1, pz_bnd]
  · rw [fd_ext (a := ppl r) h10 (fun k s hk => fd_id (fun c s _ => g3_outb hk))]
    exact e3
end SEEK
