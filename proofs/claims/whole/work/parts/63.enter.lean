/-! the class enters a text's hearings -/
section ENTER
variable {m : Mem} {b : Nat → Nat} {N t : Nat} {r : Row}
/-- cells 1 to 19 and 157 alone may differ -/
def FrE (m m' : Mem) : Prop := (∀ a, a < 1 ∨ (20 ≤ a ∧ a ≠ 157) → m'.1 a = m.1 a) ∧ m'.2 = m.2
theorem FrE.rf {m : Mem} : FrE m m := ⟨fun _ _ => rfl, rfl⟩
theorem FrE.tr {m m' m'' : Mem} (h : FrE m m') (g : FrE m' m'') : FrE m m'' := ⟨fun a ha => (g.1 a ha).trans (h.1 a ha), g.2.trans h.2⟩
theorem FrC.e {m m' : Mem} (h : FrC 1 m m') : FrE m m' := ⟨fun a ha => h.1 a (by omega), h.2⟩
theorem Fr157.e {m m' : Mem} (h : Fr157 m m') : FrE m m' := ⟨fun a ha => h.1 a (by omega), h.2⟩
theorem PCl.fr {m m' : Mem} {P : PT} (h : PCl m P) (g : m'.1 157 = m.1 157) : PCl m' P := by
  obtain ⟨a1, a2, a3, a4, a5, a6, a7, a8, a9⟩ := h
  exact ⟨a1, a2, a3, by rw [g]; exact a4, by rw [g]; exact a5, fun w => by rw [g]; exact a6 w, fun w => by rw [g]; exact a7 w, fun w => by rw [g]; exact a8 w, fun w => by rw [g]; exact a9 w⟩
theorem s5_enterOne {P : PT} {R : Row} (hC : CR 1 m R) (hn : NumW R) (h30 : hrs R < 30) (e9 : R 9 = nI t) (hP : PCl m P) (h4 : P.1 = 4) : ∃ m', f_X5_enterOne 1 m = some m' ∧ CR 1 m' (entR R (nI (pent P 0)) (nI (pent P 1)) (nI (t + pent P 2)) (nI (pent P 3))) ∧ FrC 1 m m' := by
  obtain ⟨s, n, kd, lg, vi, vl⟩ := P
  obtain ⟨-, -, -, -, -, p2, p3, p4, p5⟩ := hP
  dsimp only at h4 p2 p3 p4 p5
  obtain ⟨m', e1, e2, e3⟩ := s3_enter (kd := nI kd) (lg := nI lg) (s := nI (t + vi)) (len := nI vl) hC hn h30
  refine ⟨m', ?_, e2, e3⟩
  rw [f_X5_enterOne, hC.1.minute, e9, p2 (by omega), p3 (by omega), p4 (by omega), p5 h4, pz_add, pz_nm, e1, pz_bnd2]
theorem s5_enterL (h5 : m.1 155 0 = nI N) (hN : N ≤ 60) (hb : ∀ i, i < N → m.1 156 i = nI (b i) ∧ b i ≤ 200) (hC : CR 1 m r) (R : RW r) (e9 : r 9 = nI t) (ht : t ≤ 20000) (hP0 : PCl m (0, 0, 0, 0, 0, 0)) {PF : PT} (hF : pR b N = some PF) (h30 : hrs r + PF.2.1 ≤ 30) : ∃ q, lp (f_X5_enterAll_L6 1) 1000000 (0, m) = some q ∧ (CR 1 q (rE r t (rL b N) PF.2.1) ∧ PCl q PF ∧ FrE m q) := by
  -- every beginning of the text is faultless, and no hearing done is lost
  have all : ∀ d i, i + d = N → ∃ P, pR b i = some P ∧ P.2.1 ≤ PF.2.1 := by
    intro d
    induction d with
    | zero =>
      intro i hi
      have : i = N := by omega
      rw [this]
      exact ⟨PF, hF, Nat.le_refl _⟩
    | succ d ih =>
      intro i hi
      obtain ⟨P', h1, h2⟩ := ih (i + 1) (by omega)
      cases e : pR b i with
      | none =>
        rw [pR_none e 1] at h1
        cases h1
      | some P =>
        rw [pR_s e] at h1
        refine ⟨P, rfl, ?_⟩
        rcases pstep_n h1 (pR_PB e).1 with ⟨-, -, -, q⟩ | ⟨-, -, q⟩ <;> omega
  refine lp_inv (fun i (s : Int32 × Mem) => s.1 = nI i ∧ ∃ P, pR b i = some P ∧ CR 1 s.2 (rE r t (rL b i) P.2.1) ∧ PCl s.2 P ∧ FrE m s.2) (N := N) (fun i s hi hI => ?_) (fun s hI => ?_) _ ⟨rfl, (0, 0, 0, 0, 0, 0), rfl, hC, hP0, FrE.rf⟩ (by omega)
  · obtain ⟨x, m1⟩ := s
    obtain ⟨rfl, P, hP, c1, p1, f1⟩ := hI
    dsimp only at c1 p1 f1
    obtain ⟨P', hP', hle'⟩ := all (N - (i + 1)) (i + 1) (by omega)
    obtain ⟨Pq, hPq, hle⟩ := all (N - i) i (by omega)
    rw [hP] at hPq
    cases hPq
    have st := hP'
    rw [pR_s hP] at st
    obtain ⟨g1, g2⟩ := hb i hi
    have e60 : (60 ≤ nI i) = (60 ≤ i) := pz_le (a := (60 : Nat)) (by decide) (by omega)
    have code : ∀ mx : Mem, FrE m mx → f_X0_codeAt (nI i) mx = some (nI (b i)) := fun mx fx => by
      rw [f_X0_codeAt, if_neg (by rw [pz_not0 (by omega)]; exact id), if_neg (by rw [e60]; omega), pz_in (by omega) (by omega), pz_cl (by omega), fx.1 156 (by omega), g1, pz_nm]
    have rl : rL b (i + 1) = pL P (b i) (rL b i) := by rw [rL, hP]
    have e44 : (nI (b i) = 44) = (b i = 44) := pz_eq (b := (44 : Nat)) (by omega) (by decide)
    rw [f_X5_enterAll_L6, f1.1 155 (by omega), h5, if_neg (by rw [pz_le (by omega) (by omega)]; omega), code m1 f1, pz_bnd]
    have rw0 := rE_RW (L := rL b i) R e9 ht P.2.1 (by omega) (rL_EB hP)
    rcases pstep_n st (pR_PB hP).1 with ⟨q1, q2, q3, q4⟩ | ⟨q1, q2, q3⟩
    · obtain ⟨m2, t1, t2, t3⟩ := s5_enterOne (t := t) c1 rw0.1.1.1 (by rw [rw0.2.2]; omega) rw0.2.1 p1 q1
      obtain ⟨m3, u1, u2, u3⟩ := s5_take (p1.fr (t3.1 157 (by omega))) g2
      rw [if_pos (by rw [e44]; exact q2), t1, pz_bnd, pz_bnd, code m2 (f1.tr t3.e), pz_bnd, u1, pz_bnd2, pz_s, pz_nm]
      refine ⟨_, rfl, rfl, P', hP', ?_, u3 P' st, f1.tr (t3.e.tr u2.e)⟩
      have er : rE r t (rL b (i + 1)) P'.2.1 = entR (rE r t (rL b i) P.2.1) (nI (pent P 0)) (nI (pent P 1)) (nI (t + pent P 2)) (nI (pent P 3)) := by
        rw [q4, rE, rl]
        have un : pL P (b i) (rL b i) = (fun k j => if k = P.2.1 then pent P j else rL b i k j) := by unfold pL; rw [if_pos ⟨q1, q2⟩]
        rw [un]
        simp only [if_true]
        rw [rE_cong (L := fun k j => if k = P.2.1 then pent P j else rL b i k j) (L' := rL b i) (fun k hk => by
          funext j
          rw [if_neg (by omega)])]
      rw [er]
      exact t2.fr fun a _ _ => u2.1 a (by omega)
    · obtain ⟨m3, u1, u2, u3⟩ := s5_take p1 g2
      rw [if_neg (by rw [e44]; exact q2), pz_bnd, code m1 f1, pz_bnd, u1, pz_bnd2, pz_s, pz_nm]
      refine ⟨_, rfl, rfl, P', hP', ?_, u3 P' st, f1.tr u2.e⟩
      have un : pL P (b i) (rL b i) = rL b i := by unfold pL; rw [if_neg q1]
      rw [q3, rl, un]
      exact c1.fr fun a _ _ => u2.1 a (by omega)
  · obtain ⟨x, m1⟩ := s
    obtain ⟨rfl, P, hP, c1, p1, f1⟩ := hI
    dsimp only at c1 p1 f1
    rw [hF] at hP
    cases hP
    rw [f_X5_enterAll_L6, f1.1 155 (by omega), h5, if_pos (by rw [pz_le (by omega) (by omega)]; omega)]
    exact ⟨_, rfl, c1, p1, f1⟩
end ENTER
