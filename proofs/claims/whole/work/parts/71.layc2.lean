/-! the model's search, its loops -/
section LAYC2
variable {m : Mem} {r : Row} {h n : Nat} {s : BS}
theorem rem10 {i : Nat} (hi : i < 1000000) : nI i - nI i / 10 * 10 = nI (i % 10) := pk_rem (d := 10) (by omega) (by omega) (by omega)
theorem div10 {i : Nat} (hi : i < 1000000) : nI i / 10 = nI (i / 10) := pk_div (d := 10) (by omega) (by omega) (by omega)
theorem s8_l1 (R : RW r) (hh : h < hrs r) (l1 : lst r h = true) (l2 : std r h = false) (hz : m.1 163 = r) (hB : BM r h m s) {i : Nat} (hi : i < ppl r) : ∃ m', f_X8_layCheapest_L38 (nI h) 1 1 (nI i, m) = some (.inl (nI (i + 1), m')) ∧ FrL m m' ∧ BM r h m' (st1 r h i s) := by
  have hn := R.1.1
  have h10 := hn.1
  have ht : Tri r 1 (t1f i) := ⟨by omega, by omega, fun k _ => hi, fun a b ha hb _ => by omega⟩
  obtain ⟨m1, m2, a1, a2, a3, a4⟩ := s8_layTry R hh hz ht hB
  have e1 : (1 : Int32) * nI (ppl r) = nI (ppl r) := by rw [show (1 : Int32) = nI 1 from rfl, pz_mul, Nat.one_mul]
  have e2 : nI i / 1 = nI i := by
    have := pk_div (a := i) (d := 1) (by omega) (by omega) (by omega)
    rw [Nat.div_one] at this
    exact this
  have k1 : f_X8_lay (nI i) (-1) (-1) m = some m1 := a1
  refine ⟨m2, ?_, a3, ?_⟩
  · rw [f_X8_layCheapest_L38, hz, hn.2.1, e1, if_neg (by rw [pz_le (by omega) (by omega)]; omega), gNz, if_neg (by decide), if_pos rfl, pz_bnd, if_neg (by decide), pz_bnd, if_pos (c := (1 : Int32) < 2) (by decide), if_pos (c := (1 : Int32) < 3) (by decide), pz_bnd, if_neg (by decide), e2, k1, pz_bnd, a2, pz_bnd, pz_nm, pz_s]
  · unfold st1
    have eq : smN r h 1 (t1f i) 1 = eN r h i false := Nat.zero_add _
    rw [eq] at a4
    by_cases q : g1 r h i = true
    · rw [if_pos q]
      rw [if_pos ((g1_iff (R.2.1 h hh).2.1 l1 l2 hi).mpr q)] at a4
      exact a4
    · rw [if_neg q]
      rw [if_neg (fun z => q ((g1_iff (R.2.1 h hh).2.1 l1 l2 hi).mp z))] at a4
      exact a4
theorem s8_l2 (R : RW r) (hh : h < hrs r) (l1 : lst r h = true) (l2 : std r h = false) (hz : m.1 163 = r) (hB : BM r h m s) {i : Nat} (hi : i < 10 * ppl r) : ∃ m', f_X8_layCheapest_L38 (nI h) 2 10 (nI i, m) = some (.inl (nI (i + 1), m')) ∧ FrL m m' ∧ BM r h m' (st2 r h (i / 10) (i % 10) s) := by
  have hn := R.1.1
  have h10 := hn.1
  have la : i / 10 < ppl r := by omega
  have e1 : (10 : Int32) * nI (ppl r) = nI (10 * ppl r) := by rw [show (10 : Int32) = nI 10 from rfl, pz_mul]
  have e2 : nI i / 10 = nI (i / 10) := div10 (by omega)
  have e3 : nI i - nI i / 10 * 10 = nI (i % 10) := rem10 (by omega)
  have ee : (nI (i % 10) = nI (i / 10)) = (i % 10 = i / 10) := pz_eq (by omega) (by omega)
  rw [f_X8_layCheapest_L38, hz, hn.2.1, e1, if_neg (by rw [pz_le (by omega) (by omega)]; omega), gNz, if_neg (by decide), if_neg (c := (2 : Int32) = 1) (by decide), if_pos rfl, pz_bnd, if_neg (c := (3 : Int32) ≤ 2) (by decide), pz_bnd, if_neg (c := (2 : Int32) < 2) (by decide), e3, s8_isPerson hz hn, isp_dec hn (by omega), pz_bnd, bI_ite, e2, if_pos (c := (2 : Int32) < 3) (by decide), pz_s]
  by_cases q1 : i % 10 < ppl r
  · rw [if_pos (decide_eq_true q1)]
    by_cases q2 : i % 10 = i / 10
    · rw [if_pos (by rw [ee]; exact q2), pz_bnd, if_pos rfl, pz_nm]
      refine ⟨m, rfl, FrL.rf, ?_⟩
      rw [st2, if_neg (fun g => by
        have := (fol_fre (by unfold g2 at g; rw [Bool.and_eq_true, Bool.and_eq_true] at g; exact g.2.1)).2
        omega)]
      exact hB
    · have ht : Tri r 2 (t2f (i / 10) (i % 10)) := by
        refine ⟨by omega, by omega, fun k _ => ?_, fun x y hx hy q => ?_⟩
        · unfold t2f
          split <;> assumption
        · unfold t2f at q
          rcases (show x = 0 ∨ x = 1 by omega) with rfl | rfl <;> rcases (show y = 0 ∨ y = 1 by omega) with rfl | rfl <;> simp at q <;> omega
      obtain ⟨m1, m2, a1, a2, a3, a4⟩ := s8_layTry R hh hz ht hB
      have k1 : f_X8_lay (nI (i / 10)) (nI (i % 10)) (-1) m = some m1 := a1
      rw [if_neg (by rw [ee]; exact q2), pz_bnd, if_neg (by decide), k1, pz_bnd, a2, pz_bnd, pz_nm]
      refine ⟨m2, rfl, a3, ?_⟩
      unfold st2
      have eq : smN r h 2 (t2f (i / 10) (i % 10)) 2 = eN r h (i / 10) true + eN r h (i % 10) true := by
        show 0 + eN r h (i / 10) true + eN r h (i % 10) true = _
        rw [Nat.zero_add]
      rw [eq] at a4
      have gi := g2_iff (a := i / 10) (b := i % 10) (R.2.1 h hh).2.1 l1 l2 la q1 q2
      by_cases q : g2 r h (i / 10) (i % 10) = true
      · rw [if_pos q]
        rw [if_pos (gi.mpr q)] at a4
        exact a4
      · rw [if_neg q]
        rw [if_neg (fun z => q (gi.mp z))] at a4
        exact a4
  · rw [if_neg (by rw [decide_eq_true_eq]; exact q1), pz_bnd, if_pos rfl, pz_nm]
    refine ⟨m, rfl, FrL.rf, ?_⟩
    rw [g2_out (by omega)]
    exact hB
theorem s8_l3 (R : RW r) (hh : h < hrs r) (l1 : lst r h = true) (l2 : std r h = false) (hz : m.1 163 = r) (hB : BM r h m s) {i : Nat} (hi : i < 100 * ppl r) : ∃ m', f_X8_layCheapest_L38 (nI h) 3 100 (nI i, m) = some (.inl (nI (i + 1), m')) ∧ FrL m m' ∧ BM r h m' (st3 r h (i / 10 / 10) (i / 10 % 10) (i % 10) s) := by
  have hn := R.1.1
  have h10 := hn.1
  have la : i / 10 / 10 < ppl r := by omega
  have e1 : (100 : Int32) * nI (ppl r) = nI (100 * ppl r) := by rw [show (100 : Int32) = nI 100 from rfl, pz_mul]
  have e2 : nI i / 100 = nI (i / 10 / 10) := by
    have := pk_div (a := i) (d := 100) (by omega) (by omega) (by omega)
    rw [show i / 100 = i / 10 / 10 by omega] at this
    exact this
  have e3 : nI i - nI i / 10 * 10 = nI (i % 10) := rem10 (by omega)
  have e5 : nI i / 10 = nI (i / 10) := div10 (by omega)
  have e4 : nI i / 10 - nI i / 10 / 10 * 10 = nI (i / 10 % 10) := by rw [e5]; exact rem10 (by omega)
  have ee : (nI (i / 10 % 10) = nI (i / 10 / 10)) = (i / 10 % 10 = i / 10 / 10) := pz_eq (by omega) (by omega)
  have ee2 : (nI (i % 10) = nI (i / 10 / 10)) = (i % 10 = i / 10 / 10) := pz_eq (by omega) (by omega)
  have ee3 : (nI (i % 10) = nI (i / 10 % 10)) = (i % 10 = i / 10 % 10) := pz_eq (by omega) (by omega)
  rw [f_X8_layCheapest_L38, hz, hn.2.1, e1, if_neg (by rw [pz_le (by omega) (by omega)]; omega), gNz, if_neg (by decide), if_neg (c := (3 : Int32) = 1) (by decide), if_neg (c := (3 : Int32) = 2) (by decide), e4, pz_nm, pz_bnd, if_pos (c := (3 : Int32) ≤ 3) (by decide), e3, pz_bnd, if_neg (c := (3 : Int32) < 2) (by decide), s8_isPerson hz hn, isp_dec hn (by omega), pz_bnd, bI_ite, s8_isPerson hz hn, isp_dec hn (by omega), pz_bnd, bI_ite, e2, if_neg (c := (3 : Int32) < 3) (by decide), pz_s]
  by_cases q1 : i / 10 % 10 < ppl r
  case neg =>
    rw [if_neg (by rw [decide_eq_true_eq]; exact q1), pz_bnd, if_pos rfl, pz_nm]
    refine ⟨m, rfl, FrL.rf, ?_⟩
    rw [g3_outb (by omega)]
    exact hB
  rw [if_pos (decide_eq_true q1)]
  by_cases q2 : i / 10 % 10 = i / 10 / 10
  · rw [if_pos (by rw [ee]; exact q2), pz_bnd, if_pos rfl, pz_nm]
    refine ⟨m, rfl, FrL.rf, ?_⟩
    rw [st3, if_neg (fun g => by
      have := (fol_fre (by unfold g3 at g; rw [Bool.and_eq_true, Bool.and_eq_true] at g; exact g.2.1)).2
      omega)]
    exact hB
  rw [if_neg (by rw [ee]; exact q2)]
  by_cases q3 : i % 10 < ppl r
  case neg =>
    rw [if_neg (by rw [decide_eq_true_eq]; exact q3), pz_bnd, if_pos rfl, pz_nm]
    refine ⟨m, rfl, FrL.rf, ?_⟩
    rw [g3_out (by omega)]
    exact hB
  rw [if_pos (decide_eq_true q3)]
  by_cases q4 : i % 10 = i / 10 / 10
  · rw [if_pos (by rw [ee2]; exact q4), pz_bnd, if_pos rfl, pz_nm]
    refine ⟨m, rfl, FrL.rf, ?_⟩
    rw [st3, if_neg (fun g => by
      unfold g3 at g
      rw [Bool.and_eq_true, Bool.and_eq_true, Bool.and_eq_true, Bool.and_eq_true] at g
      exact of_decide_eq_true g.2.2.2.2 q4)]
    exact hB
  rw [if_neg (by rw [ee2]; exact q4)]
  by_cases q5 : i % 10 = i / 10 % 10
  · rw [if_pos (by rw [ee3]; exact q5), pz_bnd, if_pos rfl, pz_nm]
    refine ⟨m, rfl, FrL.rf, ?_⟩
    rw [st3, if_neg (fun g => by
      have := (fol_fre (by unfold g3 at g; rw [Bool.and_eq_true, Bool.and_eq_true, Bool.and_eq_true] at g; exact g.2.2.1)).2
      omega)]
    exact hB
  rw [if_neg (by rw [ee3]; exact q5)]
  have ht : Tri r 3 (t3f (i / 10 / 10) (i / 10 % 10) (i % 10)) := by
    refine ⟨by omega, by omega, fun k _ => ?_, fun x y hx hy q => ?_⟩
    · unfold t3f
      split
      · assumption
      · split <;> assumption
    · unfold t3f at q
      rcases (show x = 0 ∨ x = 1 ∨ x = 2 by omega) with rfl | rfl | rfl <;> rcases (show y = 0 ∨ y = 1 ∨ y = 2 by omega) with rfl | rfl | rfl <;> simp at q <;> omega
  obtain ⟨m1, m2, a1, a2, a3, a4⟩ := s8_layTry R hh hz ht hB
  have k1 : f_X8_lay (nI (i / 10 / 10)) (nI (i / 10 % 10)) (nI (i % 10)) m = some m1 := a1
  rw [pz_bnd, if_neg (by decide), k1, pz_bnd, a2, pz_bnd, pz_nm]
  refine ⟨m2, rfl, a3, ?_⟩
  unfold st3
  have eq : smN r h 3 (t3f (i / 10 / 10) (i / 10 % 10) (i % 10)) 3 = eN r h (i / 10 / 10) true + eN r h (i / 10 % 10) true + eN r h (i % 10) true := by
    show 0 + eN r h (i / 10 / 10) true + eN r h (i / 10 % 10) true + eN r h (i % 10) true = _
    rw [Nat.zero_add]
  rw [eq] at a4
  have gi := g3_iff (a := i / 10 / 10) (b := i / 10 % 10) (c := i % 10) (R.2.1 h hh).2.1 l1 l2 la q1 q3 q2 q5 q4
  by_cases q : g3 r h (i / 10 / 10) (i / 10 % 10) (i % 10) = true
  · rw [if_pos q]
    rw [if_pos (gi.mpr q)] at a4
    exact a4
  · rw [if_neg q]
    rw [if_neg (fun z => q (gi.mp z))] at a4
    exact a4
/-- one of the three loops -/
theorem s8_lw {x y : Int32} {N : Nat} {st : Nat → BS → BS} (R : RW r) (hz : m.1 163 = r) (hB : BM r h m s) (hN : N ≤ 1000) (hy : y * nI (ppl r) = nI N) (step : ∀ i m1 s, i < N → m1.1 163 = r → BM r h m1 s → ∃ m', f_X8_layCheapest_L38 (nI h) x y (nI i, m1) = some (.inl (nI (i + 1), m')) ∧ FrL m1 m' ∧ BM r h m' (st i s)) : ∃ m', lp (f_X8_layCheapest_L38 (nI h) x y) 1000000 (0, m) = some m' ∧ FrL m m' ∧ BM r h m' (fd st N s) := by
  have hn := R.1.1
  refine lp_inv (fun i (q : Int32 × Mem) => q.1 = nI i ∧ FrL m q.2 ∧ BM r h q.2 (fd st i s)) (N := N) (fun i q hi hI => ?_) (fun q hI => ?_) _ ⟨rfl, FrL.rf, hB⟩ (by omega)
  · obtain ⟨w, m1⟩ := q
    obtain ⟨rfl, f1, b1⟩ := hI
    dsimp only at f1 b1
    obtain ⟨m2, j1, j2, j3⟩ := step i m1 _ hi (by rw [f1.1 163 (by omega) (by omega) (by omega)]; exact hz) b1
    exact ⟨_, j1, rfl, f1.tr j2, j3⟩
  · obtain ⟨w, m1⟩ := q
    obtain ⟨rfl, f1, b1⟩ := hI
    dsimp only at f1 b1
    rw [f_X8_layCheapest_L38, f1.1 163 (by omega) (by omega) (by omega), hz, hn.2.1, hy, if_pos (by rw [pz_le (by omega) (by omega)]; omega)]
    exact ⟨_, rfl, f1, b1⟩
theorem s8_layCheapest (R : RW r) (hh : h < hrs r) (l1 : lst r h = true) (l2 : std r h = false) (hz : m.1 163 = r) : ∃ m', f_X8_layCheapest (nI h) m = some (bI (decide (¬ (sr3 r h).2.1 = 0)), m') ∧ FrL m m' ∧ BM r h m' (sr3 r h) := by
  have hn := R.1.1
  have h10 := hn.1
  have b0 : BM r h (si m 162 12 1000000) bs0 := ⟨BW0, by rw [si_at]; rfl, fun q => absurd rfl q⟩
  have f0 : FrL m (si m 162 12 1000000) := FrL.rf.p2 (by omega)
  have z : ∀ {m1 : Mem}, FrL m m1 → m1.1 163 = r := fun f => by rw [f.1 163 (by omega) (by omega) (by omega)]; exact hz
  obtain ⟨m1, a1, a2, a3⟩ := s8_lw (x := 1) (y := 1) (N := ppl r) (st := st1 r h) R (z f0) b0 (by omega) (by rw [show (1 : Int32) = nI 1 from rfl, pz_mul, Nat.one_mul]) (fun i m1 s hi hz b => s8_l1 R hh l1 l2 hz b hi)
  obtain ⟨m2, b1, b2, b3⟩ := s8_lw (x := 2) (y := 10) (N := 10 * ppl r) (st := fun c => st2 r h (c / 10) (c % 10)) R (z (f0.tr a2)) a3 (by omega) (by rw [show (10 : Int32) = nI 10 from rfl, pz_mul]) (fun i m1 s hi hz b => s8_l2 R hh l1 l2 hz b hi)
  rw [fd_10 (g := st2 r h)] at b3
  obtain ⟨m3, c1, c2, c3⟩ := s8_lw (x := 3) (y := 100) (N := 100 * ppl r) (st := fun c => st3 r h (c / 10 / 10) (c / 10 % 10) (c % 10)) R (z ((f0.tr a2).tr b2)) b3 (by omega) (by rw [show (100 : Int32) = nI 100 from rfl, pz_mul]) (fun i m1 s hi hz b => s8_l3 R hh l1 l2 hz b hi)
  rw [show 100 * ppl r = 10 * (10 * ppl r) by omega, fd_10 (g := fun d => st3 r h (d / 10) (d % 10)), fd_10 (g := fun a b => fd (st3 r h a b) 10)] at c3
  have k1 : f_X8_layCheapest_L8 (nI h) (1, si m 162 12 1000000) = some (.inl (2, m1)) := by
    rw [f_X8_layCheapest_L8, if_neg (by decide), if_pos rfl, pz_bnd, a1, pz_bnd, pz_nm]
    rfl
  have k2 : f_X8_layCheapest_L8 (nI h) (2, m1) = some (.inl (3, m2)) := by
    rw [f_X8_layCheapest_L8, if_neg (by decide), if_neg (by decide), if_pos rfl, pz_bnd, b1, pz_bnd, pz_nm]
    rfl
  have k3 : f_X8_layCheapest_L8 (nI h) (3, m2) = some (.inl (4, m3)) := by
    rw [f_X8_layCheapest_L8, if_neg (by decide), if_neg (by decide), if_neg (by decide), pz_bnd, c1, pz_bnd, pz_nm]
    rfl
  have k4 : f_X8_layCheapest_L8 (nI h) (4, m3) = some (.inr m3) := by
    rw [f_X8_layCheapest_L8, if_pos (by decide)]
  have e : lp (f_X8_layCheapest_L8 (nI h)) 1000000 (1, si m 162 12 1000000) = some m3 := (lp_st (k := 999999) k1).trans ((lp_st (k := 999998) k2).trans ((lp_st (k := 999997) k3).trans (lp_en (k := 999996) k4)))
  have c4 : BM r h m3 (sr3 r h) := c3
  refine ⟨m3, ?_, ((f0.tr a2).tr b2).tr c2, c4⟩
  rw [f_X8_layCheapest, pz_nm, e, pz_bnd, c4.2.1]
  have w := c4.1.1
  by_cases q : (sr3 r h).2.1 = 0
  · rw [if_pos q, if_pos (by decide), decide_eq_false (fun g => g q)]
    rfl
  · rw [if_neg q, if_neg (by rw [show (1000000 : Int32) = nI 1000000 from rfl, nI_leI (by omega) (by omega)]; omega), decide_eq_true q]
    rfl
/-- what a search answers -/
def fvR (s : BS) (k : Nat) : Int32 := if s.2.1 = 0 then -1 else if k = 0 then nI s.1 else if k = 1 then nI s.2.1 else tri s.2.1 s.2.2 (k - 2)
theorem s1_found {k : Nat} (hB : BC r h m s) (hk : k < 5) : f_X1_found (nI k) m = some (fvR s k) := by
  obtain ⟨-, b1, b2, b3⟩ := hB
  have t0 : s.2.1 = 0 → ∀ k, tri s.2.1 s.2.2 k = -1 := fun q k => by unfold tri; rw [if_neg (by omega)]
  have c0 := b3 0 (by omega)
  have c1 := b3 1 (by omega)
  have c2 := b3 2 (by omega)
  unfold f_X1_found fvR
  rw [b1, b2, c0, c1, c2]
  by_cases q : s.2.1 = 0
  · simp only [if_pos q, t0 q]
    rcases (show k = 0 ∨ k = 1 ∨ k = 2 ∨ k = 3 ∨ k = 4 by omega) with rfl | rfl | rfl | rfl | rfl <;> rfl
  · simp only [if_neg q]
    rcases (show k = 0 ∨ k = 1 ∨ k = 2 ∨ k = 3 ∨ k = 4 by omega) with rfl | rfl | rfl | rfl | rfl <;> rfl
theorem s8_cheapNow {k : Nat} (R : RW r) (hh : h < hrs r) (hz : m.1 163 = r) (hk : k < 5) : ∃ m', f_X8_cheapestNow (nI h) (nI k) m = some (fvR (srch r h) k, m') ∧ FrL m m' := by
  have h30 := R.1.1.2.2.1
  rw [f_X8_cheapestNow, s8_isOpen hz (by omega), pz_bnd, bI_ite]
  unfold srch
  by_cases q : (lst r h && !std r h) = true
  · rw [if_pos q, if_pos q]
    rw [Bool.and_eq_true] at q
    obtain ⟨m', a1, a2, a3⟩ := s8_layCheapest (m := m) R hh q.1 (by simpa using q.2) hz
    refine ⟨m', ?_, a2⟩
    rw [a1, pz_bnd2, bI_ite]
    unfold fvR
    by_cases z : (sr3 r h).2.1 = 0
    · rw [if_neg (by simpa using z), if_pos z]
    · obtain ⟨b1, b2⟩ := a3.2.2 z
      rw [if_pos (decide_eq_true z), if_neg z, a3.2.1, if_neg z, b1]
      rcases (show k = 0 ∨ k = 1 ∨ k = 2 ∨ k = 3 ∨ k = 4 by omega) with rfl | rfl | rfl | rfl | rfl
      · rw [if_pos rfl]; rfl
      · rw [if_neg (by decide), if_pos rfl]; rfl
      · rw [if_neg (by decide), if_neg (by decide), show nI 2 - 2 = nI 0 from by decide, pz_in (by omega) (by omega), pz_cl (by omega), b2 0 (by omega)]; rfl
      · rw [if_neg (by decide), if_neg (by decide), show nI 3 - 2 = nI 1 from by decide, pz_in (by omega) (by omega), pz_cl (by omega), b2 1 (by omega)]; rfl
      · rw [if_neg (by decide), if_neg (by decide), show nI 4 - 2 = nI 2 from by decide, pz_in (by omega) (by omega), pz_cl (by omega), b2 2 (by omega)]; rfl
  · rw [if_neg q, if_neg q]
    exact ⟨m, rfl, FrL.rf⟩
end LAYC2
