/-! the model's search -/
def BM (r : Row) (h : Nat) (m : Mem) (s : BS) : Prop := BW r h s ∧ m.1 162 12 = (if s.2.1 = 0 then nI 1000000 else nI s.1) ∧ (s.2.1 ≠ 0 → m.1 162 13 = nI s.2.1 ∧ ∀ k, k < 3 → m.1 168 k = tri s.2.1 s.2.2 k)
/-- the search's own cells alone differ -/
def FrL (m m' : Mem) : Prop := (∀ a, a ≠ 162 → a ≠ 166 → a ≠ 168 → m'.1 a = m.1 a) ∧ (∀ j, j ≠ 7 → j ≠ 12 → j ≠ 13 → m'.1 162 j = m.1 162 j) ∧ m'.2 = m.2
theorem FrL.rf {m : Mem} : FrL m m := ⟨fun _ _ _ _ => rfl, fun _ _ _ _ => rfl, rfl⟩
theorem FrL.tr {m m' m'' : Mem} (h : FrL m m') (g : FrL m' m'') : FrL m m'' := ⟨fun a h1 h2 h3 => (g.1 a h1 h2 h3).trans (h.1 a h1 h2 h3), fun j h1 h2 h3 => (g.2.1 j h1 h2 h3).trans (h.2.1 j h1 h2 h3), g.2.2.trans h.2.2⟩
theorem FrL.p2 {m m' : Mem} {j : Nat} {x : Int32} (h : FrL m m') (hj : j = 7 ∨ j = 12 ∨ j = 13) : FrL m (si m' 162 j x) := ⟨fun a h1 h2 h3 => by rw [si_ne h1]; exact h.1 a h1 h2 h3, fun i h1 h2 h3 => by rw [si_off (by omega)]; exact h.2.1 i h1 h2 h3, h.2.2⟩
def smN (r : Row) (h n : Nat) (t : Nat → Nat) : Nat → Nat
  | 0 => 0
  | k + 1 => smN r h n t k + eN r h (t k) (decide (1 < n))
theorem isp_dec {r : Row} (hn : NumW r) {b : Nat} (hb : b < 1000000) : isp r (nI b) = decide (b < ppl r) := by
  by_cases q : b < ppl r
  · rw [isp_nI hn q, decide_eq_true q]
  · rw [decide_eq_false q]
    cases e : isp r (nI b)
    · rfl
    · obtain ⟨p, hp, e2⟩ := isp_of hn e
      have := hn.1
      rw [pz_eq hb (by omega)] at e2
      omega
theorem bt_dec {l : Nat} (hl : l < 10) (x : Int32) : decide (¬ x &&& boI (nI l) = 0) = bt x l := by
  have := and_bo x hl
  cases q : bt x l
  · exact decide_eq_false (by rw [this, q]; simp)
  · exact decide_eq_true (by rw [this, q]; simp)
section LAYC
variable {m : Mem} {r : Row} {h a b c n : Nat} {s : BS} {t : Nat → Nat}
theorem g1_iff (hl : lngR r h < 10) (l1 : lst r h = true) (l2 : std r h = false) (la : a < ppl r) : rsnR r h 1 (t1f a) = 0 ↔ g1 r h a = true := by
  have e1 : chOK r (lngR r h) 1 (t1f a) = (bt (r (13 + a)) (lngR r h) && bt (r (13 + a)) 0) := by
    show ((true && decide (¬ r (13 + a) &&& boI (nI (lngR r h)) = 0)) && bt (r (13 + a)) 0) = _
    rw [bt_dec hl, Bool.true_and]
  have e2 : ceN r (kndR r h) (t1f a) 1 = bt (r (23 + a)) (kndR r h) := Bool.true_and _
  have e3 : buN r h (t1f a) 1 = busy r (nI a) h := Bool.false_or _
  unfold rsnR g1 beg enr fre
  rw [e1, e2, e3, l1, l2, decide_eq_true la]
  generalize bt (r (13 + a)) (lngR r h) = x1
  generalize bt (r (13 + a)) 0 = x2
  generalize bt (r (23 + a)) (kndR r h) = x3
  generalize busy r (nI a) h = x4
  cases x1 <;> cases x2 <;> cases x3 <;> cases x4 <;> decide
theorem g2_iff (hl : lngR r h < 10) (l1 : lst r h = true) (l2 : std r h = false) (la : a < ppl r) (lb : b < ppl r) (ne : b ≠ a) : rsnR r h 2 (t2f a b) = 0 ↔ g2 r h a b = true := by
  have e1 : chOK r (lngR r h) 2 (t2f a b) = ((bt (r (13 + a)) (lngR r h) && decide (¬ r (13 + b) &&& r (13 + a) = 0)) && bt (r (13 + b)) 0) := by
    show (((true && decide (¬ r (13 + a) &&& boI (nI (lngR r h)) = 0)) && decide (¬ r (13 + b) &&& r (13 + a) = 0)) && bt (r (13 + b)) 0) = _
    rw [bt_dec hl, Bool.true_and]
  have e2 : ceN r (kndR r h) (t2f a b) 2 = (bt (r (23 + a)) (kndR r h) && bt (r (23 + b)) (kndR r h)) := by
    show ((true && bt (r (23 + a)) (kndR r h)) && bt (r (23 + b)) (kndR r h)) = _
    rw [Bool.true_and]
  have e3 : buN r h (t2f a b) 2 = (busy r (nI a) h || busy r (nI b) h) := by
    show ((false || busy r (nI a) h) || busy r (nI b) h) = _
    rw [Bool.false_or]
  unfold rsnR g2 beg fol enr fre
  rw [e1, e2, e3, l1, l2, decide_eq_true la, decide_eq_true lb, decide_eq_true ne]
  generalize bt (r (13 + a)) (lngR r h) = x1
  generalize bt (r (13 + b)) 0 = x2
  generalize bt (r (23 + a)) (kndR r h) = x3
  generalize busy r (nI a) h = x4
  generalize bt (r (23 + b)) (kndR r h) = x5
  generalize busy r (nI b) h = x6
  generalize decide (¬ r (13 + b) &&& r (13 + a) = 0) = x7
  cases x1 <;> cases x2 <;> cases x3 <;> cases x4 <;> cases x5 <;> cases x6 <;> cases x7 <;> decide
theorem g3_iff (hl : lngR r h < 10) (l1 : lst r h = true) (l2 : std r h = false) (la : a < ppl r) (lb : b < ppl r) (lc : c < ppl r) (ne : b ≠ a) (ne2 : c ≠ b) (ne3 : c ≠ a) : rsnR r h 3 (t3f a b c) = 0 ↔ g3 r h a b c = true := by
  have e1 : chOK r (lngR r h) 3 (t3f a b c) = (((bt (r (13 + a)) (lngR r h) && decide (¬ r (13 + b) &&& r (13 + a) = 0)) && decide (¬ r (13 + c) &&& r (13 + b) = 0)) && bt (r (13 + c)) 0) := by
    show ((((true && decide (¬ r (13 + a) &&& boI (nI (lngR r h)) = 0)) && decide (¬ r (13 + b) &&& r (13 + a) = 0)) && decide (¬ r (13 + c) &&& r (13 + b) = 0)) && bt (r (13 + c)) 0) = _
    rw [bt_dec hl, Bool.true_and]
  have e2 : ceN r (kndR r h) (t3f a b c) 3 = ((bt (r (23 + a)) (kndR r h) && bt (r (23 + b)) (kndR r h)) && bt (r (23 + c)) (kndR r h)) := by
    show (((true && bt (r (23 + a)) (kndR r h)) && bt (r (23 + b)) (kndR r h)) && bt (r (23 + c)) (kndR r h)) = _
    rw [Bool.true_and]
  have e3 : buN r h (t3f a b c) 3 = ((busy r (nI a) h || busy r (nI b) h) || busy r (nI c) h) := by
    show (((false || busy r (nI a) h) || busy r (nI b) h) || busy r (nI c) h) = _
    rw [Bool.false_or]
  unfold rsnR g3 beg fol enr fre
  rw [e1, e2, e3, l1, l2, decide_eq_true la, decide_eq_true lb, decide_eq_true lc, decide_eq_true ne, decide_eq_true ne2, decide_eq_true ne3]
  generalize bt (r (13 + a)) (lngR r h) = x1
  generalize bt (r (13 + c)) 0 = x2
  generalize bt (r (23 + a)) (kndR r h) = x3
  generalize busy r (nI a) h = x4
  generalize bt (r (23 + b)) (kndR r h) = x5
  generalize busy r (nI b) h = x6
  generalize decide (¬ r (13 + b) &&& r (13 + a) = 0) = x7
  generalize decide (¬ r (13 + c) &&& r (13 + b) = 0) = x8
  generalize bt (r (23 + c)) (kndR r h) = x9
  generalize busy r (nI c) h = x10
  cases x1
  · simp
  cases x2
  · simp
  cases x7
  · simp
  cases x8
  · simp
  cases x3 <;> cases x4 <;> cases x5 <;> cases x6 <;> cases x9 <;> cases x10 <;> decide
theorem smN_b (R : RW r) (hh : h < hrs r) (ht : Tri r n t) : ∀ k, k ≤ n → smN r h n t k ≤ 122500 * k
  | 0, _ => Nat.le_refl 0
  | k + 1, hk => by
    have := smN_b R hh ht k (by omega)
    have := (eN_b R (ht.2.2.1 k (by omega)) hh (decide (1 < n))).2
    show smN r h n t k + eN r h (t k) (decide (1 < n)) ≤ _
    omega
theorem s8_tryChain (R : RW r) (hh : h < hrs r) (hz : m.1 163 = r) (ht : Tri r n t) (hT : TR m n t) (h3 : ∀ k, k < 3 → m.1 166 k = tri n t k) (hB : BM r h m s) : ∃ m', f_X8_tryChain (nI h) m = some m' ∧ FrL m m' ∧ BM r h m' (if rsnR r h n t = 0 then ofr (smN r h n t n) n t s else s) := by
  have hn := R.1.1
  have h10 := hn.1
  have h30 := hn.2.2.1
  have n3 := ht.2.1
  have n0 := ht.1
  have sb := smN_b R hh ht n (Nat.le_refl n)
  have e : lp (f_X8_tryChain_L4 (nI h) m) 1000000 (0, 0) = some (nI (smN r h n t n)) := by
    refine lp_cnt (body := f_X8_tryChain_L4 (nI h) m) (fun k => (nI (smN r h n t k), nI k)) (N := n) (fun k hk => ?_) ?_ (by omega)
    · have lk := ht.2.2.1 k hk
      rw [f_X8_tryChain_L4, hT.1, if_neg (by rw [pz_le (by omega) (by omega)]; omega), pz_in (by omega) (by omega), pz_cl (by omega), hT.2 k hk, pz_nm, s8_earns hz (by omega) (by omega) (by omega), pz_bnd, (eN_b R lk hh _).1, pz_s, pz_add, pz_nm]
      rfl
    · rw [f_X8_tryChain_L4, hT.1, if_pos (by rw [pz_le (by omega) (by omega)]; omega)]
  have w := hB.1
  rw [f_X8_tryChain, e, pz_bnd, hB.2.1]
  have el : ((if s.2.1 = 0 then nI 1000000 else nI s.1) ≤ nI (smN r h n t n)) = ¬ (s.2.1 = 0 ∨ smN r h n t n < s.1) := by
    apply propext
    by_cases q : s.2.1 = 0
    · rw [if_pos q, nI_leI (by omega) (by omega)]
      exact ⟨fun _ => by omega, fun g => absurd (Or.inl q) g⟩
    · rw [if_neg q, nI_leI (by have := w.1; omega) (by omega)]
      exact ⟨fun g => by rintro (x | x) <;> omega, fun g => by
        have : ¬ smN r h n t n < s.1 := fun z => g (Or.inr z)
        omega⟩
  by_cases q : s.2.1 = 0 ∨ smN r h n t n < s.1
  · rw [if_neg (by rw [el]; exact fun g => g q), s8_reason hz hn R.1.2.1 (R.2.1 h hh) hh ht hT, pz_bnd]
    by_cases z : rsnR r h n t = 0
    · rw [if_pos z, if_pos z]
      simp only [pz_nm]
      rw [si_off (by omega), hT.1]
      obtain ⟨m', l1, l2, l3, l4⟩ : ∃ m', lp f_X8_tryChain_L67 1000000 (0, si (si m 162 12 (nI (smN r h n t n))) 162 13 (nI n)) = some m' ∧ (∀ a, a ≠ 168 → m'.1 a = (si (si m 162 12 (nI (smN r h n t n))) 162 13 (nI n)).1 a) ∧ m'.2 = m.2 ∧ ∀ k, k < 3 → m'.1 168 k = tri n t k := by
        refine lp_inv (fun i (q : Int32 × Mem) => q.1 = nI i ∧ (∀ a, a ≠ 168 → q.2.1 a = (si (si m 162 12 (nI (smN r h n t n))) 162 13 (nI n)).1 a) ∧ q.2.2 = m.2 ∧ ∀ k, k < i → q.2.1 168 k = tri n t k) (N := 3) (fun i q hi hI => ?_) (fun q hI => ?_) _ ⟨rfl, fun _ _ => rfl, rfl, fun k hk => absurd hk (Nat.not_lt_zero k)⟩ (by omega)
        · obtain ⟨x, m1⟩ := q
          obtain ⟨rfl, f1, f2, f3⟩ := hI
          dsimp only at f1 f2 f3
          rw [f_X8_tryChain_L67, show (3 : Int32) = nI 3 from rfl, if_neg (by rw [pz_le (by omega) (by omega)]; omega), pz_in (by omega) (by omega), pz_cl (by omega), f1 166 (by omega), si_ne (by omega), si_ne (by omega), h3 i hi, pz_nm, pz_in (by omega) (by omega), pz_nm, pz_s, pz_nm]
          refine ⟨_, rfl, rfl, fun a ha => ?_, f2, fun k hk => ?_⟩
          · show (si m1 168 i (tri n t i)).1 a = _
            rw [si_ne ha]
            exact f1 a ha
          · show (si m1 168 i (tri n t i)).1 168 k = _
            by_cases y : k = i
            · rw [y, si_at]
            · rw [si_off (by omega)]
              exact f3 k (by omega)
        · obtain ⟨x, m1⟩ := q
          obtain ⟨rfl, f1, f2, f3⟩ := hI
          rw [f_X8_tryChain_L67, show (3 : Int32) = nI 3 from rfl, if_pos (by rw [pz_le (by omega) (by omega)]; omega)]
          exact ⟨_, rfl, f1, f2, f3⟩
      rw [l1, pz_bnd]
      refine ⟨m', rfl, ⟨fun a a1 a2 a3 => ?_, fun j j1 j2 j3 => ?_, l3⟩, ?_⟩
      · rw [l2 a a3, si_ne a1, si_ne a1]
      · rw [l2 162 (by omega), si_off (by omega), si_off (by omega)]
      · unfold ofr
        rw [if_pos q]
        refine ⟨⟨by show smN r h n t n < _; omega, n3, Or.inr ⟨ht, rsn_bu z⟩⟩, ?_, fun _ => ⟨?_, l4⟩⟩
        · rw [l2 162 (by omega), si_off (by omega), si_at]
          exact (if_neg (by show ¬ n = 0; omega)).symm
        · rw [l2 162 (by omega), si_at]
    · rw [if_neg z, if_neg z]
      exact ⟨m, rfl, FrL.rf, hB⟩
  · rw [if_pos (by rw [el]; exact q)]
    have : ofr (smN r h n t n) n t s = s := if_neg q
    rw [this, ite_self]
    exact ⟨m, rfl, FrL.rf, hB⟩
theorem LY.l {m m' : Mem} (h : LY m m') : FrL m m' := ⟨fun a a1 a2 _ => h.1 a a1 a2, fun j j1 _ _ => h.2.1 j j1, h.2.2⟩
theorem BM.fr {m m' : Mem} (hB : BM r h m s) (g : LY m m') : BM r h m' s := by
  obtain ⟨b1, b2, b3⟩ := hB
  refine ⟨b1, by rw [g.2.1 12 (by omega)]; exact b2, fun q => ?_⟩
  rw [g.2.1 13 (by omega), g.1 168 (by omega) (by omega)]
  exact b3 q
theorem s8_layTry (R : RW r) (hh : h < hrs r) (hz : m.1 163 = r) (ht : Tri r n t) (hB : BM r h m s) : ∃ m1 m', f_X8_lay (nI (t 0)) (tri n t 1) (tri n t 2) m = some m1 ∧ f_X8_tryChain (nI h) m1 = some m' ∧ FrL m m' ∧ BM r h m' (if rsnR r h n t = 0 then ofr (smN r h n t n) n t s else s) := by
  obtain ⟨m1, l1, l2, l3, l4, l5, l6, l7, l8⟩ := s8_lay (m := m) (x := nI (t 0)) (y := tri n t 1) (z := tri n t 2)
  have hT : TR m1 n t := lay_TR ht R.1.1.1 l2 l3 l4 l5
  have z1 : m1.1 163 = r := by rw [l6 163 (by omega) (by omega)]; exact hz
  have t0 : tri n t 0 = nI (t 0) := if_pos ht.1
  obtain ⟨m', e1, e2, e3⟩ := s8_tryChain R hh z1 ht hT (fun k hk => by
    rcases (show k = 0 ∨ k = 1 ∨ k = 2 by omega) with rfl | rfl | rfl
    · rw [t0]; exact l2
    · exact l3
    · exact l4) (hB.fr ⟨l6, l7, l8⟩)
  exact ⟨m1, m', l1, e1, (LY.l ⟨l6, l7, l8⟩).tr e2, e3⟩
end LAYC
