/-! a call: the class and the model answer alike and keep what they keep -/
def GD (r : Row) : Prop := RW r ∧ ∃ t, t ≤ 20000 ∧ r 9 = nI t
def Ok (A : Ab) : Prop := A.n ≤ 6 ∧ A.bl ≤ 60 ∧ GD A.r ∧ (∀ k, k < A.n → GD (A.hs k)) ∧ ∀ i, i < A.bl → ∃ q, 33 ≤ q ∧ q ≤ 126 ∧ A.bc i = nI q
def OPS (w : Option (Int32 × Mem)) (f : Mem → Option (Int32 × Mem)) : Prop := ∃ code m1 y m2 A', w = some (code, m1) ∧ f m1 = some (y, m2) ∧ m2.1 162 5 = code ∧ (code = 0 → m2.2 170 0 = y.toInt64) ∧ AC m2 A' ∧ AM m2 A' ∧ Ok A'
theorem ops_of {w : Option (Int32 × Mem)} {f : Mem → Option (Int32 × Mem)} {code : Int32} {m1 : Mem} {y : Int32} {m2 : Mem} {A' : Ab} (hw : w = some (code, m1)) (hf : f m1 = some (y, m2)) (h5 : m2.1 162 5 = code) (hy : code = 0 → m1.2 170 0 = y.toInt64) (hc : AC m1 A') (hm : AM m2 A') (g : FrM m1 m2) (ok : Ok A') : OPS w f :=
  ⟨code, m1, y, m2, A', hw, hf, h5, fun q => by rw [g.2]; exact hy q, hc.frM g ok.1, hm, ok⟩
theorem AM.set5 {m : Mem} {A : Ab} (h : AM m A) {j : Nat} (hj : j ≠ 1) (hj3 : j ≠ 3) (v : Int32) : AM (si m 162 j v) A := by
  obtain ⟨h1, h2, h3, h4, h5⟩ := h
  refine ⟨?_, ?_, fun k hk i hi => ?_, ?_, fun i hi => ?_⟩
  · rw [si_ne (by omega)]; exact h1
  · rw [si_off (by omega)]; exact h2
  · rw [si_ne (by omega)]; exact h3 k hk i hi
  · rw [si_off (by omega)]; exact h4
  · rw [si_ne (by omega)]; exact h5 i hi
/-- a model's cell that nothing kept lies in -/
theorem AM.scr {m : Mem} {A : Ab} (h : AM m A) {a j : Nat} (ha : a < 162 ∨ 166 ≤ a) (v : Int32) : AM (si m a j v) A := by
  obtain ⟨h1, h2, h3, h4, h5⟩ := h
  refine ⟨?_, ?_, fun k hk i hi => ?_, ?_, fun i hi => ?_⟩
  · rw [si_ne (by omega)]; exact h1
  · rw [si_ne (by omega)]; exact h2
  · rw [si_ne (by omega)]; exact h3 k hk i hi
  · rw [si_ne (by omega)]; exact h4
  · rw [si_ne (by omega)]; exact h5 i hi
theorem Ok.push {A : Ab} {r : Row} (ok : Ok A) (g : GD r) : Ok (A.push.now r) := by
  obtain ⟨h1, h2, h3, h4, h5⟩ := ok
  refine ⟨?_, h2, g, fun k hk => ?_, h5⟩
  · show (if A.n = 6 then 6 else A.n + 1) ≤ 6
    split <;> omega
  · have hk : k < (if A.n = 6 then 6 else A.n + 1) := hk
    show GD (if A.n = 6 then (if k < 5 then A.hs (k + 1) else A.r) else (if k = A.n then A.r else A.hs k))
    by_cases e : A.n = 6
    · rw [if_pos e] at hk ⊢
      by_cases q : k < 5
      · rw [if_pos q]; exact h4 _ (by omega)
      · rw [if_neg q]; exact h3
    · rw [if_neg e] at hk ⊢
      by_cases q : k = A.n
      · rw [if_pos q]; exact h3
      · rw [if_neg q]; exact h4 _ (by omega)
theorem Ok.h30 {A : Ab} (ok : Ok A) : hrs A.r ≤ 30 := ok.2.2.1.1.1.1.2.2.1
theorem push_n {A : Ab} (ok : Ok A) : A.push.n ≤ 6 := by
  show (if A.n = 6 then 6 else A.n + 1) ≤ 6
  have := ok.1
  split <;> omega
/-- a call that throws: nothing kept changes -/
theorem ops_throw {w : Option (Int32 × Mem)} {f : Mem → Option (Int32 × Mem)} {m : Mem} {A : Ab} (hC : AC m A) (hM : AM m A) (ok : Ok A) {c : Int32} (c0 : c ≠ 0) (hw : w = some (c, m)) (hf : f m = some (0, si m 162 5 c)) : OPS w f :=
  ops_of hw hf (si_at _ _ _ _) (fun q => absurd q c0) hC (hM.set5 (by decide) (by decide) c) (FrM.rf.put (by decide)) ok
/-- a call that changes the court -/
theorem ops_mut {w : Option (Int32 × Mem)} {f : Mem → Option (Int32 × Mem)} {m : Mem} {A : Ab} (hC : AC m A) (hM : AM m A) (ok : Ok A) {r' : Row} (gd : GD r') {y : Int32} (hw : ∀ m8, f_X4_save 1 m = some m8 → AC m8 A.push → ∃ m12, w = some (0, slm m12 170 0 y.toInt64) ∧ CR 1 m12 r' ∧ FrC 1 m8 m12)
    (hf : ∀ m1, AM m1 A → ∃ m2, f m1 = some (y, m2) ∧ AM m2 (A.push.now r') ∧ FrM m1 m2 ∧ m2.1 162 5 = 0) : OPS w f := by
  obtain ⟨m8, e, a8, x8⟩ := s4_save hC ok.1 ok.h30
  obtain ⟨m12, ew, c12, f12⟩ := hw m8 e a8
  have a12 : AC m12 (A.push.now r') := a8.now c12 f12 (push_n ok)
  have am : AM (slm m12 170 0 y.toInt64) A := hM.frX (x8.tr (f12.x (by omega)))
  obtain ⟨m2, e2, am2, g2, k5⟩ := hf _ am
  exact ops_of ew e2 k5 (fun _ => by simp [slm]) a12 am2 g2 (ok.push gd)
/-- a call that reads -/
theorem ops_read {w : Option (Int32 × Mem)} {f : Mem → Option (Int32 × Mem)} {m : Mem} {A : Ab} (hC : AC m A) (hM : AM m A) (ok : Ok A) {y : Int32} (hw : ∃ m1, w = some (0, slm m1 170 0 y.toInt64) ∧ AC m1 A ∧ FrX m m1)
    (hf : ∀ m1, AM m1 A → ∃ m2, f m1 = some (y, m2) ∧ AM m2 A ∧ FrM m1 m2 ∧ m2.1 162 5 = 0) : OPS w f := by
  obtain ⟨m1, ew, a1, x1⟩ := hw
  have am : AM (slm m1 170 0 y.toInt64) A := hM.frX x1
  obtain ⟨m2, e2, am2, g2, k5⟩ := hf _ am
  exact ops_of ew e2 k5 (fun _ => by simp [slm]) a1 am2 g2 ok
/-- the model's save and what comes then -/
theorem m_save {m : Mem} {A : Ab} (hM : AM m A) (ok : Ok A) (h5 : m.1 162 5 = 0) {r' : Row} {y : Int32} {K : Mem → Option (Int32 × Mem)} (hK : ∀ m9, m9.1 163 = A.r → (∀ a, a ≠ 162 → a ≠ 164 → m9.1 a = m.1 a) → (∀ j, j ≠ 1 → m9.1 162 j = m.1 162 j) → ∃ m2, K m9 = some (y, m2) ∧ m2.1 163 = r' ∧ (∀ a, a ≠ 163 → a < 166 → m2.1 a = m9.1 a) ∧ FrM m9 m2) : ∃ m2, bnd (f_X8_save m) K = some (y, m2) ∧ AM m2 (A.push.now r') ∧ FrM m m2 ∧ m2.1 162 5 = 0 := by
  obtain ⟨m9, e, am, g, o1, o2⟩ := s8_save hM ok.1
  obtain ⟨m2, e2, r2, o3, g2⟩ := hK m9 am.1 o1 o2
  refine ⟨m2, by rw [e, pz_bnd]; exact e2, am.now r2 (fun a ha => o3 a (by omega) (by omega)) ?_ ?_, g.tr g2, ?_⟩
  · rw [o3 162 (by omega) (by omega)]
  · rw [o3 162 (by omega) (by omega)]
  · rw [o3 162 (by omega) (by omega), o2 5 (by omega)]
    exact h5
section CHK
variable {m : Mem} {r : Row} {x : Int32}
theorem i32_pred {n : Nat} (hn : n < 1000000) (x : Int32) : (nI n - 1 < x) = (nI n ≤ x) := by
  have h1 : (nI n - 1).toInt = (n : Int) - 1 := pk_sub_toInt (b := 1) (by omega) (by omega)
  have h2 : (nI n).toInt = (n : Int) := nI_toInt (by omega)
  rw [Int32.lt_iff_toInt_lt, Int32.le_iff_toInt_le, h1, h2]
  apply propext
  omega
theorem s8_isPerson (hz : m.1 163 = r) (hn : NumW r) : f_X8_isPerson x m = some (bI (isp r x)) := by
  have := hn.1
  unfold f_X8_isPerson
  rw [s8_within, pz_bnd, hz, hn.2.1, pz_bo]
  unfold isp
  rw [hn.2.1]
  have e : (decide ¬nI (ppl r) - 1 < x) = decide ¬nI (ppl r) ≤ x := decide_eq_decide.mpr (by rw [i32_pred (by omega)])
  rw [e]
theorem s8_isHearing (hz : m.1 163 = r) (hn : NumW r) : f_X8_isHearing x m = some (bI (ish r x)) := by
  have := hn.2.2.1
  unfold f_X8_isHearing
  rw [s8_within, pz_bnd, hz, hn.2.2.2, pz_bo]
  unfold ish
  rw [hn.2.2.2]
  have e : (decide ¬nI (hrs r) - 1 < x) = decide ¬nI (hrs r) ≤ x := decide_eq_decide.mpr (by rw [i32_pred (by omega)])
  rw [e]
theorem s8_isOpen {h : Nat} (hz : m.1 163 = r) (hh : h < 30) : f_X8_isOpen (nI h) m = some (bI (lst r h && !std r h)) := by
  unfold f_X8_isOpen
  rw [s8_isListed hz hh, pz_bnd, bI_ite, s8_hasStarted hz hh, pz_bnd, bI_ite]
  cases lst r h <;> cases std r h <;> rfl
def wth (x l u : Int32) : Bool := decide (¬ x < l) && decide (¬ u < x)
theorem wth_of {x : Int32} {a b : Nat} (ha : a < 1000000) (hb : b < 1000000) (h : wth x (nI a) (nI b) = true) : ∃ k, a ≤ k ∧ k ≤ b ∧ x = nI k := by
  simp only [wth, Bool.and_eq_true, decide_eq_true_eq] at h
  have h2 : x ≤ nI b := by rw [← Int32.not_lt]; exact h.2
  have h1 : nI a ≤ x := by rw [← Int32.not_lt]; exact h.1
  have h0 : ¬ x < 0 := by
    intro q
    rw [Int32.lt_iff_toInt_lt] at q
    rw [Int32.le_iff_toInt_le, nI_toInt (by omega)] at h1
    have : (0 : Int32).toInt = 0 := by decide
    omega
  obtain ⟨k, k1, rfl⟩ := nI_of2 (n := b) (M := nI b) (nI_toInt (by omega)) h0 h2
  exact ⟨k, by rw [pz_le (by omega) (by omega)] at h1; exact h1, k1, rfl⟩
end CHK
