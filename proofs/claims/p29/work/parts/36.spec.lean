/-! a call: the class and the model answer alike and keep what they keep -/
def GD (r : Row) : Prop := RW r ∧ ∃ t, t ≤ 20000 ∧ r 9 = nI t
def Ok (A : Ab) : Prop := A.n ≤ 6 ∧ A.bl ≤ 60 ∧ GD A.r ∧ (∀ k, k < A.n → GD (A.hs k)) ∧ ∀ i, i < A.bl → ∃ q, 33 ≤ q ∧ q ≤ 126 ∧ A.bc i = nI q
theorem Ok.push {A : Ab} {r : Row} (ok : Ok A) (g : GD r) : Ok (A.push.now r) := by
  obtain ⟨h1, h2, h3, h4, h5⟩ := ok
  refine ⟨?_, h2, g, fun k hk => ?_, h5⟩
  · show (if A.n = 6 then 6 else A.n + 1) ≤ 6
    split <;> omega
  · have hk : k < (if A.n = 6 then 6 else A.n + 1) := hk
    show GD (if A.n = 6 then (if k < 5 then A.hs (k + 1) else A.r) else (if k = A.n then A.r else A.hs k))
    by_cases e : A.n = 6
    · rw [if_pos e] at hk ⊢
      by_cases q : k < 5
      · rw [if_pos q]; exact h4 _ (by omega)
      · rw [if_neg q]; exact h3
    · rw [if_neg e] at hk ⊢
      by_cases q : k = A.n
      · rw [if_pos q]; exact h3
      · rw [if_neg q]; exact h4 _ (by omega)
theorem Ok.h30 {A : Ab} (ok : Ok A) : hrs A.r ≤ 30 := ok.2.2.1.1.1.1.2.2.1
theorem push_n {A : Ab} (ok : Ok A) : A.push.n ≤ 6 := by
  show (if A.n = 6 then 6 else A.n + 1) ≤ 6
  have := ok.1
  split <;> omega
section CHK
variable {m : Mem} {r : Row} {x : Int32}
theorem i32_pred {n : Nat} (hn : n < 1000000) (x : Int32) : (nI n - 1 < x) = (nI n ≤ x) := by
  have h1 : (nI n - 1).toInt = (n : Int) - 1 := pk_sub_toInt (b := 1) (by omega) (by omega)
  have h2 : (nI n).toInt = (n : Int) := nI_toInt (by omega)
  rw [Int32.lt_iff_toInt_lt, Int32.le_iff_toInt_le, h1, h2]
  apply propext
  omega
def wth (x l u : Int32) : Bool := decide (¬ x < l) && decide (¬ u < x)
theorem wth_of {x : Int32} {a b : Nat} (ha : a < 1000000) (hb : b < 1000000) (h : wth x (nI a) (nI b) = true) : ∃ k, a ≤ k ∧ k ≤ b ∧ x = nI k := by
  simp only [wth, Bool.and_eq_true, decide_eq_true_eq] at h
  have h2 : x ≤ nI b := by rw [← Int32.not_lt]; exact h.2
  have h1 : nI a ≤ x := by rw [← Int32.not_lt]; exact h.1
  have h0 : ¬ x < 0 := by
    intro q
    rw [Int32.lt_iff_toInt_lt] at q
    rw [Int32.le_iff_toInt_le, nI_toInt (by omega)] at h1
    have : (0 : Int32).toInt = 0 := by decide
    omega
  obtain ⟨k, k1, rfl⟩ := nI_of2 (n := b) (M := nI b) (nI_toInt (by omega)) h0 h2
  exact ⟨k, by rw [pz_le (by omega) (by omega)] at h1; exact h1, k1, rfl⟩
end CHK
