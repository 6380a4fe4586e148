/-! calls: certify, set -/
theorem i32_le0 {n : Nat} (h : n < 1000000) : (nI n ≤ 0) = (n = 0) := by
  rw [pz_0, pz_le h (by omega)]
  exact propext (by omega)
theorem s7_wth {m : Mem} {x l u : Int32} : f_X7_within x l u m = some (bI (wth x l u)) := s7_within
section OPS1
variable {m : Mem} {A : Ab} {x y z w : Int32}
def sBd (i : Nat) : Nat := if i = 3 then 1000 else if i = 4 then 2000 else if i = 5 then 5000 else if i = 6 then 100 else 20
theorem sBd_fs : ∀ i, i < 7 → fs2 i = nI (sBd i) := by decide
theorem s7_isSetting : f_X7_isSetting x m = some (bI (wth x 0 6)) := by
  have e : (7 ≤ x) = (6 < x) := by
    rw [Int32.lt_iff_toInt_lt, Int32.le_iff_toInt_le, show (7 : Int32).toInt = 7 by decide, show (6 : Int32).toInt = 6 by decide]
    exact propext (by omega)
  unfold f_X7_isSetting wth
  by_cases h1 : x < 0
  · simp [h1, bI]
  · by_cases h2 : 6 < x
    · have : 7 ≤ x := by rw [e]; exact h2
      simp [h1, h2, this, bI]
    · have : ¬ 7 ≤ x := by rw [e]; exact h2
      simp [h1, h2, this, bI]
end OPS1
