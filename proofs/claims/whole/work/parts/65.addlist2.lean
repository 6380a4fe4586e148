/-! addList on both sides -/
section ADDL2
variable {m : Mem} {A : Ab} {b : Nat → Nat}
theorem pE_lt : ∀ {N : Nat}, pR b N = none → pE b N < N
  | 0, h => by cases h
  | N + 1, h => by
    cases e : pR b N with
    | none =>
      have := pE_lt e
      rw [pE, h, if_neg (by simp)]
      omega
    | some P =>
      have := pE_at (b := b) (i := N) (by rw [e]; rfl) h 0
      rw [Nat.add_zero] at this
      omega
theorem s5_complete {P : PT} (h : PCl m P) : f_X5_isComplete m = some (bI (decide (P.1 = 4) && decide (10 ≤ P.2.2.2.2.2))) := by
  obtain ⟨a1, a2, a3, a4, a5, a6, a7, a8, a9⟩ := h
  have e4 : (nI P.1 = 4) = (P.1 = 4) := pz_eq (b := (4 : Nat)) (by omega) (by decide)
  unfold f_X5_isComplete
  rw [a4]
  by_cases q : P.1 = 4
  · rw [if_pos (by rw [e4]; exact q), a9 q]
    have e10 : (nI P.2.2.2.2.2 < 10) = (P.2.2.2.2.2 < 10) := pz_lt (b := (10 : Nat)) (by omega) (by decide)
    by_cases z : P.2.2.2.2.2 < 10
    · rw [if_pos (by rw [e10]; exact z), decide_eq_true q, decide_eq_false (by omega)]
      rfl
    · rw [if_neg (by rw [e10]; exact z), decide_eq_true q, decide_eq_true (by omega)]
      rfl
  · rw [if_neg (by rw [e4]; exact q), decide_eq_false q]
    rfl
theorem s8_complete {P : PT} {L : Nat → Nat → Nat} (h : PMd m P L) : (if (m.1 162 11) = 4 then (if (m.1 162 10) ≤ 9 then some (0 : Int32) else some 1) else some 0) = some (bI (decide (P.1 = 4) && decide (10 ≤ P.2.2.2.2.2))) := by
  obtain ⟨a1, a2, a3, a4, a5, a6, -⟩ := h
  have e4 : (nI P.1 = 4) = (P.1 = 4) := pz_eq (b := (4 : Nat)) (by omega) (by decide)
  rw [a4, a6]
  by_cases q : P.1 = 4
  · rw [if_pos (by rw [e4]; exact q), if_neg (c := P.1 = 3) (by omega), if_pos q]
    have e9 := dgt_le9 (v := P.2.2.2.2.2) (by omega)
    by_cases z : P.2.2.2.2.2 ≤ 9
    · rw [if_pos (by rw [e9]; exact z), decide_eq_true q, decide_eq_false (by omega)]
      rfl
    · rw [if_neg (by rw [e9]; exact z), decide_eq_true q, decide_eq_true (by omega)]
      rfl
  · rw [if_neg (by rw [e4]; exact q), decide_eq_false q]
    rfl
end ADDL2
