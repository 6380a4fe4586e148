/-! calls: assign, whyNot on both sides -/
theorem rsn_bu {r : Row} {h n : Nat} {t : Nat → Nat} (e : rsnR r h n t = 0) : buN r h t n = false := by
  unfold rsnR at e
  cases q : buN r h t n
  · rfl
  · rw [q] at e
    revert e
    cases lst r h <;> cases std r h <;> cases chOK r (lngR r h) n t <;> cases ceN r (kndR r h) t n <;> decide
