/-! along a run: what each hearing done is -/
section LIST2
variable {b : Nat → Nat}
theorem pR_PB : ∀ {i : Nat} {P : PT}, pR b i = some P → PB P
  | 0, P, h => by
    have : P = (0, 0, 0, 0, 0, 0) := (Option.some.inj h).symm
    rw [this]
    simp [PB]
  | i + 1, P, h => by
    cases e : pR b i with
    | none =>
      rw [pR_none e 1] at h
      cases h
    | some Q =>
      rw [pR_s e] at h
      exact PB_s (pR_PB e) h
/-- only a comma after a length makes a hearing done -/
theorem pstep_n {P P' : PT} {q : Nat} (h : pstep P q = some P') (s4 : P.1 ≤ 4) : (P.1 = 4 ∧ q = 44 ∧ 10 ≤ P.2.2.2.2.2 ∧ P'.2.1 = P.2.1 + 1) ∨ (¬ (P.1 = 4 ∧ q = 44) ∧ q ≠ 44 ∧ P'.2.1 = P.2.1) := by
  obtain ⟨s, n, kd, lg, vi, vl⟩ := P
  unfold pstep at h
  dsimp only at s4
  by_cases s0 : s = 0
  · simp only [if_pos s0] at h
    by_cases a1 : q = 99
    · rw [if_pos a1] at h; cases h; exact Or.inr ⟨by simp [s0], by omega, rfl⟩
    by_cases a2 : q = 114
    · rw [if_neg a1, if_pos a2] at h; cases h; exact Or.inr ⟨by simp [s0], by omega, rfl⟩
    by_cases a3 : q = 97
    · rw [if_neg a1, if_neg a2, if_pos a3] at h; cases h; exact Or.inr ⟨by simp [s0], by omega, rfl⟩
    rw [if_neg a1, if_neg a2, if_neg a3] at h; cases h
  by_cases s1 : s = 1
  · simp only [if_neg s0, if_pos s1] at h
    by_cases a1 : 49 ≤ q ∧ q ≤ 57
    · rw [if_pos a1] at h; cases h; exact Or.inr ⟨by simp [s1], by omega, rfl⟩
    rw [if_neg a1] at h; cases h
  by_cases s2 : s = 2
  · simp only [if_neg s0, if_neg s1, if_pos s2] at h
    by_cases a1 : q = 64
    · rw [if_pos a1] at h; cases h; exact Or.inr ⟨by simp [s2], by omega, rfl⟩
    rw [if_neg a1] at h; cases h
  by_cases s3 : s = 3
  · simp only [if_neg s0, if_neg s1, if_neg s2, if_pos s3] at h
    by_cases a1 : q = 43 ∧ 0 < vi
    · rw [if_pos a1] at h; cases h; exact Or.inr ⟨by simp [s3], by omega, rfl⟩
    by_cases a2 : 48 ≤ q ∧ q ≤ 57 ∧ 0 < 10 * vi + (q - 48) ∧ 10 * vi + (q - 48) ≤ 2000
    · rw [if_neg a1, if_pos a2] at h; cases h; exact Or.inr ⟨by simp [s3], by omega, rfl⟩
    rw [if_neg a1, if_neg a2] at h; cases h
  · simp only [if_neg s0, if_neg s1, if_neg s2, if_neg s3] at h
    by_cases a1 : q = 44 ∧ 10 ≤ vl
    · rw [if_pos a1] at h; cases h; exact Or.inl ⟨by show s = 4; omega, a1.1, a1.2, rfl⟩
    by_cases a2 : 48 ≤ q ∧ q ≤ 57 ∧ 0 < 10 * vl + (q - 48) ∧ 10 * vl + (q - 48) ≤ 240
    · rw [if_neg a1, if_pos a2] at h; cases h; exact Or.inr ⟨by intro w; omega, by omega, rfl⟩
    rw [if_neg a1, if_neg a2] at h; cases h
theorem EB_pent {P : PT} (hB : PB P) (h4 : P.1 = 4) (hl : 10 ≤ P.2.2.2.2.2) : EB (pent P) := by
  obtain ⟨s, n, kd, lg, vi, vl⟩ := P
  obtain ⟨s4, b1, b2, b3, b4⟩ := hB
  dsimp only at h4 hl b1 b2 b3 b4
  have b1 := b1 (by omega)
  have b2 := b2 (by omega)
  have b3 := b3 (by omega)
  have b4 := b4 h4
  exact ⟨b1, b2.1, b2.2, b4.1, b3, hl, b4.2⟩
theorem rL_EB : ∀ {i : Nat} {P : PT}, pR b i = some P → ∀ k, k < P.2.1 → EB (rL b i k)
  | 0, P, h, k, hk => by
    have : P = (0, 0, 0, 0, 0, 0) := (Option.some.inj h).symm
    rw [this] at hk
    exact absurd hk (by simp)
  | i + 1, P, h, k, hk => by
    cases e : pR b i with
    | none =>
      rw [pR_none e 1] at h
      cases h
    | some Q =>
      rw [pR_s e] at h
      have hQ := pR_PB e
      have : rL b (i + 1) = pL Q (b i) (rL b i) := by rw [rL, e]
      rw [this]
      unfold pL
      rcases pstep_n h hQ.1 with ⟨q1, q2, q3, q4⟩ | ⟨q1, q2, q3⟩
      · rw [if_pos ⟨q1, q2⟩]
        show EB (fun j => if k = Q.2.1 then pent Q j else rL b i k j)
        by_cases z : k = Q.2.1
        · simp only [if_pos z]
          exact EB_pent hQ q1 q3
        · simp only [if_neg z]
          exact rL_EB e k (by omega)
      · rw [if_neg q1]
        exact rL_EB e k (by omega)
end LIST2
