/-! the text read to its end or its first fault -/
/-- a loop that counts and may end early -/
theorem lp_inv2 {S T : Type} {body : S → Option (S ⊕ T)} (I : Nat → S → Prop) {N n : Nat} {Qt : T → Prop} (hs : ∀ i s, i < N → I i s → (∃ s', body s = some (.inl s') ∧ I (i + 1) s') ∨ ∃ t, body s = some (.inr t) ∧ Qt t) (he : ∀ s, I N s → ∃ t, body s = some (.inr t) ∧ Qt t) (s : S) (h0 : I 0 s) (hn : N < n) : ∃ t, lp body n s = some t ∧ Qt t := by
  have key : ∀ (d i n : Nat) (s : S), i + d = N → d < n → I i s → ∃ t, lp body n s = some t ∧ Qt t := by
    intro d
    induction d with
    | zero =>
      intro i n s hi hn hI
      have : i = N := by omega
      subst this
      obtain ⟨n, rfl⟩ : ∃ k, n = k + 1 := ⟨n - 1, by omega⟩
      obtain ⟨t, e, q⟩ := he s hI
      exact ⟨t, by rw [lp, e], q⟩
    | succ d ih =>
      intro i n s hi hn hI
      obtain ⟨n, rfl⟩ : ∃ k, n = k + 1 := ⟨n - 1, by omega⟩
      rcases hs i s (by omega) hI with ⟨s', e, q⟩ | ⟨t, e, q⟩
      · obtain ⟨t, e2, q2⟩ := ih (i + 1) n s' (by omega) (by omega) q
        exact ⟨t, by rw [lp, e]; exact e2, q2⟩
      · exact ⟨t, by rw [lp, e], q⟩
  exact key N 0 n s (by omega) hn h0
def pR (b : Nat → Nat) : Nat → Option PT
  | 0 => some (0, 0, 0, 0, 0, 0)
  | i + 1 => (pR b i).bind fun P => pstep P (b i)
/-- the place of the first fault, or the end -/
def pE (b : Nat → Nat) : Nat → Nat
  | 0 => 0
  | i + 1 => if (pR b (i + 1)).isSome = true then i + 1 else pE b i
theorem pR_s {b : Nat → Nat} {i : Nat} {P : PT} (h : pR b i = some P) : pR b (i + 1) = pstep P (b i) := by rw [pR, h]; rfl
theorem pR_none {b : Nat → Nat} {i : Nat} (h : pR b i = none) : ∀ d, pR b (i + d) = none
  | 0 => h
  | d + 1 => by rw [← Nat.add_assoc, pR, pR_none h d]; rfl
theorem pE_some {b : Nat → Nat} : ∀ {i : Nat}, (pR b i).isSome = true → pE b i = i
  | 0, _ => rfl
  | i + 1, h => by rw [pE, if_pos h]
theorem pE_at {b : Nat → Nat} {i : Nat} (h1 : (pR b i).isSome = true) (h2 : pR b (i + 1) = none) : ∀ d, pE b (i + 1 + d) = i
  | 0 => by
    show pE b (i + 1) = i
    rw [pE, h2, if_neg (by simp), pE_some h1]
  | d + 1 => by
    rw [← Nat.add_assoc, pE, show i + 1 + d + 1 = i + 1 + (d + 1) from rfl, pR_none h2 (d + 1), if_neg (by simp), pE_at h1 h2 d]
/-- how far a text has come: six characters a hearing -/
def pwt (P : PT) : Nat := 6 * P.2.1 + (if P.1 = 0 then 0 else if P.1 = 1 then 1 else if P.1 = 2 then 2 else if P.1 = 3 then (if P.2.2.2.2.1 = 0 then 3 else 4) else (if P.2.2.2.2.2 = 0 then 5 else 6))
theorem pwt_s {P P' : PT} {q : Nat} (h : pstep P q = some P') : pwt P' ≤ pwt P + 1 := by
  obtain ⟨s, n, kd, lg, vi, vl⟩ := P
  unfold pstep at h
  by_cases s0 : s = 0
  · simp only [if_pos s0] at h
    have w : pwt (s, n, kd, lg, vi, vl) = 6 * n := by simp [pwt, s0]
    rw [w]
    by_cases a1 : q = 99
    · rw [if_pos a1] at h; cases h; simp [pwt]
    by_cases a2 : q = 114
    · rw [if_neg a1, if_pos a2] at h; cases h; simp [pwt]
    by_cases a3 : q = 97
    · rw [if_neg a1, if_neg a2, if_pos a3] at h; cases h; simp [pwt]
    rw [if_neg a1, if_neg a2, if_neg a3] at h; cases h
  by_cases s1 : s = 1
  · simp only [if_neg s0, if_pos s1] at h
    have w : pwt (s, n, kd, lg, vi, vl) = 6 * n + 1 := by simp [pwt, s1]
    rw [w]
    by_cases a1 : 49 ≤ q ∧ q ≤ 57
    · rw [if_pos a1] at h; cases h; simp [pwt]
    rw [if_neg a1] at h; cases h
  by_cases s2 : s = 2
  · simp only [if_neg s0, if_neg s1, if_pos s2] at h
    have w : pwt (s, n, kd, lg, vi, vl) = 6 * n + 2 := by simp [pwt, s2]
    rw [w]
    by_cases a1 : q = 64
    · rw [if_pos a1] at h; cases h; simp [pwt]
    rw [if_neg a1] at h; cases h
  by_cases s3 : s = 3
  · simp only [if_neg s0, if_neg s1, if_neg s2, if_pos s3] at h
    have w : pwt (s, n, kd, lg, vi, vl) = 6 * n + (if vi = 0 then 3 else 4) := by simp [pwt, s3]
    rw [w]
    by_cases a1 : q = 43 ∧ 0 < vi
    · rw [if_pos a1] at h; cases h; simp [pwt, show ¬ vi = 0 by omega]
    by_cases a2 : 48 ≤ q ∧ q ≤ 57 ∧ 0 < 10 * vi + (q - 48) ∧ 10 * vi + (q - 48) ≤ 2000
    · rw [if_neg a1, if_pos a2] at h
      cases h
      have w2 : pwt (3, n, kd, lg, 10 * vi + (q - 48), vl) = 6 * n + (if 10 * vi + (q - 48) = 0 then 3 else 4) := by simp [pwt]
      rw [w2]
      split <;> split <;> omega
    rw [if_neg a1, if_neg a2] at h; cases h
  · simp only [if_neg s0, if_neg s1, if_neg s2, if_neg s3] at h
    have w : pwt (s, n, kd, lg, vi, vl) = 6 * n + (if vl = 0 then 5 else 6) := by simp [pwt, s0, s1, s2, s3]
    rw [w]
    by_cases a1 : q = 44 ∧ 10 ≤ vl
    · rw [if_pos a1] at h
      cases h
      have w2 : pwt (0, n + 1, kd, lg, vi, vl) = 6 * (n + 1) := by simp [pwt]
      rw [w2, if_neg (show ¬ vl = 0 by omega)]
      omega
    by_cases a2 : 48 ≤ q ∧ q ≤ 57 ∧ 0 < 10 * vl + (q - 48) ∧ 10 * vl + (q - 48) ≤ 240
    · rw [if_neg a1, if_pos a2] at h
      cases h
      have w2 : pwt (4, n, kd, lg, vi, 10 * vl + (q - 48)) = 6 * n + (if 10 * vl + (q - 48) = 0 then 5 else 6) := by simp [pwt]
      rw [w2]
      split <;> split <;> omega
    rw [if_neg a1, if_neg a2] at h; cases h
theorem pR_wt {b : Nat → Nat} : ∀ {i : Nat} {P : PT}, pR b i = some P → pwt P ≤ i
  | 0, P, h => by
    have : P = (0, 0, 0, 0, 0, 0) := (Option.some.inj h).symm
    rw [this]
    simp [pwt]
  | i + 1, P, h => by
    cases e : pR b i with
    | none =>
      have := pR_none e 1
      rw [this] at h
      cases h
    | some Q =>
      rw [pR_s e] at h
      have := pwt_s h
      have := pR_wt e
      omega
theorem pR_n {b : Nat → Nat} {i : Nat} {P : PT} (h : pR b i = some P) (hi : i < 60) : P.2.1 < 10 := by
  have := pR_wt h
  unfold pwt at this
  omega
