/-! the hearings of a text, entered one by one -/
def EB (e : Nat → Nat) : Prop := e 0 < 3 ∧ 1 ≤ e 1 ∧ e 1 ≤ 9 ∧ 1 ≤ e 2 ∧ e 2 ≤ 2000 ∧ 10 ≤ e 3 ∧ e 3 ≤ 240
def PB (P : PT) : Prop := P.1 ≤ 4 ∧ (1 ≤ P.1 → P.2.2.1 < 3) ∧ (2 ≤ P.1 → 1 ≤ P.2.2.2.1 ∧ P.2.2.2.1 ≤ 9) ∧ (3 ≤ P.1 → P.2.2.2.2.1 ≤ 2000) ∧ (P.1 = 4 → 1 ≤ P.2.2.2.2.1 ∧ P.2.2.2.2.2 ≤ 240)
theorem PB_s {P P' : PT} {q : Nat} (hB : PB P) (h : pstep P q = some P') : PB P' := by
  obtain ⟨s, n, kd, lg, vi, vl⟩ := P
  obtain ⟨s4, b1, b2, b3, b4⟩ := hB
  dsimp only at s4 b1 b2 b3 b4
  unfold pstep at h
  by_cases s0 : s = 0
  · simp only [if_pos s0] at h
    by_cases a1 : q = 99
    · rw [if_pos a1] at h; cases h; simp [PB]
    by_cases a2 : q = 114
    · rw [if_neg a1, if_pos a2] at h; cases h; simp [PB]
    by_cases a3 : q = 97
    · rw [if_neg a1, if_neg a2, if_pos a3] at h; cases h; simp [PB]
    rw [if_neg a1, if_neg a2, if_neg a3] at h; cases h
  have b1 := b1 (by omega)
  by_cases s1 : s = 1
  · simp only [if_neg s0, if_pos s1] at h
    by_cases a1 : 49 ≤ q ∧ q ≤ 57
    · rw [if_pos a1] at h; cases h
      exact ⟨by simp, fun _ => b1, fun _ => ⟨by show 1 ≤ q - 48; omega, by show q - 48 ≤ 9; omega⟩, fun w => absurd w (by simp), fun w => absurd w (by simp)⟩
    rw [if_neg a1] at h; cases h
  have b2 := b2 (by omega)
  by_cases s2 : s = 2
  · simp only [if_neg s0, if_neg s1, if_pos s2] at h
    by_cases a1 : q = 64
    · rw [if_pos a1] at h; cases h
      exact ⟨by simp, fun _ => b1, fun _ => b2, fun _ => Nat.zero_le _, fun w => absurd w (by simp)⟩
    rw [if_neg a1] at h; cases h
  have b3 := b3 (by omega)
  by_cases s3 : s = 3
  · simp only [if_neg s0, if_neg s1, if_neg s2, if_pos s3] at h
    by_cases a1 : q = 43 ∧ 0 < vi
    · rw [if_pos a1] at h; cases h
      exact ⟨by simp, fun _ => b1, fun _ => b2, fun _ => b3, fun _ => ⟨a1.2, Nat.zero_le _⟩⟩
    by_cases a2 : 48 ≤ q ∧ q ≤ 57 ∧ 0 < 10 * vi + (q - 48) ∧ 10 * vi + (q - 48) ≤ 2000
    · rw [if_neg a1, if_pos a2] at h; cases h
      exact ⟨by simp, fun _ => b1, fun _ => b2, fun _ => a2.2.2.2, fun w => absurd w (by simp)⟩
    rw [if_neg a1, if_neg a2] at h; cases h
  · simp only [if_neg s0, if_neg s1, if_neg s2, if_neg s3] at h
    have b4 := b4 (by omega)
    by_cases a1 : q = 44 ∧ 10 ≤ vl
    · rw [if_pos a1] at h; cases h
      exact ⟨by simp, fun w => absurd w (by simp), fun w => absurd w (by simp), fun w => absurd w (by simp), fun w => absurd w (by simp)⟩
    by_cases a2 : 48 ≤ q ∧ q ≤ 57 ∧ 0 < 10 * vl + (q - 48) ∧ 10 * vl + (q - 48) ≤ 240
    · rw [if_neg a1, if_pos a2] at h; cases h
      exact ⟨by simp, fun _ => b1, fun _ => b2, fun _ => b3, fun _ => ⟨b4.1, a2.2.2.2⟩⟩
    rw [if_neg a1, if_neg a2] at h; cases h
def rE (r : Row) (t : Nat) (L : Nat → Nat → Nat) : Nat → Row
  | 0 => r
  | k + 1 => entR (rE r t L k) (nI (L k 0)) (nI (L k 1)) (nI (t + L k 2)) (nI (L k 3))
theorem rE_cong {r : Row} {t : Nat} {L L' : Nat → Nat → Nat} : ∀ {n : Nat}, (∀ k, k < n → L k = L' k) → rE r t L n = rE r t L' n
  | 0, _ => rfl
  | n + 1, h => by rw [rE, rE, rE_cong (fun k hk => h k (by omega)), h n (by omega)]
theorem rE_RW {r : Row} {t : Nat} {L : Nat → Nat → Nat} (R : RW r) (e9 : r 9 = nI t) (ht : t ≤ 20000) : ∀ n, hrs r + n ≤ 30 → (∀ k, k < n → EB (L k)) → RW (rE r t L n) ∧ rE r t L n 9 = nI t ∧ hrs (rE r t L n) = hrs r + n
  | 0, _, _ => ⟨R, e9, rfl⟩
  | n + 1, hn, hE => by
    obtain ⟨R', e', h'⟩ := rE_RW R e9 ht n (by omega) (fun k hk => hE k (by omega))
    obtain ⟨a, b1, b2, c1, c2, d1, d2⟩ := hE n (by omega)
    obtain ⟨x, y, z⟩ := GD_ent (kd := L n 0) (lg := L n 1) (s := L n 2) (len := L n 3) R' e' ht (by omega) a (by omega) c1 c2 d1 d2
    exact ⟨x, y, by rw [rE, z, h']; omega⟩
