/-! a list of hearings read as a text: (state, hearings done, kind, language, in, length) -/
abbrev PT : Type := Nat × Nat × Nat × Nat × Nat × Nat
def pstep : PT → Nat → Option PT
  | (s, n, kd, lg, vi, vl), q =>
    if s = 0 then (if q = 99 then some (1, n, 0, lg, vi, vl) else if q = 114 then some (1, n, 1, lg, vi, vl) else if q = 97 then some (1, n, 2, lg, vi, vl) else none)
    else if s = 1 then (if 49 ≤ q ∧ q ≤ 57 then some (2, n, kd, q - 48, vi, vl) else none)
    else if s = 2 then (if q = 64 then some (3, n, kd, lg, 0, vl) else none)
    else if s = 3 then (if q = 43 ∧ 0 < vi then some (4, n, kd, lg, vi, 0) else if 48 ≤ q ∧ q ≤ 57 ∧ 0 < 10 * vi + (q - 48) ∧ 10 * vi + (q - 48) ≤ 2000 then some (3, n, kd, lg, 10 * vi + (q - 48), vl) else none)
    else (if q = 44 ∧ 10 ≤ vl then some (0, n + 1, kd, lg, vi, vl) else if 48 ≤ q ∧ q ≤ 57 ∧ 0 < 10 * vl + (q - 48) ∧ 10 * vl + (q - 48) ≤ 240 then some (4, n, kd, lg, vi, 10 * vl + (q - 48)) else none)
/-- what the class's reader holds -/
def PCl (m : Mem) (P : PT) : Prop := P.1 ≤ 4 ∧ P.2.2.2.2.1 ≤ 2000 ∧ P.2.2.2.2.2 ≤ 240 ∧ m.1 157 1 = nI P.1 ∧ m.1 157 0 = nI (if P.1 = 0 then P.2.1 else P.2.1 + 1) ∧ (1 ≤ P.1 → m.1 157 2 = nI P.2.2.1) ∧ (2 ≤ P.1 → m.1 157 3 = nI P.2.2.2.1) ∧ (3 ≤ P.1 → m.1 157 4 = nI P.2.2.2.2.1) ∧ (P.1 = 4 → m.1 157 5 = nI P.2.2.2.2.2)
section PARSE
variable {m : Mem} {q v u : Nat}
theorem s5_longer (hv : v ≤ 2000) (hu : u ≤ 2000) (hq : q ≤ 200) : f_X5_longer (nI v) (nI q) (nI u) m = some (nI (if 48 ≤ q ∧ q ≤ 57 ∧ 10 * v + (q - 48) ≤ u then 10 * v + (q - 48) else 0)) := by
  have e1 : (nI q < 48) = (q < 48) := pz_lt (b := (48 : Nat)) (by omega) (by decide)
  have e2 : (nI q ≤ 57) = (q ≤ 57) := pz_le (b := (57 : Nat)) (by omega) (by decide)
  unfold f_X5_longer
  by_cases h1 : q < 48
  · rw [if_pos (by rw [e1]; exact h1), if_neg (by omega)]
    rfl
  · rw [if_neg (by rw [e1]; exact h1)]
    by_cases h2 : q ≤ 57
    · have e3 : nI v * 10 + (nI q - 48) = nI (10 * v + (q - 48)) := by
        rw [show (10 : Int32) = nI 10 from rfl, show (48 : Int32) = nI 48 from rfl, pk_sub (by omega), pz_mul, pz_add, Nat.mul_comm]
      have e4 : (nI u < nI (10 * v + (q - 48))) = (u < 10 * v + (q - 48)) := pz_lt (by omega) (by omega)
      rw [if_pos (by rw [e2]; exact h2), e3]
      by_cases h3 : 10 * v + (q - 48) ≤ u
      · rw [if_neg (by rw [e4]; omega), if_pos ⟨by omega, h2, h3⟩]
      · rw [if_pos (by rw [e4]; omega), if_neg (by omega)]
        rfl
    · rw [if_neg (by rw [e2]; exact h2), if_neg (by omega)]
      rfl
/-- only the reader's own cell changes -/
def Fr157 (m m' : Mem) : Prop := (∀ a, a ≠ 157 → m'.1 a = m.1 a) ∧ m'.2 = m.2
theorem Fr157.rf {m : Mem} : Fr157 m m := ⟨fun _ _ => rfl, rfl⟩
theorem Fr157.tr {m m' m'' : Mem} (h : Fr157 m m') (g : Fr157 m' m'') : Fr157 m m'' := ⟨fun a ha => (g.1 a ha).trans (h.1 a ha), g.2.trans h.2⟩
theorem Fr157.put {m m' : Mem} {j : Nat} {x : Int32} (h : Fr157 m m') : Fr157 m (si m' 157 j x) := ⟨fun a ha => by rw [si_ne ha]; exact h.1 a ha, h.2⟩
theorem s5_take {P : PT} (h : PCl m P) (hq : q ≤ 200) : ∃ m', f_X5_take (nI q) m = some (bI (pstep P q).isSome, m') ∧ Fr157 m m' ∧ ∀ P', pstep P q = some P' → PCl m' P' := by
  obtain ⟨s, n, kd, lg, vi, vl⟩ := P
  obtain ⟨s4, v1, v2, h1, h0, h2, h3, h4, h5⟩ := h
  dsimp only at s4 v1 v2 h1 h0 h2 h3 h4 h5
  have qe : ∀ a : Nat, a < 1000000 → (nI q = nI a) = (q = a) := fun a ha => pz_eq (by omega) ha
  unfold f_X5_take
  rw [h1, pz_nm]
  rcases (show s = 0 ∨ s = 1 ∨ s = 2 ∨ s = 3 ∨ s = 4 by omega) with rfl | rfl | rfl | rfl | rfl
  · rw [if_pos (by decide)]
    unfold f_X5_takeKind
    rw [show (99 : Int32) = nI 99 from rfl, show (114 : Int32) = nI 114 from rfl, show (97 : Int32) = nI 97 from rfl]
    have fin : ∀ k : Nat, ∃ m', (bnd2 (bnd (some (nI k)) fun (x8 : Int32) => nm (si m 157 2 x8) fun m9 => nm (si m9 157 0 ((m9.1 157 0) + 1)) fun m10 => nm (si m10 157 1 1) fun m11 => some ((1 : Int32), m11)) fun x4 m5 => gBo x4 <| some (x4, m5)) = some (bI true, m') ∧ Fr157 m m' ∧ PCl m' (1, n, k, lg, vi, vl) := by
      intro k
      refine ⟨_, rfl, ((Fr157.rf.put).put).put, by omega, v1, v2, ?_, ?_, fun _ => ?_, fun h => ?_, fun h => ?_, fun h => ?_⟩
      · rw [si_at]; rfl
      · rw [si_off (by omega), si_at, si_off (by omega), h0]
        exact pz_s _
      · rw [si_off (by omega), si_off (by omega), si_at]
      · exact absurd h (by simp)
      · exact absurd h (by simp)
      · exact absurd h (by simp)
    by_cases a1 : q = 99
    · subst a1
      obtain ⟨m', e1, e2, e3⟩ := fin 0
      exact ⟨m', e1, e2, fun P' hP => by cases hP; exact e3⟩
    by_cases a2 : q = 114
    · subst a2
      obtain ⟨m', e1, e2, e3⟩ := fin 1
      exact ⟨m', e1, e2, fun P' hP => by cases hP; exact e3⟩
    by_cases a3 : q = 97
    · subst a3
      obtain ⟨m', e1, e2, e3⟩ := fin 2
      exact ⟨m', e1, e2, fun P' hP => by cases hP; exact e3⟩
    have pn : pstep (0, n, kd, lg, vi, vl) q = none := by simp [pstep, a1, a2, a3]
    rw [if_neg (by rw [qe 99 (by omega)]; exact a1), if_neg (by rw [qe 114 (by omega)]; exact a2), if_neg (by rw [qe 97 (by omega)]; exact a3), pz_jr, pz_bnd2, pn]
    exact ⟨m, rfl, Fr157.rf, fun P' hP => by cases hP⟩
  · rw [if_neg (by decide), if_pos (by decide)]
    unfold f_X5_takeLanguage
    have e1 : (nI q < 49) = (q < 49) := pz_lt (b := (49 : Nat)) (by omega) (by decide)
    have e2 : (nI q ≤ 57) = (q ≤ 57) := pz_le (b := (57 : Nat)) (by omega) (by decide)
    by_cases a : 49 ≤ q ∧ q ≤ 57
    · have pn : pstep (1, n, kd, lg, vi, vl) q = some (2, n, kd, q - 48, vi, vl) := by simp [pstep, a]
      rw [if_neg (by rw [e1]; omega), if_pos (by rw [e2]; omega), show nI q - 48 = nI (q - 48) by rw [show (48 : Int32) = nI 48 from rfl, pk_sub (by omega)], pn]
      refine ⟨_, rfl, (Fr157.rf.put).put, fun P' hP => ?_⟩
      cases hP
      refine ⟨by simp, v1, v2, ?_, ?_, fun _ => ?_, fun _ => ?_, fun h => ?_, fun h => ?_⟩
      · rw [si_at]; rfl
      · rw [si_off (by omega), si_off (by omega), h0]; rfl
      · rw [si_off (by omega), si_off (by omega)]; exact h2 (by omega)
      · rw [si_off (by omega), si_at]
      · exact absurd h (by simp)
      · exact absurd h (by simp)
    · have pn : pstep (1, n, kd, lg, vi, vl) q = none := by simp [pstep, a]
      rw [pn]
      by_cases b : q < 49
      · rw [if_pos (by rw [e1]; exact b)]
        exact ⟨m, rfl, Fr157.rf, fun P' hP => by cases hP⟩
      · rw [if_neg (by rw [e1]; exact b), if_neg (by rw [e2]; omega)]
        exact ⟨m, rfl, Fr157.rf, fun P' hP => by cases hP⟩
  · rw [if_neg (by decide), if_neg (by decide), if_pos (by decide)]
    unfold f_X5_takeSign
    rw [show (64 : Int32) = nI 64 from rfl]
    by_cases a : q = 64
    · have pn : pstep (2, n, kd, lg, vi, vl) q = some (3, n, kd, lg, 0, vl) := by simp [pstep, a]
      rw [if_pos (by rw [qe 64 (by omega)]; exact a), pn]
      refine ⟨_, rfl, (Fr157.rf.put).put, fun P' hP => ?_⟩
      cases hP
      refine ⟨by simp, Nat.zero_le _, v2, ?_, ?_, fun _ => ?_, fun _ => ?_, fun _ => ?_, fun h => ?_⟩
      · rw [si_at]; rfl
      · rw [si_off (by omega), si_off (by omega), h0]; rfl
      · rw [si_off (by omega), si_off (by omega)]; exact h2 (by omega)
      · rw [si_off (by omega), si_off (by omega)]; exact h3 (by omega)
      · rw [si_off (by omega), si_at]; rfl
      · exact absurd h (by simp)
    · have pn : pstep (2, n, kd, lg, vi, vl) q = none := by simp [pstep, a]
      rw [if_neg (by rw [qe 64 (by omega)]; exact a), pn]
      exact ⟨m, rfl, Fr157.rf, fun P' hP => by cases hP⟩
  · rw [if_neg (by decide), if_neg (by decide), if_neg (by decide), if_pos (by decide)]
    have h4 := h4 (by omega)
    unfold f_X5_takeIn
    have ev : (nI vi ≤ 0) = (vi = 0) := i32_le0 (by omega)
    by_cases a : q = 43 ∧ 0 < vi
    · have pn : pstep (3, n, kd, lg, vi, vl) q = some (4, n, kd, lg, vi, 0) := by simp [pstep, a]
      rw [show (43 : Int32) = nI 43 from rfl, if_pos (by rw [qe 43 (by omega)]; exact a.1), h4, if_neg (by rw [ev]; omega), pn]
      refine ⟨_, rfl, (Fr157.rf.put).put, fun P' hP => ?_⟩
      cases hP
      refine ⟨by simp, v1, Nat.zero_le _, ?_, ?_, fun _ => ?_, fun _ => ?_, fun _ => ?_, fun _ => ?_⟩
      · rw [si_at]; rfl
      · rw [si_off (by omega), si_off (by omega), h0]; rfl
      · rw [si_off (by omega), si_off (by omega)]; exact h2 (by omega)
      · rw [si_off (by omega), si_off (by omega)]; exact h3 (by omega)
      · rw [si_off (by omega), si_off (by omega)]; exact h4
      · rw [si_off (by omega), si_at]; rfl
    · have j0 : (if nI q = 43 then (if (m.1 157 4) ≤ 0 then some (.inl m) else nm (si m 157 5 0) fun m4 => nm (si m4 157 1 4) fun m5 => some (.inr ((1 : Int32), m5))) else some (.inl m)) = (some (.inl m) : Option (Mem ⊕ (Int32 × Mem))) := by
        rw [show (43 : Int32) = nI 43 from rfl]
        by_cases b : q = 43
        · rw [if_pos (by rw [qe 43 (by omega)]; exact b), h4, if_pos (by rw [ev]; omega)]
        · rw [if_neg (by rw [qe 43 (by omega)]; exact b)]
      rw [j0, pz_jl, h4, show (2000 : Int32) = nI 2000 from rfl, s5_longer (by omega) (by omega) hq, pz_bnd, pz_nm, si_at]
      by_cases b : 48 ≤ q ∧ q ≤ 57 ∧ 0 < 10 * vi + (q - 48) ∧ 10 * vi + (q - 48) ≤ 2000
      · have pn : pstep (3, n, kd, lg, vi, vl) q = some (3, n, kd, lg, 10 * vi + (q - 48), vl) := by
          simp only [pstep, if_neg a, if_pos b]
          rfl
        have ev2 : (nI (10 * vi + (q - 48)) ≤ 0) = (10 * vi + (q - 48) = 0) := i32_le0 (by omega)
        rw [if_pos (c := 48 ≤ q ∧ q ≤ 57 ∧ 10 * vi + (q - 48) ≤ 2000) ⟨b.1, b.2.1, b.2.2.2⟩, if_neg (c := nI (10 * vi + (q - 48)) ≤ 0) (by rw [ev2]; omega), pn]
        refine ⟨_, rfl, Fr157.rf.put, fun P' hP => ?_⟩
        cases hP
        refine ⟨by simp, b.2.2.2, v2, ?_, ?_, fun _ => ?_, fun _ => ?_, fun _ => ?_, fun h => ?_⟩
        · rw [si_off (by omega), h1]
        · rw [si_off (by omega), h0]
        · rw [si_off (by omega)]; exact h2 (by omega)
        · rw [si_off (by omega)]; exact h3 (by omega)
        · rw [si_at]
        · exact absurd h (by simp)
      · have pn : pstep (3, n, kd, lg, vi, vl) q = none := by
          simp only [pstep, if_neg a, if_neg b]
          rfl
        have z : (if 48 ≤ q ∧ q ≤ 57 ∧ 10 * vi + (q - 48) ≤ 2000 then 10 * vi + (q - 48) else 0) = 0 := by
          split <;> omega
        rw [z, if_pos (by decide), pn]
        exact ⟨_, rfl, Fr157.rf.put, fun P' hP => by cases hP⟩
  · rw [if_neg (by decide), if_neg (by decide), if_neg (by decide), if_neg (by decide)]
    have h5 := h5 rfl
    unfold f_X5_takeLength
    have ev : (nI vl < 10) = (vl < 10) := pz_lt (b := (10 : Nat)) (by omega) (by decide)
    by_cases a : q = 44 ∧ 10 ≤ vl
    · have pn : pstep (4, n, kd, lg, vi, vl) q = some (0, n + 1, kd, lg, vi, vl) := by simp [pstep, a]
      rw [show (44 : Int32) = nI 44 from rfl, if_pos (by rw [qe 44 (by omega)]; exact a.1), h5, if_neg (by rw [ev]; omega), pn]
      refine ⟨_, rfl, Fr157.rf.put, fun P' hP => ?_⟩
      cases hP
      refine ⟨by simp, v1, v2, ?_, ?_, fun h => ?_, fun h => ?_, fun h => ?_, fun h => ?_⟩
      · rw [si_at]; rfl
      · rw [si_off (by omega), h0]; rfl
      · exact absurd h (by simp)
      · exact absurd h (by simp)
      · exact absurd h (by simp)
      · exact absurd h (by simp)
    · have j0 : (if nI q = 44 then (if (m.1 157 5) < 10 then some (.inl m) else nm (si m 157 1 0) fun m4 => some (.inr ((1 : Int32), m4))) else some (.inl m)) = (some (.inl m) : Option (Mem ⊕ (Int32 × Mem))) := by
        rw [show (44 : Int32) = nI 44 from rfl]
        by_cases b : q = 44
        · rw [if_pos (by rw [qe 44 (by omega)]; exact b), h5, if_pos (by rw [ev]; omega)]
        · rw [if_neg (by rw [qe 44 (by omega)]; exact b)]
      rw [j0, pz_jl, h5, show (240 : Int32) = nI 240 from rfl, s5_longer (by omega) (by omega) hq, pz_bnd, pz_nm, si_at]
      by_cases b : 48 ≤ q ∧ q ≤ 57 ∧ 0 < 10 * vl + (q - 48) ∧ 10 * vl + (q - 48) ≤ 240
      · have pn : pstep (4, n, kd, lg, vi, vl) q = some (4, n, kd, lg, vi, 10 * vl + (q - 48)) := by
          simp only [pstep, if_neg a, if_pos b]
          rfl
        have ev2 : (nI (10 * vl + (q - 48)) ≤ 0) = (10 * vl + (q - 48) = 0) := i32_le0 (by omega)
        rw [if_pos (c := 48 ≤ q ∧ q ≤ 57 ∧ 10 * vl + (q - 48) ≤ 240) ⟨b.1, b.2.1, b.2.2.2⟩, if_neg (c := nI (10 * vl + (q - 48)) ≤ 0) (by rw [ev2]; omega), pn]
        refine ⟨_, rfl, Fr157.rf.put, fun P' hP => ?_⟩
        cases hP
        refine ⟨by simp, v1, b.2.2.2, ?_, ?_, fun _ => ?_, fun _ => ?_, fun _ => ?_, fun _ => ?_⟩
        · rw [si_off (by omega), h1]
        · rw [si_off (by omega), h0]
        · rw [si_off (by omega)]; exact h2 (by omega)
        · rw [si_off (by omega)]; exact h3 (by omega)
        · rw [si_off (by omega)]; exact h4 (by omega)
        · rw [si_at]
      · have pn : pstep (4, n, kd, lg, vi, vl) q = none := by
          simp only [pstep, if_neg a, if_neg b]
          rfl
        have z : (if 48 ≤ q ∧ q ≤ 57 ∧ 10 * vl + (q - 48) ≤ 240 then 10 * vl + (q - 48) else 0) = 0 := by
          split <;> omega
        rw [z, if_pos (by decide), pn]
        exact ⟨_, rfl, Fr157.rf.put, fun P' hP => by cases hP⟩
end PARSE
