/-! the model's step -/
def PMd (m : Mem) (P : PT) (L : Nat → Nat → Nat) : Prop := P.1 ≤ 4 ∧ P.2.2.2.2.1 ≤ 2000 ∧ P.2.2.2.2.2 ≤ 240 ∧ m.1 162 11 = nI P.1 ∧ m.1 162 9 = nI P.2.1 ∧ m.1 162 10 = (if P.1 = 3 then dgt P.2.2.2.2.1 else if P.1 = 4 then dgt P.2.2.2.2.2 else -1) ∧ (1 ≤ P.1 → m.1 167 (4 * P.2.1) = nI P.2.2.1) ∧ (2 ≤ P.1 → m.1 167 (4 * P.2.1 + 1) = nI P.2.2.2.1) ∧ (P.1 = 4 → m.1 167 (4 * P.2.1 + 2) = nI P.2.2.2.2.1) ∧ ∀ k, k < P.2.1 → ∀ j, j < 4 → m.1 167 (4 * k + j) = nI (L k j)
def pent (P : PT) (j : Nat) : Nat := if j = 0 then P.2.2.1 else if j = 1 then P.2.2.2.1 else if j = 2 then P.2.2.2.2.1 else P.2.2.2.2.2
/-- the hearings done, when one more is -/
def pL (P : PT) (q : Nat) (L : Nat → Nat → Nat) : Nat → Nat → Nat := if P.1 = 4 ∧ q = 44 then (fun k j => if k = P.2.1 then pent P j else L k j) else L
def FrT (m m' : Mem) : Prop := (∀ a, a ≠ 162 → a ≠ 167 → m'.1 a = m.1 a) ∧ (∀ j, j ≠ 9 → j ≠ 10 → j ≠ 11 → m'.1 162 j = m.1 162 j) ∧ m'.2 = m.2
theorem FrT.rf {m : Mem} : FrT m m := ⟨fun _ _ _ => rfl, fun _ _ _ _ => rfl, rfl⟩
theorem FrT.tr {m m' m'' : Mem} (h : FrT m m') (g : FrT m' m'') : FrT m m'' := ⟨fun a h1 h2 => (g.1 a h1 h2).trans (h.1 a h1 h2), fun j h1 h2 h3 => (g.2.1 j h1 h2 h3).trans (h.2.1 j h1 h2 h3), g.2.2.trans h.2.2⟩
theorem FrT.p2 {m m' : Mem} {j : Nat} {x : Int32} (h : FrT m m') (hj : j = 9 ∨ j = 10 ∨ j = 11) : FrT m (si m' 162 j x) := ⟨fun a h1 h2 => by rw [si_ne h1]; exact h.1 a h1 h2, fun i h1 h2 h3 => by rw [si_off (by omega)]; exact h.2.1 i h1 h2 h3, h.2.2⟩
theorem FrT.p7 {m m' : Mem} {j : Nat} {x : Int32} (h : FrT m m') : FrT m (si m' 167 j x) := ⟨fun a h1 h2 => by rw [si_ne h2]; exact h.1 a h1 h2, fun i h1 h2 h3 => by rw [si_ne (by omega)]; exact h.2.1 i h1 h2 h3, h.2.2⟩
section PARSE3
variable {m : Mem} {q : Nat} {L : Nat → Nat → Nat}
theorem s8_takesKind {n lg vi vl kd : Nat} (h : PMd m (0, n, kd, lg, vi, vl) L) (hn : n < 10) (hq : q ≤ 200) : ∃ m', f_X8_takesKind (nI q) m = some (bI (pstep (0, n, kd, lg, vi, vl) q).isSome, m') ∧ FrT m m' ∧ ∀ P', pstep (0, n, kd, lg, vi, vl) q = some P' → PMd m' P' L := by
  obtain ⟨s4, v1, v2, h11, h9, h10, h0, h1, h2, hL⟩ := h
  dsimp only at s4 v1 v2 h11 h9 h10 h0 h1 h2 hL
  have qe : ∀ a : Nat, a < 1000000 → (nI q = nI a) = (q = a) := fun a ha => pz_eq (by omega) ha
  unfold f_X8_takesKind
  rw [h9, show (4 : Int32) = nI 4 from rfl, pz_mul, show (99 : Int32) = nI 99 from rfl, show (114 : Int32) = nI 114 from rfl, show (97 : Int32) = nI 97 from rfl]
  simp (disch := omega) only [pz_nm, pz_in, pz_cl]
  have fin : ∀ k : Nat, FrT m (si (si m 167 (4 * n) (nI k)) 162 11 1) ∧ PMd (si (si m 167 (4 * n) (nI k)) 162 11 1) (1, n, k, lg, vi, vl) L := by
    intro k
    refine ⟨(FrT.rf.p7).p2 (by omega), by simp, v1, v2, ?_, ?_, ?_, fun _ => ?_, fun h => ?_, fun h => ?_, fun i hi j hj => ?_⟩
    · rw [si_at]; rfl
    · rw [si_off (by omega), si_ne (by omega)]; exact h9
    · rw [si_off (by omega), si_ne (by omega)]; exact h10
    · rw [si_ne (by omega), si_at]
    · exact absurd h (by simp)
    · exact absurd h (by simp)
    · have hi : i < n := hi
      rw [si_ne (by omega), si_off (by omega)]
      exact hL i hi j hj
  by_cases a1 : q = 99
  · subst a1
    exact ⟨_, rfl, (fin 0).1, fun P' hP => by cases hP; exact (fin 0).2⟩
  by_cases a2 : q = 114
  · subst a2
    exact ⟨_, rfl, (fin 1).1, fun P' hP => by cases hP; exact (fin 1).2⟩
  by_cases a3 : q = 97
  · subst a3
    exact ⟨_, rfl, (fin 2).1, fun P' hP => by cases hP; exact (fin 2).2⟩
  have pn : pstep (0, n, kd, lg, vi, vl) q = none := by simp [pstep, a1, a2, a3]
  rw [if_neg (by rw [qe 99 (by omega)]; exact a1), if_neg (by rw [qe 114 (by omega)]; exact a2), pz_bnd, if_neg (by rw [qe 99 (by omega)]; exact a1), if_neg (by rw [qe 114 (by omega)]; exact a2), if_neg (by rw [qe 97 (by omega)]; exact a3), pn]
  exact ⟨_, rfl, (fin 2).1, fun P' hP => by cases hP⟩
end PARSE3
