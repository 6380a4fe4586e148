/-! what both sides keep between calls; save and undo -/
def Ab : Type := Row × Nat × (Nat → Row) × Nat × (Nat → Int32)
def Ab.mk (r : Row) (n : Nat) (hs : Nat → Row) (bl : Nat) (bc : Nat → Int32) : Ab := (r, n, hs, bl, bc)
def Ab.r (A : Ab) : Row := A.1
def Ab.n (A : Ab) : Nat := A.2.1
def Ab.hs (A : Ab) : Nat → Row := A.2.2.1
def Ab.bl (A : Ab) : Nat := A.2.2.2.1
def Ab.bc (A : Ab) : Nat → Int32 := A.2.2.2.2
section ABS
variable {r : Row} {n : Nat} {hs : Nat → Row} {bl : Nat} {bc : Nat → Int32}
theorem ab_r : (Ab.mk r n hs bl bc).r = r := rfl
theorem ab_n : (Ab.mk r n hs bl bc).n = n := rfl
theorem ab_hs : (Ab.mk r n hs bl bc).hs = hs := rfl
theorem ab_bl : (Ab.mk r n hs bl bc).bl = bl := rfl
theorem ab_bc : (Ab.mk r n hs bl bc).bc = bc := rfl
end ABS
def Ab.push (A : Ab) : Ab := Ab.mk A.r (if A.n = 6 then 6 else A.n + 1) (fun k => if A.n = 6 then (if k < 5 then A.hs (k + 1) else A.r) else (if k = A.n then A.r else A.hs k)) A.bl A.bc
def Ab.now (A : Ab) (r : Row) : Ab := Ab.mk r A.n A.hs A.bl A.bc
def mrg (h r : Row) : Row := fun j => if j < 373 then h j else r j
def Ab.pop (A : Ab) : Ab := Ab.mk (mrg (A.hs (A.n - 1)) A.r) (A.n - 1) A.hs A.bl A.bc
def AC (m : Mem) (A : Ab) : Prop := CR 1 m A.r ∧ (∃ f, f < 6 ∧ m.1 39 1 = nI f ∧ m.1 39 0 = nI A.n ∧ ∀ k, k < A.n → CR (41 + 19 * ((f + k) % 6)) m (A.hs k)) ∧ m.1 155 0 = nI A.bl ∧ ∀ i, i < A.bl → m.1 156 i = A.bc i
def FrX (m m' : Mem) : Prop := ∀ a, 162 ≤ a → m'.1 a = m.1 a
theorem FrX.rf {m : Mem} : FrX m m := fun _ _ => rfl
theorem FrX.tr {m m' m'' : Mem} (h : FrX m m') (g : FrX m' m'') : FrX m m'' := fun a ha => (g a ha).trans (h a ha)
theorem FrC.x {c : Nat} {m m' : Mem} (h : FrC c m m') (hc : c + 19 ≤ 162) : FrX m m' := fun a ha => h.1 a (by omega)
theorem CR.fr {c : Nat} {m m' : Mem} {r : Row} (h : CR c m r) (g : ∀ a, c ≤ a → a < c + 19 → m'.1 a = m.1 a) : CR c m' r := ⟨fun k j i q => by
  have := (loc_lt q).2
  rw [g (c + k) (by omega) (by omega)]
  exact h.1 k j i q, fun o ho => by
  rw [g (c + 16) (by omega) (by omega)]
  exact h.2 o ho⟩
/-- the class's court changed, all else as it was -/
theorem AC.now {m m' : Mem} {A : Ab} {r : Row} (h : AC m A) (hr : CR 1 m' r) (g : FrC 1 m m') (hn : A.n ≤ 6) : AC m' (A.now r) := by
  obtain ⟨h1, ⟨f, hf, h2, h3, h4⟩, h5, h6⟩ := h
  refine ⟨hr, ⟨f, hf, ?_, ?_, fun k hk => (h4 k hk).fr fun a _ _ => g.1 a (by omega)⟩, ?_, fun i hi => ?_⟩
  · rw [g.1 39 (by omega)]; exact h2
  · rw [g.1 39 (by omega)]; exact h3
  · rw [g.1 155 (by omega)]; exact h5
  · rw [g.1 156 (by omega)]; exact h6 i hi
/-- scratch alone changed -/
theorem AC.scr {m m' : Mem} {A : Ab} (h : AC m A) (g : ∀ a, (1 ≤ a ∧ a < 20) ∨ a = 39 ∨ (41 ≤ a ∧ a < 157) → m'.1 a = m.1 a) : AC m' A := by
  obtain ⟨h1, ⟨f, hf, h2, h3, h4⟩, h5, h6⟩ := h
  refine ⟨h1.fr fun a _ _ => g a (by omega), ⟨f, hf, ?_, ?_, fun k hk => (h4 k hk).fr fun a _ _ => g a (by omega)⟩, ?_, fun i hi => ?_⟩
  · rw [g 39 (by omega)]; exact h2
  · rw [g 39 (by omega)]; exact h3
  · rw [g 155 (by omega)]; exact h5
  · rw [g 156 (by omega)]; exact h6 i hi
theorem Ab.now_id (A : Ab) : A.now A.r = A := rfl
section SAVE
variable {m : Mem} {A : Ab}
theorem s4_save (h : AC m A) (hn : A.n ≤ 6) (h30 : hrs A.r ≤ 30) : ∃ m', f_X4_save 1 m = some m' ∧ AC m' A.push ∧ FrX m m' := by
  obtain ⟨h1, ⟨f, hf, h2, h3, h4⟩, h5, h6⟩ := h
  unfold f_X4_save
  rw [h2, h3, pz_add, pz_nm, show (6 : Int32) = nI 6 from rfl, pk_rem (by omega) (by omega) (by omega), pz_in (by omega) (by omega), pz_cl (by omega)]
  obtain ⟨m', e, c1, c2⟩ := s2_copyFrom (c := savedOff ((f + A.n) % 6)) h1 h30 (by unfold savedOff; omega)
  unfold savedOff at e c1 c2
  rw [show savedOff ((f + A.n) % 6) = 41 + 19 * ((f + A.n) % 6) from rfl, e, pz_bnd, c2.1 39 (by omega), h3, h2]
  have other : ∀ j, j < 6 → j ≠ (f + A.n) % 6 → ∀ r, CR (41 + 19 * j) m r → CR (41 + 19 * j) m' r := fun j hj hne r hr => hr.fr fun a _ _ => c2.1 a (by omega)
  by_cases e6 : A.n = 6
  · rw [if_pos (by rw [pz_le (by omega) (by omega)]; omega), pz_s, pz_nm, pk_rem (by omega) (by omega) (by omega), pz_nm]
    refine ⟨_, rfl, ⟨?_, ⟨(f + 1) % 6, by omega, ?_, ?_, fun k hk => ?_⟩, ?_, fun i hi => ?_⟩, fun a ha => ?_⟩
    · exact h1.fr fun a _ _ => by rw [si_ne (by omega), c2.1 a (by omega)]
    · rw [si_at]
    · rw [si_off (by omega), c2.1 39 (by omega), h3, e6]
      simp only [Ab.push, ab_n, if_pos e6]
    · have hk6 : k < 6 := by simp only [Ab.push, ab_n, if_pos e6] at hk; exact hk
      simp only [Ab.push, ab_hs, if_pos e6]
      by_cases q : k < 5
      · rw [if_pos q, show ((f + 1) % 6 + k) % 6 = (f + (k + 1)) % 6 by omega]
        exact (other _ (by omega) (by omega) _ (h4 (k + 1) (by omega))).fr fun a _ _ => si_ne (by omega)
      · rw [if_neg q, show ((f + 1) % 6 + k) % 6 = (f + A.n) % 6 by omega]
        exact c1.fr fun a _ _ => si_ne (by omega)
    · rw [si_ne (by omega), c2.1 155 (by omega)]
      exact h5
    · rw [si_ne (by omega), c2.1 156 (by omega)]
      exact h6 i hi
    · rw [si_ne (by omega), c2.1 a (by omega)]
  · rw [if_neg (by rw [pz_le (by omega) (by omega)]; omega), pz_s, pz_nm]
    refine ⟨_, rfl, ⟨?_, ⟨f, hf, ?_, ?_, fun k hk => ?_⟩, ?_, fun i hi => ?_⟩, fun a ha => ?_⟩
    · exact h1.fr fun a _ _ => by rw [si_ne (by omega), c2.1 a (by omega)]
    · rw [si_off (by omega), c2.1 39 (by omega), h2]
    · rw [si_at]
      simp only [Ab.push, ab_n, if_neg e6]
    · have hk6 : k < A.n + 1 := by simp only [Ab.push, ab_n, if_neg e6] at hk; exact hk
      simp only [Ab.push, ab_hs, if_neg e6]
      by_cases q : k = A.n
      · rw [if_pos q, q]
        exact c1.fr fun a _ _ => si_ne (by omega)
      · rw [if_neg q]
        exact (other _ (by omega) (by omega) _ (h4 k (by omega))).fr fun a _ _ => si_ne (by omega)
    · rw [si_ne (by omega), c2.1 155 (by omega)]
      exact h5
    · rw [si_ne (by omega), c2.1 156 (by omega)]
      exact h6 i hi
    · rw [si_ne (by omega), c2.1 a (by omega)]
theorem CR.cong {c : Nat} {m : Mem} {r r' : Row} (h : CR c m r) (g : ∀ i, i < 373 → r' i = r i) (h30 : hrs r ≤ 30) : CR c m r' := ⟨fun k j i q => by
  rw [g i (loc_lt q).1]
  exact h.1 k j i q, fun o ho => by
  rw [g 8 (by omega)] at ho
  unfold hrs at h30
  rw [h.2 o ho]
  unfold mskN
  rw [g _ (by omega), g _ (by omega), g _ (by omega)]⟩
theorem mrg_in {h r : Row} {i : Nat} (hi : i < 373) : mrg h r i = h i := if_pos hi
end SAVE
