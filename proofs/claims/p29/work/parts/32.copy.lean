/-! a court copied from another -/
def okc (k j : Nat) : Prop := (k = 0 ∧ 3 ≤ j ∧ j < 7) ∨ (k = 1 ∧ j = 0) ∨ (2 ≤ k ∧ k < 8 ∧ j < 10) ∨ (k = 8 ∧ j = 0) ∨ (9 ≤ k ∧ k < 17 ∧ j < 30) ∨ (k = 17 ∧ j < 90) ∨ (k = 18 ∧ j < 7)
theorem loc_okc0 : ∀ i, i < 373 → okc (unloc i).1 (unloc i).2 := by unfold okc; decide +kernel
theorem loc_okc {k j i : Nat} (h : loc k j = some i) : okc k j := by
  obtain ⟨e, hi, -⟩ := loc_un h
  have := loc_okc0 i hi
  rw [e] at this
  exact this
def CP (c d : Nat) (m0 m : Mem) (K : Nat → Nat → Prop) : Prop := (∀ k j, K k j → m.1 (c + k) j = m0.1 (d + k) j) ∧ FrC c m0 m
section COPY
variable {c d : Nat} {m0 m : Mem} {K : Nat → Nat → Prop}
theorem CP.fld (h : CP c d m0 m K) (hd : d + 19 ≤ c ∨ c + 19 ≤ d) {k : Nat} (hk : k < 19) (j0 : Nat) : CP c d m0 (si m (c + k) j0 (m.1 (d + k) j0)) (fun x j => (x = k ∧ j = j0) ∨ K x j) := by
  refine ⟨fun x j hx => ?_, h.2.put hk⟩
  by_cases e : c + x = c + k ∧ j = j0
  · obtain ⟨e1, rfl⟩ := e
    have : x = k := by omega
    subst this
    rw [si_at, h.2.1 (d + x) (by omega)]
  · rw [si_off (by omega)]
    rcases hx with hx | hx
    · omega
    · exact h.1 x j hx
theorem FrC.arr {m' : Mem} (h : FrC c m m') {k : Nat} (hk : k < 19) (f : Nat → Int32) : FrC c m (sa m' (c + k) f) := ⟨fun a ha => by rw [sa_ne _ (by omega)]; exact h.1 a ha, h.2⟩
theorem CP.arr (h : CP c d m0 m K) (hd : d + 19 ≤ c ∨ c + 19 ≤ d) {k : Nat} (hk : k < 19) (n : Nat) : CP c d m0 (sa m (c + k) (va_cpy (m.1 (d + k)) (m.1 (c + k)) 0 0 n)) (fun x j => (x = k ∧ j < n) ∨ K x j) := by
  refine ⟨fun x j hx => ?_, h.2.arr hk _⟩
  by_cases e : c + x = c + k
  · have : x = k := by omega
    subst this
    rw [sa_self]
    by_cases q : j < n
    · rw [pk_cpy_in (by omega) (by omega), h.2.1 (d + x) (by omega), Nat.zero_add, Nat.sub_zero]
    · rw [pk_cpy_out (by omega)]
      rcases hx with hx | hx
      · omega
      · exact h.1 x j hx
  · rw [sa_ne _ e]
    rcases hx with hx | hx
    · omega
    · exact h.1 x j hx
theorem CP.weak {K' : Nat → Nat → Prop} (h : CP c d m0 m K) (g : ∀ k j, K' k j → K k j) : CP c d m0 m K' := ⟨fun k j q => h.1 k j (g k j q), h.2⟩
theorem s6_copyFrom (hd : d + 19 ≤ c ∨ c + 19 ≤ d) : ∃ m', f_X6_copyFrom c d m = some m' ∧ CP c d m m' (fun k j => k < 8 ∧ k ≠ 0 ∧ okc k j) := by
  have h0 : CP c d m m (fun _ _ => False) := ⟨fun _ _ q => q.elim, FrC.rf⟩
  have h := ((((((h0.fld hd (k := 1) (by omega) 0).arr hd (k := 2) (by omega) 10).arr hd (k := 3) (by omega) 10).arr hd (k := 4) (by omega) 10).arr hd (k := 5) (by omega) 10).arr hd (k := 6) (by omega) 10).arr hd (k := 7) (by omega) 10
  refine ⟨_, rfl, h.weak fun k j q => ?_⟩
  obtain ⟨q1, q2, q⟩ := q
  unfold okc at q
  rcases q with q | q | q | q | q | q | q
  · omega
  · simp [q]
  · have : k = 2 ∨ k = 3 ∨ k = 4 ∨ k = 5 ∨ k = 6 ∨ k = 7 := by omega
    rcases this with rfl | rfl | rfl | rfl | rfl | rfl <;> simp [q.2.2]
  · omega
  · omega
  · omega
  · omega
theorem s3_copyFrom (h : CP c d m0 m (fun k j => k < 8 ∧ k ≠ 0 ∧ okc k j)) (hd : d + 19 ≤ c ∨ c + 19 ≤ d) : ∃ m', f_X3_copyFrom c d m = some m' ∧ CP c d m0 m' (fun k j => k < 18 ∧ k ≠ 0 ∧ okc k j) := by
  have h := (((((((((h.fld hd (k := 8) (by omega) 0).arr hd (k := 9) (by omega) 30).arr hd (k := 10) (by omega) 30).arr hd (k := 11) (by omega) 30).arr hd (k := 12) (by omega) 30).arr hd (k := 13) (by omega) 30).arr hd (k := 14) (by omega) 30).arr hd (k := 15) (by omega) 30).arr hd (k := 16) (by omega) 30).arr hd (k := 17) (by omega) 90
  refine ⟨_, rfl, h.weak fun k j q => ?_⟩
  obtain ⟨q1, q2, q'⟩ := q
  have q := q'
  unfold okc at q
  rcases q with q | q | q | q | q | q | q
  · omega
  · simp [q'] ; omega
  · simp [q'] ; omega
  · simp [q]
  · have : k = 9 ∨ k = 10 ∨ k = 11 ∨ k = 12 ∨ k = 13 ∨ k = 14 ∨ k = 15 ∨ k = 16 := by omega
    rcases this with rfl | rfl | rfl | rfl | rfl | rfl | rfl | rfl <;> simp [q.2.2]
  · simp [q]
  · omega
theorem s2_copyFrom0 (hd : d + 19 ≤ c ∨ c + 19 ≤ d) : ∃ m', f_X2_copyFrom c d m = some m' ∧ CP c d m m' okc := by
  obtain ⟨m1, e1, h1⟩ := s6_copyFrom (m := m) hd
  obtain ⟨m2, e2, h2⟩ := s3_copyFrom h1 hd
  have h := ((((h2.arr hd (k := 18) (by omega) 7).fld hd (k := 0) (by omega) 3).fld hd (k := 0) (by omega) 4).fld hd (k := 0) (by omega) 5).fld hd (k := 0) (by omega) 6
  unfold f_X2_copyFrom
  rw [e1, pz_bnd, e2, pz_bnd]
  refine ⟨_, rfl, h.weak fun k j q' => ?_⟩
  have q := q'
  unfold okc at q
  rcases q with q | q | q | q | q | q | q
  · have : j = 3 ∨ j = 4 ∨ j = 5 ∨ j = 6 := by omega
    rcases this with rfl | rfl | rfl | rfl <;> simp [q.1]
  · simp [q'] ; omega
  · simp [q'] ; omega
  · simp [q'] ; omega
  · simp [q'] ; omega
  · simp [q'] ; omega
  · simp [q]
theorem s2_copyFrom {r : Row} (hC : CR d m r) (hn : hrs r ≤ 30) (hd : d + 19 ≤ c ∨ c + 19 ≤ d) : ∃ m', f_X2_copyFrom c d m = some m' ∧ CR c m' r ∧ FrC c m m' := by
  obtain ⟨m', e, h, f⟩ := s2_copyFrom0 (m := m) hd
  refine ⟨m', e, ⟨fun k j i q => ?_, fun o ho => ?_⟩, f⟩
  · rw [h k j (loc_okc q)]
    exact hC.1 k j i q
  · rw [h 16 o (by unfold okc; unfold hrs at hn; omega)]
    exact hC.2 o ho
end COPY
