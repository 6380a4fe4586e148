/-! calls: assign, whyNot -/
def isq (r : Row) (y : Int32) : Bool := decide (y = -1) || isp r y
def prs (r : Row) (x y z : Int32) : Bool := isp r x && (isq r y && isq r z)
def rwo (x y z : Int32) : Bool := if y = -1 then decide (z = -1) else decide (x ≠ y) && (decide (z = -1) || (decide (z ≠ x) && decide (z ≠ y)))
section ASG
variable {m : Mem} {A : Ab} {r : Row} {x y z w : Int32}
theorem isp_ne {r : Row} (hn : NumW r) (h : isp r x = true) : x ≠ -1 := by
  obtain ⟨p, hp, rfl⟩ := isp_of hn h
  have := hn.1
  intro q
  have k : (nI p = -1) = False := pz_ne1 (by omega)
  rw [k] at q
  exact q
theorem s7_names (hC : CR0 1 m r) : f_X7_nameInterpreters x y z m = some (bI (prs r x y z)) := by
  unfold f_X7_nameInterpreters prs isq
  rw [s6_has hC, pz_bnd, bI_ite, s6_has hC, pz_bnd, bI_ite, s6_has hC, pz_bnd, bI_ite]
  by_cases hy : y = -1
  · by_cases hz : z = -1
    · subst hy; subst hz
      cases isp r x <;> simp [bI]
    · subst hy
      cases isp r x <;> cases isp r z <;> simp [bI, hz]
  · by_cases hz : z = -1
    · subst hz
      cases isp r x <;> cases isp r y <;> simp [bI, hy]
    · cases isp r x <;> cases isp r y <;> cases isp r z <;> simp [bI, hy, hz]
theorem s7_row (hx : x ≠ -1) : f_X7_areRowOfDifferent x y z m = some (bI (rwo x y z)) := by
  unfold f_X7_areRowOfDifferent rwo
  by_cases hy : y = -1
  · by_cases hz : z = -1
    · simp [hy, hz, bI]
    · simp [hy, hz, bI]
  · rw [if_neg hy, if_neg hy]
    by_cases q1 : x = y
    · simp [q1, bI]
    · rw [if_neg q1]
      by_cases q2 : x = z
      · have : ¬ z = -1 := by rw [← q2]; exact hx
        simp [q2, bI, this]
      · rw [if_neg q2]
        have q2' : ¬ z = x := fun e => q2 e.symm
        by_cases q3 : y = z
        · have : ¬ z = -1 := by rw [← q3]; exact hy
          simp [q3, bI, this]
        · have q3' : ¬ z = y := fun e => q3 e.symm
          simp [q1, q2', q3, q3', bI]
theorem row_tri (hn : NumW r) (hp : prs r x y z = true) (hr : rwo x y z = true) : ∃ n t, Tri r n t ∧ x = nI (t 0) ∧ y = tri n t 1 ∧ z = tri n t 2 := by
  unfold prs isq at hp
  rw [Bool.and_eq_true, Bool.and_eq_true, Bool.or_eq_true, Bool.or_eq_true, decide_eq_true_eq, decide_eq_true_eq] at hp
  obtain ⟨px, py, pz⟩ := hp
  obtain ⟨a, ha, rfl⟩ := isp_of hn px
  have h10 := hn.1
  unfold rwo at hr
  by_cases hy : y = -1
  · rw [if_pos hy, decide_eq_true_eq] at hr
    exact ⟨1, fun _ => a, ⟨by omega, by omega, fun k _ => ha, fun i j hi hj _ => by omega⟩, rfl, by rw [hy]; rfl, by rw [hr]; rfl⟩
  · rw [if_neg hy, Bool.and_eq_true, Bool.or_eq_true, Bool.and_eq_true, decide_eq_true_eq, decide_eq_true_eq, decide_eq_true_eq, decide_eq_true_eq] at hr
    obtain ⟨b, hb, rfl⟩ := isp_of hn (py.resolve_left hy)
    have ab : a ≠ b := fun e => hr.1 (by rw [e])
    by_cases hz : z = -1
    · refine ⟨2, fun k => if k = 0 then a else b, ⟨by omega, by omega, fun k _ => ?_, fun i j hi hj e => ?_⟩, rfl, rfl, by rw [hz]; rfl⟩
      · show (if k = 0 then a else b) < _
        split <;> omega
      · simp only [] at e
        by_cases i0 : i = 0 <;> by_cases j0 : j = 0 <;> simp [i0, j0] at e <;> omega
    · obtain ⟨c, hc, rfl⟩ := isp_of hn (pz.resolve_left hz)
      obtain ⟨e1, e2⟩ := hr.2.resolve_left hz
      have ca : c ≠ a := fun e => e1 (by rw [e])
      have cb : c ≠ b := fun e => e2 (by rw [e])
      refine ⟨3, fun k => if k = 0 then a else if k = 1 then b else c, ⟨by omega, by omega, fun k _ => ?_, fun i j hi hj e => ?_⟩, rfl, rfl, rfl⟩
      · show (if k = 0 then a else if k = 1 then b else c) < _
        split
        · omega
        · split <;> omega
      · rcases (show i = 0 ∨ i = 1 ∨ i = 2 by omega) with rfl | rfl | rfl <;> rcases (show j = 0 ∨ j = 1 ∨ j = 2 by omega) with rfl | rfl | rfl <;> simp at e <;> omega
theorem s8_lay : ∃ m', f_X8_lay x y z m = some m' ∧ m'.1 166 0 = x ∧ m'.1 166 1 = y ∧ m'.1 166 2 = z ∧ m'.1 162 7 = (if y = -1 then 1 else if z = -1 then 2 else 3) ∧ (∀ a, a ≠ 162 → a ≠ 166 → m'.1 a = m.1 a) ∧ (∀ j, j ≠ 7 → m'.1 162 j = m.1 162 j) ∧ m'.2 = m.2 := by
  have key : ∀ v : Int32, (si (si (si (si m 166 0 x) 166 1 y) 166 2 z) 162 7 v).1 166 0 = x ∧ (si (si (si (si m 166 0 x) 166 1 y) 166 2 z) 162 7 v).1 166 1 = y ∧ (si (si (si (si m 166 0 x) 166 1 y) 166 2 z) 162 7 v).1 166 2 = z ∧ (si (si (si (si m 166 0 x) 166 1 y) 166 2 z) 162 7 v).1 162 7 = v ∧ (∀ a, a ≠ 162 → a ≠ 166 → (si (si (si (si m 166 0 x) 166 1 y) 166 2 z) 162 7 v).1 a = m.1 a) ∧ (∀ j, j ≠ 7 → (si (si (si (si m 166 0 x) 166 1 y) 166 2 z) 162 7 v).1 162 j = m.1 162 j) ∧ (si (si (si (si m 166 0 x) 166 1 y) 166 2 z) 162 7 v).2 = m.2 := by
    intro v
    refine ⟨?_, ?_, ?_, si_at _ _ _ _, fun a h1 h2 => ?_, fun j hj => ?_, rfl⟩
    · rw [si_ne (by omega), si_off (by omega), si_off (by omega), si_at]
    · rw [si_ne (by omega), si_off (by omega), si_at]
    · rw [si_ne (by omega), si_at]
    · rw [si_ne h1, si_ne h2, si_ne h2, si_ne h2]
    · rw [si_off (by omega), si_ne (by omega), si_ne (by omega), si_ne (by omega)]
  unfold f_X8_lay
  simp only [pz_nm]
  by_cases hy : y = -1
  · rw [if_pos hy, if_pos hy]
    exact ⟨_, rfl, key 1⟩
  · rw [if_neg hy, if_neg hy]
    by_cases hz : z = -1
    · rw [if_pos hz, if_pos hz]
      exact ⟨_, rfl, key 2⟩
    · rw [if_neg hz, if_neg hz]
      exact ⟨_, rfl, key 3⟩
/-- cells 166 and 162's 7 alone differ -/
def LY (m m' : Mem) : Prop := (∀ a, a ≠ 162 → a ≠ 166 → m'.1 a = m.1 a) ∧ (∀ j, j ≠ 7 → m'.1 162 j = m.1 162 j) ∧ m'.2 = m.2
theorem LY.am {m m' : Mem} (h : LY m m') (hM : AM m A) : AM m' A := by
  obtain ⟨h1, h2, h3, h4, h5⟩ := hM
  refine ⟨?_, ?_, fun k hk i hi => ?_, ?_, fun i hi => ?_⟩
  · rw [h.1 163 (by omega) (by omega)]; exact h1
  · rw [h.2.1 1 (by omega)]; exact h2
  · rw [h.1 164 (by omega) (by omega)]; exact h3 k hk i hi
  · rw [h.2.1 3 (by omega)]; exact h4
  · rw [h.1 165 (by omega) (by omega)]; exact h5 i hi
theorem LY.fr {m m' : Mem} (h : LY m m') : FrM m m' := ⟨fun a ha => h.1 a (by omega) (by omega), h.2.2⟩
theorem LY.rf {m : Mem} : LY m m := ⟨fun _ _ _ => rfl, fun _ _ => rfl, rfl⟩
theorem lay_TR {n : Nat} {t : Nat → Nat} {m' : Mem} (ht : Tri r n t) (h10 : ppl r ≤ 10) (a0 : m'.1 166 0 = nI (t 0)) (a1 : m'.1 166 1 = tri n t 1) (a2 : m'.1 166 2 = tri n t 2) (a7 : m'.1 162 7 = (if tri n t 1 = -1 then 1 else if tri n t 2 = -1 then 2 else 3)) : TR m' n t := by
  have nm1 : ∀ k, k < n → ¬ tri n t k = -1 := fun k hk => by
    have := ht.2.2.1 k hk
    have e : (nI (t k) = -1) = False := pz_ne1 (by omega)
    unfold tri
    rw [if_pos hk, e]
    exact id
  have m1 : ∀ k, n ≤ k → tri n t k = -1 := fun k hk => by unfold tri; rw [if_neg (by omega)]
  have tk : ∀ k, k < n → tri n t k = nI (t k) := fun k hk => by unfold tri; rw [if_pos hk]
  obtain ⟨n1, n3, -, -⟩ := ht
  rcases (show n = 1 ∨ n = 2 ∨ n = 3 by omega) with rfl | rfl | rfl
  · rw [if_pos (m1 1 (by omega))] at a7
    exact ⟨a7, fun k hk => by rw [show k = 0 by omega]; exact a0⟩
  · rw [if_neg (nm1 1 (by omega)), if_pos (m1 2 (by omega))] at a7
    refine ⟨a7, fun k hk => ?_⟩
    rcases (show k = 0 ∨ k = 1 by omega) with rfl | rfl
    · exact a0
    · rw [a1, tk 1 (by omega)]
  · rw [if_neg (nm1 1 (by omega)), if_neg (nm1 2 (by omega))] at a7
    refine ⟨a7, fun k hk => ?_⟩
    rcases (show k = 0 ∨ k = 1 ∨ k = 2 by omega) with rfl | rfl | rfl
    · exact a0
    · rw [a1, tk 1 (by omega)]
    · rw [a2, tk 2 (by omega)]
theorem s8_refused (hz : m.1 163 = r) (hn : NumW r) : ∃ m', f_X8_refusedChain w x y z m = some (if (ish r w && prs r x y z) = true then (if rwo x y z = true then 0 else 2) else 1, m') ∧ LY m m' ∧ ((ish r w && prs r x y z) = true → m'.1 166 0 = x ∧ m'.1 166 1 = y ∧ m'.1 166 2 = z ∧ m'.1 162 7 = (if y = -1 then 1 else if z = -1 then 2 else 3)) := by
  unfold f_X8_refusedChain
  have e1 : (if bI (ish r w) = 0 then some 0 else bnd (f_X8_isPerson x m) fun x6 => (if x6 = 0 then some 0 else (if y = (-1) then (if z = (-1) then some 1 else bnd (f_X8_isPerson z m) fun x11 => (if x11 = 0 then some 0 else some 1)) else bnd (f_X8_isPerson y m) fun x14 => (if x14 = 0 then some 0 else (if z = (-1) then some 1 else bnd (f_X8_isPerson z m) fun x18 => (if x18 = 0 then some 0 else some 1)))))) = some (bI (ish r w && prs r x y z)) := by
    simp only [s8_isPerson hz hn, pz_bnd, bI_ite]
    unfold prs isq
    by_cases hy : y = -1
    · by_cases hz : z = -1
      · subst hy; subst hz
        cases ish r w <;> cases isp r x <;> simp [bI]
      · subst hy
        cases ish r w <;> cases isp r x <;> cases isp r z <;> simp [bI, hz]
    · by_cases hz : z = -1
      · subst hz
        cases ish r w <;> cases isp r x <;> cases isp r y <;> simp [bI, hy]
      · cases ish r w <;> cases isp r x <;> cases isp r y <;> cases isp r z <;> simp [bI, hy, hz]
  rw [s8_isHearing hz hn, pz_bnd, e1, pz_bnd, bI_ite]
  by_cases q : (ish r w && prs r x y z) = true
  · rw [if_pos q, if_pos q]
    have xne : x ≠ -1 := by
      rw [Bool.and_eq_true] at q
      unfold prs at q
      rw [Bool.and_eq_true] at q
      exact isp_ne hn q.2.1
    have e2 : (if y = (-1) then (if z = (-1) then (if x = y then some (.inl 0) else (if z = (-1) then some (.inl 1) else (if z = x then some (.inl 0) else (if z = y then some (.inl 0) else some (.inl 1))))) else some (.inl 0)) else (if x = y then some (.inl 0) else (if z = (-1) then some (.inl 1) else (if z = x then some (.inl 0) else (if z = y then some (.inl 0) else some (.inl 1)))))) = (some (.inl (bI (rwo x y z))) : Option (Int32 ⊕ (Int32 × Mem))) := by
      unfold rwo
      by_cases hy : y = -1
      · by_cases hz : z = -1
        · have : ¬ x = y := by rw [hy]; exact xne
          simp [hy, hz, bI, xne]
        · simp [hy, hz, bI]
      · rw [if_neg hy, if_neg hy]
        by_cases q1 : x = y
        · simp [q1, bI]
        · rw [if_neg q1]
          by_cases hz : z = -1
          · simp [hz, q1, bI]
          · rw [if_neg hz]
            by_cases q2 : z = x
            · simp [q2, bI, xne]
            · rw [if_neg q2]
              by_cases q3 : z = y
              · simp [q3, hy, bI]
              · simp [q1, q2, q3, bI]
    rw [e2, pz_jl]
    obtain ⟨m', l1, l2, l3, l4, l5, l6, l7, l8⟩ := s8_lay (m := m) (x := x) (y := y) (z := z)
    rw [l1, pz_bnd, bI_ite]
    refine ⟨m', ?_, ⟨l6, l7, l8⟩, fun _ => ⟨l2, l3, l4, l5⟩⟩
    by_cases u : rwo x y z = true
    · rw [if_pos u, if_pos u]
    · rw [if_neg u, if_neg u]
  · rw [if_neg q, if_neg q, pz_jr]
    exact ⟨_, rfl, LY.rf, fun u => absurd u q⟩
end ASG
