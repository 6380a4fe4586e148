/-! the start -/
def mu0 : Mem := (fun k => if k = 19 ∨ k = 38 ∨ (59 ≤ k ∧ k < 155 ∧ (k - 59) % 19 = 0) then fs1 else fun _ => 0, fun _ _ => 0)
def ab0 : Ab := Ab.mk fs1 0 (fun _ _ => 0) 0 (fun _ => 0)
theorem fs1_0 {i : Nat} (h : 7 ≤ i) : fs1 i = 0 := by
  show ([2, 1, 1, 600, 60, 1440, 20] : List Int32).getD i 0 = 0
  rw [List.getD_eq_getElem?_getD, List.getElem?_eq_none (by simpa using h)]
  rfl
theorem AC0 : AC mu0 ab0 := by
  refine ⟨⟨fun k j i h => ?_, fun h hh => ?_⟩, ⟨0, by omega, rfl, rfl, fun k hk => absurd hk (Nat.not_lt_zero k)⟩, rfl, fun i hi => absurd hi (Nat.not_lt_zero i)⟩
  · show (if 1 + k = 19 ∨ 1 + k = 38 ∨ (59 ≤ 1 + k ∧ 1 + k < 155 ∧ (1 + k - 59) % 19 = 0) then fs1 else fun _ => 0) j = fs1 i
    obtain ⟨u, -, k19⟩ := loc_un h
    by_cases z : k = 18
    · subst z
      rw [if_pos (by omega)]
      have : loc 18 j = if j < 7 then some j else none := rfl
      rw [this] at h
      by_cases y : j < 7
      · rw [if_pos y] at h
        rw [Option.some.inj h]
      · rw [if_neg y] at h
        cases h
    · rw [if_neg (by omega)]
      by_cases y : i < 7
      · unfold unloc at u
        rw [if_pos y] at u
        exact absurd (congrArg Prod.fst u).symm z
      · exact (fs1_0 (by omega)).symm
  · have : (fs1 8).toNatClampNeg = 0 := by decide
    rw [show (ab0.r 8) = fs1 8 from rfl, this] at hh
    exact absurd hh (Nat.not_lt_zero h)
theorem GD0 : GD fs1 := by
  have p0 : ppl fs1 = 0 := by decide
  have h0 : hrs fs1 = 0 := by decide
  refine ⟨⟨⟨⟨by omega, by decide, by omega, by decide⟩, fun o ho => absurd ho (by omega), ⟨fun p hp => absurd hp (by omega), fun i hi => ?_⟩, fun p a b _ _ ha => absurd ha (by omega), fun h hh => absurd hh (by omega)⟩, fun h hh => absurd hh (by omega), fun p hp => absurd hp (by omega), fun h hh => absurd hh (by omega), ⟨0, 0, 0, by decide, by decide, by decide, by omega, by omega⟩⟩, 0, by omega, by decide⟩
  rcases (show i = 0 ∨ i = 1 ∨ i = 2 ∨ i = 3 ∨ i = 4 ∨ i = 5 ∨ i = 6 by omega) with rfl | rfl | rfl | rfl | rfl | rfl | rfl
  · exact ⟨2, by omega, by decide⟩
  · exact ⟨1, by omega, by decide⟩
  · exact ⟨1, by omega, by decide⟩
  · exact ⟨600, by omega, by decide⟩
  · exact ⟨60, by omega, by decide⟩
  · exact ⟨1440, by omega, by decide⟩
  · exact ⟨20, by omega, by decide⟩
theorem Ok0 : Ok ab0 := ⟨Nat.zero_le _, Nat.zero_le _, GD0, fun k hk => absurd hk (Nat.not_lt_zero k), fun i hi => absurd hi (Nat.not_lt_zero i)⟩
