/-! the class reads a text -/
section READ
variable {m : Mem} {b : Nat → Nat} {N : Nat}
theorem s5_read (h5 : m.1 155 0 = nI N) (hN : N ≤ 60) (hb : ∀ i, i < N → m.1 156 i = nI (b i) ∧ b i ≤ 200) : ∃ m', f_X5_read m = some (nI (pE b N), m') ∧ Fr157 m m' ∧ ∀ P, pR b N = some P → PCl m' P := by
  have e : ∃ t : Mem ⊕ (Int32 × Mem), lp f_X5_read_L6 1000000 (0, si (si m 157 1 0) 157 0 0) = some t ∧ ∃ m', ((t = .inl m' ∧ ∃ P, pR b N = some P ∧ PCl m' P) ∨ (t = .inr (nI (pE b N), m') ∧ pR b N = none)) ∧ Fr157 m m' := by
    refine lp_inv2 (fun i (s : Int32 × Mem) => s.1 = nI i ∧ (∃ P, pR b i = some P ∧ PCl s.2 P) ∧ Fr157 m s.2) (N := N) (fun i s hi hI => ?_) (fun s hI => ?_) _ ⟨rfl, ⟨(0, 0, 0, 0, 0, 0), rfl, ?_⟩, (Fr157.rf.put).put⟩ (by omega)
    · obtain ⟨x, m1⟩ := s
      obtain ⟨rfl, ⟨P, hP, hC⟩, hF⟩ := hI
      dsimp only at hC hF
      obtain ⟨c1, c2⟩ := hb i hi
      have e1 : (60 ≤ nI i) = (60 ≤ i) := pz_le (a := (60 : Nat)) (by decide) (by omega)
      obtain ⟨m2, t1, t2, t3⟩ := s5_take hC c2
      rw [f_X5_read_L6, hF.1 155 (by omega), h5, if_neg (by rw [pz_le (by omega) (by omega)]; omega), f_X0_codeAt, if_neg (by rw [pz_not0 (by omega)]; exact id), if_neg (by rw [e1]; omega), pz_in (by omega) (by omega), pz_cl (by omega), hF.1 156 (by omega), c1, pz_nm, pz_bnd, t1, pz_bnd2, bI_ite, pz_s, pz_nm]
      cases q : pstep P (b i) with
      | none =>
        refine Or.inr ?_
        rw [if_neg (by simp)]
        have n1 : pR b (i + 1) = none := by rw [pR_s hP]; exact q
        have a1 := pR_none n1 (N - (i + 1))
        have a2 := pE_at (b := b) (i := i) (by rw [hP]; rfl) n1 (N - (i + 1))
        rw [show i + 1 + (N - (i + 1)) = N by omega] at a1 a2
        exact ⟨_, rfl, m2, Or.inr ⟨by rw [a2], a1⟩, hF.tr t2⟩
      | some P' =>
        refine Or.inl ?_
        rw [if_pos (by simp)]
        exact ⟨_, rfl, rfl, ⟨P', by rw [pR_s hP]; exact q, t3 P' q⟩, hF.tr t2⟩
    · obtain ⟨x, m1⟩ := s
      obtain ⟨rfl, ⟨P, hP, hC⟩, hF⟩ := hI
      dsimp only at hC hF
      rw [f_X5_read_L6, hF.1 155 (by omega), h5, if_pos (by rw [pz_le (by omega) (by omega)]; omega)]
      exact ⟨_, rfl, m1, Or.inl ⟨rfl, P, hP, hC⟩, hF⟩
    · refine ⟨by simp, by simp, by simp, ?_, ?_, fun h => absurd h (by simp), fun h => absurd h (by simp), fun h => absurd h (by simp), fun h => absurd h (by simp)⟩
      · rw [si_off (by omega), si_at]; rfl
      · rw [si_at]; rfl
  obtain ⟨t, e, m', h, hF⟩ := e
  unfold f_X5_read f_X5_begin
  simp only [pz_nm, pz_bnd]
  rw [e]
  rcases h with ⟨rfl, P, hP, hC⟩ | ⟨rfl, hn⟩
  · rw [pz_jl, hF.1 155 (by omega), h5]
    have := pE_some (b := b) (i := N) (by rw [hP]; rfl)
    refine ⟨m', by rw [this], hF, fun P' hP' => ?_⟩
    rw [hP] at hP'
    cases hP'
    exact hC
  · rw [pz_jr]
    exact ⟨m', rfl, hF, fun P' hP' => by rw [hn] at hP'; cases hP'⟩
end READ
