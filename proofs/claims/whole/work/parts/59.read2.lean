/-! the model reads a text -/
section READ2
variable {m : Mem} {b : Nat → Nat} {N : Nat}
/-- the hearings done, along a run -/
def rL (b : Nat → Nat) : Nat → Nat → Nat → Nat
  | 0 => fun _ _ => 0
  | i + 1 => match pR b i with
    | none => rL b i
    | some P => pL P (b i) (rL b i)
theorem s8_rightUpTo (h3 : m.1 162 3 = nI N) (hN : N ≤ 60) (hb : ∀ i, i < N → m.1 165 i = nI (b i) ∧ b i ≤ 200) : ∃ m', f_X8_rightUpTo m = some (nI (pE b N), m') ∧ FrT m m' ∧ ∀ P, pR b N = some P → PMd m' P (rL b N) := by
  have e : ∃ t : Int32 × Mem, lp f_X8_rightUpTo_L17 1000000 (0, si (si (si m 162 9 0) 162 10 (-1)) 162 11 0) = some t ∧ (t.1 = nI (pE b N) ∧ FrT m t.2 ∧ ∀ P, pR b N = some P → PMd t.2 P (rL b N)) := by
    refine lp_inv2 (fun i (s : Int32 × Mem) => s.1 = nI i ∧ (∃ P, pR b i = some P ∧ PMd s.2 P (rL b i)) ∧ FrT m s.2) (N := N) (fun i s hi hI => ?_) (fun s hI => ?_) _ ⟨rfl, ⟨(0, 0, 0, 0, 0, 0), rfl, ?_⟩, ((FrT.rf.p2 (by omega)).p2 (by omega)).p2 (by omega)⟩ (by omega)
    · obtain ⟨x, m1⟩ := s
      obtain ⟨rfl, ⟨P, hP, hC⟩, hF⟩ := hI
      dsimp only at hC hF
      obtain ⟨c1, c2⟩ := hb i hi
      obtain ⟨m2, t1, t2, t3⟩ := s8_takes hC (pR_n hP (by omega)) c2
      rw [f_X8_rightUpTo_L17, hF.2.1 3 (by omega) (by omega) (by omega), h3, if_neg (by rw [pz_le (by omega) (by omega)]; omega), pz_in (by omega) (by omega), pz_cl (by omega), hF.1 165 (by omega) (by omega), c1, pz_nm, t1, pz_bnd2, bI_ite, pz_s, pz_nm]
      cases q : pstep P (b i) with
      | none =>
        refine Or.inr ?_
        rw [if_neg (by simp)]
        have n1 : pR b (i + 1) = none := by rw [pR_s hP]; exact q
        have a1 := pR_none n1 (N - (i + 1))
        have a2 := pE_at (b := b) (i := i) (by rw [hP]; rfl) n1 (N - (i + 1))
        rw [show i + 1 + (N - (i + 1)) = N by omega] at a1 a2
        exact ⟨_, rfl, by rw [a2], hF.tr t2, fun P' hP' => by rw [a1] at hP'; cases hP'⟩
      | some P' =>
        refine Or.inl ?_
        rw [if_pos (by simp)]
        refine ⟨_, rfl, rfl, ⟨P', by rw [pR_s hP]; exact q, ?_⟩, hF.tr t2⟩
        have : rL b (i + 1) = pL P (b i) (rL b i) := by rw [rL, hP]
        rw [this]
        exact t3 P' q
    · obtain ⟨x, m1⟩ := s
      obtain ⟨rfl, ⟨P, hP, hC⟩, hF⟩ := hI
      dsimp only at hC hF
      rw [f_X8_rightUpTo_L17, hF.2.1 3 (by omega) (by omega) (by omega), h3, if_pos (by rw [pz_le (by omega) (by omega)]; omega)]
      refine ⟨_, rfl, by rw [pE_some (by rw [hP]; rfl)], hF, fun P' hP' => ?_⟩
      rw [hP] at hP'
      cases hP'
      exact hC
    · refine ⟨by simp, by simp, by simp, ?_, ?_, ?_, fun h => absurd h (by simp), fun h => absurd h (by simp), fun h => absurd h (by simp), fun k hk => absurd hk (by simp)⟩
      · rw [si_at]; rfl
      · rw [si_off (by omega), si_off (by omega), si_at]; rfl
      · rw [si_off (by omega), si_at]; rfl
  obtain ⟨⟨v, m'⟩, e, rfl, h1, h2⟩ := e
  unfold f_X8_rightUpTo
  simp only [pz_nm]
  rw [e, pz_bnd]
  exact ⟨m', rfl, h1, h2⟩
end READ2
