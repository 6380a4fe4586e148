/-! the model's step, all states -/
section PARSE4
variable {m : Mem} {q : Nat} {L : Nat → Nat → Nat}
theorem dgt_m1 {v : Nat} (hv : v < 1000000) : (dgt v = -1) = (v = 0) := by
  unfold dgt
  by_cases z : v = 0
  · simp [z]
  · rw [if_neg z, pz_ne1 hv]
    simp [z]
theorem dgt_le9 {v : Nat} (hv : v ≤ 2000) : (dgt v ≤ 9) = (v ≤ 9) := by
  unfold dgt
  by_cases z : v = 0
  · rw [if_pos z, z]
    simp
  · rw [if_neg z]
    exact pz_le (b := (9 : Nat)) (by omega) (by decide)
theorem s8_takes {P : PT} (h : PMd m P L) (hn : P.2.1 < 10) (hq : q ≤ 200) : ∃ m', f_X8_takes (nI q) m = some (bI (pstep P q).isSome, m') ∧ FrT m m' ∧ ∀ P', pstep P q = some P' → PMd m' P' (pL P q L) := by
  obtain ⟨s, n, kd, lg, vi, vl⟩ := P
  have h' := h
  obtain ⟨s4, v1, v2, h11, h9, h10, h0, h1, h2, hL⟩ := h
  dsimp only at s4 v1 v2 h11 h9 h10 h0 h1 h2 hL hn
  have qe : ∀ a : Nat, a < 1000000 → (nI q = nI a) = (q = a) := fun a ha => pz_eq (by omega) ha
  unfold f_X8_takes
  rw [h11, pz_nm]
  have i4 : ∀ j : Nat, 4 * nI n + nI j = nI (4 * n + j) := fun j => by rw [show (4 : Int32) = nI 4 from rfl, pz_mul, pz_add]
  rcases (show s = 0 ∨ s = 1 ∨ s = 2 ∨ s = 3 ∨ s = 4 by omega) with rfl | rfl | rfl | rfl | rfl
  · obtain ⟨m', e1, e2, e3⟩ := s8_takesKind h' hn hq
    rw [if_pos (by decide), e1, pz_bnd2, pz_bo]
    refine ⟨m', rfl, e2, fun P' hP => ?_⟩
    have : pL (0, n, kd, lg, vi, vl) q L = L := by unfold pL; rw [if_neg (by simp)]
    rw [this]
    exact e3 P' hP
  · have pl : pL (1, n, kd, lg, vi, vl) q L = L := by unfold pL; rw [if_neg (by simp)]
    have ew : wth (nI q) 49 57 = decide (49 ≤ q ∧ q ≤ 57) := by
      unfold wth
      have e1 : (nI q < 49) = (q < 49) := pz_lt (b := (49 : Nat)) (by omega) (by decide)
      have e2 : (57 < nI q) = (57 < q) := pz_lt (a := (57 : Nat)) (by decide) (by omega)
      rw [← Bool.decide_and]
      exact decide_eq_decide.mpr (by rw [e1, e2]; omega)
    rw [if_neg (by decide), if_pos (by decide), h9, show (1 : Int32) = nI 1 from rfl, i4, pz_in (by omega) (by omega), pz_cl (by omega), pl]
    simp only [pz_nm]
    rw [s8_wth, pz_bnd, pz_bo, ew]
    by_cases a : 49 ≤ q ∧ q ≤ 57
    · have pn : pstep (1, n, kd, lg, vi, vl) q = some (2, n, kd, q - 48, vi, vl) := by simp [pstep, a]
      rw [pn, decide_eq_true a, show nI q - 48 = nI (q - 48) by rw [show (48 : Int32) = nI 48 from rfl, pk_sub (by omega)]]
      refine ⟨_, rfl, (FrT.rf.p7).p2 (by omega), fun P' hP => ?_⟩
      cases hP
      refine ⟨by simp, v1, v2, ?_, ?_, ?_, fun _ => ?_, fun _ => ?_, fun h => ?_, fun i hi j hj => ?_⟩
      · rw [si_at]; rfl
      · rw [si_off (by omega), si_ne (by omega)]; exact h9
      · rw [si_off (by omega), si_ne (by omega)]; exact h10
      · rw [si_ne (by omega), si_off (by omega)]; exact h0 (by omega)
      · rw [si_ne (by omega), si_at]
      · exact absurd h (by simp)
      · have hi : i < n := hi
        rw [si_ne (by omega), si_off (by omega)]
        exact hL i hi j hj
    · have pn : pstep (1, n, kd, lg, vi, vl) q = none := by simp [pstep, a]
      rw [pn, decide_eq_false a]
      exact ⟨_, rfl, (FrT.rf.p7).p2 (by omega), fun P' hP => by cases hP⟩
  · have pl : pL (2, n, kd, lg, vi, vl) q L = L := by unfold pL; rw [if_neg (by simp)]
    rw [if_neg (by decide), if_neg (by decide), if_pos (by decide), show (64 : Int32) = nI 64 from rfl, pl]
    simp only [pz_nm]
    by_cases a : q = 64
    · have pn : pstep (2, n, kd, lg, vi, vl) q = some (3, n, kd, lg, 0, vl) := by simp [pstep, a]
      rw [if_pos (by rw [qe 64 (by omega)]; exact a), pn]
      refine ⟨_, rfl, FrT.rf.p2 (by omega), fun P' hP => ?_⟩
      cases hP
      refine ⟨by simp, Nat.zero_le _, v2, ?_, ?_, ?_, fun _ => ?_, fun _ => ?_, fun h => ?_, fun i hi j hj => ?_⟩
      · rw [si_at]; rfl
      · rw [si_off (by omega)]; exact h9
      · rw [si_off (by omega)]; exact h10
      · rw [si_ne (by omega)]; exact h0 (by omega)
      · rw [si_ne (by omega)]; exact h1 (by omega)
      · exact absurd h (by simp)
      · rw [si_ne (by omega)]; exact hL i hi j hj
    · have pn : pstep (2, n, kd, lg, vi, vl) q = none := by simp [pstep, a]
      rw [if_neg (by rw [qe 64 (by omega)]; exact a), pn]
      exact ⟨_, rfl, FrT.rf.p2 (by omega), fun P' hP => by cases hP⟩
  · have pl : pL (3, n, kd, lg, vi, vl) q L = L := by unfold pL; rw [if_neg (by simp)]
    have h10 : m.1 162 10 = dgt vi := h10
    rw [if_neg (by decide), if_neg (by decide), if_neg (by decide), pl]
    by_cases a : q = 43 ∧ 0 < vi
    · have pn : pstep (3, n, kd, lg, vi, vl) q = some (4, n, kd, lg, vi, 0) := by simp [pstep, a]
      have dv : dgt vi = nI vi := by unfold dgt; rw [if_neg (by omega)]
      rw [show (43 : Int32) = nI 43 from rfl, if_pos (by rw [qe 43 (by omega)]; exact a.1), if_pos (c := nI 3 = 3) rfl, h10, if_neg (by rw [dgt_m1 (by omega)]; omega), h9, show (2 : Int32) = nI 2 from rfl, i4, pz_in (by omega) (by omega), pz_cl (by omega), pn, dv]
      refine ⟨_, rfl, ((FrT.rf.p7).p2 (by omega)).p2 (by omega), fun P' hP => ?_⟩
      cases hP
      refine ⟨by simp, v1, Nat.zero_le _, ?_, ?_, ?_, fun _ => ?_, fun _ => ?_, fun _ => ?_, fun i hi j hj => ?_⟩
      · rw [si_at]; rfl
      · rw [si_off (by omega), si_off (by omega), si_ne (by omega)]; exact h9
      · rw [si_off (by omega), si_at]; rfl
      · rw [si_ne (by omega), si_ne (by omega), si_off (by omega)]; exact h0 (by omega)
      · rw [si_ne (by omega), si_ne (by omega), si_off (by omega)]; exact h1 (by omega)
      · rw [si_ne (by omega), si_ne (by omega), si_at]
      · have hi : i < n := hi
        rw [si_ne (by omega), si_ne (by omega), si_off (by omega)]
        exact hL i hi j hj
    · have td := s8_takesDigit (m := m) (s := 3) hq v1 (Or.inl rfl) h11 h10
      rw [if_pos (c := (3 : Nat) = 3) rfl] at td
      have jd : ∀ (K : Mem → Option (Int32 × Mem)) (X : Option (Mem ⊕ (Int32 × Mem))), jn ((if nI q = 43 then (if nI 3 = 3 then (if (m.1 162 10) = (-1) then some (.inl m) else X) else some (.inl m)) else some (.inl m))) K = K m := by
        intro K X
        by_cases b : q = 43
        · rw [if_pos (by rw [show (43 : Int32) = nI 43 from rfl, qe 43 (by omega)]; exact b), if_pos (c := nI 3 = 3) rfl, h10, if_pos (by rw [dgt_m1 (by omega)]; omega), pz_jl]
        · rw [if_neg (by rw [show (43 : Int32) = nI 43 from rfl, qe 43 (by omega)]; exact b), pz_jl]
      have jd2 : ∀ (K : Mem → Option (Int32 × Mem)) (X : Option (Mem ⊕ (Int32 × Mem))), jn ((if nI q = 44 then (if (m.1 162 11) = 4 then X else some (.inl m)) else some (.inl m))) K = K m := by
        intro K X
        rw [h11, if_neg (c := nI 3 = 4) (by decide)]
        split <;> rfl
      rw [jd, jd2, td, pz_bnd2, pz_bo]
      by_cases b : 48 ≤ q ∧ q ≤ 57 ∧ 0 < 10 * vi + (q - 48) ∧ 10 * vi + (q - 48) ≤ 2000
      · have pn : pstep (3, n, kd, lg, vi, vl) q = some (3, n, kd, lg, 10 * vi + (q - 48), vl) := by
          simp only [pstep, if_neg a, if_pos b]
          rfl
        have dv : dgt (10 * vi + (q - 48)) = nI (10 * vi + (q - 48)) := by unfold dgt; rw [if_neg (by omega)]
        rw [pn, decide_eq_true b, if_pos b]
        refine ⟨_, rfl, FrT.rf.p2 (by omega), fun P' hP => ?_⟩
        cases hP
        refine ⟨by simp, b.2.2.2, v2, ?_, ?_, ?_, fun _ => ?_, fun _ => ?_, fun h => ?_, fun i hi j hj => ?_⟩
        · rw [si_off (by omega)]; exact h11
        · rw [si_off (by omega)]; exact h9
        · rw [si_at]; exact dv.symm
        · rw [si_ne (by omega)]; exact h0 (by omega)
        · rw [si_ne (by omega)]; exact h1 (by omega)
        · exact absurd h (by simp)
        · rw [si_ne (by omega)]; exact hL i hi j hj
      · have pn : pstep (3, n, kd, lg, vi, vl) q = none := by
          simp only [pstep, if_neg a, if_neg b]
          rfl
        rw [pn, decide_eq_false b]
        exact ⟨_, rfl, FrT.rf.p2 (by omega), fun P' hP => by cases hP⟩
  · have h10 : m.1 162 10 = dgt vl := h10
    rw [if_neg (by decide), if_neg (by decide), if_neg (by decide)]
    have jd : ∀ (K : Mem → Option (Int32 × Mem)) (X : Option (Mem ⊕ (Int32 × Mem))), jn ((if nI q = 43 then (if nI 4 = 3 then X else some (.inl m)) else some (.inl m))) K = K m := by
      intro K X
      rw [if_neg (c := nI 4 = 3) (by decide)]
      split <;> rfl
    rw [jd, h11]
    by_cases a : q = 44 ∧ 10 ≤ vl
    · have pn : pstep (4, n, kd, lg, vi, vl) q = some (0, n + 1, kd, lg, vi, vl) := by simp [pstep, a]
      have dv : dgt vl = nI vl := by unfold dgt; rw [if_neg (by omega)]
      have e3 : 4 * nI n + 3 = nI (4 * n + 3) := i4 3
      rw [show (44 : Int32) = nI 44 from rfl, if_pos (by rw [qe 44 (by omega)]; exact a.1), if_pos (c := nI 4 = 4) rfl, h10, if_neg (by rw [dgt_le9 (by omega)]; omega)]
      unfold f_X8_endHearing
      rw [h9, h10, e3, pz_in (by omega) (by omega), pz_cl (by omega), pn, dv]
      simp only [pz_nm, pz_bnd]
      rw [si_off (by omega), si_ne (by omega), h9, pz_s, pz_jr]
      refine ⟨_, rfl, (((FrT.rf.p7).p2 (by omega)).p2 (by omega)).p2 (by omega), fun P' hP => ?_⟩
      cases hP
      have pl : pL (4, n, kd, lg, vi, vl) q L = (fun k j => if k = n then pent (4, n, kd, lg, vi, vl) j else L k j) := by unfold pL; rw [if_pos ⟨rfl, a.1⟩]
      rw [pl]
      refine ⟨by simp, v1, v2, ?_, ?_, ?_, fun h => ?_, fun h => ?_, fun h => ?_, fun i hi j hj => ?_⟩
      · rw [si_at]; rfl
      · rw [si_off (by omega), si_at]
      · rw [si_off (by omega), si_off (by omega), si_at]; rfl
      · exact absurd h (by simp)
      · exact absurd h (by simp)
      · exact absurd h (by simp)
      · have hi : i < n + 1 := hi
        rw [si_ne (by omega), si_ne (by omega), si_ne (by omega)]
        show (si m 167 (4 * n + 3) (nI vl)).1 167 (4 * i + j) = nI (if i = n then pent (4, n, kd, lg, vi, vl) j else L i j)
        by_cases z : i = n
        · subst z
          rw [if_pos rfl]
          rcases (show j = 0 ∨ j = 1 ∨ j = 2 ∨ j = 3 by omega) with rfl | rfl | rfl | rfl
          · rw [si_off (by omega)]; exact h0 (by omega)
          · rw [si_off (by omega)]; exact h1 (by omega)
          · rw [si_off (by omega)]; exact h2 rfl
          · rw [si_at]; rfl
        · rw [if_neg z, si_off (by omega)]
          exact hL i (by omega) j hj
    · have td := s8_takesDigit (m := m) (s := 4) hq (by omega) (Or.inr rfl) h11 h10
      rw [if_neg (c := (4 : Nat) = 3) (by decide)] at td
      have jd2 : ∀ (K : Mem → Option (Int32 × Mem)) (X : Option (Mem ⊕ (Int32 × Mem))), jn ((if nI q = 44 then (if nI 4 = 4 then (if (m.1 162 10) ≤ 9 then some (.inl m) else X) else some (.inl m)) else some (.inl m))) K = K m := by
        intro K X
        by_cases b : q = 44
        · rw [if_pos (by rw [show (44 : Int32) = nI 44 from rfl, qe 44 (by omega)]; exact b), if_pos (c := nI 4 = 4) rfl, h10, if_pos (by rw [dgt_le9 (by omega)]; omega), pz_jl]
        · rw [if_neg (by rw [show (44 : Int32) = nI 44 from rfl, qe 44 (by omega)]; exact b), pz_jl]
      rw [jd2, td, pz_bnd2, pz_bo]
      by_cases b : 48 ≤ q ∧ q ≤ 57 ∧ 0 < 10 * vl + (q - 48) ∧ 10 * vl + (q - 48) ≤ 240
      · have pn : pstep (4, n, kd, lg, vi, vl) q = some (4, n, kd, lg, vi, 10 * vl + (q - 48)) := by
          simp only [pstep, if_neg a, if_pos b]
          rfl
        have dv : dgt (10 * vl + (q - 48)) = nI (10 * vl + (q - 48)) := by unfold dgt; rw [if_neg (by omega)]
        have pl : pL (4, n, kd, lg, vi, vl) q L = L := by unfold pL; rw [if_neg (by rintro ⟨-, w⟩; omega)]
        rw [pn, decide_eq_true b, if_pos b, pl]
        refine ⟨_, rfl, FrT.rf.p2 (by omega), fun P' hP => ?_⟩
        cases hP
        refine ⟨by simp, v1, b.2.2.2, ?_, ?_, ?_, fun _ => ?_, fun _ => ?_, fun _ => ?_, fun i hi j hj => ?_⟩
        · rw [si_off (by omega)]; exact h11
        · rw [si_off (by omega)]; exact h9
        · rw [si_at]; exact dv.symm
        · rw [si_ne (by omega)]; exact h0 (by omega)
        · rw [si_ne (by omega)]; exact h1 (by omega)
        · rw [si_ne (by omega)]; exact h2 rfl
        · rw [si_ne (by omega)]; exact hL i hi j hj
      · have pn : pstep (4, n, kd, lg, vi, vl) q = none := by
          simp only [pstep, if_neg a, if_neg b]
          rfl
        rw [pn, decide_eq_false b]
        exact ⟨_, rfl, FrT.rf.p2 (by omega), fun P' hP => by cases hP⟩
end PARSE4
