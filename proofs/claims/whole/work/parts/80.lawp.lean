/-! the law's loop, over both memories -/
section LAWP
variable {m : Mem} {A : Ab}
/-- the law goes on -/
def GO (b : Option ((Int32 × Mem) ⊕ Mem)) (i0 : Int32) : Prop := ∃ m' A', b = some (.inl (i0 + 5, m')) ∧ AC m' A' ∧ AM m' A' ∧ Ok A'
theorem ops_run {w : Option (Int32 × Mem)} {f : Mem → Option (Int32 × Mem)} (h : OPS w f) {i0 : Int32} : GO (bnd2 w fun x13 m14 => bnd2 (f m14) fun x22 m23 => bnd (f_X8_thrown m23) fun x25 => (if x25 = x13 then (if x13 = 0 then nm (lg_cmp (m23.2 170 0) x22.toInt64) fun x29 => (if x29 = 0 then nm (i0 + 5) fun x31 => some (.inl (x31, m23)) else none) else nm (i0 + 5) fun x28 => some (.inl (x28, m23))) else none)) i0 := by
  obtain ⟨code, m1, y, m2, A', hw, hf, h5, hy, ac, am, ok⟩ := h
  refine ⟨m2, A', ?_, ac, am, ok⟩
  rw [hw, pz_bnd2, hf, pz_bnd2, f_X8_thrown, pz_bnd, h5, if_pos rfl]
  by_cases z : code = 0
  · rw [if_pos z, pz_nm, if_pos ((lg_cmp_eq _ _).mpr (hy z)), pz_nm]
  · rw [if_neg z, pz_nm]
theorem opv_run {w : Option (Int32 × Mem)} {f : Mem → Option (Int32 × Mem)} (h : OPV w f) {i0 : Int32} : GO (bnd2 w fun x245 m246 => bnd2 (f m246) fun x248 m249 => (if x245 = x248 then nm (i0 + 5) fun x251 => some (.inl (x251, m249)) else none)) i0 := by
  obtain ⟨y, m1, m2, A', hw, hf, ac, am, ok⟩ := h
  refine ⟨m2, A', ?_, ac, am, ok⟩
  rw [hw, pz_bnd2, hf, pz_bnd2, if_pos rfl, pz_nm]
theorem law_body {L i : Nat} {xs : Nat → Int32} (hL : L ≤ 2560) (hi : i + 5 ≤ L) (hC : AC m A) (hM : AM m A) (ok : Ok A) : GO (f_L_body L xs (nI i, m)) (nI i) := by
  have e0 : ¬ (nI L - 5 < nI i) := fun q => by
    have h1 : (nI L - 5).toInt = (L : Int) - 5 := pk_sub_toInt (b := 5) (by omega) (by omega)
    rw [Int32.lt_iff_toInt_lt, h1, nI_toInt (by omega)] at q
    omega
  have g0 : ∀ K : Option ((Int32 × Mem) ⊕ Mem), gIn (nI i) L K = K := fun K => pz_in (by omega) (by omega) K
  have g1 : ∀ K : Option ((Int32 × Mem) ⊕ Mem), gIn (nI i + 1) L K = K := fun K => by
    rw [pz_s]
    exact pz_in (by omega) (by omega) K
  have g2 : ∀ K : Option ((Int32 × Mem) ⊕ Mem), gIn (nI i + 2) L K = K := fun K => by
    rw [show (2 : Int32) = nI 2 from rfl, pz_add]
    exact pz_in (by omega) (by omega) K
  have g3 : ∀ K : Option ((Int32 × Mem) ⊕ Mem), gIn (nI i + 3) L K = K := fun K => by
    rw [show (3 : Int32) = nI 3 from rfl, pz_add]
    exact pz_in (by omega) (by omega) K
  have g4 : ∀ K : Option ((Int32 × Mem) ⊕ Mem), gIn (nI i + 4) L K = K := fun K => by
    rw [show (4 : Int32) = nI 4 from rfl, pz_add]
    exact pz_in (by omega) (by omega) K
  rw [f_L_body, if_neg e0, g0, pz_nm, pz_nm]
  generalize xs (nI i).toNatClampNeg &&& 31 = x4

  by_cases q0 : x4 = 0
  · rw [if_pos q0]
    simp only [g1, g2, g3, g4, pz_nm]
    exact ops_run (o_addInterpreter hC hM ok)
  rw [if_neg q0]
  by_cases q1 : x4 = 1
  · rw [if_pos q1]
    simp only [g1, g2, g3, g4, pz_nm]
    exact ops_run (o_addHearing hC hM ok)
  rw [if_neg q1]
  by_cases q2 : x4 = 2
  · rw [if_pos q2]
    simp only [g1, g2, g3, g4, pz_nm]
    exact ops_run (o_certify hC hM ok)
  rw [if_neg q2]
  by_cases q3 : x4 = 3
  · rw [if_pos q3]
    simp only [g1, g2, g3, g4, pz_nm]
    exact ops_run (o_set hC hM ok)
  rw [if_neg q3]
  by_cases q4 : x4 = 4
  · rw [if_pos q4]
    simp only [g1, g2, g3, g4, pz_nm]
    exact ops_run (o_assign hC hM ok)
  rw [if_neg q4]
  by_cases q5 : x4 = 5
  · rw [if_pos q5]
    simp only [g1, g2, g3, g4, pz_nm]
    exact ops_run (o_release hC hM ok)
  rw [if_neg q5]
  by_cases q6 : x4 = 6
  · rw [if_pos q6]
    simp only [g1, g2, g3, g4, pz_nm]
    exact ops_run (o_swap hC hM ok)
  rw [if_neg q6]
  by_cases q7 : x4 = 7
  · rw [if_pos q7]
    simp only [g1, g2, g3, g4, pz_nm]
    exact ops_run (o_vacate hC hM ok)
  rw [if_neg q7]
  by_cases q8 : x4 = 8
  · rw [if_pos q8]
    simp only [g1, g2, g3, g4, pz_nm]
    exact ops_run (o_pass hC hM ok)
  rw [if_neg q8]
  by_cases q9 : x4 = 9
  · rw [if_pos q9]
    simp only [g1, g2, g3, g4, pz_nm]
    exact ops_run (o_append hC hM ok)
  rw [if_neg q9]
  by_cases q10 : x4 = 10
  · rw [if_pos q10]
    exact opv_run (o_clearBuffer hC hM ok)
  rw [if_neg q10]
  by_cases q11 : x4 = 11
  · rw [if_pos q11]
    exact opv_run (o_firstError hC hM ok)
  rw [if_neg q11]
  by_cases q12 : x4 = 12
  · rw [if_pos q12]
    simp only [g1, g2, g3, g4, pz_nm]
    exact ops_run (o_addList hC hM ok)
  rw [if_neg q12]
  by_cases q13 : x4 = 13
  · rw [if_pos q13]
    simp only [g1, g2, g3, g4, pz_nm]
    exact ops_run (o_undo hC hM ok)
  rw [if_neg q13]
  by_cases q14 : x4 = 14
  · rw [if_pos q14]
    simp only [g1, g2, g3, g4, pz_nm]
    exact ops_run (o_interpreter hC hM ok)
  rw [if_neg q14]
  by_cases q15 : x4 = 15
  · rw [if_pos q15]
    simp only [g1, g2, g3, g4, pz_nm]
    exact ops_run (o_hearing hC hM ok)
  rw [if_neg q15]
  by_cases q16 : x4 = 16
  · rw [if_pos q16]
    simp only [g1, g2, g3, g4, pz_nm]
    exact ops_run (o_count hC hM ok)
  rw [if_neg q16]
  by_cases q17 : x4 = 17
  · rw [if_pos q17]
    simp only [g1, g2, g3, g4, pz_nm]
    exact ops_run (o_setting hC hM ok)
  rw [if_neg q17]
  by_cases q18 : x4 = 18
  · rw [if_pos q18]
    simp only [g1, g2, g3, g4, pz_nm]
    exact ops_run (o_whyNot hC hM ok)
  rw [if_neg q18]
  by_cases q19 : x4 = 19
  · rw [if_pos q19]
    simp only [g1, g2, g3, g4, pz_nm]
    exact ops_run (o_cheapest hC hM ok)
  rw [if_neg q19]
  by_cases q20 : x4 = 20
  · rw [if_pos q20]
    simp only [g1, g2, g3, g4, pz_nm]
    exact ops_run (o_tiredIn hC hM ok)
  rw [if_neg q20]
  by_cases q21 : x4 = 21
  · rw [if_pos q21]
    simp only [g1, g2, g3, g4, pz_nm]
    exact ops_run (o_ifVacated hC hM ok)
  rw [if_neg q21]
  by_cases q22 : x4 = 22
  · rw [if_pos q22]
    exact opv_run (o_mannable hC hM ok)
  rw [if_neg q22]
  by_cases q23 : x4 = 23
  · rw [if_pos q23]
    simp only [g1, g2, g3, g4, pz_nm]
    exact ops_run (o_missing hC hM ok)
  rw [if_neg q23]
  by_cases q24 : x4 = 24
  · rw [if_pos q24]
    obtain ⟨m2, h1, h2, ac, am⟩ := o_doneShare hC hM ok
    rw [h1, pz_bnd, h2, pz_bnd2, dcmp_r ok.2.2.1.1, pz_nm, if_pos (by decide), pz_nm]
    exact ⟨m2, A, rfl, ac, am, ok⟩
  rw [if_neg q24]
  by_cases q25 : x4 = 25
  · rw [if_pos q25]
    obtain ⟨m1, m2, h1, h2, ac, am⟩ := o_digest hC hM ok
    rw [h1, pz_bnd2, h2, pz_bnd2, if_pos ((lg_cmp_eq _ _).mpr rfl), pz_nm]
    exact ⟨m2, A, rfl, ac, am, ok⟩
  rw [if_neg q25]
  rw [pz_nm]
  exact ⟨m, A, rfl, hC, hM, ok⟩
theorem law_end {L i : Nat} {xs : Nat → Int32} (hL : L ≤ 2560) (hi : i ≤ L) (h5 : L < i + 5) : f_L_body L xs (nI i, m) = some (.inr m) := by
  have e0 : nI L - 5 < nI i := by
    have h1 : (nI L - 5).toInt = (L : Int) - 5 := pk_sub_toInt (b := 5) (by omega) (by omega)
    rw [Int32.lt_iff_toInt_lt, h1, nI_toInt (by omega)]
    omega
  rw [f_L_body, if_pos e0]
/-- every script: the law comes to its end -/
theorem law_all {L : Nat} {xs : Nat → Int32} (hL : L ≤ 2560) (hC : AC m A) (hM : AM m A) (ok : Ok A) : ∃ m', f_L_law L xs m = some m' := by
  have e : ∃ t, lp (f_L_body L xs) 1000000 (0, m) = some t ∧ True := by
    refine lp_inv (fun j (s : Int32 × Mem) => s.1 = nI (5 * j) ∧ ∃ A, AC s.2 A ∧ AM s.2 A ∧ Ok A) (N := L / 5) (fun j s hj hI => ?_) (fun s hI => ?_) _ ⟨rfl, A, hC, hM, ok⟩ (by omega)
    · obtain ⟨x, m1⟩ := s
      obtain ⟨rfl, A1, c1, a1, o1⟩ := hI
      obtain ⟨m2, A2, h1, h2, h3, h4⟩ := law_body (xs := xs) (i := 5 * j) hL (by omega) c1 a1 o1
      refine ⟨_, h1, ?_, A2, h2, h3, h4⟩
      show nI (5 * j) + 5 = nI (5 * (j + 1))
      rw [show (5 : Int32) = nI 5 from rfl, pz_add]
      rfl
    · obtain ⟨x, m1⟩ := s
      obtain ⟨rfl, A1, c1, a1, o1⟩ := hI
      exact ⟨m1, law_end hL (by omega) (by omega), trivial⟩
  obtain ⟨t, e, -⟩ := e
  exact ⟨t, e⟩
/-! the start -/
def mu0 : Mem := (fun k => if k = 163 ∨ k = 19 ∨ k = 38 ∨ (59 ≤ k ∧ k < 155 ∧ (k - 59) % 19 = 0) then fs1 else fun _ => 0, fun _ _ => 0)
def ab0 : Ab := Ab.mk fs1 0 (fun _ _ => 0) 0 (fun _ => 0)
theorem fs1_0 {i : Nat} (h : 7 ≤ i) : fs1 i = 0 := by
  show ([2, 1, 1, 600, 60, 1440, 20] : List Int32).getD i 0 = 0
  rw [List.getD_eq_getElem?_getD, List.getElem?_eq_none (by simpa using h)]
  rfl
theorem AC0 : AC mu0 ab0 := by
  refine ⟨⟨fun k j i h => ?_, fun h hh => ?_⟩, ⟨0, by omega, rfl, rfl, fun k hk => absurd hk (Nat.not_lt_zero k)⟩, rfl, fun i hi => absurd hi (Nat.not_lt_zero i)⟩
  · show (if 1 + k = 163 ∨ 1 + k = 19 ∨ 1 + k = 38 ∨ (59 ≤ 1 + k ∧ 1 + k < 155 ∧ (1 + k - 59) % 19 = 0) then fs1 else fun _ => 0) j = fs1 i
    obtain ⟨u, -, k19⟩ := loc_un h
    by_cases z : k = 18
    · subst z
      rw [if_pos (by omega)]
      have : loc 18 j = if j < 7 then some j else none := rfl
      rw [this] at h
      by_cases y : j < 7
      · rw [if_pos y] at h
        rw [Option.some.inj h]
      · rw [if_neg y] at h
        cases h
    · rw [if_neg (by omega)]
      by_cases y : i < 7
      · unfold unloc at u
        rw [if_pos y] at u
        exact absurd (congrArg Prod.fst u).symm z
      · exact (fs1_0 (by omega)).symm
  · have : (fs1 8).toNatClampNeg = 0 := by decide
    rw [show (ab0.r 8) = fs1 8 from rfl, this] at hh
    exact absurd hh (Nat.not_lt_zero h)
theorem AM0 : AM mu0 ab0 := ⟨rfl, rfl, fun k hk => absurd hk (Nat.not_lt_zero k), rfl, fun i hi => absurd hi (Nat.not_lt_zero i)⟩
theorem GD0 : GD fs1 := by
  have p0 : ppl fs1 = 0 := by decide
  have h0 : hrs fs1 = 0 := by decide
  refine ⟨⟨⟨⟨by omega, by decide, by omega, by decide⟩, fun o ho => absurd ho (by omega), ⟨fun p hp => absurd hp (by omega), fun i hi => ?_⟩, fun p a b _ _ ha => absurd ha (by omega), fun h hh => absurd hh (by omega)⟩, fun h hh => absurd hh (by omega), fun p hp => absurd hp (by omega), fun h hh => absurd hh (by omega), ⟨0, 0, 0, by decide, by decide, by decide, by omega, by omega⟩⟩, 0, by omega, by decide⟩
  rcases (show i = 0 ∨ i = 1 ∨ i = 2 ∨ i = 3 ∨ i = 4 ∨ i = 5 ∨ i = 6 by omega) with rfl | rfl | rfl | rfl | rfl | rfl | rfl
  · exact ⟨2, by omega, by decide⟩
  · exact ⟨1, by omega, by decide⟩
  · exact ⟨1, by omega, by decide⟩
  · exact ⟨600, by omega, by decide⟩
  · exact ⟨60, by omega, by decide⟩
  · exact ⟨1440, by omega, by decide⟩
  · exact ⟨20, by omega, by decide⟩
theorem Ok0 : Ok ab0 := ⟨Nat.zero_le _, Nat.zero_le _, GD0, fun k hk => absurd hk (Nat.not_lt_zero k), fun i hi => absurd hi (Nat.not_lt_zero i)⟩
/-- the law, from the start that the constructors leave -/
theorem law_mu0 {L : Nat} {xs : Nat → Int32} (hL : L ≤ 2560) : ∃ m', f_L_law L xs mu0 = some m' := law_all hL AC0 AM0 Ok0
end LAWP
