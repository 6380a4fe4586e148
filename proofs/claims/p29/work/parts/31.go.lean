/-! a minute, on both sides -/
theorem too_iff {r : Row} {h : Nat} : ∀ {n : Nat}, tooN r h n = true ↔ ∃ k, k < n ∧ ¬ r (43 + mbN r h k) ≤ r 3
  | 0 => by simp [tooN]
  | n + 1 => by
    rw [tooN, Bool.or_eq_true, too_iff, decide_eq_true_eq]
    constructor
    · rintro (⟨k, h1, h2⟩ | h)
      · exact ⟨k, by omega, h2⟩
      · exact ⟨n, by omega, h⟩
    · rintro ⟨k, h1, h2⟩
      by_cases e : k = n
      · subst e; exact Or.inr h2
      · exact Or.inl ⟨k, by omega, h2⟩
section CGO
variable {c : Nat} {m : Mem} {r : Row} {h : Nat}
theorem s2_adjournTired (hC : CR c m r) (hn : NumW r) (hw : ChWs r) : ∃ m', f_X2_adjournTired c m = some m' ∧ CR c m' (trdN r (hrs r)) ∧ FrC c m m' := by
  have h30 := hn.2.2.1
  have h10 := hn.1
  obtain ⟨M, eM, hM⟩ := s6_tiredAbove (x := r 3) hC.1 hn
  unfold f_X2_adjournTired
  rw [hC.1.setting (by omega), eM, pz_bnd]
  have e : ∃ t, lp (f_X2_adjournTired_L16 c M) 1000000 (0, m) = some t ∧ (CR c t (trdN r (hrs r)) ∧ FrC c m t) := by
    refine lp_inv (fun i (s : Int32 × Mem) => s.1 = nI i ∧ CR c s.2 (trdN r i) ∧ FrC c m s.2) (N := hrs r) (fun k s hk hI => ?_) (fun s hI => ?_) _ ⟨rfl, hC, FrC.rf⟩ (by omega)
    · obtain ⟨x, m1⟩ := s
      obtain ⟨rfl, h1, h2⟩ := hI
      dsimp only at h1 h2
      have e := (trdN_all hn hw k (by omega)).1
      have nR := e.se.num hn
      have cR := e.se.chw (hw k hk)
      show ∃ s' : Int32 × Mem, _ ∧ s'.1 = nI (k + 1) ∧ CR c s'.2 (trdS k (trdN r k)) ∧ FrC c m s'.2
      generalize trdN r k = R at e nR cR h1
      have hkR : k < hrs R := by rw [e.se.eHrs]; exact hk
      rw [f_X2_adjournTired_L16, h1.1.hearings, e 8 (by omega), hn.2.2.2, if_neg (by rw [pz_le (by omega) (by omega)]; omega), s3_isListed h1.1 (by omega), pz_bnd, bI_ite, pz_in (by omega) (by omega), pz_in (by omega) (by omega), pz_cl (by omega), h1.1.start (by omega), h1.1.minute, h1.2 k hkR]
      simp only [pz_nm, pz_s]
      unfold trdS
      have key : (mskN R k &&& M = 0) = (tooT R k = false) := by
        rw [((msk_MK nR.1 cR).and hM).zero]
        apply propext
        constructor
        · intro q
          cases z : tooT R k
          · rfl
          · obtain ⟨j, j1, j2⟩ := too_iff.mp z
            obtain ⟨q1, q2⟩ := cR.2.2.1 j j1
            have h3 := nR.1
            have := q (mbN R k j) (by omega)
            rw [(inCh_iff cR (by omega)).mpr ⟨j, j1, rfl⟩, Bool.true_and, Bool.and_eq_false_iff, decide_eq_false_iff_not, decide_eq_false_iff_not] at this
            rcases this with h' | h'
            · rw [e.se.ePpl] at q1
              exact absurd q1 h'
            · rw [e _ (by omega), e 3 (by omega)] at j2
              exact absurd j2 h'
        · intro q p hp
          cases z : inCh R (nI p) k
          · simp
          · obtain ⟨j, j1, rfl⟩ := (inCh_iff cR (by omega)).mp z
            by_cases b : r (43 + mbN R k j) ≤ r 3
            · simp [b]
            · have : tooT R k = true := too_iff.mpr ⟨j, j1, by rw [e _ (by omega), e 3 (by omega)]; exact b⟩
              rw [this] at q
              cases q
      by_cases a : lst R k = true
      · rw [if_pos a]
        by_cases b : R (73 + 10 * k + 2) = R 9
        · rw [if_pos b]
          by_cases z : tooT R k = true
          · rw [if_neg (by rw [key, z]; simp), if_pos (by rw [a, z, decide_eq_true b]; rfl)]
            obtain ⟨m', q1, q2, q3⟩ := s2_close (st := 2) (hv := 1) h1 nR cR hkR (Or.inr (Or.inl rfl))
            rw [show (2 : Int32) = nI 2 from rfl, q1, pz_bnd2]
            exact ⟨_, rfl, rfl, q2, h2.tr q3⟩
          · have z' : tooT R k = false := by simpa using z
            rw [if_pos (by rw [key]; exact z'), if_neg (by simp [z])]
            exact ⟨_, rfl, rfl, h1, h2⟩
        · rw [if_neg b, if_neg (by rw [decide_eq_false b]; simp)]
          exact ⟨_, rfl, rfl, h1, h2⟩
      · rw [if_neg a, if_neg (by simp [a])]
        exact ⟨_, rfl, rfl, h1, h2⟩
    · obtain ⟨x, m1⟩ := s
      obtain ⟨rfl, h1, h2⟩ := hI
      dsimp only at h1 h2
      have e := (trdN_all hn hw (hrs r) (by omega)).1
      rw [f_X2_adjournTired_L16, h1.1.hearings, e 8 (by omega), hn.2.2.2, if_pos (by rw [pz_le (by omega) (by omega)]; omega)]
      exact ⟨_, rfl, h1, h2⟩
  obtain ⟨t, e, h1, h2⟩ := e
  rw [e, pz_bnd]
  exact ⟨_, rfl, h1, h2⟩
theorem s2_passMinute (hC : CR c m r) (K : KW r) : ∃ m', f_X2_passMinute c m = some ((minR r).2, m') ∧ CR c m' (minR r).1 ∧ FrC c m m' := by
  have kt := tireR_KW K
  have eh : hrs (tireR r) = hrs r := (tirN_FA (r := r) (ppl r) K.1.1).se.eHrs
  obtain ⟨m1, q1, g1, f1⟩ := s2_tireAndRest hC K.1 K.2.1 K.2.2.1 (K.2.2.2.1.unq K.2.2.2.2)
  unfold f_X2_passMinute
  rw [q1, pz_bnd, pz_nm, g1.1.minute]
  unfold minR
  dsimp only
  generalize tireR r = t at kt eh g1
  rw [← eh]
  obtain ⟨n, w, -, -, -⟩ := kt
  have sU : SE t (upd t 9 (t 9 + 1)) := SE.rf.put (by unfold stat; omega)
  have gU : CR c (si m1 (c + 0) 3 (t 9 + 1)) (upd t 9 (t 9 + 1)) := g1.put0 rfl (by omega) (by omega) _ (by omega)
  have fU : FrC c m (si m1 (c + 0) 3 (t 9 + 1)) := f1.put (by omega)
  rw [Nat.add_zero] at gU fU
  generalize si m1 c 3 (t 9 + 1) = mU at gU fU
  generalize upd t 9 (t 9 + 1) = U at sU gU
  have nU := sU.num n
  have wU := sU.chws w
  have hU : hrs U = hrs t := sU.eHrs
  rw [← hU]
  have h30 := nU.2.2.1
  have e1 : ∃ q : Int32 × Mem, lp (f_X2_passMinute_L18 c) 1000000 (0, 0, mU) = some q ∧ (q.1 = (endN U (hrs U)).2 ∧ CR c q.2 (endN U (hrs U)).1 ∧ FrC c m q.2) := by
    refine lp_inv (fun k (s : Int32 × Int32 × Mem) => s.1 = (endN U k).2 ∧ s.2.1 = nI k ∧ CR c s.2.2 (endN U k).1 ∧ FrC c m s.2.2) (N := hrs U) (fun k s hk hI => ?_) (fun s hI => ?_) _ ⟨rfl, rfl, gU, fU⟩ (by omega)
    · obtain ⟨x, y, m2⟩ := s
      obtain ⟨e5, rfl, h1, h2⟩ := hI
      dsimp only at h1 h2 e5
      have e := (endN_all nU wU k (by omega)).1
      have nR := e.se.num nU
      have cR := e.se.chw (wU k hk)
      show ∃ s' : Int32 × Int32 × Mem, _ ∧ s'.1 = (endS k (endN U k)).2 ∧ s'.2.1 = nI (k + 1) ∧ CR c s'.2.2 (endS k (endN U k)).1 ∧ FrC c m s'.2.2
      have e8 := e 8 (by omega)
      have eHr := e.se.eHrs
      generalize endN U k = S at e nR cR e8 e5 h1 eHr ⊢
      obtain ⟨R, z⟩ := S
      dsimp only at e nR cR e8 e5 h1 eHr ⊢
      subst e5
      have hkR : k < hrs R := by rw [eHr]; exact hk
      rw [f_X2_passMinute_L18, h1.1.hearings, e8, nU.2.2.2, if_neg (by rw [pz_le (by omega) (by omega)]; omega), s3_isListed h1.1 (by omega), pz_bnd, bI_ite, s3_end h1.1 (by omega), pz_bnd, h1.1.minute, pz_in (by omega) (by omega), pz_cl (by omega), h1.1.size (by omega), cR.2.1]
      simp only [pz_nm, pz_s]
      unfold endS
      dsimp only
      have h3 := cR.1
      have k1 : (nI (szN R k) ≤ 0) = (szN R k ≤ 0) := pz_le (b := (0 : Nat)) (by omega) (by decide)
      by_cases a : lst R k = true
      · rw [if_pos a]
        by_cases b : endR R k = R 9
        · rw [if_pos b, if_pos (c := (lst R k && decide (endR R k = R 9)) = true) (by rw [a, decide_eq_true b]; rfl)]
          by_cases z : szN R k = 0
          · rw [if_pos (c := nI (szN R k) ≤ 0) (by rw [k1]; omega), if_pos z, pz_bnd, if_pos rfl, pz_bnd]
            obtain ⟨m', q1, q2, q3⟩ := s2_close (st := 2) (hv := 2) h1 nR cR hkR (Or.inr (Or.inl rfl))
            rw [show (2 : Int32) = nI 2 from rfl] at q1 q2 ⊢
            rw [q1, pz_bnd2, if_pos rfl, Int32.add_zero]
            refine ⟨_, rfl, rfl, rfl, ?_, h2.tr q3⟩
            rw [← closeR_0 cR z]
            exact q2
          · rw [if_neg (c := nI (szN R k) ≤ 0) (by rw [k1]; omega), if_neg z, pz_bnd, if_neg (by decide), pz_bnd]
            obtain ⟨m', q1, q2, q3⟩ := s2_close (st := 1) (hv := 2) h1 nR cR hkR (Or.inl rfl)
            rw [show (nI 1 : Int32) = 1 from rfl] at q1
            rw [q1, pz_bnd2, if_neg (by decide)]
            exact ⟨_, rfl, rfl, rfl, q2, h2.tr q3⟩
        · rw [if_neg b, if_neg (by rw [decide_eq_false b]; simp)]
          exact ⟨_, rfl, rfl, rfl, h1, h2⟩
      · rw [if_neg a, if_neg (by simp [a])]
        exact ⟨_, rfl, rfl, rfl, h1, h2⟩
    · obtain ⟨x, y, m2⟩ := s
      obtain ⟨e5, rfl, h1, h2⟩ := hI
      dsimp only at h1 h2 e5
      have e := (endN_all nU wU (hrs U) (by omega)).1
      rw [f_X2_passMinute_L18, h1.1.hearings, e 8 (by omega), nU.2.2.2, if_pos (by rw [pz_le (by omega) (by omega)]; omega)]
      exact ⟨_, rfl, e5, h1, h2⟩
  obtain ⟨⟨x, m2⟩, e1, e5, h1, h2⟩ := e1
  dsimp only at e5 h1 h2
  rw [e1, pz_bnd]
  dsimp only
  have e := (endN_all nU wU (hrs U) (by omega)).1
  obtain ⟨m3, q1, q2, q3⟩ := s2_adjournTired h1 (e.se.num nU) (e.se.chws wU)
  rw [q1, pz_bnd, e5]
  rw [e.se.eHrs] at q2
  exact ⟨_, rfl, q2, h2.tr q3⟩
end CGO
