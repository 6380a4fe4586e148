/-! the class's search, laid out and done -/
section SEEK2
variable {c : Nat} {m : Mem} {r : Row} {h a b n : Nat} {s : BS}
theorem CR.frP {m' : Mem} (hC : CR c m r) (hc : c + 19 ≤ 158) (g : FrP m m') : CR c m' r := hC.fr fun a _ _ => g.1 a (by omega)
theorem s1_prepare (hC : CR c m r) (hc : c + 19 ≤ 158) (R : RW r) (hh : h < hrs r) : ∃ m', f_X1_prepare c (nI h) m = some m' ∧ FrP m m' ∧ (∀ j, j < 5 → m'.1 158 j = m.1 158 j) ∧ PP r h m' := by
  have hn := R.1.1
  have h10 := hn.1
  have h30 := hn.2.2.1
  have hW := R.2.1 h hh
  obtain ⟨M1, a1, a2⟩ := s6_certifiedFor (kd := kndR r h) hC.1 hn (by have := hW.2.2.2.1; omega)
  obtain ⟨M2, b1, b2⟩ := s3_busyFor hC hn R.1.2.1 (h := h) (by omega)
  have free : MK (M1 &&& (M2 ^^^ (-1))) (fre r h) := (a2.diff b2).cong fun p hp => by
    unfold fre
    rw [Bool.and_assoc]
  generalize hF : M1 &&& (M2 ^^^ (-1)) = F at free
  have spk : ∀ (mx : Mem), FrP m mx → ∀ x : Int32, ∃ M, f_X6_speakersOf c x mx = some M ∧ MK M (fun p => decide (p < ppl r) && decide (¬ r (13 + p) &&& x = 0)) := fun mx fx x => s6_speakersOf (hC.frP hc fx).1 hn
  have bits : ∀ l, l < 10 → ∀ p, decide (¬ r (13 + p) &&& boI (nI l) = 0) = bt (r (13 + p)) l := fun l hl p => by
    have := and_bo (r (13 + p)) hl
    cases q : bt (r (13 + p)) l
    · exact decide_eq_false (by rw [this, q]; simp)
    · exact decide_eq_true (by rw [this, q]; simp)
  have w1 : FrP m (si m 158 5 (nI (ppl r))) := FrP.rf.put (by omega)
  obtain ⟨B, c1, c2⟩ := spk _ w1 (boI (nI (lngR r h)))
  have w2 : FrP m (si (si m 158 5 (nI (ppl r))) 158 6 (F &&& B)) := w1.put (by omega)
  obtain ⟨E, d1, d2⟩ := spk _ w2 (boI (nI 0))
  have w3 : FrP m (si (si (si m 158 5 (nI (ppl r))) 158 6 (F &&& B)) 158 7 (F &&& E)) := w2.put (by omega)
  generalize hm3 : si (si (si m 158 5 (nI (ppl r))) 158 6 (F &&& B)) 158 7 (F &&& E) = m3 at w3
  have k5 : m3.1 158 5 = nI (ppl r) := by rw [← hm3, si_off (by omega), si_off (by omega), si_at]
  have k6 : MK (m3.1 158 6) (beg r h) := by
    rw [← hm3, si_off (by omega), si_at]
    refine (free.and c2).cong fun p hp => ?_
    unfold beg
    rw [bits _ hW.2.1]
    cases q : fre r h p
    · rfl
    · rw [decide_eq_true (fre_lt q)]
      rfl
  have k7 : MK (m3.1 158 7) (enr r h) := by
    rw [← hm3, si_at]
    refine (free.and d2).cong fun p hp => ?_
    unfold enr
    rw [bits 0 (by omega)]
    cases q : fre r h p
    · rfl
    · rw [decide_eq_true (fre_lt q)]
      rfl
  have k0 : ∀ j, j < 5 → m3.1 158 j = m.1 158 j := fun j hj => by rw [← hm3, si_off (by omega), si_off (by omega), si_off (by omega)]
  have e : ∃ m', lp (f_X1_prepare_L76 c (nI h) M1 M2) 1000000 (0, m3) = some m' ∧ FrP m m' ∧ m'.1 158 = m3.1 158 ∧ ∀ a, a < ppl r → MK (m'.1 159 a) (fol r h a) ∧ m'.1 160 a = nI (eN r h a false) ∧ m'.1 161 a = nI (eN r h a true) := by
    refine lp_inv (fun i (q : Int32 × Mem) => q.1 = nI i ∧ FrP m q.2 ∧ q.2.1 158 = m3.1 158 ∧ ∀ a, a < i → MK (q.2.1 159 a) (fol r h a) ∧ q.2.1 160 a = nI (eN r h a false) ∧ q.2.1 161 a = nI (eN r h a true)) (N := ppl r) (fun i q hi hI => ?_) (fun q hI => ?_) _ ⟨rfl, w3, rfl, fun a ha => absurd ha (Nat.not_lt_zero a)⟩ (by omega)
    · obtain ⟨x, m1⟩ := q
      obtain ⟨rfl, f1, g1, l1⟩ := hI
      dsimp only at f1 g1 l1
      have cr := hC.frP hc f1
      obtain ⟨S, s1, s2⟩ := spk m1 f1 (r (13 + i))
      have v1 : FrP m (si m1 159 i (F &&& S &&& (boI (nI i) ^^^ (-1)))) := f1.put (by omega)
      have v2 : FrP m (si (si m1 159 i (F &&& S &&& (boI (nI i) ^^^ (-1)))) 160 i (nI (eN r h i false))) := v1.put (by omega)
      have q1 := s2_earns (k := 1) (hC.frP hc v1).1 hn hi (h := h) (by omega)
      have q2 := s2_earns (k := 2) (hC.frP hc v2).1 hn hi (h := h) (by omega)
      rw [show (decide (1 < 1)) = false from rfl, show bI false = 0 from rfl, (eN_b R hi hh false).1] at q1
      rw [show (decide (1 < 2)) = true from rfl, show bI true = 1 from rfl, (eN_b R hi hh true).1] at q2
      rw [f_X1_prepare_L76, g1, k5, if_neg (by rw [pz_le (by omega) (by omega)]; omega), pz_in (by omega) (by omega), pz_cl (by omega), cr.1.speaks (by omega)]
      simp only [pz_nm]
      rw [s1, pz_bnd, s7_bitOf, pz_bnd, hF, pz_in (by omega) (by omega), q1, pz_bnd, pz_in (by omega) (by omega), q2, pz_bnd, pz_in (by omega) (by omega), pz_s]
      refine ⟨_, rfl, rfl, v2.put (by omega), ?_, fun a ha => ?_⟩
      · show (si (si (si m1 159 i _) 160 i _) 161 i _).1 158 = _
        rw [si_ne (by omega), si_ne (by omega), si_ne (by omega)]
        exact g1
      · show MK ((si (si (si m1 159 i _) 160 i _) 161 i _).1 159 a) _ ∧ (si (si (si m1 159 i _) 160 i _) 161 i _).1 160 a = _ ∧ (si (si (si m1 159 i _) 160 i _) 161 i _).1 161 a = _
        by_cases z : a = i
        · subst z
          refine ⟨?_, ?_, ?_⟩
          · rw [si_ne (by omega), si_ne (by omega), si_at]
            refine ((free.and s2).diff (boI_MK (by omega))).cong fun p hp => ?_
            unfold fol
            cases q : fre r h p
            · rfl
            · rw [decide_eq_true (fre_lt q)]
              by_cases y : p = a <;> simp [y]
          · rw [si_ne (by omega), si_at]
          · rw [si_at]
        · rw [si_off (by omega), si_off (by omega), si_off (by omega), si_off (by omega), si_off (by omega), si_off (by omega), si_off (by omega), si_off (by omega), si_off (by omega)]
          exact l1 a (by omega)
    · obtain ⟨x, m1⟩ := q
      obtain ⟨rfl, f1, g1, l1⟩ := hI
      dsimp only at f1 g1 l1
      rw [f_X1_prepare_L76, g1, k5, if_pos (by rw [pz_le (by omega) (by omega)]; omega)]
      exact ⟨_, rfl, f1, g1, l1⟩
  obtain ⟨m', e1, e2, e3, e4⟩ := e
  refine ⟨m', ?_, e2, fun j hj => by rw [e3]; exact k0 j hj, by rw [e3]; exact k5, by rw [e3]; exact k6, by rw [e3]; exact k7, e4⟩
  have lg : (1 : Int32) <<< (nI (lngR r h) &&& 31) = boI (nI (lngR r h)) := shl_bo hW.2.1
  have o1 : (1 : Int32) = boI (nI 0) := by decide
  rw [f_X1_prepare, pz_in (by omega) (by omega), pz_cl (by omega), hC.1.kind (by omega), hW.2.2.2.2, pz_nm, a1, pz_bnd, b1, pz_bnd, hC.1.people, hn.2.1, pz_nm, pz_in (by omega) (by omega), si_ne (by omega), hC.1.lang (by omega), hW.2.2.1, pz_nm, lg, c1, pz_bnd, hF]
  simp only [pz_nm]
  rw [o1, d1, pz_bnd, hm3, e1, pz_bnd]
theorem s1_seek68 (R : RW r) (hh : h < hrs r) {X : Int32} {l : Nat} {st : Nat → BS → BS} {S : Nat → Bool} (hl : l < 1000000) (M : MK X S) (hP : PP r h m) (hB : BC r h m s) (hid : ∀ a s, S a = false → st a s = s)
    (hgo : ∀ a m1 s, a < ppl r → S a = true → PP r h m1 → BC r h m1 s → ∃ m2, (if nI l ≤ 1 then gIn (nI a) 10 (nm (m1.1 160 (nI a).toNatClampNeg) fun x28 => bnd (f_X1_offer x28 1 (nI a) (-1) (-1) m1) fun m30 => nm (nI a + 1) fun x31 => some (Sum.inl (x31, m30))) else bnd (f_X1_trySeconds (nI a) (nI l) m1) fun m33 => nm (nI a + 1) fun x34 => some (Sum.inl (x34, m33))) = (some (Sum.inl (nI (a + 1), m2)) : Option ((Int32 × Mem) ⊕ Mem)) ∧ FrK m1 m2 ∧ BC r h m2 (st a s)) : ∃ m', lp (f_X1_seek_L68 (nI l) X) 1000000 (0, m) = some m' ∧ FrK m m' ∧ BC r h m' (fd st (ppl r) s) := by
  have h10 := R.1.1.1
  refine lp_inv (fun i (q : Int32 × Mem) => q.1 = nI i ∧ FrK m q.2 ∧ BC r h q.2 (fd st i s)) (N := ppl r) (fun i q hi hI => ?_) (fun q hI => ?_) _ ⟨rfl, FrK.rf, hB⟩ (by omega)
  · obtain ⟨x, m1⟩ := q
    obtain ⟨rfl, f1, b1⟩ := hI
    dsimp only at f1 b1
    have p1 := hP.fr f1
    rw [f_X1_seek_L68, p1.1, if_neg (by rw [pz_le (by omega) (by omega)]; omega), s7_bitOf, pz_bnd]
    by_cases q : S i = true
    · obtain ⟨m2, j1, j2, j3⟩ := hgo i m1 _ hi q p1 b1
      rw [if_neg (by rw [M.has (by omega), q]; simp), j1]
      exact ⟨_, rfl, rfl, f1.tr j2, j3⟩
    · rw [if_pos (by rw [M.has (by omega)]; simpa using q), pz_nm, pz_s]
      refine ⟨_, rfl, rfl, f1, ?_⟩
      show BC r h m1 (st i (fd st i s))
      rw [hid i _ (by simpa using q)]
      exact b1
  · obtain ⟨x, m1⟩ := q
    obtain ⟨rfl, f1, b1⟩ := hI
    dsimp only at f1 b1
    rw [f_X1_seek_L68, (hP.fr f1).1, if_pos (by rw [pz_le (by omega) (by omega)]; omega)]
    exact ⟨_, rfl, f1, b1⟩
theorem s1_seek37 (R : RW r) (hh : h < hrs r) (hP : PP r h m) (hB : BC r h m bs0) : ∃ m', lp f_X1_seek_L37 1000000 (1, m) = some m' ∧ FrK m m' ∧ BC r h m' (sr3 r h) := by
  have h10 := R.1.1.1
  -- one: those who begin and end
  have r1 : ∀ m1 : Mem, PP r h m1 → BC r h m1 bs0 → ∃ m2, lp (f_X1_seek_L68 (nI 1) (m1.1 158 6 &&& m1.1 158 7)) 1000000 (0, m1) = some m2 ∧ FrK m1 m2 ∧ BC r h m2 (sr1 r h) := fun m1 p1 b1 => s1_seek68 R hh (by omega) (p1.2.1.and p1.2.2.1) p1 b1 (fun a s q => by rw [st1, if_neg (by unfold g1; rw [q]; simp)]) (fun a m1 s la q p1 b1 => by
    have q1 : g1 r h a = true := q
    obtain ⟨o1, o2⟩ := g1_ok q1
    have c1 := (eN_b R la hh false).2
    obtain ⟨m2, j1, j2, j3⟩ := s1_offer (x := eN r h a false) (n := 1) (t := t1f a) (x3 := nI a) (x4 := -1) (x5 := -1) b1 (by omega) o1 o2 rfl rfl rfl
    rw [if_pos (by decide), pz_in (by omega) (by omega), pz_cl (by omega), (p1.2.2.2 a la).2.1]
    simp only [pz_nm]
    have j1' : f_X1_offer (nI (eN r h a false)) 1 (nI a) (-1) (-1) m1 = some m2 := j1
    rw [j1', pz_bnd, pz_s]
    refine ⟨_, rfl, j2, ?_⟩
    rw [st1, if_pos q1]
    exact j3)
  have r2 : ∀ m1 : Mem, PP r h m1 → BC r h m1 (sr1 r h) → ∃ m2, lp (f_X1_seek_L68 (nI 2) (m1.1 158 6)) 1000000 (0, m1) = some m2 ∧ FrK m1 m2 ∧ BC r h m2 (sr2 r h) := fun m1 p1 b1 => s1_seek68 R hh (by omega) p1.2.1 p1 b1 (fun a s q => fd_id (fun k s _ => by rw [st2, if_neg (by unfold g2; rw [q]; simp)])) (fun a m1 s la q p1 b1 => by
    obtain ⟨m2, j1, j2, j3⟩ := s1_seconds2 R hh q p1 b1
    rw [if_neg (by decide), show nI 2 = (2 : Int32) from rfl, j1, pz_bnd, pz_nm, pz_s]
    exact ⟨_, rfl, j2, j3⟩)
  have r3 : ∀ m1 : Mem, PP r h m1 → BC r h m1 (sr2 r h) → ∃ m2, lp (f_X1_seek_L68 (nI 3) (m1.1 158 6)) 1000000 (0, m1) = some m2 ∧ FrK m1 m2 ∧ BC r h m2 (sr3 r h) := fun m1 p1 b1 => s1_seek68 R hh (by omega) p1.2.1 p1 b1 (fun a s q => fd_id (fun k s _ => fd_id (fun k s _ => by rw [st3, if_neg (by unfold g3; rw [q]; simp)]))) (fun a m1 s la q p1 b1 => by
    obtain ⟨m2, j1, j2, j3⟩ := s1_seconds3 R hh q p1 b1
    rw [if_neg (by decide), show nI 3 = (3 : Int32) from rfl, j1, pz_bnd, pz_nm, pz_s]
    exact ⟨_, rfl, j2, j3⟩)
  obtain ⟨m1, a1, a2, a3⟩ := r1 m hP hB
  obtain ⟨m2, b1, b2, b3⟩ := r2 m1 (hP.fr a2) a3
  obtain ⟨m3, c1, c2, c3⟩ := r3 m2 ((hP.fr a2).fr b2) b3
  refine ⟨m3, ?_, (a2.tr b2).tr c2, c3⟩
  have k1 : f_X1_seek_L37 (1, m) = some (.inl (2, m1)) := by
    rw [f_X1_seek_L37, if_neg (by decide), if_pos (by decide), pz_nm, pz_bnd, show (1 : Int32) = nI 1 from rfl, a1, pz_bnd, pz_nm]
    rfl
  have k2 : f_X1_seek_L37 (2, m1) = some (.inl (3, m2)) := by
    rw [f_X1_seek_L37, if_neg (by decide), if_neg (by decide), pz_bnd, show (2 : Int32) = nI 2 from rfl, b1, pz_bnd, pz_nm]
    rfl
  have k3 : f_X1_seek_L37 (3, m2) = some (.inl (4, m3)) := by
    rw [f_X1_seek_L37, if_neg (by decide), if_neg (by decide), pz_bnd, show (3 : Int32) = nI 3 from rfl, c1, pz_bnd, pz_nm]
    rfl
  have k4 : f_X1_seek_L37 (4, m3) = some (.inr m3) := by
    rw [f_X1_seek_L37, if_pos (by decide)]
  exact (lp_st (k := 999999) k1).trans ((lp_st (k := 999998) k2).trans ((lp_st (k := 999997) k3).trans (lp_en (k := 999996) k4)))
/-- the class's search, from any court -/
theorem s1_seek (hC : CR c m r) (hc : c + 19 ≤ 158) (R : RW r) (hh : h < hrs r) : ∃ m', f_X1_seek c (nI h) m = some m' ∧ FrP m m' ∧ BC r h m' (srch r h) := by
  have h30 := R.1.1.2.2.1
  obtain ⟨m1, k1, k2, k3, k4, k5, k6, k7⟩ := s1_keep (m := m) (x1 := -1) (x2 := -1) (x3 := -1) (x4 := -1) (x5 := -1)
  have b0 : BC r h m1 bs0 := by
    refine ⟨BW0, k3, k4, fun k hk => ?_⟩
    rcases (show k = 0 ∨ k = 1 ∨ k = 2 by omega) with rfl | rfl | rfl
    · exact k5
    · exact k6
    · exact k7
  have cr := hC.frP hc k2.p
  rw [f_X1_seek, k1, pz_bnd, s3_has cr.1, ish_nI R.1.1 hh, pz_bnd, bI_ite, if_pos rfl, s2_isAhead cr.1 (by omega), pz_bnd, bI_ite]
  unfold srch
  by_cases q : (lst r h && !std r h) = true
  · rw [if_pos q, if_pos q]
    obtain ⟨m2, a1, a2, a3, a4⟩ := s1_prepare cr hc R hh
    have b2 : BC r h m2 bs0 := ⟨BW0, by rw [a3 0 (by omega)]; exact b0.2.1, by rw [a3 1 (by omega)]; exact b0.2.2.1, fun k hk => by rw [a3 (2 + k) (by omega)]; exact b0.2.2.2 k hk⟩
    obtain ⟨m3, c1, c2, c3⟩ := s1_seek37 R hh a4 b2
    rw [a1, pz_bnd, c1, pz_bnd]
    exact ⟨m3, rfl, (k2.p.tr a2).tr c2.p, c3⟩
  · rw [if_neg q, if_neg q]
    exact ⟨m1, rfl, k2.p, b0⟩
end SEEK2
