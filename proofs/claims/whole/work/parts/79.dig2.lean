/-! the model's hash -/
section DIG2
variable {m : Mem} {A : Ab} {r : Row}
/-- what stays while the model mixes -/
def PK (A : Ab) (m0 m : Mem) : Prop := AM m A ∧ ∀ a, a < 162 → m.1 a = m0.1 a
theorem s8_mix {v : Int64} : f_X8_mix v m = some (slm m 162 16 (mx (m.2 162 16) v)) := rfl
theorem slm_at {v : Int64} : (slm m 162 16 v).2 162 16 = v := by simp [slm]
theorem m_loop {body : (Int32 × Mem) → Option ((Int32 × Mem) ⊕ Mem)} {g : Nat → Int64 → Int64} {N : Nat} (P : Mem → Prop) (hN : N ≤ 1000) (hs : ∀ i m, i < N → P m → ∃ m', body (nI i, m) = some (.inl (nI (i + 1), m')) ∧ P m' ∧ m'.2 162 16 = g i (m.2 162 16)) (he : ∀ m, P m → body (nI N, m) = some (.inr m)) (hP : P m) : ∃ m', lp body 1000000 (0, m) = some m' ∧ P m' ∧ m'.2 162 16 = fd g N (m.2 162 16) := by
  refine lp_inv (fun i (q : Int32 × Mem) => q.1 = nI i ∧ P q.2 ∧ q.2.2 162 16 = fd g i (m.2 162 16)) (N := N) (fun i q hi hI => ?_) (fun q hI => ?_) _ ⟨rfl, hP, rfl⟩ (by omega)
  · obtain ⟨x, m1⟩ := q
    obtain ⟨rfl, p1, h1⟩ := hI
    dsimp only at p1 h1
    obtain ⟨m2, e1, e2, e3⟩ := hs i m1 hi p1
    exact ⟨_, e1, rfl, e2, by rw [e3, h1]; rfl⟩
  · obtain ⟨x, m1⟩ := q
    obtain ⟨rfl, p1, h1⟩ := hI
    dsimp only at p1 h1
    exact ⟨_, he m1 p1, p1, h1⟩
variable {m0 : Mem}
theorem PK.sl {v : Int64} {a j : Nat} (h : PK A m0 m) : PK A m0 (slm m a j v) := h
theorem PK.l {m' : Mem} (h : PK A m0 m) (g : FrL m m') : PK A m0 m' := ⟨g.am h.1, fun a ha => by rw [g.1 a (by omega) (by omega) (by omega)]; exact h.2 a ha⟩
theorem s8_d1 (ok : Ok A) (hP : PK A m0 m) : ∃ m', lp f_X8_digest_L14 1000000 (0, m) = some m' ∧ PK A m0 m' ∧ m'.2 162 16 = fd (fun k s => mx s (cvR A.r A.n k).toInt64) 13 (m.2 162 16) := by
  have R := ok.2.2.1.1
  refine m_loop (PK A m0) (by omega) (fun i m hi p => ?_) (fun m p => ?_) hP
  · have e7 : (13 ≤ nI i) = (13 ≤ i) := pz_le (a := (13 : Nat)) (by decide) (by omega)
    rw [f_X8_digest_L14, if_neg (by rw [e7]; omega), s8_counted (n := A.n) p.1.1 R.1.1 R.1.2.1 (by omega) p.1.2.1, pz_bnd, s8_mix, pz_bnd, pz_s, pz_nm]
    exact ⟨_, rfl, p.sl, slm_at⟩
  · rw [f_X8_digest_L14, if_pos (by decide)]
theorem s8_d2 (ok : Ok A) (hP : PK A m0 m) : ∃ m', lp f_X8_digest_L38 1000000 (0, m) = some m' ∧ PK A m0 m' ∧ m'.2 162 16 = fd (fun k s => mx s (A.r k).toInt64) 7 (m.2 162 16) := by
  refine m_loop (PK A m0) (by omega) (fun i m hi p => ?_) (fun m p => ?_) hP
  · have e7 : (7 ≤ nI i) = (7 ≤ i) := pz_le (a := (7 : Nat)) (by decide) (by omega)
    have e0 : (0 : Int32) + nI i = nI i := by rw [pz_0, pz_add, Nat.zero_add]
    rw [f_X8_digest_L38, if_neg (by rw [e7]; omega), e0, pz_in (by omega) (by omega), pz_cl (by omega), p.1.1, pz_nm, s8_mix, pz_bnd, pz_s, pz_nm]
    exact ⟨_, rfl, p.sl, slm_at⟩
  · rw [f_X8_digest_L38, if_pos (by decide)]
theorem s8_d3 (ok : Ok A) (hP : PK A m0 m) : ∃ m', lp f_X8_digest_L65 1000000 (0, m) = some m' ∧ PK A m0 m' ∧ m'.2 162 16 = fd (dgP A.r) (ppl A.r) (m.2 162 16) := by
  have R := ok.2.2.1.1
  have hn := R.1.1
  have h10 := hn.1
  refine m_loop (PK A m0) (by omega) (fun i m hi p => ?_) (fun m p => ?_) hP
  · obtain ⟨m1, a1, a2, a3⟩ : ∃ m', lp (f_X8_digest_L78 (nI i)) 1000000 (0, m) = some m' ∧ PK A m0 m' ∧ m'.2 162 16 = fd (fun k s => mx s (pvR A.r i k).toInt64) 8 (m.2 162 16) := by
      refine m_loop (PK A m0) (by omega) (fun k m hk p => ?_) (fun m p => ?_) p
      · have e7 : (8 ≤ nI k) = (8 ≤ k) := pz_le (a := (8 : Nat)) (by decide) (by omega)
        rw [f_X8_digest_L78, if_neg (by rw [e7]; omega), s8_perNow p.1.1 hn R.1.2.1 (by omega) (by omega), pz_bnd, s8_mix, pz_bnd, pz_s, pz_nm]
        exact ⟨_, rfl, p.sl, slm_at⟩
      · rw [f_X8_digest_L78, if_pos (by decide)]
    obtain ⟨m2, b1, b2, b3, b4⟩ := s8_tiredThen (n := 60) (p := i) a2.1.1 R.1 (by omega) (by omega)
    have p2 : PK A m0 m2 := ⟨a2.1.same (by rw [b2, a2.1.1]) (fun a h1 h2 => b3 a h1 (by omega)), fun a ha => by rw [b3 a (by omega) (by omega)]; exact a2.2 a ha⟩
    rw [f_X8_digest_L65, p.1.1, hn.2.1, if_neg (by rw [pz_le (by omega) (by omega)]; omega), a1, pz_bnd, show (60 : Int32) = nI 60 from rfl, b1, pz_bnd2, s8_mix, pz_bnd, pz_s, pz_nm]
    refine ⟨_, rfl, p2.sl, ?_⟩
    rw [slm_at, b4, a3]
    rfl
  · rw [f_X8_digest_L65, p.1.1, hn.2.1, if_pos (by rw [pz_le (by omega) (by omega)]; omega)]
theorem s8_mixH (ok : Ok A) (hP : PK A m0 m) {i : Nat} (hi : i < hrs A.r) : ∃ m', f_X8_mixHearing (nI i) m = some m' ∧ PK A m0 m' ∧ m'.2 162 16 = dgH A.r i (m.2 162 16) := by
  have R := ok.2.2.1.1
  have hn := R.1.1
  have h30 := hn.2.2.1
  obtain ⟨m1, a1, a2, a3⟩ : ∃ m', lp (f_X8_mixHearing_L2 (nI i)) 1000000 (0, m) = some m' ∧ PK A m0 m' ∧ m'.2 162 16 = fd (fun k s => mx s (hvR A.r i k).toInt64) 12 (m.2 162 16) := by
    refine m_loop (PK A m0) (by omega) (fun k m hk p => ?_) (fun m p => ?_) hP
    · have e7 : (12 ≤ nI k) = (12 ≤ k) := pz_le (a := (12 : Nat)) (by decide) (by omega)
      rw [f_X8_mixHearing_L2, if_neg (by rw [e7]; omega), s8_hearNow p.1.1 hn R.1.2.1 hi (by omega), pz_bnd, s8_mix, pz_bnd, pz_s, pz_nm]
      exact ⟨_, rfl, p.sl, slm_at⟩
    · rw [f_X8_mixHearing_L2, if_pos (by decide)]
  obtain ⟨m2, b1, b2, b3⟩ : ∃ m', lp (f_X8_mixHearing_L27 (nI i)) 1000000 (0, m1) = some m' ∧ PK A m0 m' ∧ m'.2 162 16 = fd (fun k s => mx s (fvR (srch A.r i) k).toInt64) 5 (m1.2 162 16) := by
    refine m_loop (PK A m0) (by omega) (fun k m hk p => ?_) (fun m p => ?_) a2
    · have e7 : (5 ≤ nI k) = (5 ≤ k) := pz_le (a := (5 : Nat)) (by decide) (by omega)
      obtain ⟨m2, c1, c2⟩ := s8_cheapNow (m := m) (k := k) R hi p.1.1 (by omega)
      rw [f_X8_mixHearing_L27, if_neg (by rw [e7]; omega), c1, pz_bnd2, s8_mix, pz_bnd, pz_s, pz_nm]
      exact ⟨_, rfl, (p.l c2).sl, by rw [slm_at, c2.2.2]⟩
    · rw [f_X8_mixHearing_L27, if_pos (by decide)]
  rw [f_X8_mixHearing, a1, pz_bnd, b1, pz_bnd, s8_vacThen b2.1.1 hn (R.1.2.1 i hi) (by omega), pz_bnd, s8_mix, pz_bnd]
  refine ⟨_, rfl, b2.sl, ?_⟩
  rw [slm_at, b3, a3]
  rfl
theorem s8_d4 (ok : Ok A) (hP : PK A m0 m) : ∃ m', lp f_X8_digest_L121 1000000 (0, m) = some m' ∧ PK A m0 m' ∧ m'.2 162 16 = fd (dgH A.r) (hrs A.r) (m.2 162 16) := by
  have R := ok.2.2.1.1
  have hn := R.1.1
  have h30 := hn.2.2.1
  refine m_loop (PK A m0) (by omega) (fun i m hi p => ?_) (fun m p => ?_) hP
  · obtain ⟨m1, a1, a2, a3⟩ := s8_mixH ok p hi
    rw [f_X8_digest_L121, p.1.1, hn.2.2.2, if_neg (by rw [pz_le (by omega) (by omega)]; omega), a1, pz_bnd, pz_s, pz_nm]
    exact ⟨_, rfl, a2, a3⟩
  · rw [f_X8_digest_L121, p.1.1, hn.2.2.2, if_pos (by rw [pz_le (by omega) (by omega)]; omega)]
theorem s8_d6 (ok : Ok A) (hP : PK A m0 m) : ∃ m', lp f_X8_digest_L154 1000000 (0, m) = some m' ∧ PK A m0 m' ∧ m'.2 162 16 = fd (fun k s => mx s (msV A.r k).toInt64) 3 (m.2 162 16) := by
  have R := ok.2.2.1.1
  refine m_loop (PK A m0) (by omega) (fun i m hi p => ?_) (fun m p => ?_) hP
  · have e7 : (3 ≤ nI i) = (3 ≤ i) := pz_le (a := (3 : Nat)) (by decide) (by omega)
    rw [f_X8_digest_L154, if_neg (by rw [e7]; omega), s8_ms p.1.1 R.1.1 R.2.2.1 (by omega), pz_bnd, s8_mix, pz_bnd, pz_s, pz_nm]
    exact ⟨_, rfl, p.sl, slm_at⟩
  · rw [f_X8_digest_L154, if_pos (by decide)]
theorem s8_d8 (ok : Ok A) (hP : PK A m0 m) : ∃ m', lp f_X8_digest_L197 1000000 (0, m) = some m' ∧ PK A m0 m' ∧ m'.2 162 16 = fd (fun k s => mx s (A.bc k).toInt64) A.bl (m.2 162 16) := by
  have b60 := ok.2.1
  refine m_loop (PK A m0) (by omega) (fun i m hi p => ?_) (fun m p => ?_) hP
  · rw [f_X8_digest_L197, p.1.2.2.2.1, if_neg (by rw [pz_le (by omega) (by omega)]; omega), pz_in (by omega) (by omega), pz_cl (by omega), p.1.2.2.2.2 i hi, pz_nm, s8_mix, pz_bnd, pz_s, pz_nm]
    exact ⟨_, rfl, p.sl, slm_at⟩
  · rw [f_X8_digest_L197, p.1.2.2.2.1, if_pos (by rw [pz_le (by omega) (by omega)]; omega)]
theorem s8_digest (ok : Ok A) (hM : AM m A) : ∃ m', f_X8_digest m = some (dgR A, m') ∧ PK A m m' := by
  have R := ok.2.2.1.1
  have p0 : PK A m (slm (si m 162 5 0) 162 16 2399) := ⟨hM.set5 (j := 5) (by decide) (by decide) 0, fun a ha => by
    show (si m 162 5 0).1 a = m.1 a
    rw [si_ne (by omega)]⟩
  obtain ⟨m1, a1, a2, a3⟩ := s8_d1 ok p0
  obtain ⟨m2, b1, b2, b3⟩ := s8_d2 ok a2
  obtain ⟨m3, c1, c2, c3⟩ := s8_d3 ok b2
  obtain ⟨m4, d1, d2, d3⟩ := s8_d4 ok c2
  obtain ⟨m5, e1, e2, e3, e4, e5⟩ := s8_mannableNow d2.1.1 R
  have p5 : PK A m m5 := by
    refine ⟨?_, fun a ha => by rw [e3 a (by omega) (by omega) (by omega) (by omega) (by omega)]; exact d2.2 a ha⟩
    obtain ⟨x1, x2, x3, x4, x5⟩ := d2.1
    refine ⟨e2, ?_, fun k hk i hi => ?_, ?_, fun i hi => ?_⟩
    · rw [e4 1 (by omega) (by omega) (by omega)]; exact x2
    · rw [e3 164 (by omega) (by omega) (by omega) (by omega) (by omega)]; exact x3 k hk i hi
    · rw [e4 3 (by omega) (by omega) (by omega)]; exact x4
    · rw [e3 165 (by omega) (by omega) (by omega) (by omega) (by omega)]; exact x5 i hi
  obtain ⟨m6, f1, f2, f3⟩ := s8_d6 ok (p5.sl (a := 162) (j := 16) (v := mx (m5.2 162 16) (nI (mnR A.r (hrs A.r)).2).toInt64))
  obtain ⟨m7, g1, g2, g3⟩ := s8_d8 ok ((f2.sl (a := 162) (j := 16) (v := mx (m6.2 162 16) (shR A.r).toInt64)).sl (a := 162) (j := 16) (v := mx (mx (m6.2 162 16) (shR A.r).toInt64) (nI A.bl).toInt64))
  have k3 : (slm m6 162 16 (mx (m6.2 162 16) (shR A.r).toInt64)).1 162 3 = nI A.bl := f2.1.2.2.2.1
  refine ⟨m7, ?_, g2⟩
  rw [f_X8_digest, pz_nm, pz_nm, a1, pz_bnd, b1, pz_bnd, c1, pz_bnd, d1, pz_bnd, e1, pz_bnd2, s8_mix, pz_bnd, f1, pz_bnd, s8_share f2.1.1 R, pz_bnd, s8_bitsR R, pz_bnd, s8_mix, pz_bnd, s8_mix, pz_bnd, k3, slm_at, g1, pz_bnd, g3, slm_at, f3, slm_at, e5, d3, c3, b3, a3, slm_at]
  rfl
theorem o_digest (hC : AC m A) (hM : AM m A) (ok : Ok A) : ∃ m1 m2, f_X7_digest m = some (dgR A, m1) ∧ f_X8_digest m1 = some (dgR A, m2) ∧ AC m2 A ∧ AM m2 A := by
  obtain ⟨m1, a1, a2⟩ := s7_digest hC ok
  obtain ⟨m2, b1, b2⟩ := s8_digest ok (hM.frX (m' := m1) fun a ha => a2.1 a (by omega))
  exact ⟨m1, m2, a1, b1, hC.scr fun a ha => by rw [b2.2 a (by omega), a2.1 a (by omega)], b2.1⟩
end DIG2
