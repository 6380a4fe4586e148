/-! the hash: what both sides mix, in order -/
def mx (h v : Int64) : Int64 := 31 * h + v
def msV (r : Row) (kd : Nat) : Int32 := (f_X8_missingNow (nI kd) (sa (fun _ _ => 0, fun _ _ => 0) 163 r)).getD 0
def dgP (r : Row) (p : Nat) (h : Int64) : Int64 := mx (fd (fun k s => mx s (pvR r p k).toInt64) 8 h) ((goR r 60).1 (43 + p)).toInt64
def dgH (r : Row) (o : Nat) (h : Int64) : Int64 := mx (fd (fun k s => mx s (fvR (srch r o) k).toInt64) 5 (fd (fun k s => mx s (hvR r o k).toInt64) 12 h)) (vacR r o 0).toInt64
def dg1 (r : Row) (n : Nat) : Int64 := fd (fun k s => mx s (r k).toInt64) 7 (fd (fun k s => mx s (cvR r n k).toInt64) 13 2399)
def dg2 (r : Row) (n : Nat) : Int64 := fd (dgH r) (hrs r) (fd (dgP r) (ppl r) (dg1 r n))
def dg3 (r : Row) (n : Nat) : Int64 := mx (fd (fun k s => mx s (msV r k).toInt64) 3 (mx (dg2 r n) (nI (mnR r (hrs r)).2).toInt64)) (shR r).toInt64
def dgR (A : Ab) : Int64 := fd (fun k s => mx s (A.bc k).toInt64) A.bl (mx (dg3 A.r A.n) (nI A.bl).toInt64)
section DIG
variable {m : Mem} {A : Ab} {r : Row}
theorem s8_ms (hz : m.1 163 = r) (hn : NumW r) (hP : PEO r) {kd : Nat} (hk : kd < 10) : f_X8_missingNow (nI kd) m = some (msV r kd) := by
  obtain ⟨M, e, h⟩ := s8_missNow hz hn hP hk
  obtain ⟨N, e2, h2⟩ := s8_missNow (m := sa (fun _ _ => 0, fun _ _ => 0) 163 r) (sa_self _ _ _) hn hP hk
  rw [e, msV, e2]
  exact congrArg some (h.uniq h2)
theorem s6_ms {c : Nat} (hC : CR0 c m r) (hn : NumW r) (hP : PEO r) {kd : Nat} (hk : kd < 10) : f_X6_languagesWithoutChain c (nI kd) m = some (msV r kd) := by
  obtain ⟨M, e, e2⟩ := miss_same (m' := sa (fun _ _ => 0, fun _ _ => 0) 163 r) hC (sa_self _ _ _) hn hP hk
  rw [e, msV, e2]
  rfl
theorem s7_mix {a b : Int64} : f_X7_mix a b m = some (mx a b) := rfl
/-- a loop of the class that mixes -/
theorem c_loop {body : (Int64 × Int32) → Option ((Int64 × Int32) ⊕ Int64)} {g : Nat → Int64 → Int64} {N : Nat} {y : Int64} (hN : N ≤ 1000) (hs : ∀ i y, i < N → body (y, nI i) = some (.inl (g i y, nI (i + 1)))) (he : ∀ y, body (y, nI N) = some (.inr y)) : lp body 1000000 (y, 0) = some (fd g N y) :=
  lp_cnt (body := body) (fun i => (fd g i y, nI i)) (N := N) (t := fd g N y) (fun i hi => hs i _ hi) (he _) (by omega)
theorem s7_dgCounts (hC : AC m A) (R : RW A.r) (hn6 : A.n ≤ 6) : lp (f_X7_digest_L6 m) 1000000 (2399, 0) = some (fd (fun k s => mx s (cvR A.r A.n k).toInt64) 13 2399) := by
  have k0 : m.1 39 0 = nI A.n := by
    obtain ⟨-, ⟨f, -, -, q, -⟩, -⟩ := hC
    exact q
  refine c_loop (by omega) (fun i y hi => ?_) (fun y => ?_)
  · have e12 : (12 < nI i) = (12 < i) := pz_lt (a := (12 : Nat)) (by decide) (by omega)
    have e12' : (nI i = 12) = (i = 12) := pz_eq (b := (12 : Nat)) (by omega) (by decide)
    have ct : f_X7_count (nI i) m = some (cvR A.r A.n i) := by
      have w : (decide (¬ nI i < 0) && decide (¬ 12 < nI i)) = true := by
        rw [Bool.and_eq_true, decide_eq_true_eq, decide_eq_true_eq, e12]
        exact ⟨by rw [pz_not0 (by omega)]; exact id, by omega⟩
      rw [f_X7_count, s7_within, w, pz_bnd, if_neg (by decide)]
      by_cases u : i = 12
      · rw [if_pos (by rw [e12']; exact u), k0, u]
        rfl
      · rw [if_neg (by rw [e12']; exact u), s2_numOf (n := A.n) hC.1 R.1.1 R.1.2.1 (by omega), pz_bnd]
    rw [f_X7_digest_L6, if_neg (by rw [e12]; omega), ct, pz_bnd, s7_mix, pz_bnd, pz_s, pz_nm]
  · rw [f_X7_digest_L6, if_pos (by decide)]
theorem s7_dgSet (hC : CR0 1 m r) {y : Int64} : lp (f_X7_digest_L31 m) 1000000 (y, 0) = some (fd (fun k s => mx s (r k).toInt64) 7 y) := by
  refine c_loop (by omega) (fun i y hi => ?_) (fun y => ?_)
  · have e7 : (Int32.ofNat 7 ≤ nI i) = (7 ≤ i) := pz_le (a := (7 : Nat)) (by decide) (by omega)
    rw [f_X7_digest_L31, if_neg (by rw [e7]; omega), pz_in (by omega) (by omega), pz_cl (by omega), hC.setting (by omega), pz_nm, s7_mix, pz_bnd, pz_s, pz_nm]
  · rw [f_X7_digest_L31, if_pos (by decide)]
theorem s7_dgInts (hC : CR 1 m r) (hW : CR0 20 m (goR r 60).1) (R : RW r) {y : Int64} : f_X7_mixInterpreters y m = some (fd (dgP r) (ppl r) y) := by
  have hn := R.1.1
  have h10 := hn.1
  have e : lp (f_X7_mixInterpreters_L5 m) 1000000 (y, 0) = some (fd (dgP r) (ppl r) y) := by
    refine c_loop (by omega) (fun i y hi => ?_) (fun y => ?_)
    · have inner : lp (f_X7_mixInterpreters_L23 m (nI i)) 1000000 (y, 0) = some (fd (fun k s => mx s (pvR r i k).toInt64) 8 y) := by
        refine c_loop (by omega) (fun k y hk => ?_) (fun y => ?_)
        · have e7 : (7 < nI k) = (7 < k) := pz_lt (a := (7 : Nat)) (by decide) (by omega)
          rw [f_X7_mixInterpreters_L23, if_neg (by rw [e7]; omega), s2_ofInt hC hn R.1.2.1 (by omega) (by omega), pz_bnd, s7_mix, pz_bnd, pz_s, pz_nm]
        · rw [f_X7_mixInterpreters_L23, if_pos (by decide)]
      rw [f_X7_mixInterpreters_L5, hC.1.people, hn.2.1, if_neg (by rw [pz_le (by omega) (by omega)]; omega), inner, pz_bnd, pz_in (by omega) (by omega), pz_cl (by omega), hW.tired (by omega), pz_nm, s7_mix, pz_bnd, pz_s, pz_nm]
      rfl
    · rw [f_X7_mixInterpreters_L5, hC.1.people, hn.2.1, if_pos (by rw [pz_le (by omega) (by omega)]; omega)]
  rw [f_X7_mixInterpreters, e, pz_bnd]
theorem s7_dgHears (hC : CR 1 m r) (R : RW r) {y : Int64} : ∃ m', f_X7_mixHearings y m = some (fd (dgH r) (hrs r) y, m') ∧ FrP m m' := by
  have hn := R.1.1
  have h30 := hn.2.2.1
  have e : ∃ t : Int64 × Mem, lp f_X7_mixHearings_L5 1000000 (y, 0, m) = some t ∧ (t.1 = fd (dgH r) (hrs r) y ∧ FrP m t.2) := by
    refine lp_inv (fun i (q : Int64 × Int32 × Mem) => q.1 = fd (dgH r) i y ∧ q.2.1 = nI i ∧ FrP m q.2.2) (N := hrs r) (fun i q hi hI => ?_) (fun q hI => ?_) _ ⟨rfl, rfl, FrP.rf⟩ (by omega)
    · obtain ⟨h, x, m1⟩ := q
      obtain ⟨rfl, rfl, f1⟩ := hI
      dsimp only at f1
      have c1 := hC.frP (by omega) f1
      obtain ⟨m2, k1, k2, k3⟩ := s1_seek c1 (by omega) R hi
      have c2 := c1.frP (by omega) k2
      have in1 : lp (f_X7_mixHearings_L23 (nI i) m1) 1000000 (fd (dgH r) i y, 0) = some (fd (fun k s => mx s (hvR r i k).toInt64) 12 (fd (dgH r) i y)) := by
        refine c_loop (by omega) (fun k y hk => ?_) (fun y => ?_)
        · have e7 : (11 < nI k) = (11 < k) := pz_lt (a := (11 : Nat)) (by decide) (by omega)
          rw [f_X7_mixHearings_L23, if_neg (by rw [e7]; omega), s2_ofHear c1 hn R.1.2.1 hi (by omega), pz_bnd, s7_mix, pz_bnd, pz_s, pz_nm]
        · rw [f_X7_mixHearings_L23, if_pos (by decide)]
      have in2 : ∀ y, lp (f_X7_mixHearings_L69 m2) 1000000 (y, 0) = some (fd (fun k s => mx s (fvR (srch r i) k).toInt64) 5 y) := fun y => by
        refine c_loop (by omega) (fun k y hk => ?_) (fun y => ?_)
        · have e7 : (4 < nI k) = (4 < k) := pz_lt (a := (4 : Nat)) (by decide) (by omega)
          rw [f_X7_mixHearings_L69, if_neg (by rw [e7]; omega), s1_found k3 (by omega), pz_bnd, s7_mix, pz_bnd, pz_s, pz_nm]
        · rw [f_X7_mixHearings_L69, if_pos (by decide)]
      rw [f_X7_mixHearings_L5, c1.1.hearings, hn.2.2.2, if_neg (by rw [pz_le (by omega) (by omega)]; omega), in1, pz_bnd, k1, pz_bnd, in2, pz_bnd, s2_payIfVacated c2.1 hn (R.1.2.1 i hi) hi, pz_bnd, s7_mix, pz_bnd, pz_s, pz_nm]
      exact ⟨_, rfl, rfl, rfl, f1.tr k2⟩
    · obtain ⟨h, x, m1⟩ := q
      obtain ⟨rfl, rfl, f1⟩ := hI
      dsimp only at f1
      rw [f_X7_mixHearings_L5, (hC.frP (by omega) f1).1.hearings, hn.2.2.2, if_pos (by rw [pz_le (by omega) (by omega)]; omega)]
      exact ⟨_, rfl, rfl, f1⟩
  obtain ⟨⟨v, m'⟩, e1, e2, e3⟩ := e
  dsimp only at e2 e3
  subst e2
  refine ⟨m', ?_, e3⟩
  rw [f_X7_mixHearings, e1, pz_bnd]
theorem s7_dgMiss (hC : CR0 1 m r) (R : RW r) {y : Int64} : lp (f_X7_digest_L94 m) 1000000 (y, 0) = some (fd (fun k s => mx s (msV r k).toInt64) 3 y) := by
  refine c_loop (by omega) (fun i y hi => ?_) (fun y => ?_)
  · have e7 : (3 ≤ nI i) = (3 ≤ i) := pz_le (a := (3 : Nat)) (by decide) (by omega)
    rw [f_X7_digest_L94, if_neg (by rw [e7]; omega), s6_ms hC R.1.1 R.2.2.1 (by omega), pz_bnd, s7_mix, pz_bnd, pz_s, pz_nm]
  · rw [f_X7_digest_L94, if_pos (by decide)]
theorem s7_dgBuf (hC : AC m A) (b60 : A.bl ≤ 60) {y : Int64} : f_X0_mixInto y m = some (fd (fun k s => mx s (A.bc k).toInt64) A.bl (mx y (nI A.bl).toInt64)) := by
  have h5 := hC.2.2.1
  have e : ∀ y, lp (f_X0_mixInto_L13 m) 1000000 (y, 0) = some (fd (fun k s => mx s (A.bc k).toInt64) A.bl y) := fun y => by
    refine c_loop (by omega) (fun i y hi => ?_) (fun y => ?_)
    · have e60 : (60 ≤ nI i) = (60 ≤ i) := pz_le (a := (60 : Nat)) (by decide) (by omega)
      rw [f_X0_mixInto_L13, h5, if_neg (by rw [pz_le (by omega) (by omega)]; omega), f_X0_codeAt, if_neg (by rw [pz_not0 (by omega)]; exact id), if_neg (by rw [e60]; omega), pz_in (by omega) (by omega), pz_cl (by omega), hC.2.2.2 i hi, pz_nm, pz_bnd, s7_mix, pz_bnd, pz_s, pz_nm]
    · rw [f_X0_mixInto_L13, h5, if_pos (by rw [pz_le (by omega) (by omega)]; omega)]
  rw [f_X0_mixInto, h5, s7_mix, pz_bnd, e, pz_bnd]
theorem s7_digest (hC : AC m A) (ok : Ok A) : ∃ m', f_X7_digest m = some (dgR A, m') ∧ FrW m m' := by
  have R := ok.2.2.1.1
  obtain ⟨m1, i1, i2, i3⟩ := s7_imagine (n := 60) hC.1 R.1 (by omega)
  have a1 : AC m1 A := hC.scr fun a ha => i3.1 a (by omega)
  obtain ⟨m2, j1, j2⟩ := s7_dgHears a1.1 R (y := fd (dgP A.r) (ppl A.r) (dg1 A.r A.n))
  have a2 := j2.ac a1
  obtain ⟨m3, k1, k2⟩ := s7_mannable a2.1 R
  have a3 : AC m3 A := a2.scr fun a ha => k2.1 a (by omega)
  refine ⟨m3, ?_, (i3.w.tr j2.w).tr k2⟩
  rw [f_X7_digest, s7_dgCounts hC R ok.1, pz_bnd, s7_dgSet hC.1.1, pz_bnd, show (60 : Int32) = nI 60 from rfl, i1, pz_bnd, s7_dgInts a1.1 i2.1 R, pz_bnd]
  show (bnd2 (f_X7_mixHearings (fd (dgP A.r) (ppl A.r) (dg1 A.r A.n)) m1) fun y26 m27 => bnd2 (f_X7_mannable m27) fun x29 m30 => bnd (f_X7_mix y26 x29.toInt64 m30) fun y32 => bnd (lp (f_X7_digest_L94 m30) 1000000 (y32, 0)) (fun y42 => bnd (f_X7_doneShare m30) fun z44 => bnd (f_X7_bitsOfShare z44 m30) fun y46 => bnd (f_X7_mix y42 y46 m30) fun y48 => bnd (f_X0_mixInto y48 m30) fun y50 => some (y50, m30))) = _
  rw [j1, pz_bnd2, k1, pz_bnd2, s7_mix, pz_bnd, s7_dgMiss a3.1.1 R, pz_bnd, s7_share a3.1.1 R, pz_bnd, s7_bitsR R, pz_bnd, s7_mix, pz_bnd, s7_dgBuf a3 ok.2.1, pz_bnd]
  rfl
end DIG
