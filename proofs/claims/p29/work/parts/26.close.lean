/-! what paying, closing, tiring leave as it was -/
def stat (i : Nat) : Prop := i < 9 ∨ (13 ≤ i ∧ i < 43) ∨ (73 ≤ i ∧ (i - 73) % 10 ≠ 4 ∧ (i - 73) % 10 ≠ 9)
def SE (r r' : Row) : Prop := ∀ i, stat i → r' i = r i
theorem SE.rf {r : Row} : SE r r := fun _ _ => rfl
theorem SE.tr {r r' r'' : Row} (h : SE r r') (g : SE r' r'') : SE r r'' := fun i hi => (g i hi).trans (h i hi)
theorem SE.put {r r' : Row} {i : Nat} {v : Int32} (h : SE r r') (hi : ¬ stat i) : SE r (upd r' i v) := fun j hj => by
  rw [upd_ne (fun q => hi (by rw [← q]; exact hj))]
  exact h j hj
section SEL
variable {r r' : Row} {h k a b p n : Nat} {x : Int32}
theorem SE.fld (e : SE r r') (hk : k < 4 ∨ (4 < k ∧ k < 9)) : r' (73 + 10 * h + k) = r (73 + 10 * h + k) := e _ (Or.inr (Or.inr ⟨by omega, by omega, by omega⟩))
theorem SE.chn (e : SE r r') (hk : k < 3) : r' (79 + 10 * h + k) = r (79 + 10 * h + k) := e _ (Or.inr (Or.inr ⟨by omega, by omega, by omega⟩))
theorem SE.ePpl (e : SE r r') : ppl r' = ppl r := by unfold ppl; rw [e 7 (Or.inl (by omega))]
theorem SE.eHrs (e : SE r r') : hrs r' = hrs r := by unfold hrs; rw [e 8 (Or.inl (by omega))]
theorem SE.num (e : SE r r') (hn : NumW r) : NumW r' := by
  obtain ⟨a, b, c, d⟩ := hn
  refine ⟨by rw [e.ePpl]; exact a, ?_, by rw [e.eHrs]; exact c, ?_⟩
  · rw [e.ePpl, e 7 (Or.inl (by omega))]; exact b
  · rw [e.eHrs, e 8 (Or.inl (by omega))]; exact d
theorem SE.sz (e : SE r r') : szN r' h = szN r h := by unfold szN; rw [e.fld (Or.inr (by omega))]
theorem SE.mb (e : SE r r') (hk : k < 3) : mbN r' h k = mbN r h k := by unfold mbN; rw [e.chn hk]
theorem SE.chw (e : SE r r') (hc : ChW r h) : ChW r' h := by
  obtain ⟨a, b, c, d, f⟩ := hc
  refine ⟨by rw [e.sz]; exact a, ?_, fun k hk => ?_, fun k h1 h2 => ?_, fun i j hi hj => ?_⟩
  · rw [e.sz, e.fld (Or.inr (by omega))]; exact b
  · rw [e.sz] at hk
    rw [e.mb (by omega), e.ePpl, e.chn (by omega)]
    exact c k hk
  · rw [e.sz] at h1
    rw [e.chn h2]
    exact d k h1 h2
  · rw [e.sz] at hi hj
    rw [e.mb (by omega), e.mb (by omega)]
    exact f i j hi hj
theorem SE.lng (e : SE r r') : lngR r' h = lngR r h := by unfold lngR; rw [e.fld (Or.inl (by omega))]
theorem SE.knd (e : SE r r') : kndR r' h = kndR r h := by unfold kndR; rw [show 73 + 10 * h = 73 + 10 * h + 0 from rfl, e.fld (Or.inl (by omega))]
theorem SE.hw (e : SE r r') (hc : HW r h) : HW r' h := by
  obtain ⟨a, b, c, d, f⟩ := hc
  refine ⟨e.chw a, by rw [e.lng]; exact b, ?_, by rw [e.knd]; exact d, ?_⟩
  · rw [e.lng, e.fld (Or.inl (by omega))]; exact c
  · rw [e.knd]
    have := e.fld (h := h) (k := 0) (Or.inl (by omega))
    rw [show 73 + 10 * h + 0 = 73 + 10 * h from rfl] at this
    rw [this]; exact f
theorem SE.eEnd (e : SE r r') : endR r' h = endR r h := by unfold endR; rw [e.fld (Or.inl (by omega)), e.fld (Or.inl (by omega))]
theorem SE.eClsh (e : SE r r') : clsh r' a b = clsh r a b := by
  unfold clsh
  rw [e.eEnd, e.eEnd, e.fld (Or.inl (by omega)), e.fld (Or.inl (by omega))]
theorem SE.earn (e : SE r r') {s : Bool} (hp : p < 10) : earnR r' p h s = earnR r p h s := by
  unfold earnR
  rw [e.fld (Or.inl (by omega)), e (33 + p) (Or.inr (Or.inl (by omega))), e 6 (Or.inl (by omega))]
theorem SE.eInChN (e : SE r r') : ∀ k, k ≤ 3 → inChN r' x h k = inChN r x h k
  | 0, _ => rfl
  | k + 1, hk => by
    unfold inChN
    rw [SE.eInChN e k (by omega), e.chn (by omega)]
theorem SE.eInCh (e : SE r r') (hc : szN r h ≤ 3) : inCh r' x h = inCh r x h := by
  unfold inCh
  rw [e.sz, SE.eInChN e _ hc]
theorem SE.ePayN (e : SE r r') (hc : ChW r h) (hn : ppl r ≤ 10) : ∀ k, k ≤ szN r h → payN r' h x k = payN r h x k
  | 0, _ => rfl
  | k + 1, hk => by
    have h3 := hc.1
    have h4 := (hc.2.2.1 k (by omega)).1
    unfold payN
    rw [SE.ePayN e hc hn k (by omega), e.mb (by omega), e.sz, e.earn (by omega)]
theorem SE.pay (e : SE r r') (hc : ChW r h) (hn : ppl r ≤ 10) : payR r' h x = payR r h x := by
  unfold payR
  rw [e.sz, SE.ePayN e hc hn _ (Nat.le_refl _)]
theorem SE.msk (e : SE r r') : mskN r' h = mskN r h := by
  have e0 := e.chn (h := h) (k := 0) (by omega)
  have e1 := e.chn (h := h) (k := 1) (by omega)
  have e2 := e.chn (h := h) (k := 2) (by omega)
  rw [show 79 + 10 * h + 0 = 79 + 10 * h from rfl] at e0
  rw [show 79 + 10 * h + 1 = 80 + 10 * h by omega] at e1
  rw [show 79 + 10 * h + 2 = 81 + 10 * h by omega] at e2
  rw [mskN_eq, mskN_eq, e0, e1, e2]
end SEL
/-- what the people of a chain have earned by then, k of them paid -/
def payPR (r : Row) (h : Nat) (hv : Int32) : Nat → Row
  | 0 => r
  | k + 1 => upd (payPR r h hv k) (53 + mbN r h k) (payPR r h hv k (53 + mbN r h k) + earnR r (mbN r h k) h (decide (1 < szN r h)) * hv / 2)
theorem payPR_ne {r : Row} {h : Nat} {hv : Int32} (hc : ChW r h) (hn : ppl r ≤ 10) : ∀ k i, k ≤ szN r h → (i < 53 ∨ 63 ≤ i) → payPR r h hv k i = r i
  | 0, _, _, _ => rfl
  | k + 1, i, hk, hi => by
    have h4 := (hc.2.2.1 k (by omega)).1
    rw [payPR, upd_ne (by omega), payPR_ne hc hn k i (by omega) hi]
theorem payPR_SE {r : Row} {h : Nat} {hv : Int32} (hc : ChW r h) (hn : ppl r ≤ 10) {k : Nat} (hk : k ≤ szN r h) : SE r (payPR r h hv k) := fun i hi => payPR_ne hc hn k i hk (by unfold stat at hi; omega)
/-- a hearing closed (1 done, 2 adjourned, 3 vacated), its people paid hv halves -/
def closeR (r : Row) (h st : Nat) (hv : Int32) : Row :=
  let d := upd (upd (upd (payPR r h hv (szN r h)) (73 + 10 * h + 4) (nI st)) (82 + 10 * h) (r (82 + 10 * h) + payR r h hv)) 10 (r 10 + payR r h hv)
  if st = 3 then upd d 11 (r 11 + payR r h hv) else if st = 2 then upd d 12 (r 12 + payR r h hv) else d
theorem closeR_SE {r : Row} {h st : Nat} {hv : Int32} (hc : ChW r h) (hn : ppl r ≤ 10) : SE r (closeR r h st hv) := by
  have e : SE r (upd (upd (upd (payPR r h hv (szN r h)) (73 + 10 * h + 4) (nI st)) (82 + 10 * h) (r (82 + 10 * h) + payR r h hv)) 10 (r 10 + payR r h hv)) := (((payPR_SE hc hn (Nat.le_refl _)).put (by unfold stat; omega)).put (by unfold stat; omega)).put (by unfold stat; omega)
  unfold closeR
  dsimp only
  split
  · exact e.put (by unfold stat; omega)
  · split
    · exact e.put (by unfold stat; omega)
    · exact e
section CLOSEC
variable {c : Nat} {m : Mem} {r : Row} {h st p : Nat} {hv x : Int32}
theorem CR.se {r' : Row} {m' : Mem} (hC : CR c m r) (e : SE r r') (h0 : CR0 c m' r') (hm : ∀ o, m'.1 (c + 16) o = m.1 (c + 16) o) : CR c m' r' := ⟨h0, fun o ho => by
  rw [hm o, e.msk]
  refine hC.2 o ?_
  have : hrs r' = hrs r := e.eHrs
  unfold hrs at this
  omega⟩
theorem s6_pay (hC : CR0 c m r) (hn : NumW r) (hp : p < ppl r) : f_X6_pay c (nI p) x m = some (si m (c + 6) p (r (53 + p) + x)) := by
  have h10 := hn.1
  unfold f_X6_pay
  rw [s6_has hC, pz_bnd, isp_nI hn hp, bI_ite, if_pos rfl, pz_in (by omega) (by omega), pz_cl (by omega), hC.earned (by omega)]
  simp only [pz_nm]
  rw [pz_in (by omega) (by omega)]
theorem s2_close (hC : CR c m r) (hn : NumW r) (hc : ChW r h) (hh : h < hrs r) (hst : st = 1 ∨ st = 2 ∨ st = 3) : ∃ m', f_X2_close c (nI h) (nI st) hv m = some (payR r h hv, m') ∧ CR c m' (closeR r h st hv) ∧ FrC c m m' := by
  have h30 := hn.2.2.1
  have h10 := hn.1
  have h3 := hc.1
  have e : ∃ q : Int32 × Mem, lp (f_X2_close_L6 c (nI h) hv) 1000000 (0, 0, m) = some q ∧ (q.1 = payR r h hv ∧ CR0 c q.2 (payPR r h hv (szN r h)) ∧ FrC c m q.2 ∧ ∀ o, q.2.1 (c + 16) o = m.1 (c + 16) o) := by
    refine lp_inv (fun i (s : Int32 × Int32 × Mem) => s.1 = payN r h hv i ∧ s.2.1 = nI i ∧ CR0 c s.2.2 (payPR r h hv i) ∧ FrC c m s.2.2 ∧ ∀ o, s.2.2.1 (c + 16) o = m.1 (c + 16) o) (N := szN r h) (fun i s hi hI => ?_) (fun s hI => ?_) (0, 0, m) ⟨rfl, rfl, hC.1, FrC.rf, fun _ => rfl⟩ (by omega)
    · obtain ⟨v, w, m1⟩ := s
      obtain ⟨rfl, rfl, h0, h1, h2⟩ := hI
      dsimp only at h0 h1 h2
      have se := payPR_SE (hv := hv) hc h10 (k := i) (by omega)
      have n1 := se.num hn
      have c1 := se.chw hc
      have hp := (hc.2.2.1 i hi).1
      have d16 : ∀ o p v, (si m1 (c + 6) p v).1 (c + 16) o = m.1 (c + 16) o := fun o p v => by rw [si_ne (by omega)]; exact h2 o
      rw [f_X2_close_L6, pz_in (by omega) (by omega), pz_cl (by omega), h0.size (by omega)]
      simp only [pz_nm]
      rw [se.fld (Or.inr (by omega)), hc.2.1, if_neg (by rw [pz_le (by omega) (by omega)]; omega), s2_payOf h0 n1 c1 (by rw [se.eHrs]; exact hh) (by rw [se.sz]; exact hi), pz_bnd, s3_member h0 n1 (by rw [se.eHrs]; exact hh) (by omega), pz_bnd, se.chn (by omega), (hc.2.2.1 i hi).2,
        s6_pay h0 n1 (by rw [se.ePpl]; exact hp), pz_bnd, pz_s, se.mb (by omega), se.sz, se.earn (by omega)]
      refine ⟨_, rfl, rfl, rfl, ?_, h1.put (by omega), fun o => d16 o _ _⟩
      have l6 : loc 6 (mbN r h i) = some (53 + mbN r h i) := by
        have : mbN r h i < 10 := by omega
        simp [loc, this]
      exact h0.put l6 _
    · obtain ⟨v, w, m1⟩ := s
      obtain ⟨rfl, rfl, h0, h1, h2⟩ := hI
      dsimp only at h0 h1 h2
      have se := payPR_SE (hv := hv) hc h10 (k := szN r h) (by omega)
      rw [f_X2_close_L6, pz_in (by omega) (by omega), pz_cl (by omega), h0.size (by omega)]
      simp only [pz_nm]
      rw [se.fld (Or.inr (by omega)), hc.2.1, if_pos (by rw [pz_le (by omega) (by omega)]; omega)]
      exact ⟨_, rfl, rfl, h0, h1, h2⟩
  obtain ⟨⟨v, m1⟩, e, rfl, h0, h1, h2⟩ := e
  dsimp only at h0 h1 h2
  have se := payPR_SE (hv := hv) hc h10 (k := szN r h) (by omega)
  have l4 : loc 13 h = some (73 + 10 * h + 4) := by simp [loc, show h < 30 by omega]
  have l9 : loc 15 h = some (82 + 10 * h) := by simp [loc, show h < 30 by omega]
  have g1 := h0.put l4 (nI st)
  have g2 := g1.put l9 (r (82 + 10 * h) + payR r h hv)
  have g3 := g2.put (k := 0) (j := 4) (i := 10) rfl (r 10 + payR r h hv)
  have f3 := ((h1.put (k := 13) (j := h) (v := nI st) (by omega)).put (k := 15) (j := h) (v := r (82 + 10 * h) + payR r h hv) (by omega)).put (k := 0) (j := 4) (v := r 10 + payR r h hv) (by omega)
  have q16 : ∀ o, (si (si (si m1 (c + 13) h (nI st)) (c + 15) h (r (82 + 10 * h) + payR r h hv)) (c + 0) 4 (r 10 + payR r h hv)).1 (c + 16) o = m.1 (c + 16) o := fun o => by rw [si_ne (by omega), si_ne (by omega), si_ne (by omega)]; exact h2 o
  have r1 : (si m1 (c + 13) h (nI st)).1 (c + 15) h = r (82 + 10 * h) := by
    rw [g1.got (by omega), upd_ne (by omega), payPR_ne hc h10 _ _ (by omega) (by omega)]
  have r2 : (si (si m1 (c + 13) h (nI st)) (c + 15) h (r (82 + 10 * h) + payR r h hv)).1 c 4 = r 10 := by
    rw [g2.paid, upd_ne (by omega), upd_ne (by omega), payPR_ne hc h10 _ _ (by omega) (by omega)]
  have r3 : (si (si (si m1 (c + 13) h (nI st)) (c + 15) h (r (82 + 10 * h) + payR r h hv)) c 4 (r 10 + payR r h hv)).1 c 5 = r 11 := by
    have := g3.paidV
    rw [show c + 0 = c from rfl] at this
    rw [this, upd_ne (by omega), upd_ne (by omega), upd_ne (by omega), payPR_ne hc h10 _ _ (by omega) (by omega)]
  have r4 : (si (si (si m1 (c + 13) h (nI st)) (c + 15) h (r (82 + 10 * h) + payR r h hv)) c 4 (r 10 + payR r h hv)).1 c 6 = r 12 := by
    have := g3.paidA
    rw [show c + 0 = c from rfl] at this
    rw [this, upd_ne (by omega), upd_ne (by omega), upd_ne (by omega), payPR_ne hc h10 _ _ (by omega) (by omega)]
  rw [f_X2_close, e, pz_bnd]
  dsimp only
  rw [pz_in (by omega) (by omega), pz_cl (by omega)]
  simp only [pz_nm]
  rw [pz_in (by omega) (by omega), r1, pz_in (by omega) (by omega), r2, r3, r4]
  have s3 : (nI st = 3) = (st = 3) := pz_eq (b := (3 : Nat)) (by omega) (by decide)
  have s2 : (nI st = 2) = (st = 2) := pz_eq (b := (2 : Nat)) (by omega) (by decide)
  have sc := closeR_SE (st := st) (hv := hv) hc h10
  rcases hst with rfl | rfl | rfl
  · rw [if_neg (by rw [s3]; omega), if_neg (by rw [s2]; omega)]
    exact ⟨_, rfl, hC.se sc g3 q16, f3⟩
  · rw [if_neg (by rw [s3]; omega), if_pos (by rw [s2])]
    exact ⟨_, rfl, hC.se sc (g3.put (k := 0) (j := 6) (i := 12) rfl (r 12 + payR r h hv)) (fun o => by rw [si_ne (by omega)]; exact q16 o), f3.put (k := 0) (j := 6) (v := r 12 + payR r h hv) (by omega)⟩
  · rw [if_pos (by rw [s3])]
    exact ⟨_, rfl, hC.se sc (g3.put (k := 0) (j := 5) (i := 11) rfl (r 11 + payR r h hv)) (fun o => by rw [si_ne (by omega)]; exact q16 o), f3.put (k := 0) (j := 5) (v := r 11 + payR r h hv) (by omega)⟩
end CLOSEC
