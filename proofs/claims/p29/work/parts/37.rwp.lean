/-! rows whose people or settings change -/
def HE (r r' : Row) : Prop := ∀ i, (8 ≤ i ∧ i < 13) ∨ 73 ≤ i → r' i = r i
section HEs
variable {r r' : Row} {h a b : Nat} {x : Int32}
theorem HE.eHrs (e : HE r r') : hrs r' = hrs r := by unfold hrs; rw [e 8 (by omega)]
theorem HE.eLst (e : HE r r') : lst r' h = lst r h := by unfold lst; rw [e _ (by omega)]
theorem HE.eSz (e : HE r r') : szN r' h = szN r h := by unfold szN; rw [e _ (by omega)]
theorem HE.eMb (e : HE r r') {k : Nat} : mbN r' h k = mbN r h k := by unfold mbN; rw [e _ (by omega)]
theorem HE.eInN (e : HE r r') : ∀ k, inChN r' x h k = inChN r x h k
  | 0 => rfl
  | k + 1 => by rw [inChN, inChN, HE.eInN e k, e _ (by omega)]
theorem HE.eIn (e : HE r r') : inCh r' x h = inCh r x h := by unfold inCh; rw [e.eSz, e.eInN]
theorem HE.eEnd (e : HE r r') : endR r' h = endR r h := by unfold endR; rw [e (73 + 10 * h + 2) (by omega), e (73 + 10 * h + 3) (by omega)]
theorem HE.eCl (e : HE r r') : clsh r' a b = clsh r a b := by
  unfold clsh
  rw [e.eEnd, e.eEnd, e (73 + 10 * a + 2) (by omega), e (73 + 10 * b + 2) (by omega)]
theorem HE.chw (e : HE r r') (hp : ppl r ≤ ppl r') (hc : ChW r h) : ChW r' h := by
  obtain ⟨a1, a2, a3, a4, a5⟩ := hc
  refine ⟨by rw [e.eSz]; exact a1, by rw [e.eSz, e _ (by omega)]; exact a2, fun k hk => ?_, fun k h1 h2 => ?_, fun i j hi hj => ?_⟩
  · rw [e.eSz] at hk
    obtain ⟨b1, b2⟩ := a3 k hk
    rw [e.eMb, e _ (by omega)]
    exact ⟨by omega, b2⟩
  · rw [e.eSz] at h1
    rw [e _ (by omega)]
    exact a4 k h1 h2
  · rw [e.eSz] at hi hj
    rw [e.eMb, e.eMb]
    exact a5 i j hi hj
theorem HE.hw (e : HE r r') (hp : ppl r ≤ ppl r') (hc : HW r h) : HW r' h := by
  obtain ⟨a1, a2, a3, a4, a5⟩ := hc
  have l : lngR r' h = lngR r h := by unfold lngR; rw [e _ (by omega)]
  have k : kndR r' h = kndR r h := by unfold kndR; rw [e _ (by omega)]
  exact ⟨e.chw hp a1, by rw [l]; exact a2, by rw [l, e _ (by omega)]; exact a3, by rw [k]; exact a4, by rw [k, e _ (by omega)]; exact a5⟩
theorem RW_ppl (R : RW r) (e : HE r r') (hn : NumW r') (hp : ppl r ≤ ppl r') (hP : PEO r') (hT : TiW r') : RW r' := by
  obtain ⟨⟨-, cw, -, nc, lt⟩, hw, -, tm, mo⟩ := R
  refine ⟨⟨hn, fun o ho => e.chw hp (cw o (by rw [← e.eHrs]; exact ho)), hT, ?_, ?_⟩, fun o ho => e.hw hp (hw o (by rw [← e.eHrs]; exact ho)), hP, ?_, ?_⟩
  · intro p a b p10 ab ha hb la lb hc ia ib
    rw [e.eHrs] at ha hb
    rw [e.eLst] at la lb
    rw [e.eCl] at hc
    rw [e.eIn] at ia ib
    exact nc p a b p10 ab ha hb la lb hc ia ib
  · intro o ho lo
    rw [e.eHrs] at ho
    rw [e.eLst] at lo
    rw [e.eEnd, e 9 (by omega)]
    exact lt o ho lo
  · intro o ho
    rw [e.eHrs] at ho
    rw [e _ (by omega), e (73 + 10 * o + 3) (by omega)]
    exact tm o ho
  · obtain ⟨P, V, Q, a, b, d, f, g⟩ := mo
    refine ⟨P, V, Q, (e 10 (by omega)).trans a, (e 11 (by omega)).trans b, (e 12 (by omega)).trans d, f, ?_⟩
    rw [e.eHrs, clo_cong (fun o _ => e.eLst)]
    exact g
theorem GD_cert {p v : Nat} (g : GD r) (hp : p < ppl r) (hv : v < 8) : GD (upd r (23 + p) (nI v)) := by
  obtain ⟨R, t, t1, t2⟩ := g
  have h10 := R.1.1.1
  have e7 : ppl (upd r (23 + p) (nI v)) = ppl r := by unfold ppl; rw [upd_ne (by omega)]
  have e8 : hrs (upd r (23 + p) (nI v)) = hrs r := by unfold hrs; rw [upd_ne (by omega)]
  refine ⟨RW_ppl R (fun i hi => upd_ne (by omega)) ?_ (by rw [e7]; exact Nat.le_refl _) ?_ ?_, t, t1, by rw [upd_ne (by omega)]; exact t2⟩
  · obtain ⟨a, b, d, f⟩ := R.1.1
    exact ⟨by rw [e7]; exact a, by rw [e7, upd_ne (by omega)]; exact b, by rw [e8]; exact d, by rw [e8, upd_ne (by omega)]; exact f⟩
  · intro q hq
    rw [e7] at hq
    obtain ⟨a, b, d⟩ := R.2.2.1 q hq
    rw [upd_ne (j := 13 + q) (by omega), upd_ne (j := 33 + q) (by omega)]
    refine ⟨a, ?_, d⟩
    by_cases e : q = p
    · subst e
      rw [upd_self]
      exact ⟨v, hv, rfl⟩
    · rw [upd_ne (by omega)]
      exact b
  · refine ⟨fun q hq => ?_, fun i hi => ?_⟩
    · rw [e7] at hq
      rw [upd_ne (by omega)]
      exact R.1.2.2.1.1 q hq
    · rw [upd_ne (by omega)]
      exact R.1.2.2.1.2 i hi
theorem GD_set {i v : Nat} (g : GD r) (hi : i < 7) (hv : v ≤ 5000) : GD (upd r i (nI v)) := by
  obtain ⟨R, t, t1, t2⟩ := g
  have h10 := R.1.1.1
  have e7 : ppl (upd r i (nI v)) = ppl r := by unfold ppl; rw [upd_ne (by omega)]
  have e8 : hrs (upd r i (nI v)) = hrs r := by unfold hrs; rw [upd_ne (by omega)]
  refine ⟨RW_ppl R (fun j hj => upd_ne (by omega)) ?_ (by rw [e7]; exact Nat.le_refl _) ?_ ?_, t, t1, by rw [upd_ne (by omega)]; exact t2⟩
  · obtain ⟨a, b, d, f⟩ := R.1.1
    exact ⟨by rw [e7]; exact a, by rw [e7, upd_ne (by omega)]; exact b, by rw [e8]; exact d, by rw [e8, upd_ne (by omega)]; exact f⟩
  · intro q hq
    rw [e7] at hq
    rw [upd_ne (j := 13 + q) (by omega), upd_ne (j := 23 + q) (by omega), upd_ne (j := 33 + q) (by omega)]
    exact R.2.2.1 q hq
  · refine ⟨fun q hq => ?_, fun j hj => ?_⟩
    · rw [e7] at hq
      rw [upd_ne (by omega)]
      exact R.1.2.2.1.1 q hq
    · by_cases e : j = i
      · rw [e, upd_self]
        exact ⟨v, hv, rfl⟩
      · rw [upd_ne e]
        exact R.1.2.2.1.2 j hj
def hireR (r : Row) (x y z : Int32) : Row := upd (upd (upd (upd (upd (upd (upd r 7 (r 7 + 1)) (13 + ppl r) x) (23 + ppl r) y) (33 + ppl r) z) (43 + ppl r) 0) (53 + ppl r) 0) (63 + ppl r) 0
theorem hireR_ne {x y z : Int32} {i : Nat} (h7 : i ≠ 7) (h : ∀ k, k < 6 → i ≠ 13 + 10 * k + ppl r) : hireR r x y z i = r i := by
  have a0 := h 0 (by omega)
  have a1 := h 1 (by omega)
  have a2 := h 2 (by omega)
  have a3 := h 3 (by omega)
  have a4 := h 4 (by omega)
  have a5 := h 5 (by omega)
  unfold hireR
  rw [upd_ne (by omega), upd_ne (by omega), upd_ne (by omega), upd_ne (by omega), upd_ne (by omega), upd_ne (by omega), upd_ne (by omega)]
theorem GD_hire {L c q : Nat} (g : GD r) (hn : ppl r < 10) (hL : L < 1024) (hc : c < 8) (hq : q ≤ 100) : GD (hireR r (nI L) (nI c) (nI q)) := by
  obtain ⟨R, t, t1, t2⟩ := g
  have h7 := R.1.1.2.1
  have k7 : hireR r (nI L) (nI c) (nI q) 7 = nI (ppl r + 1) := by
    unfold hireR
    rw [upd_ne (by omega), upd_ne (by omega), upd_ne (by omega), upd_ne (by omega), upd_ne (by omega), upd_ne (by omega), upd_self, h7, pz_s]
  have e7 : ppl (hireR r (nI L) (nI c) (nI q)) = ppl r + 1 := by
    show (hireR r (nI L) (nI c) (nI q) 7).toNatClampNeg = _
    rw [k7, pz_cl (by omega)]
  have e : HE r (hireR r (nI L) (nI c) (nI q)) := fun i hi => hireR_ne (by omega) (fun k hk => by omega)
  have v13 : hireR r (nI L) (nI c) (nI q) (13 + ppl r) = nI L := by
    unfold hireR
    rw [upd_ne (by omega), upd_ne (by omega), upd_ne (by omega), upd_ne (by omega), upd_ne (by omega), upd_self]
  have v23 : hireR r (nI L) (nI c) (nI q) (23 + ppl r) = nI c := by
    unfold hireR
    rw [upd_ne (by omega), upd_ne (by omega), upd_ne (by omega), upd_ne (by omega), upd_self]
  have v33 : hireR r (nI L) (nI c) (nI q) (33 + ppl r) = nI q := by
    unfold hireR
    rw [upd_ne (by omega), upd_ne (by omega), upd_ne (by omega), upd_self]
  have v43 : hireR r (nI L) (nI c) (nI q) (43 + ppl r) = nI 0 := by
    unfold hireR
    rw [upd_ne (by omega), upd_ne (by omega), upd_self]
    rfl
  refine ⟨RW_ppl R e ?_ (by omega) ?_ ?_, t, t1, by rw [e 9 (by omega)]; exact t2⟩
  · obtain ⟨a, b, d, f⟩ := R.1.1
    exact ⟨by omega, by rw [e7]; exact k7, by rw [e.eHrs]; exact d, by rw [e.eHrs, e 8 (by omega)]; exact f⟩
  · intro p hp
    rw [e7] at hp
    by_cases z : p = ppl r
    · rw [z, v13, v23, v33]
      exact ⟨⟨L, hL, rfl⟩, ⟨c, hc, rfl⟩, ⟨q, hq, rfl⟩⟩
    · rw [hireR_ne (by omega) (fun k hk => by omega), hireR_ne (by omega) (fun k hk => by omega), hireR_ne (by omega) (fun k hk => by omega)]
      exact R.2.2.1 p (by omega)
  · refine ⟨fun p hp => ?_, fun i hi => ?_⟩
    · rw [e7] at hp
      by_cases z : p = ppl r
      · rw [z, v43]
        exact ⟨0, by omega, rfl⟩
      · rw [hireR_ne (by omega) (fun k hk => by omega)]
        exact R.1.2.2.1.1 p (by omega)
    · rw [hireR_ne (by omega) (fun k hk => by omega)]
      exact R.1.2.2.1.2 i hi
end HEs
