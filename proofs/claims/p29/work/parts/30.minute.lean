/-! a minute passes -/
/-- alike but for what a close changes -/
def CE (r r' : Row) : Prop := ∀ i, (i < 10 ∨ (13 ≤ i ∧ i < 53) ∨ (63 ≤ i ∧ i < 73) ∨ (73 ≤ i ∧ (i - 73) % 10 ≠ 4 ∧ (i - 73) % 10 ≠ 9)) → r' i = r i
theorem CE.rf {r : Row} : CE r r := fun _ _ => rfl
theorem CE.tr {r r' r'' : Row} (h : CE r r') (g : CE r' r'') : CE r r'' := fun i hi => (g i hi).trans (h i hi)
theorem CE.se {r r' : Row} (h : CE r r') : SE r r' := fun i hi => h i (by unfold stat at hi; omega)
theorem CE.put {r r' : Row} {i : Nat} {v : Int32} (h : CE r r') (hi : ¬ (i < 10 ∨ (13 ≤ i ∧ i < 53) ∨ (63 ≤ i ∧ i < 73) ∨ (73 ≤ i ∧ (i - 73) % 10 ≠ 4 ∧ (i - 73) % 10 ≠ 9))) : CE r (upd r' i v) := fun j hj => by
  rw [upd_ne (fun q => hi (by rw [← q]; exact hj))]
  exact h j hj
theorem closeR_CE {r : Row} {h st : Nat} {hv : Int32} (hc : ChW r h) (hn : ppl r ≤ 10) : CE r (closeR r h st hv) := by
  have p0 : CE r (payPR r h hv (szN r h)) := fun i hi => payPR_ne hc hn _ i (Nat.le_refl _) (by omega)
  have e : CE r (upd (upd (upd (payPR r h hv (szN r h)) (73 + 10 * h + 4) (nI st)) (82 + 10 * h) (r (82 + 10 * h) + payR r h hv)) 10 (r 10 + payR r h hv)) := ((p0.put (by omega)).put (by omega)).put (by omega)
  unfold closeR
  dsimp only
  split
  · exact e.put (by omega)
  · split
    · exact e.put (by omega)
    · exact e
theorem closeR_st {r : Row} {h st o : Nat} {hv : Int32} (hc : ChW r h) (hn : ppl r ≤ 10) : closeR r h st hv (73 + 10 * o + 4) = if o = h then nI st else r (73 + 10 * o + 4) := by
  have e : (upd (upd (upd (payPR r h hv (szN r h)) (73 + 10 * h + 4) (nI st)) (82 + 10 * h) (r (82 + 10 * h) + payR r h hv)) 10 (r 10 + payR r h hv)) (73 + 10 * o + 4) = if o = h then nI st else r (73 + 10 * o + 4) := by
    rw [upd_ne (by omega), upd_ne (by omega)]
    by_cases q : o = h
    · subst q
      rw [upd_self, if_pos rfl]
    · rw [upd_ne (by omega), if_neg q, payPR_ne hc hn _ _ (Nat.le_refl _) (by omega)]
  unfold closeR
  by_cases s3 : st = 3
  · simp only [if_pos s3]
    rw [upd_ne (by omega), e]
  · by_cases s2 : st = 2
    · simp only [if_neg s3, if_pos s2]
      rw [upd_ne (by omega), e]
    · simp only [if_neg s3, if_neg s2]
      exact e
theorem closeR_lst {r : Row} {h st o : Nat} {hv : Int32} (hc : ChW r h) (hn : ppl r ≤ 10) (h0 : 0 < st) (h3 : st ≤ 3) : lst (closeR r h st hv) o = (lst r o && decide (o ≠ h)) := by
  unfold lst
  rw [closeR_st hc hn]
  by_cases q : o = h
  · rw [if_pos q]
    have : ¬ nI st = 0 := by rw [pz_0, pz_eq (by omega) (by omega)]; omega
    simp [q, this]
  · rw [if_neg q]
    simp [q]
theorem CE.eStd {r r' : Row} (e : CE r r') {h : Nat} : std r' h = std r h := by unfold std; rw [e (73 + 10 * h + 2) (by omega), e 9 (by omega)]
/-- listed hearings that share a person don't clash; they end later than now -/
def NCl (r : Row) : Prop := ∀ p a b, p < 10 → a ≠ b → a < hrs r → b < hrs r → lst r a = true → lst r b = true → clsh r a b = true → inCh r (nI p) a = true → inCh r (nI p) b = true → False
def LT (r : Row) : Prop := ∀ h, h < hrs r → lst r h = true → r 9 < endR r h
def ChWs (r : Row) : Prop := ∀ o, o < hrs r → ChW r o
def KW (r : Row) : Prop := NumW r ∧ ChWs r ∧ TiW r ∧ NCl r ∧ LT r
theorem NCl.unq {r : Row} (h : NCl r) (g : LT r) : UNQ r := by
  intro p a b hp ha hb h1 h2
  simp only [hit, std, Bool.and_eq_true, decide_eq_true_eq] at h1 h2
  by_cases e : a = b
  · exact e
  exfalso
  have la := g a ha h1.1
  have lb := g b hb h2.1
  refine h p a b hp e ha hb h1.1 h2.1 ?_ h1.2.2 h2.2.2
  simp only [clsh, Bool.and_eq_true, decide_eq_true_eq]
  constructor
  · intro q
    exact h1.2.1 (by rw [Int32.lt_iff_toInt_lt] at lb ⊢; rw [Int32.le_iff_toInt_le] at q; omega)
  · intro q
    exact h2.2.1 (by rw [Int32.lt_iff_toInt_lt] at la ⊢; rw [Int32.le_iff_toInt_le] at q; omega)
theorem SE.chws {r r' : Row} (e : SE r r') (h : ChWs r) : ChWs r' := fun o ho => e.chw (h o (by rw [← e.eHrs]; exact ho))
theorem NCl.mono {r r' : Row} (e : SE r r') (hw : ChWs r) (hl : ∀ o, o < hrs r → lst r' o = true → lst r o = true) (h : NCl r) : NCl r' := by
  intro p a b hp hab ha hb la lb hc ia ib
  rw [e.eHrs] at ha hb
  rw [e.eClsh] at hc
  rw [e.eInCh (hw _ ha).1] at ia
  rw [e.eInCh (hw _ hb).1] at ib
  exact h p a b hp hab ha hb (hl a ha la) (hl b hb lb) hc ia ib
theorem LT.mono {r r' : Row} (e : SE r r') (e9 : r' 9 = r 9) (hl : ∀ o, o < hrs r → lst r' o = true → lst r o = true) (h : LT r) : LT r' := by
  intro o ho lo
  rw [e.eHrs] at ho
  rw [e9, e.eEnd]
  exact h o ho (hl o ho lo)
theorem TiW.mono {r r' : Row} (e : CE r r') (hn : ppl r ≤ 10) (h : TiW r) : TiW r' := by
  refine ⟨fun p hp => ?_, fun i hi => ?_⟩
  · rw [e.se.ePpl] at hp
    rw [e _ (by omega)]
    exact h.1 p hp
  · rw [e _ (by omega)]
    exact h.2 i hi
theorem KW.mono {r r' : Row} (e : CE r r') (hl : ∀ o, o < hrs r → lst r' o = true → lst r o = true) (h : KW r) : KW r' :=
  ⟨e.se.num h.1, e.se.chws h.2.1, h.2.2.1.mono e h.1.1, h.2.2.2.1.mono e.se h.2.1 hl, h.2.2.2.2.mono e.se (e 9 (by omega)) hl⟩
def tooN (r : Row) (h : Nat) : Nat → Bool
  | 0 => false
  | k + 1 => tooN r h k || decide (¬ r (43 + mbN r h k) ≤ r 3)
def tooT (r : Row) (h : Nat) : Bool := tooN r h (szN r h)
def endS (h : Nat) (s : Row × Int32) : Row × Int32 := if (lst s.1 h && decide (endR s.1 h = s.1 9)) = true then (if szN s.1 h = 0 then (closeR s.1 h 2 1, s.2) else (closeR s.1 h 1 2, s.2 + 1)) else s
def endN (r : Row) : Nat → Row × Int32
  | 0 => (r, 0)
  | k + 1 => endS k (endN r k)
def trdS (h : Nat) (r : Row) : Row := if (lst r h && (decide (r (73 + 10 * h + 2) = r 9) && tooT r h)) = true then closeR r h 2 1 else r
def trdN (r : Row) : Nat → Row
  | 0 => r
  | k + 1 => trdS k (trdN r k)
def minR (r : Row) : Row × Int32 :=
  let t := tireR r
  let e := endN (upd t 9 (t 9 + 1)) (hrs r)
  (trdN e.1 (hrs r), e.2)
theorem endS_CE {h : Nat} {s : Row × Int32} (hc : ChW s.1 h) (hn : ppl s.1 ≤ 10) : CE s.1 (endS h s).1 := by
  unfold endS
  split
  · split
    · show CE s.1 (closeR s.1 h 2 1)
      exact closeR_CE hc hn
    · show CE s.1 (closeR s.1 h 1 2)
      exact closeR_CE hc hn
  · exact CE.rf
theorem endS_lst {h o : Nat} {s : Row × Int32} (hc : ChW s.1 h) (hn : ppl s.1 ≤ 10) (hl : lst (endS h s).1 o = true) : lst s.1 o = true ∧ (o = h → ¬ endR s.1 h = s.1 9) := by
  unfold endS at hl
  by_cases q : (lst s.1 h && decide (endR s.1 h = s.1 9)) = true
  · rw [if_pos q] at hl
    by_cases z : szN s.1 h = 0
    · rw [if_pos z, closeR_lst hc hn (by omega) (by omega), Bool.and_eq_true, decide_eq_true_eq] at hl
      exact ⟨hl.1, fun e => absurd e hl.2⟩
    · rw [if_neg z, closeR_lst hc hn (by omega) (by omega), Bool.and_eq_true, decide_eq_true_eq] at hl
      exact ⟨hl.1, fun e => absurd e hl.2⟩
  · rw [if_neg q] at hl
    refine ⟨hl, fun e g => q ?_⟩
    subst e
    rw [hl, g]
    simp
theorem endN_all {r : Row} (hn : NumW r) (hw : ChWs r) : ∀ k, k ≤ hrs r → CE r (endN r k).1 ∧ ∀ o, lst (endN r k).1 o = true → lst r o = true ∧ (o < k → ¬ endR r o = r 9)
  | 0, _ => ⟨CE.rf, fun o h => ⟨h, fun q => by omega⟩⟩
  | k + 1, hk => by
    obtain ⟨e, hl⟩ := endN_all hn hw k (by omega)
    have hc := e.se.chw (hw k (by omega))
    have h10 : ppl (endN r k).1 ≤ 10 := by rw [e.se.ePpl]; exact hn.1
    refine ⟨e.tr (endS_CE hc h10), fun o ho => ?_⟩
    obtain ⟨a, b⟩ := endS_lst hc h10 ho
    obtain ⟨a', b'⟩ := hl o a
    refine ⟨a', fun q => ?_⟩
    by_cases z : o = k
    · have := b z
      rw [e.se.eEnd, e 9 (by omega)] at this
      rw [z]
      exact this
    · exact b' (by omega)
theorem trdS_CE {h : Nat} {r : Row} (hc : ChW r h) (hn : ppl r ≤ 10) : CE r (trdS h r) ∧ ∀ o, lst (trdS h r) o = true → lst r o = true := by
  unfold trdS
  split
  · exact ⟨closeR_CE hc hn, fun o ho => by
      rw [closeR_lst hc hn (by omega) (by omega), Bool.and_eq_true] at ho
      exact ho.1⟩
  · exact ⟨CE.rf, fun o ho => ho⟩
theorem trdN_all {r : Row} (hn : NumW r) (hw : ChWs r) : ∀ k, k ≤ hrs r → CE r (trdN r k) ∧ ∀ o, lst (trdN r k) o = true → lst r o = true
  | 0, _ => ⟨CE.rf, fun o h => h⟩
  | k + 1, hk => by
    obtain ⟨e, hl⟩ := trdN_all hn hw k (by omega)
    obtain ⟨e2, hl2⟩ := trdS_CE (e.se.chw (hw k (by omega))) (by rw [e.se.ePpl]; exact hn.1)
    exact ⟨e.tr e2, fun o ho => hl o (hl2 o ho)⟩
theorem tirN_rng {r : Row} (hr : ∀ q, q < 10 → q < ppl r → ∃ t, t ≤ 1000 ∧ r (43 + q) = nI t) : ∀ p q, q < 10 → q < ppl r → ∃ t, t ≤ 1000 ∧ tirN r p (43 + q) = nI t
  | 0, q, h, h2 => hr q h h2
  | p + 1, q, h, h2 => by
    rw [tirN]
    by_cases e : 43 + q = 43 + p
    · rw [e, upd_self]
      exact tirV_rng _ _ _
    · rw [upd_ne e]
      have : wkd r (tirN r p) p (43 + q) = tirN r p (43 + q) ∨ 63 + p = 43 + q := by
        unfold wkd
        cases wkR r p with
        | none => exact Or.inl rfl
        | some _ =>
          by_cases z : 63 + p = 43 + q
          · exact Or.inr z
          · exact Or.inl (upd_ne (fun q => z q.symm))
      rcases this with h' | h'
      · rw [h']
        exact tirN_rng hr p q h h2
      · omega
theorem tireR_KW {r : Row} (h : KW r) : KW (tireR r) := by
  have h10 := h.1.1
  have ft := tirN_FA (r := r) (ppl r) h10
  refine ⟨ft.se.num h.1, ft.se.chws h.2.1, ⟨fun p hp => ?_, fun i hi => ?_⟩, h.2.2.2.1.mono ft.se h.2.1 (fun o _ ho => ?_), h.2.2.2.2.mono ft.se (ft 9 (by omega)) (fun o _ ho => ?_)⟩
  · have e := ft.se.ePpl
    unfold tireR at hp
    rw [e] at hp
    exact tirN_rng (fun q _ hq => h.2.2.1.1 q hq) _ p (by omega) hp
  · have := ft i (by omega)
    unfold tireR
    rw [this]
    exact h.2.2.1.2 i hi
  · unfold tireR at ho
    rw [ft.eLst] at ho
    exact ho
  · unfold tireR at ho
    rw [ft.eLst] at ho
    exact ho
theorem i32_lt_s {x y : Int32} (h : x < y) : x + 1 ≤ y := by
  rw [Int32.lt_iff_toInt_lt] at h
  rw [Int32.le_iff_toInt_le, Int32.toInt_add]
  have h1 := x.toInt_lt
  have h2 := y.toInt_lt
  have h3 := x.le_toInt
  have : (1 : Int32).toInt = 1 := by decide
  rw [this, Int.bmod_def]
  omega
theorem minR_KW {r : Row} (h : KW r) : KW (minR r).1 := by
  have ht := tireR_KW h
  have eh : hrs (tireR r) = hrs r := (tirN_FA (r := r) (ppl r) h.1.1).se.eHrs
  unfold minR
  dsimp only
  generalize tireR r = t at ht eh
  rw [← eh]
  obtain ⟨n, w, tt, nc, lt⟩ := ht
  have sU : SE t (upd t 9 (t 9 + 1)) := SE.rf.put (by unfold stat; omega)
  have lU : ∀ o, lst (upd t 9 (t 9 + 1)) o = lst t o := fun o => by unfold lst; rw [upd_ne (by omega)]
  have nU := sU.num n
  have wU := sU.chws w
  have hU : hrs (upd t 9 (t 9 + 1)) = hrs t := sU.eHrs
  obtain ⟨e, hl⟩ := endN_all nU wU (hrs t) (by rw [hU]; exact Nat.le_refl _)
  have ncU : NCl (upd t 9 (t 9 + 1)) := nc.mono sU w (fun o _ ho => by rw [lU] at ho; exact ho)
  have tU : TiW (upd t 9 (t 9 + 1)) := by
    refine ⟨fun p hp => ?_, fun i hi => ?_⟩
    · rw [sU.ePpl] at hp
      rw [upd_ne (by omega)]
      exact tt.1 p hp
    · rw [upd_ne (by omega)]
      exact tt.2 i hi
  have kE : KW (endN (upd t 9 (t 9 + 1)) (hrs t)).1 := by
    refine ⟨e.se.num nU, e.se.chws wU, tU.mono e nU.1, ncU.mono e.se wU (fun o _ ho => (hl o ho).1), fun o ho lo => ?_⟩
    rw [e.se.eHrs, hU] at ho
    obtain ⟨a, b⟩ := hl o lo
    have b := b ho
    rw [lU] at a
    have := lt o ho a
    rw [e 9 (by omega), e.se.eEnd]
    rw [sU.eEnd, upd_self] at b
    rw [sU.eEnd, upd_self]
    have k := i32_lt_s this
    rw [Int32.le_iff_lt_or_eq] at k
    rcases k with k | k
    · exact k
    · exact absurd k.symm b
  obtain ⟨e2, hl2⟩ := trdN_all kE.1 kE.2.1 (hrs t) (by rw [e.se.eHrs, hU]; exact Nat.le_refl _)
  exact kE.mono e2 (fun o _ ho => hl2 o ho)
