/-! what every row that is kept holds to -/
def PEO (r : Row) : Prop := ∀ p, p < ppl r → (∃ L, L < 1024 ∧ r (13 + p) = nI L) ∧ (∃ q, q < 8 ∧ r (23 + p) = nI q) ∧ ∃ q, q ≤ 100 ∧ r (33 + p) = nI q
def TIM (r : Row) : Prop := ∀ h, h < hrs r → (∃ s, s ≤ 22000 ∧ r (73 + 10 * h + 2) = nI s) ∧ ∃ l, l ≤ 240 ∧ r (73 + 10 * h + 3) = nI l
def clo (r : Row) : Nat → Nat
  | 0 => 0
  | n + 1 => clo r n + if lst r n = true then 0 else 1
def MON (r : Row) : Prop := ∃ P V Q, r 10 = nI P ∧ r 11 = nI V ∧ r 12 = nI Q ∧ V + Q ≤ P ∧ P ≤ 400000 * clo r (hrs r)
def HWs (r : Row) : Prop := ∀ h, h < hrs r → HW r h
def RW (r : Row) : Prop := KW r ∧ HWs r ∧ PEO r ∧ TIM r ∧ MON r
theorem clo_le (r : Row) : ∀ n, clo r n ≤ n
  | 0 => Nat.le_refl _
  | n + 1 => by
    have := clo_le r n
    rw [clo]
    split <;> omega
theorem clo_cong {r r' : Row} : ∀ {n : Nat}, (∀ o, o < n → lst r' o = lst r o) → clo r' n = clo r n
  | 0, _ => rfl
  | n + 1, h => by rw [clo, clo, clo_cong (fun o ho => h o (by omega)), h n (by omega)]
theorem clo_one {r r' : Row} {h : Nat} (hl : lst r h = true) (e : ∀ o, lst r' o = (lst r o && decide (o ≠ h))) : ∀ {n : Nat}, h < n → clo r' n = clo r n + 1
  | 0, q => by omega
  | n + 1, q => by
    rw [clo, clo, e n]
    by_cases z : n = h
    · subst z
      rw [clo_cong (r := r) (r' := r') (fun o ho => by rw [e o]; simp; intro _; omega), if_neg (by simp), if_pos hl]
    · rw [clo_one hl e (by omega)]
      simp [z]
      omega
theorem SE.hws {r r' : Row} (e : SE r r') (h : HWs r) : HWs r' := fun o ho => e.hw (h o (by rw [← e.eHrs]; exact ho))
theorem SE.peo {r r' : Row} (e : SE r r') (hn : ppl r ≤ 10) (h : PEO r) : PEO r' := fun p hp => by
  rw [e.ePpl] at hp
  rw [e (13 + p) (by unfold stat; omega), e (23 + p) (by unfold stat; omega), e (33 + p) (by unfold stat; omega)]
  exact h p hp
theorem SE.tim {r r' : Row} (e : SE r r') (h : TIM r) : TIM r' := fun o ho => by
  rw [e.eHrs] at ho
  rw [e.fld (Or.inl (by omega)), e.fld (Or.inl (by omega))]
  exact h o ho
theorem earn_b {r : Row} {p h : Nat} {s : Bool} (hP : PEO r) (hT : TIM r) (hS : TiW r) (hp : p < ppl r) (hh : h < hrs r) : ∃ e, e ≤ 122500 ∧ earnR r p h s = nI e := by
  obtain ⟨-, -, q, q1, q2⟩ := hP p hp
  obtain ⟨-, l, l1, l2⟩ := hT h hh
  obtain ⟨v, v1, v2⟩ := hS.2 6 (by omega)
  have b1 : q * l ≤ 24000 := Nat.le_trans (Nat.mul_le_mul q1 l1) (by omega)
  have b2 : (q * l + 9) / 10 * (100 + v) ≤ 2400 * 5100 := Nat.mul_le_mul (by omega) (by omega)
  unfold earnR
  rw [q2, l2, v2, show (9 : Int32) = nI 9 from rfl, show (10 : Int32) = nI 10 from rfl, show (100 : Int32) = nI 100 from rfl, pz_mul, pz_add, pk_div (by omega) (by omega) (by omega), pz_add, pz_mul, pk_div (by omega) (by omega) (by omega)]
  cases s
  · exact ⟨_, by omega, rfl⟩
  · exact ⟨_, by omega, rfl⟩
theorem payN_b {r : Row} {h v : Nat} (hP : PEO r) (hT : TIM r) (hS : TiW r) (hh : h < hrs r) (hc : ChW r h) (hv : v ≤ 2) : ∀ k, k ≤ szN r h → ∃ e, e ≤ 122500 * k ∧ payN r h (nI v) k = nI e
  | 0, _ => ⟨0, by omega, rfl⟩
  | k + 1, hk => by
    obtain ⟨e, e1, e2⟩ := payN_b hP hT hS hh hc hv k (by omega)
    obtain ⟨a, a1, a2⟩ := earn_b (s := decide (1 < szN r h)) hP hT hS (hc.2.2.1 k (by omega)).1 hh
    have b : a * v ≤ 122500 * 2 := Nat.mul_le_mul a1 hv
    rw [payN, e2, a2, pz_mul, show (2 : Int32) = nI 2 from rfl, pk_div (by omega) (by omega) (by omega), pz_add]
    exact ⟨_, by omega, rfl⟩
theorem pay_b {r : Row} {h v : Nat} (hP : PEO r) (hT : TIM r) (hS : TiW r) (hh : h < hrs r) (hc : ChW r h) (hv : v ≤ 2) : ∃ e, e ≤ 400000 ∧ payR r h (nI v) = nI e := by
  obtain ⟨e, e1, e2⟩ := payN_b hP hT hS hh hc hv _ (Nat.le_refl _)
  have := hc.1
  exact ⟨e, by omega, e2⟩
theorem close_MON {r : Row} {h st v : Nat} (hm : MON r) (hP : PEO r) (hT : TIM r) (hS : TiW r) (hn : NumW r) (hh : h < hrs r) (hc : ChW r h) (hv : v ≤ 2) (hl : lst r h = true) (h0 : 0 < st) (h3 : st ≤ 3) : MON (closeR r h st (nI v)) := by
  obtain ⟨P, V, Q, hP1, hV, hQ, h1, h2⟩ := hm
  obtain ⟨e, e1, e2⟩ := pay_b hP hT hS hh hc hv
  have se := closeR_SE (st := st) (hv := nI v) hc hn.1
  have cl : clo (closeR r h st (nI v)) (hrs r) = clo r (hrs r) + 1 := clo_one hl (fun o => closeR_lst hc hn.1 h0 h3) hh
  unfold MON
  rw [se.eHrs, cl]
  have k10 : closeR r h st (nI v) 10 = nI (P + e) := by
    have : closeR r h st (nI v) 10 = r 10 + payR r h (nI v) := by
      unfold closeR
      by_cases s3 : st = 3
      · simp only [if_pos s3]
        rw [upd_ne (by omega), upd_self]
      · by_cases s2 : st = 2
        · simp only [if_neg s3, if_pos s2]
          rw [upd_ne (by omega), upd_self]
        · simp only [if_neg s3, if_neg s2]
          rw [upd_self]
    rw [this, hP1, e2, pz_add]
  have base : ∀ i, i = 11 ∨ i = 12 → (upd (upd (upd (payPR r h (nI v) (szN r h)) (73 + 10 * h + 4) (nI st)) (82 + 10 * h) (r (82 + 10 * h) + payR r h (nI v))) 10 (r 10 + payR r h (nI v))) i = r i := fun i hi => by
    rw [upd_ne (by omega), upd_ne (by omega), upd_ne (by omega), payPR_ne hc hn.1 _ _ (Nat.le_refl _) (by omega)]
  have k11 : closeR r h st (nI v) 11 = nI (if st = 3 then V + e else V) := by
    unfold closeR
    by_cases s3 : st = 3
    · simp only [if_pos s3]
      rw [upd_self, hV, e2, pz_add]
    · by_cases s2 : st = 2
      · simp only [if_neg s3, if_pos s2]
        rw [upd_ne (by omega), base 11 (by omega), hV]
      · simp only [if_neg s3, if_neg s2]
        rw [base 11 (by omega), hV]
  have k12 : closeR r h st (nI v) 12 = nI (if st = 2 then Q + e else Q) := by
    unfold closeR
    by_cases s3 : st = 3
    · simp only [if_pos s3]
      rw [upd_ne (by omega), base 12 (by omega), hQ, if_neg (by omega)]
    · by_cases s2 : st = 2
      · simp only [if_neg s3, if_pos s2]
        rw [upd_self, hQ, e2, pz_add]
      · simp only [if_neg s3, if_neg s2]
        rw [base 12 (by omega), hQ]
  refine ⟨_, _, _, k10, k11, k12, ?_, by omega⟩
  by_cases s3 : st = 3
  · rw [if_pos s3, if_neg (by omega)]; omega
  · by_cases s2 : st = 2
    · rw [if_neg s3, if_pos s2]; omega
    · rw [if_neg s3, if_neg s2]; omega
/-- a close keeps all but 'listed' -/
theorem close_KW {r : Row} {h st : Nat} {hv : Int32} (K : KW r) (hh : h < hrs r) (h0 : 0 < st) (h3 : st ≤ 3) : KW (closeR r h st hv) :=
  K.mono (closeR_CE (K.2.1 h hh) K.1.1) (fun o _ ho => by
    rw [closeR_lst (K.2.1 h hh) K.1.1 h0 h3, Bool.and_eq_true] at ho
    exact ho.1)
theorem close_RW {r : Row} {h st v : Nat} (R : RW r) (hh : h < hrs r) (hl : lst r h = true) (hv : v ≤ 2) (h0 : 0 < st) (h3 : st ≤ 3) : RW (closeR r h st (nI v)) := by
  obtain ⟨K, w, p, t, mo⟩ := R
  have se := closeR_SE (st := st) (hv := nI v) (K.2.1 h hh) K.1.1
  exact ⟨close_KW K hh h0 h3, se.hws w, se.peo K.1.1 p, se.tim t, close_MON mo p t K.2.2.1 K.1 hh (K.2.1 h hh) hv hl h0 h3⟩
/-- RW without what LT says of the minute: what the steps of a minute keep -/
def RW0 (r : Row) : Prop := NumW r ∧ ChWs r ∧ TiW r ∧ PEO r ∧ TIM r ∧ MON r
theorem close_RW0 {r : Row} {h st v : Nat} (R : RW0 r) (hh : h < hrs r) (hl : lst r h = true) (hv : v ≤ 2) (h0 : 0 < st) (h3 : st ≤ 3) : RW0 (closeR r h st (nI v)) := by
  obtain ⟨n, w, ti, p, t, mo⟩ := R
  have se := closeR_SE (st := st) (hv := nI v) (w h hh) n.1
  exact ⟨se.num n, se.chws w, ti.mono (closeR_CE (w h hh) n.1) n.1, se.peo n.1 p, se.tim t, close_MON mo p t ti n hh (w h hh) hv hl h0 h3⟩
theorem endS_RW0 {s : Row × Int32} {h : Nat} (R : RW0 s.1) (hh : h < hrs s.1) : RW0 (endS h s).1 := by
  unfold endS
  by_cases q : (lst s.1 h && decide (endR s.1 h = s.1 9)) = true
  · rw [if_pos q]
    rw [Bool.and_eq_true] at q
    by_cases z : szN s.1 h = 0
    · rw [if_pos z]
      exact close_RW0 (v := 1) R hh q.1 (by omega) (by omega) (by omega)
    · rw [if_neg z]
      exact close_RW0 (v := 2) R hh q.1 (by omega) (by omega) (by omega)
  · rw [if_neg q]
    exact R
theorem endN_RW0 {r : Row} (R : RW0 r) : ∀ k, k ≤ hrs r → RW0 (endN r k).1
  | 0, _ => R
  | k + 1, hk => endS_RW0 (endN_RW0 R k (by omega)) (by rw [(endN_all R.1 R.2.1 k (by omega)).1.se.eHrs]; omega)
theorem trdS_RW0 {r : Row} {h : Nat} (R : RW0 r) (hh : h < hrs r) : RW0 (trdS h r) := by
  unfold trdS
  by_cases q : (lst r h && (decide (r (73 + 10 * h + 2) = r 9) && tooT r h)) = true
  · rw [if_pos q]
    rw [Bool.and_eq_true] at q
    exact close_RW0 (v := 1) R hh q.1 (by omega) (by omega) (by omega)
  · rw [if_neg q]
    exact R
theorem trdN_RW0 {r : Row} (R : RW0 r) : ∀ k, k ≤ hrs r → RW0 (trdN r k)
  | 0, _ => R
  | k + 1, hk => trdS_RW0 (trdN_RW0 R k (by omega)) (by rw [(trdN_all R.1 R.2.1 k (by omega)).1.se.eHrs]; omega)
theorem minR_SE9 {r : Row} (K : KW r) : SE r (minR r).1 ∧ (minR r).1 9 = r 9 + 1 := by
  have ft := tirN_FA (r := r) (ppl r) K.1.1
  have kt := tireR_KW K
  have eh : hrs (tireR r) = hrs r := ft.se.eHrs
  have e9 : tireR r 9 = r 9 := ft 9 (by omega)
  have s1 : SE r (upd (tireR r) 9 (tireR r 9 + 1)) := ft.se.put (by unfold stat; omega)
  unfold minR
  dsimp only
  have nU := s1.num K.1
  have wU := s1.chws K.2.1
  obtain ⟨e, -⟩ := endN_all nU wU (hrs r) (by rw [s1.eHrs]; exact Nat.le_refl _)
  obtain ⟨e2, -⟩ := trdN_all (e.se.num nU) (e.se.chws wU) (hrs r) (by rw [e.se.eHrs, s1.eHrs]; exact Nat.le_refl _)
  refine ⟨s1.tr (e.se.tr e2.se), ?_⟩
  rw [e2 9 (by omega), e 9 (by omega), upd_self, e9]
theorem minR_RW {r : Row} (R : RW r) : RW (minR r).1 := by
  obtain ⟨K, w, p, t, mo⟩ := R
  have ft := tirN_FA (r := r) (ppl r) K.1.1
  have kt := tireR_KW K
  have eh : hrs (tireR r) = hrs r := ft.se.eHrs
  have s1 : SE r (upd (tireR r) 9 (tireR r 9 + 1)) := ft.se.put (by unfold stat; omega)
  have lU : ∀ o, lst (upd (tireR r) 9 (tireR r 9 + 1)) o = lst r o := fun o => by
    have := ft.eLst (h := o)
    unfold lst at this ⊢
    rw [upd_ne (by omega)]
    exact this
  have rU : RW0 (upd (tireR r) 9 (tireR r 9 + 1)) := by
    refine ⟨s1.num K.1, s1.chws K.2.1, ⟨fun q hq => ?_, fun i hi => ?_⟩, s1.peo K.1.1 p, s1.tim t, ?_⟩
    · rw [s1.ePpl] at hq
      have hq2 : q < ppl (tireR r) := by rw [show ppl (tireR r) = ppl r from ft.se.ePpl]; exact hq
      rw [upd_ne (by omega)]
      exact kt.2.2.1.1 q hq2
    · rw [upd_ne (by omega)]
      exact kt.2.2.1.2 i hi
    · obtain ⟨P, V, Q, a, b, d, e, f⟩ := mo
      refine ⟨P, V, Q, ?_, ?_, ?_, e, ?_⟩
      · rw [upd_ne (by omega)]; exact (ft 10 (by omega)).trans a
      · rw [upd_ne (by omega)]; exact (ft 11 (by omega)).trans b
      · rw [upd_ne (by omega)]; exact (ft 12 (by omega)).trans d
      · rw [s1.eHrs, clo_cong (fun o _ => lU o)]
        exact f
  have se := (minR_SE9 K).1
  have r2 : RW0 (minR r).1 := by
    unfold minR
    dsimp only
    have h1 := endN_RW0 rU (hrs r) (by rw [s1.eHrs]; exact Nat.le_refl _)
    have h2 := (endN_all rU.1 rU.2.1 (hrs r) (by rw [s1.eHrs]; exact Nat.le_refl _)).1
    exact trdN_RW0 h1 (hrs r) (by rw [h2.se.eHrs, s1.eHrs]; exact Nat.le_refl _)
  exact ⟨minR_KW K, se.hws w, r2.2.2.2.1, r2.2.2.2.2.1, r2.2.2.2.2.2⟩
