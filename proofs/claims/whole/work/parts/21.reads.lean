/-! what a row says, and that both sides read it so -/
def ppl (r : Row) : Nat := (r 7).toNatClampNeg
def hrs (r : Row) : Nat := (r 8).toNatClampNeg
def szN (r : Row) (h : Nat) : Nat := (r (73 + 10 * h + 5)).toNatClampNeg
def mbN (r : Row) (h k : Nat) : Nat := (r (79 + 10 * h + k)).toNatClampNeg
def lst (r : Row) (h : Nat) : Bool := decide (r (73 + 10 * h + 4) = 0)
def std (r : Row) (h : Nat) : Bool := decide (¬ r 9 < r (73 + 10 * h + 2))
def endR (r : Row) (h : Nat) : Int32 := r (73 + 10 * h + 2) + r (73 + 10 * h + 3)
def clsh (r : Row) (a b : Nat) : Bool := decide (¬ endR r b ≤ r (73 + 10 * a + 2)) && decide (¬ endR r a ≤ r (73 + 10 * b + 2))
def inChN (r : Row) (x : Int32) (h : Nat) : Nat → Bool
  | 0 => false
  | k + 1 => inChN r x h k || decide (r (79 + 10 * h + k) = x)
def inCh (r : Row) (x : Int32) (h : Nat) : Bool := inChN r x h (szN r h)
def busyN (r : Row) (x : Int32) (h : Nat) : Nat → Bool
  | 0 => false
  | o + 1 => busyN r x h o || (decide (o ≠ h) && (lst r o && (inCh r x o && clsh r o h)))
def busy (r : Row) (x : Int32) (h : Nat) : Bool := busyN r x h (hrs r)
def earnR (r : Row) (p h : Nat) (sev : Bool) : Int32 :=
  if sev = true then (r (33 + p) * r (73 + 10 * h + 3) + 9) / 10 * (100 + r 6) / 100 else (r (33 + p) * r (73 + 10 * h + 3) + 9) / 10
def payN (r : Row) (h : Nat) (hv : Int32) : Nat → Int32
  | 0 => 0
  | k + 1 => payN r h hv k + earnR r (mbN r h k) h (decide (1 < szN r h)) * hv / 2
def payR (r : Row) (h : Nat) (hv : Int32) : Int32 := payN r h hv (szN r h)
def halv (r : Row) (x : Int32) : Int32 := if r 4 ≤ x then (if r 5 ≤ x then 0 else 1) else 2
/-- a hearing's chain is one: of up to three, different, of the people there are; the other places NONE -/
def ChW (r : Row) (h : Nat) : Prop := szN r h ≤ 3 ∧ r (73 + 10 * h + 5) = nI (szN r h) ∧ (∀ k, k < szN r h → mbN r h k < ppl r ∧ r (79 + 10 * h + k) = nI (mbN r h k)) ∧ (∀ k, szN r h ≤ k → k < 3 → r (79 + 10 * h + k) = -1) ∧ ∀ i j, i < szN r h → j < szN r h → mbN r h i = mbN r h j → i = j
def NumW (r : Row) : Prop := ppl r ≤ 10 ∧ r 7 = nI (ppl r) ∧ hrs r ≤ 30 ∧ r 8 = nI (hrs r)
section MODEL
variable {m : Mem} {r : Row} {h k a b p : Nat} {x : Int32}
theorem s8_within {x l u : Int32} : f_X8_within x l u m = some (bI (decide (¬ x < l) && decide (¬ u < x))) := by
  unfold f_X8_within
  by_cases h1 : x < l
  · simp [h1, bI]
  · by_cases h2 : u < x <;> simp [h1, h2, bI]
theorem s8_of (hz : m.1 163 = r) (hh : h < 30) (hk : k < 10) : f_X8_of (nI h) (nI k) m = some (r (73 + 10 * h + k)) := by
  simp (disch := omega) only [f_X8_of, pz_lit, pz_mul, pz_add, pz_in, pz_cl, pz_nm, hz]
theorem s8_put (hh : h < 30) (hk : k < 10) : f_X8_put (nI h) (nI k) x m = some (si m 163 (73 + 10 * h + k) x) := by
  simp (disch := omega) only [f_X8_put, pz_lit, pz_mul, pz_add, pz_in, pz_cl, pz_nm]
theorem s8_isListed (hz : m.1 163 = r) (hh : h < 30) : f_X8_isListed (nI h) m = some (bI (lst r h)) := by
  unfold f_X8_isListed
  rw [show (4 : Int32) = nI 4 from rfl, s8_of hz hh (by omega), pz_bnd]
  unfold lst
  by_cases h1 : r (73 + 10 * h + 4) = 0 <;> simp [h1, bI]
theorem s8_hasStarted (hz : m.1 163 = r) (hh : h < 30) : f_X8_hasStarted (nI h) m = some (bI (std r h)) := by
  unfold f_X8_hasStarted
  rw [show (2 : Int32) = nI 2 from rfl, s8_of hz hh (by omega), pz_bnd, hz]
  unfold std
  by_cases h1 : r 9 < r (73 + 10 * h + 2) <;> simp [h1, bI]
theorem s8_endOf (hz : m.1 163 = r) (hh : h < 30) : f_X8_endOf (nI h) m = some (endR r h) := by
  unfold f_X8_endOf
  rw [show (2 : Int32) = nI 2 from rfl, show (3 : Int32) = nI 3 from rfl, s8_of hz hh (by omega), pz_bnd, s8_of hz hh (by omega), pz_bnd]
  rfl
theorem s8_clash (hz : m.1 163 = r) (ha : a < 30) (hb : b < 30) : f_X8_clash (nI a) (nI b) m = some (bI (clsh r a b)) := by
  unfold f_X8_clash
  rw [show (2 : Int32) = nI 2 from rfl, s8_of hz ha (by omega), pz_bnd, s8_endOf hz hb, pz_bnd, s8_of hz hb (by omega), s8_endOf hz ha]
  unfold clsh
  by_cases h1 : endR r b ≤ r (73 + 10 * a + 2)
  · simp [h1, bI]
  · by_cases h2 : endR r a ≤ r (73 + 10 * b + 2) <;> simp [h1, h2, bI, pz_bnd]
theorem s8_isIn (hz : m.1 163 = r) (hh : h < 30) (hc : ChW r h) : f_X8_isIn x (nI h) m = some (bI (inCh r x h)) := by
  unfold f_X8_isIn
  have e : lp (f_X8_isIn_L5 x (nI h) m) 1000000 (0, 0) = some (bI (inCh r x h)) := by
    refine lp_cnt (fun k => (bI (inChN r x h k), nI k)) (N := szN r h) (fun k hk => ?_) ?_ (by have := hc.1; omega)
    · have h3 := hc.1
      rw [f_X8_isIn_L5, show (5 : Int32) = nI 5 from rfl, s8_of hz hh (by omega), pz_bnd, hc.2.1, if_neg (by rw [pz_le (by omega) (by omega)]; omega), bI_ite]
      rw [show (6 : Int32) = nI 6 from rfl, pz_add, s8_of hz hh (by omega), pz_bnd, pz_s, pz_nm, show 73 + 10 * h + (6 + k) = 79 + 10 * h + k by omega]
      show _ = some (Sum.inl (bI (inChN r x h k || decide (r (79 + 10 * h + k) = x)), nI (k + 1)))
      cases inChN r x h k
      · by_cases e : r (79 + 10 * h + k) = x <;> simp [e, bI, pz_nm]
      · simp [bI]
    · have h3 := hc.1
      rw [f_X8_isIn_L5, show (5 : Int32) = nI 5 from rfl, s8_of hz hh (by omega), pz_bnd, hc.2.1, if_pos (by rw [pz_le (by omega) (by omega)]; omega)]
      rfl
  rw [e, pz_bnd, pz_bo]
theorem s8_isBusy (hz : m.1 163 = r) (hn : NumW r) (hw : ∀ o, o < hrs r → ChW r o) (hh : h < 30) : f_X8_isBusy x (nI h) m = some (bI (busy r x h)) := by
  unfold f_X8_isBusy
  obtain ⟨-, -, h30, h8⟩ := hn
  have e : lp (f_X8_isBusy_L5 x (nI h) m) 1000000 (0, 0) = some (bI (busy r x h)) := by
    refine lp_cnt (fun k => (bI (busyN r x h k), nI k)) (N := hrs r) (fun k hk => ?_) ?_ (by omega)
    · rw [f_X8_isBusy_L5, hz, h8, if_neg (by rw [pz_le (by omega) (by omega)]; omega), bI_ite]
      rw [s8_isListed hz (by omega), s8_isIn hz (by omega) (hw k hk), s8_clash hz (by omega) hh, pz_s]
      show _ = some (Sum.inl (bI (busyN r x h k || (decide (k ≠ h) && (lst r k && (inCh r x k && clsh r k h)))), nI (k + 1)))
      have hkh : (nI k = nI h) = (k = h) := pz_eq (by omega) (by omega)
      cases busyN r x h k
      · by_cases e : k = h
        · simp [e, bI, pz_nm]
        · have e' : ¬ nI k = nI h := by rw [hkh]; exact e
          rw [if_neg e']
          cases lst r k <;> cases inCh r x k <;> cases clsh r k h <;> simp [e, bI, pz_nm, pz_bnd]
      · simp [bI, pz_nm]
    · rw [f_X8_isBusy_L5, hz, h8, if_pos (by rw [pz_le (by omega) (by omega)]; omega)]
      rfl
  rw [e, pz_bnd, pz_bo]
theorem s8_earns (hz : m.1 163 = r) (hp : p < 10) (hh : h < 30) (hk : k ≤ 3) : f_X8_earns (nI p) (nI h) (nI k) m = some (earnR r p h (decide (1 < k))) := by
  unfold f_X8_earns
  rw [show (33 : Int32) = nI 33 from rfl, pz_add, pz_in (by omega) (by omega), pz_cl (by omega), pz_nm, show (3 : Int32) = nI 3 from rfl, s8_of hz hh (by omega), pz_bnd, hz]
  have hk1 : (nI k ≤ 1) = (k ≤ 1) := by rw [pz_1, pz_le (by omega) (by omega)]
  unfold earnR
  by_cases e : 1 < k
  · rw [if_neg (by rw [hk1]; omega)]
    simp [e, pz_nm]
  · rw [if_pos (by rw [hk1]; omega)]
    simp [e]
theorem s8_payFor (hz : m.1 163 = r) (hn : NumW r) (hh : h < 30) (hc : ChW r h) : f_X8_payFor (nI h) x m = some (payR r h x) := by
  unfold f_X8_payFor
  obtain ⟨h10, -, -, -⟩ := hn
  rw [show (5 : Int32) = nI 5 from rfl, s8_of hz hh (by omega), pz_bnd, hc.2.1]
  have h3 := hc.1
  have e : lp (f_X8_payFor_L13 (nI h) x m (nI (szN r h))) 1000000 (0, 0) = some (payR r h x) := by
    refine lp_cnt (fun k => (payN r h x k, nI k)) (N := szN r h) (fun k hk => ?_) ?_ (by omega)
    · obtain ⟨hp, he⟩ := hc.2.2.1 k hk
      rw [f_X8_payFor_L13, if_neg (by rw [pz_le (by omega) (by omega)]; omega), show (6 : Int32) = nI 6 from rfl, pz_add, s8_of hz hh (by omega), pz_bnd, show 73 + 10 * h + (6 + k) = 79 + 10 * h + k by omega, he, s8_earns hz (by omega) hh h3, pz_bnd, pz_s, pz_nm]
      rfl
    · rw [f_X8_payFor_L13, if_pos (by rw [pz_le (by omega) (by omega)]; omega)]
      rfl
  rw [e, pz_bnd]
theorem s8_halvesBy (hz : m.1 163 = r) : f_X8_halvesBy x m = some (halv r x) := by
  unfold f_X8_halvesBy halv
  rw [hz]
  by_cases h1 : r 4 ≤ x <;> by_cases h2 : r 5 ≤ x <;> simp [h1, h2]
end MODEL
