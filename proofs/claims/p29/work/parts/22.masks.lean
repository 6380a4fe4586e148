/-! sets of people as bits -/
def bt (M : Int32) (p : Nat) : Bool := M.toBitVec.getLsbD p
theorem bt_or (a b : Int32) (p : Nat) : bt (a ||| b) p = (bt a p || bt b p) := by
  unfold bt
  rw [Int32.toBitVec_or, BitVec.getLsbD_or]
theorem bt_and (a b : Int32) (p : Nat) : bt (a &&& b) p = (bt a p && bt b p) := by
  unfold bt
  rw [Int32.toBitVec_and, BitVec.getLsbD_and]
theorem bt_not (a : Int32) {p : Nat} (h : p < 32) : bt (a ^^^ (-1)) p = !bt a p := by
  unfold bt
  rw [Int32.toBitVec_xor, BitVec.getLsbD_xor, show (-1 : Int32).toBitVec = BitVec.allOnes 32 by decide, BitVec.getLsbD_allOnes]
  simp [h]
theorem bt_0 (p : Nat) : bt 0 p = false := by
  unfold bt
  rw [show (0 : Int32).toBitVec = 0#32 from rfl]
  simp
/-- M is the set S of people -/
def MK (M : Int32) (S : Nat → Bool) : Prop := ∀ p, p < 32 → bt M p = (decide (p < 10) && S p)
theorem MK.or {M N : Int32} {S T : Nat → Bool} (h : MK M S) (g : MK N T) : MK (M ||| N) (fun p => S p || T p) := fun p hp => by
  rw [bt_or, h p hp, g p hp, Bool.and_or_distrib_left]
theorem MK.and {M N : Int32} {S T : Nat → Bool} (h : MK M S) (g : MK N T) : MK (M &&& N) (fun p => S p && T p) := fun p hp => by
  rw [bt_and, h p hp, g p hp]
  cases decide (p < 10) <;> simp
theorem MK.diff {M N : Int32} {S T : Nat → Bool} (h : MK M S) (g : MK N T) : MK (M &&& (N ^^^ (-1))) (fun p => S p && !T p) := fun p hp => by
  rw [bt_and, bt_not _ hp, h p hp, g p hp]
  cases decide (p < 10) <;> simp
theorem MK.none : MK 0 (fun _ => false) := fun p _ => by rw [bt_0]; simp
theorem MK.cong {M : Int32} {S T : Nat → Bool} (h : MK M S) (e : ∀ p, p < 10 → S p = T p) : MK M T := fun p hp => by
  rw [h p hp]
  by_cases q : p < 10
  · rw [e p q]
  · simp [q]
theorem i32_bits {M N : Int32} (h : ∀ p, p < 32 → bt M p = bt N p) : M = N := by
  apply Int32.toBitVec_inj.mp
  exact BitVec.eq_of_getLsbD_eq (fun i hi => h i hi)
theorem MK.zero {M : Int32} {S : Nat → Bool} (h : MK M S) : (M = 0) = (∀ p, p < 10 → S p = false) := by
  apply propext
  constructor
  · intro e p hp
    have := h p (by omega)
    rw [e, bt_0, decide_eq_true hp, Bool.true_and] at this
    exact this.symm
  · intro e
    refine i32_bits fun p hp => ?_
    rw [h p hp, bt_0]
    by_cases q : p < 10
    · rw [e p q]; simp
    · simp [q]
theorem MK.uniq {M N : Int32} {S : Nat → Bool} (h : MK M S) (g : MK N S) : M = N := i32_bits fun p hp => by rw [h p hp, g p hp]
theorem MK.num {M : Int32} {S : Nat → Bool} (h : MK M S) : ∃ n, n < 1024 ∧ M = nI n ∧ ∀ p, p < 10 → n.testBit p = S p := by
  refine ⟨M.toBitVec.toNat, ?_, ?_, fun p hp => ?_⟩
  · refine Nat.lt_pow_two_of_testBit (n := 10) _ fun i hi => ?_
    by_cases q : i < 32
    · have := h i q
      unfold bt at this
      rw [BitVec.getLsbD] at this
      rw [this]
      simp [show ¬ i < 10 by omega]
    · rw [BitVec.testBit_toNat]
      exact BitVec.getLsbD_of_ge _ _ (by omega)
  · apply Int32.toBitVec_inj.mp
    show M.toBitVec = BitVec.ofNat 32 M.toBitVec.toNat
    rw [BitVec.ofNat_toNat, BitVec.setWidth_eq]
  · have := h p (by omega)
    unfold bt at this
    rw [BitVec.getLsbD, decide_eq_true hp, Bool.true_and] at this
    exact this
/-- the bit of a person -/
def boI (x : Int32) : Int32 := if 0 ≤ x then 1 <<< (x &&& 31) else 0
theorem boI_dec : ∀ p, p < 10 → ∀ q, q < 32 → bt (boI (nI p)) q = decide (q = p) := by decide +kernel
theorem boI_MK {p : Nat} (hp : p < 10) : MK (boI (nI p)) (fun q => decide (q = p)) := fun q hq => by
  rw [boI_dec p hp q hq]
  by_cases e : q = p
  · subst e; simp [hp]
  · simp [e]
theorem boI_none : boI (-1) = 0 := by decide
theorem MK.has {M : Int32} {S : Nat → Bool} {p : Nat} (h : MK M S) (hp : p < 10) : (M &&& boI (nI p) = 0) = (S p = false) := by
  rw [(h.and (boI_MK hp)).zero]
  apply propext
  constructor
  · intro e
    have := e p hp
    simpa using this
  · intro e q hq
    by_cases z : q = p
    · subst z; simp [e]
    · simp [z]
theorem mskN_eq (r : Row) (h : Nat) : mskN r h = boI (r (79 + 10 * h)) ||| boI (r (80 + 10 * h)) ||| boI (r (81 + 10 * h)) := rfl
theorem inCh_szs {r : Row} {h p : Nat} (hc : ChW r h) (hp : p < 1000000) (k : Nat) (hk : k ≤ szN r h) : inChN r (nI p) h k = true ↔ ∃ j, j < k ∧ mbN r h j = p := by
  induction k with
  | zero => simp [inChN]
  | succ k ih =>
    have h1 := hc.2.2.1 k (by omega)
    have h3 := hc.1
    rw [inChN, Bool.or_eq_true, ih (by omega), decide_eq_true_eq, h1.2]
    constructor
    · rintro (⟨j, hj, e⟩ | e)
      · exact ⟨j, by omega, e⟩
      · have hm : mbN r h k < 2 ^ 31 := by
          unfold mbN
          exact Int32.toNatClampNeg_lt _
        exact ⟨k, by omega, (nI_eq hm (by omega)).mp e⟩
    · rintro ⟨j, hj, e⟩
      by_cases q : j = k
      · subst q
        exact Or.inr (by rw [e])
      · exact Or.inl ⟨j, by omega, e⟩
theorem inCh_iff {r : Row} {h p : Nat} (hc : ChW r h) (hp : p < 1000000) : inCh r (nI p) h = true ↔ ∃ j, j < szN r h ∧ mbN r h j = p := inCh_szs hc hp _ (Nat.le_refl _)
theorem msk_MK {r : Row} {h : Nat} (hn : ppl r ≤ 10) (hc : ChW r h) : MK (mskN r h) (fun p => inCh r (nI p) h) := by
  rw [mskN_eq]
  have cell : ∀ k, k < 3 → MK (boI (r (79 + 10 * h + k))) (fun p => decide (k < szN r h) && decide (mbN r h k = p)) := by
    intro k hk
    by_cases q : k < szN r h
    · obtain ⟨h1, h2⟩ := hc.2.2.1 k q
      rw [h2]
      exact (boI_MK (by omega)).cong (fun p hp => by
        rw [decide_eq_true q, Bool.true_and]
        exact decide_eq_decide.mpr ⟨fun e => e.symm, fun e => e.symm⟩)
    · rw [hc.2.2.2.1 k (by omega) hk, boI_none]
      exact MK.none.cong (fun p hp => by simp [q])
  have e := ((cell 0 (by omega)).or (cell 1 (by omega))).or (cell 2 (by omega))
  rw [show 79 + 10 * h + 0 = 79 + 10 * h by omega, show 79 + 10 * h + 1 = 80 + 10 * h by omega, show 79 + 10 * h + 2 = 81 + 10 * h by omega] at e
  refine e.cong (fun p hp => ?_)
  have h3 := hc.1
  rw [Bool.eq_iff_iff, inCh_iff hc (by omega)]
  simp only [Bool.or_eq_true, Bool.and_eq_true, decide_eq_true_eq]
  constructor
  · rintro ((⟨a, b⟩ | ⟨a, b⟩) | ⟨a, b⟩)
    · exact ⟨_, a, b⟩
    · exact ⟨_, a, b⟩
    · exact ⟨_, a, b⟩
  · rintro ⟨j, a, b⟩
    rcases (show j = 0 ∨ j = 1 ∨ j = 2 by omega) with rfl | rfl | rfl
    · exact Or.inl (Or.inl ⟨a, b⟩)
    · exact Or.inl (Or.inr ⟨a, b⟩)
    · exact Or.inr ⟨a, b⟩
