/-! doubles: a share, and its bits -/
theorem fx_tails : FP.Core.b64.tails = 4503599627370496 := by decide
theorem fx_exps : FP.Core.b64.exps = 2048 := by decide
theorem fx_qmin : FP.Core.b64.qmin = -1074 := by decide
theorem fx_qmax : FP.Core.b64.qmax = 971 := by decide
theorem fx_p : FP.Core.b64.p = 53 := rfl
theorem fx_pp : 2 ^ FP.Core.b64.p = 9007199254740992 := by decide
/-- a positive double of 53 digits: its bits -/
def fnN (c : Nat) (q : Int) : Nat := (q + 1075).toNat * 4503599627370496 + (c - 4503599627370496)
def fnU (c : Nat) (q : Int) : UInt64 := UInt64.ofNat (fnN c q)
def nrm (c : Nat) (q : Int) : Prop := 4503599627370496 ≤ c ∧ c < 9007199254740992 ∧ -1000 ≤ q ∧ q ≤ 900
section DBL
variable {c : Nat} {q : Int}
theorem fnN_lt (h : nrm c q) : fnN c q < 9218868437227405312 := by
  obtain ⟨h1, h2, h3, h4⟩ := h
  unfold fnN
  omega
theorem fnU_nat (h : nrm c q) : (fnU c q).toNat = fnN c q := by
  have := fnN_lt h
  unfold fnU
  rw [UInt64.toNat_ofNat', Nat.mod_eq_of_lt (by omega)]
theorem dec_fnN (h : nrm c q) : FP.Core.decode FP.Core.b64 (fnN c q) = .fin false c q := by
  obtain ⟨h1, h2, h3, h4⟩ := h
  obtain ⟨E, e1, e2, e3, e4⟩ : ∃ E : Nat, (q + 1075).toNat = E ∧ q = (E : Int) - 1075 ∧ 75 ≤ E ∧ E ≤ 1975 := ⟨(q + 1075).toNat, rfl, by omega, by omega, by omega⟩
  obtain ⟨t, rfl⟩ : ∃ t, c = 4503599627370496 + t := ⟨c - 4503599627370496, by omega⟩
  have en : fnN (4503599627370496 + t) q = E * 4503599627370496 + t := by
    unfold fnN
    rw [e1]
    omega
  rw [en]
  have eT : FP.Core.fieldT FP.Core.b64 (E * 4503599627370496 + t) = t := by
    unfold FP.Core.fieldT
    rw [fx_tails]
    omega
  have eD : (E * 4503599627370496 + t) / 4503599627370496 = E := by omega
  have eE : FP.Core.fieldE FP.Core.b64 (E * 4503599627370496 + t) = E := by
    unfold FP.Core.fieldE
    rw [fx_tails, fx_exps, eD]
    omega
  have eS : FP.Core.fieldS FP.Core.b64 (E * 4503599627370496 + t) = false := by
    unfold FP.Core.fieldS
    rw [fx_tails, fx_exps, eD, show E / 2048 = 0 by omega]
    rfl
  unfold FP.Core.decode
  rw [eE, eT, eS, fx_exps, if_neg (by omega), if_neg (by omega), fx_tails, fx_qmin, show (-1074 : Int) + ((E : Int) - 1) = q by omega]
theorem enc_fnN (h : nrm c q) : FP.Core.encode FP.Core.b64 (.fin false c q) = fnN c q := by
  obtain ⟨h1, h2, h3, h4⟩ := h
  unfold FP.Core.encode
  simp only [fx_tails, fx_qmin]
  rw [if_neg (by omega)]
  unfold FP.Core.assemble
  rw [fx_tails, fx_exps]
  show (0 * 2048 + ((q - -1074).toNat + 1)) * 4503599627370496 + (c - 4503599627370496) = fnN c q
  unfold fnN
  rw [show 0 * 2048 + ((q - -1074).toNat + 1) = (q + 1075).toNat by omega]
theorem gD_nat {β : Type} {r : UInt64} (h : r.toNat ≤ 9218868437227405312) (K : Option β) : gDn r K = K := by
  unfold gDn
  rw [if_pos]
  rw [UInt64.le_iff_toNat_le, UInt64.toNat_and]
  exact Nat.le_trans Nat.and_le_left h
theorem gD_fnU {β : Type} (h : nrm c q) (K : Option β) : gDn (fnU c q) K = K := gD_nat (by
  rw [fnU_nat h]
  exact Nat.le_of_lt (fnN_lt h)) K
theorem near1 (n : Nat) : FP.Core.nearest n 1 = n := by
  unfold FP.Core.nearest
  rw [Nat.mod_one, if_pos (by omega), Nat.div_one]
theorem near_mul (n d : Nat) (hd : 0 < d) : FP.Core.nearest (n * d) d = n := by
  unfold FP.Core.nearest
  rw [Nat.mul_mod_left, if_pos (by omega), Nat.mul_div_cancel _ hd]
theorem near_b {A B : Nat} (hB : 0 < B) (h1 : 4503599627370496 * B ≤ A) (h2 : A < 9007199254740992 * B) : 4503599627370496 ≤ FP.Core.nearest A B ∧ FP.Core.nearest A B ≤ 9007199254740992 := by
  have l := (Nat.le_div_iff_mul_le hB).mpr h1
  have u := (Nat.div_lt_iff_lt_mul hB).mpr h2
  unfold FP.Core.nearest
  split
  · omega
  · split <;> omega
theorem lead1 {A k : Nat} (h1 : 2 ^ k ≤ A) (h2 : A < 2 ^ (k + 1)) : FP.Core.leading A 1 = k := by
  have p := Nat.two_pow_pos k
  have e : A.log2 = k := (Nat.log2_eq_iff (by omega)).mpr ⟨h1, h2⟩
  unfold FP.Core.leading
  rw [e, show Nat.log2 1 = 0 by decide]
  dsimp only
  rw [if_pos]
  · omega
  · rw [show ((k : Int) - ((0 : Nat) : Int)).toNat = k by omega, show (-((k : Int) - ((0 : Nat) : Int))).toNat = 0 by omega, Nat.one_mul, Nat.pow_zero, Nat.mul_one]
    exact h1
/-- a whole number of up to 53 digits, rounded -/
theorem rr_whole {A k : Nat} {e : Int} (h1 : 2 ^ k ≤ A) (h2 : A < 2 ^ (k + 1)) (hk : k ≤ 52) (he : -900 ≤ e) (he2 : e ≤ 800) : FP.Core.roundRatio FP.Core.b64 false A 1 e = .fin false (A * 2 ^ (52 - k)) (e + k - 52) ∧ nrm (A * 2 ^ (52 - k)) (e + k - 52) := by
  have p := Nat.two_pow_pos k
  have b1 : 4503599627370496 ≤ A * 2 ^ (52 - k) := by
    calc 4503599627370496 = 2 ^ (k + (52 - k)) := by rw [show k + (52 - k) = 52 by omega]
      _ = 2 ^ k * 2 ^ (52 - k) := Nat.pow_add _ _ _
      _ ≤ A * 2 ^ (52 - k) := Nat.mul_le_mul_right _ h1
  have b2 : A * 2 ^ (52 - k) < 9007199254740992 := by
    calc A * 2 ^ (52 - k) < 2 ^ (k + 1) * 2 ^ (52 - k) := Nat.mul_lt_mul_of_pos_right h2 (Nat.two_pow_pos _)
      _ = 2 ^ (k + 1 + (52 - k)) := (Nat.pow_add _ _ _).symm
      _ = 9007199254740992 := by rw [show k + 1 + (52 - k) = 53 by omega]
  have hq : FP.Core.quantum FP.Core.b64 A 1 e = e + k - 52 := by
    unfold FP.Core.quantum
    rw [lead1 h1 h2, fx_qmin, fx_p]
    omega
  refine ⟨?_, b1, b2, by omega, by omega⟩
  unfold FP.Core.roundRatio
  rw [if_neg (by omega), hq]
  unfold FP.Core.roundAt FP.Core.unitsNum FP.Core.unitsDen
  rw [show (e - (e + (k : Int) - 52)).toNat = 52 - k by omega, show (e + (k : Int) - 52 - e).toNat = 0 by omega, Nat.pow_zero, Nat.mul_one, near1]
  unfold FP.Core.settle FP.Core.bound
  rw [if_pos (by rw [fx_pp]; exact b2), if_pos (by rw [fx_qmax]; omega)]
/-- 53 digits and 52 zeros, rounded -/
theorem rr_shift {e : Int} (h1 : 4503599627370496 ≤ c) (h2 : c < 9007199254740992) (he : -1000 ≤ e) (he2 : e ≤ 800) : FP.Core.roundRatio FP.Core.b64 false (c * 4503599627370496) 1 e = .fin false c (e + 52) := by
  have hq : FP.Core.quantum FP.Core.b64 (c * 4503599627370496) 1 e = e + 52 := by
    unfold FP.Core.quantum
    rw [lead1 (k := 104) (by
      show 20282409603651670423947251286016 ≤ c * 4503599627370496
      omega) (by
      show c * 4503599627370496 < 40564819207303340847894502572032
      omega), fx_qmin, fx_p]
    omega
  unfold FP.Core.roundRatio
  rw [if_neg (by omega), hq]
  unfold FP.Core.roundAt FP.Core.unitsNum FP.Core.unitsDen
  rw [show (e - (e + 52)).toNat = 0 by omega, show (e + 52 - e).toNat = 52 by omega, Nat.pow_zero, Nat.mul_one, Nat.one_mul, show (2 : Nat) ^ 52 = 4503599627370496 from rfl, near_mul _ _ (by omega)]
  unfold FP.Core.settle FP.Core.bound
  rw [if_pos (by rw [fx_pp]; exact h2), if_pos (by rw [fx_qmax]; omega)]
/-- a quotient of two of 53 digits, rounded -/
theorem rr_quo {a b : Nat} {e : Int} (a1 : 4503599627370496 ≤ a) (a2 : a < 9007199254740992) (b1 : 4503599627370496 ≤ b) (b2 : b < 9007199254740992) (he : -800 ≤ e) (he2 : e ≤ 800) : ∃ c q, FP.Core.roundRatio FP.Core.b64 false a b e = .fin false c q ∧ nrm c q ∧ e - 53 ≤ q ∧ q ≤ (if a < b then e - 52 else if a = b then e - 52 else e - 51) := by
  have la : a.log2 = 52 := (Nat.log2_eq_iff (by omega)).mpr ⟨a1, a2⟩
  have lb : b.log2 = 52 := (Nat.log2_eq_iff (by omega)).mpr ⟨b1, b2⟩
  have ld : FP.Core.leading a b = if b ≤ a then 0 else -1 := by
    unfold FP.Core.leading
    rw [la, lb]
    show (if b * 1 ≤ a * 1 then (0 : Int) else -1) = _
    rw [Nat.mul_one, Nat.mul_one]
  unfold FP.Core.roundRatio
  rw [if_neg (by omega)]
  by_cases z : b ≤ a
  · rw [if_pos z] at ld
    have hq : FP.Core.quantum FP.Core.b64 a b e = e - 52 := by
      unfold FP.Core.quantum
      rw [ld, fx_qmin, fx_p]
      omega
    rw [hq, if_neg (by omega)]
    unfold FP.Core.roundAt FP.Core.unitsNum FP.Core.unitsDen
    rw [show (e - (e - 52)).toNat = 52 by omega, show (e - 52 - e).toNat = 0 by omega, Nat.pow_zero, Nat.mul_one, show (2 : Nat) ^ 52 = 4503599627370496 from rfl]
    by_cases y : a = b
    · subst y
      rw [if_pos rfl, Nat.mul_comm, near_mul _ _ (by omega)]
      unfold FP.Core.settle FP.Core.bound
      rw [if_pos (by rw [fx_pp]; omega), if_pos (by rw [fx_qmax]; omega)]
      exact ⟨_, _, rfl, ⟨by omega, by omega, by omega, by omega⟩, by omega, by omega⟩
    · rw [if_neg y]
      obtain ⟨n1, n2⟩ := near_b (A := a * 4503599627370496) (B := b) (by omega) (by omega) (by omega)
      generalize FP.Core.nearest (a * 4503599627370496) b = n at n1 n2
      unfold FP.Core.settle FP.Core.bound
      by_cases x : n < 2 ^ FP.Core.b64.p
      · rw [if_pos x, if_pos (by rw [fx_qmax]; omega)]
        rw [fx_pp] at x
        exact ⟨_, _, rfl, ⟨by omega, by omega, by omega, by omega⟩, by omega, by omega⟩
      · rw [if_neg x, if_pos (by rw [fx_qmax]; omega), fx_tails]
        exact ⟨_, _, rfl, ⟨by omega, by omega, by omega, by omega⟩, by omega, by omega⟩
  · rw [if_neg z] at ld
    have hq : FP.Core.quantum FP.Core.b64 a b e = e - 53 := by
      unfold FP.Core.quantum
      rw [ld, fx_qmin, fx_p]
      omega
    rw [hq, if_pos (by omega)]
    unfold FP.Core.roundAt FP.Core.unitsNum FP.Core.unitsDen
    rw [show (e - (e - 53)).toNat = 53 by omega, show (e - 53 - e).toNat = 0 by omega, Nat.pow_zero, Nat.mul_one, show (2 : Nat) ^ 53 = 9007199254740992 from rfl]
    obtain ⟨n1, n2⟩ := near_b (A := a * 9007199254740992) (B := b) (by omega) (by omega) (by omega)
    generalize FP.Core.nearest (a * 9007199254740992) b = n at n1 n2
    unfold FP.Core.settle FP.Core.bound
    by_cases x : n < 2 ^ FP.Core.b64.p
    · rw [if_pos x, if_pos (by rw [fx_qmax]; omega)]
      rw [fx_pp] at x
      exact ⟨_, _, rfl, ⟨by omega, by omega, by omega, by omega⟩, by omega, by omega⟩
    · rw [if_neg x, if_pos (by rw [fx_qmax]; omega), fx_tails]
      exact ⟨_, _, rfl, ⟨by omega, by omega, by omega, by omega⟩, by omega, by omega⟩
end DBL
