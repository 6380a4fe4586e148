/-! the share, and its bits by doubling -/
section DBL2
variable {m : Mem}
theorem log_of {a : Nat} (ha : 0 < a) (h : a < 16777216) : ∃ k, 2 ^ k ≤ a ∧ a < 2 ^ (k + 1) ∧ k ≤ 23 := by
  refine ⟨a.log2, Nat.log2_self_le (by omega), Nat.lt_log2_self, ?_⟩
  have l : 2 ^ a.log2 ≤ a := Nat.log2_self_le (by omega)
  have : a.log2 < 24 := (Nat.pow_lt_pow_iff_right (by decide : 1 < 2)).mp (Nat.lt_of_le_of_lt l (show a < 2 ^ 24 by omega))
  omega
theorem i2d_dec {a k : Nat} (h1 : 2 ^ k ≤ a) (h2 : a < 2 ^ (k + 1)) (hk : k ≤ 23) : FP.Core.decode FP.Core.b64 (FP.i2d (nI a)).toNat = .fin false (a * 2 ^ (52 - k)) ((k : Int) - 52) ∧ nrm (a * 2 ^ (52 - k)) ((k : Int) - 52) := by
  have p := Nat.two_pow_pos k
  have a24 : a < 2 ^ 24 := Nat.lt_of_lt_of_le h2 (Nat.pow_le_pow_right (by omega) (by omega))
  obtain ⟨e, n⟩ := rr_whole (A := a) (k := k) (e := 0) h1 h2 (by omega) (by omega) (by omega)
  rw [Int.zero_add] at e n
  refine ⟨?_, n⟩
  have ei : FP.i2d (nI a) = fnU (a * 2 ^ (52 - k)) ((k : Int) - 52) := by
    show UInt64.ofNat (FP.Core.encode FP.Core.b64 (FP.Core.round FP.Core.b64 (FP.Core.ofInt (nI a).toInt))) = _
    rw [nI_toInt (by omega)]
    unfold FP.Core.ofInt
    rw [decide_eq_false (show ¬ ((a : Int) < 0) by omega), show (a : Int).natAbs = a from Int.natAbs_natCast a]
    show UInt64.ofNat (FP.Core.encode FP.Core.b64 (FP.Core.roundRatio FP.Core.b64 false a 1 0)) = _
    rw [e, enc_fnN n]
    rfl
  rw [ei, fnU_nat n, dec_fnN n]
theorem share_val {a b : Nat} (ha : 0 < a) (hab : a ≤ b) (hb : b < 16777216) : ∃ c q, FP.ddiv (FP.i2d (nI a)) (FP.i2d (nI b)) = fnU c q ∧ nrm c q ∧ -100 ≤ q ∧ q ≤ -52 := by
  obtain ⟨ka, a1, a2, a3⟩ := log_of ha (by omega)
  obtain ⟨kb, b1, b2, b3⟩ := log_of (a := b) (by omega) hb
  have kab : ka ≤ kb := by
    have : 2 ^ ka < 2 ^ (kb + 1) := by omega
    have := (Nat.pow_lt_pow_iff_right (by decide : 1 < 2)).mp this
    omega
  obtain ⟨da, na⟩ := i2d_dec a1 a2 a3
  obtain ⟨db, nb⟩ := i2d_dec b1 b2 b3
  obtain ⟨c, q, e, n, q1, q2⟩ := rr_quo (e := ((ka : Int) - 52) - ((kb : Int) - 52)) na.1 na.2.1 nb.1 nb.2.1 (by omega) (by omega)
  refine ⟨c, q, ?_, n, by omega, ?_⟩
  · show UInt64.ofNat (FP.Core.encode FP.Core.b64 (FP.Core.quotient FP.Core.b64 (FP.Core.decode FP.Core.b64 (FP.i2d (nI a)).toNat) (FP.Core.decode FP.Core.b64 (FP.i2d (nI b)).toNat))) = _
    rw [da, db]
    unfold FP.Core.quotient
    dsimp only
    rw [if_neg (by have := nb.1; omega)]
    show UInt64.ofNat (FP.Core.encode FP.Core.b64 (FP.Core.roundRatio FP.Core.b64 false _ _ _)) = _
    rw [e, enc_fnN n]
    rfl
  · by_cases k : ka = kb
    · subst k
      have le := Nat.mul_le_mul_right (2 ^ (52 - ka)) hab
      by_cases z : a * 2 ^ (52 - ka) < b * 2 ^ (52 - ka)
      · rw [if_pos z] at q2
        omega
      · rw [if_neg z, if_pos (by omega)] at q2
        omega
    · split at q2
      · omega
      · split at q2 <;> omega
theorem dec_0 : FP.Core.decode FP.Core.b64 0 = .fin false 0 (-1074) := by decide +kernel
theorem share_0 {b : Nat} (hb : 0 < b) (h : b < 16777216) : FP.ddiv (FP.i2d (nI 0)) (FP.i2d (nI b)) = 0 := by
  obtain ⟨kb, b1, b2, b3⟩ := log_of hb h
  obtain ⟨db, nb⟩ := i2d_dec b1 b2 b3
  show UInt64.ofNat (FP.Core.encode FP.Core.b64 (FP.Core.quotient FP.Core.b64 (FP.Core.decode FP.Core.b64 (FP.i2d (nI 0)).toNat) (FP.Core.decode FP.Core.b64 (FP.i2d (nI b)).toNat))) = _
  have z : FP.Core.decode FP.Core.b64 (FP.i2d (nI 0)).toNat = .fin false 0 (-1074) := by decide +kernel
  rw [z, db]
  unfold FP.Core.quotient
  dsimp only
  rw [if_neg (by have := nb.1; omega)]
  unfold FP.Core.roundRatio
  rw [if_pos rfl, fx_qmin]
  decide +kernel
theorem cmp_lt {x y : Int} (h : x < y) : compare x y = .lt := by
  simp only [compare, compareOfLessAndEq]
  rw [if_pos h]
theorem cmp_eq {x : Int} : compare x x = .eq := by
  simp only [compare, compareOfLessAndEq]
  rw [if_neg (by omega), if_pos trivial]
theorem cmp_gt {x y : Int} (h : y < x) : compare x y = .gt := by
  simp only [compare, compareOfLessAndEq]
  rw [if_neg (by omega), if_neg (by omega)]
section VALS
variable {c : Nat} {q : Int}
theorem dcmp_0 (n : nrm c q) : FP.dcmp (fnU c q) 0 = some .gt := by
  show FP.Core.order (FP.Core.decode FP.Core.b64 (fnU c q).toNat) (FP.Core.decode FP.Core.b64 0) = _
  rw [fnU_nat n, dec_fnN n, dec_0]
  obtain ⟨h1, h2, h3, h4⟩ := n
  show some (compare (((c * 2 ^ (q - min q (-1074)).toNat : Nat)) : Int) ((0 * 2 ^ (-1074 - min q (-1074)).toNat : Nat) : Int)) = _
  rw [cmp_gt]
  have := Nat.mul_pos (show 0 < c by omega) (Nat.two_pow_pos (q - min q (-1074)).toNat)
  rw [Nat.zero_mul]
  omega
theorem dec_1 : FP.Core.decode FP.Core.b64 (0x3ff0000000000000 : UInt64).toNat = .fin false 4503599627370496 (-52) := by decide +kernel
theorem dcmp_1 (n : nrm c q) (hq : q ≤ -52) : Op.cmpValue (FP.dcmp (fnU c q) 0x3ff0000000000000) .g = (if q = -52 then (if c = 4503599627370496 then 0 else 1) else -1) := by
  have e : FP.dcmp (fnU c q) 0x3ff0000000000000 = some (compare ((c * 2 ^ (q - min q (-52)).toNat : Nat) : Int) ((4503599627370496 * 2 ^ (-52 - min q (-52)).toNat : Nat) : Int)) := by
    show FP.Core.order (FP.Core.decode FP.Core.b64 (fnU c q).toNat) (FP.Core.decode FP.Core.b64 (0x3ff0000000000000 : UInt64).toNat) = _
    rw [fnU_nat n, dec_fnN n, dec_1]
    rfl
  obtain ⟨h1, h2, h3, h4⟩ := n
  rw [e, show min q (-52) = q by omega, show (q - q).toNat = 0 by omega, Nat.pow_zero, Nat.mul_one]
  by_cases z : q = -52
  · rw [if_pos z, z, show ((-52 : Int) - -52).toNat = 0 by omega, Nat.pow_zero, Nat.mul_one]
    by_cases y : c = 4503599627370496
    · rw [if_pos y, y, cmp_eq]
      rfl
    · rw [if_neg y, cmp_gt (by omega)]
      rfl
  · rw [if_neg z]
    have p : 2 ^ 1 ≤ 2 ^ (-52 - q).toNat := Nat.pow_le_pow_right (by omega) (by omega)
    have p2 := Nat.mul_le_mul_left 4503599627370496 p
    rw [cmp_lt (by omega)]
    rfl
theorem dec_2 : FP.Core.decode FP.Core.b64 (4611686018427387904 : UInt64).toNat = .fin false 4503599627370496 (-51) := by decide +kernel
theorem dmul_2 (n : nrm c q) (hq : q < 0) (h9 : -900 ≤ q) : FP.dmul (fnU c q) 4611686018427387904 = fnU c (q + 1) ∧ nrm c (q + 1) := by
  have n2 : nrm c (q + 1) := by
    obtain ⟨h1, h2, h3, h4⟩ := n
    exact ⟨h1, h2, by omega, by omega⟩
  refine ⟨?_, n2⟩
  show UInt64.ofNat (FP.Core.encode FP.Core.b64 (FP.Core.round FP.Core.b64 (FP.Core.exactProduct (FP.Core.decode FP.Core.b64 (fnU c q).toNat) (FP.Core.decode FP.Core.b64 (4611686018427387904 : UInt64).toNat)))) = _
  rw [fnU_nat n, dec_fnN n, dec_2]
  show UInt64.ofNat (FP.Core.encode FP.Core.b64 (FP.Core.roundRatio FP.Core.b64 false (c * 4503599627370496) 1 (q + -51))) = _
  rw [rr_shift n.1 n.2.1 (by omega) (by omega), show q + -51 + 52 = q + 1 by omega, enc_fnN n2]
  rfl
end VALS
end DBL2
