/-! the bits of a share -/
section BITS
variable {m : Mem} {c : Nat} {q : Int}
theorem i64_sub1 {a : Nat} (h : 1 ≤ a) : Int64.ofNat a - 1 = Int64.ofNat (a - 1) := by
  obtain ⟨b, rfl⟩ : ∃ b, a = b + 1 := ⟨a - 1, by omega⟩
  rw [Nat.add_sub_cancel, Int64.ofNat_add]
  exact Int64.add_sub_cancel _ _
/-- the doublings -/
theorem bits_loop (n : nrm c q) (h9 : -100 ≤ q) (hq : q ≤ -52) : lp f_X7_bitsOfShare_L18 1000000 (fnU c q, 1023, 0) = some (fnU c (-52), Int64.ofNat (q + 1075).toNat) := by
  obtain ⟨N, hN, hN2⟩ : ∃ N : Nat, q = -52 - (N : Int) ∧ N ≤ 48 := ⟨(-52 - q).toNat, by omega, by omega⟩
  have nr : ∀ i : Nat, i ≤ N → nrm c (q + i) := fun i hi => ⟨n.1, n.2.1, by omega, by omega⟩
  have e := lp_cnt (body := f_X7_bitsOfShare_L18) (fun i => (fnU c (q + i), Int64.ofNat (1023 - i), nI i)) (N := N) (t := (fnU c (-52), Int64.ofNat (q + 1075).toNat)) (fun i hi => ?_) ?_ (n := 1000000) (by omega)
  · rw [show q + ((0 : Nat) : Int) = q by omega] at e
    exact e
  · have ni := nr i (by omega)
    obtain ⟨d1, d2⟩ := dmul_2 ni (by omega) (by omega)
    have cm : Op.cmpValue (FP.dcmp (fnU c (q + i)) 0x3ff0000000000000) .g = -1 := by rw [dcmp_1 ni (by omega), if_neg (by omega)]
    rw [f_X7_bitsOfShare_L18, show (1000 : Int32) = nI 1000 from rfl, if_neg (by rw [pz_le (by omega) (by omega)]; omega), pz_nm, cm, if_neg (by decide), d1, gD_fnU d2, pz_nm, pz_s, pz_nm, i64_sub1 (by omega), show q + (i : Int) + 1 = q + ((i + 1 : Nat) : Int) by omega, show 1023 - i - 1 = 1023 - (i + 1) by omega]
  · have ni := nr N (Nat.le_refl _)
    have ge : (0 : Int32) ≤ Op.cmpValue (FP.dcmp (fnU c (q + N)) 0x3ff0000000000000) .g := by
      rw [dcmp_1 ni (by omega), if_pos (by omega)]
      split <;> decide
    rw [f_X7_bitsOfShare_L18, show (1000 : Int32) = nI 1000 from rfl, if_neg (by rw [pz_le (by omega) (by omega)]; omega), pz_nm, if_pos ge, show q + (N : Int) = -52 by omega, show (q + 1075).toNat = 1023 - N by omega]
theorem dec_p52 : FP.Core.decode FP.Core.b64 (4841369599423283200 : UInt64).toNat = .fin false 4503599627370496 0 := by decide +kernel
theorem inU (x : Nat) (e : Int) : FP.Core.inUnits x e e = x := by
  unfold FP.Core.inUnits
  rw [show (e - e).toNat = 0 by omega, Nat.pow_zero, Nat.mul_one]
theorem sub_f {f : Nat} (hf : f < 4503599627370496) : FP.Core.round FP.Core.b64 (FP.Core.exactSum (.fin false (4503599627370496 + f) (-52)) (FP.Core.negate (.fin false 4503599627370496 (-52)))) = FP.Core.roundRatio FP.Core.b64 false f 1 (-52) := by
  unfold FP.Core.negate FP.Core.exactSum
  dsimp only
  rw [show min (-52 : Int) (-52) = -52 from rfl]
  have su : FP.Core.sumUnits false (4503599627370496 + f) (-52) (!false) 4503599627370496 (-52) (-52) = (f : Int) := by
    unfold FP.Core.sumUnits
    rw [inU, inU, Bool.not_false]
    unfold FP.Core.signed
    rw [if_neg (by decide), if_pos rfl]
    omega
  rw [su]
  unfold FP.Core.round
  dsimp only
  have sg : FP.Core.sumSign false (!false) (f : Int) = false := by
    unfold FP.Core.sumSign
    split
    · rfl
    · exact decide_eq_false (by omega)
  rw [sg, Int.natAbs_natCast]
theorem nrm_f {f : Nat} (hf : f < 4503599627370496) {q : Int} (h3 : -1000 ≤ q) (h4 : q ≤ 900) : nrm (4503599627370496 + f) q := ⟨Nat.le_add_right _ _, by omega, h3, h4⟩
theorem sub_u {f : Nat} (hf : f < 4503599627370496) : FP.dsub (fnU (4503599627370496 + f) (-52)) 0x3ff0000000000000 = UInt64.ofNat (FP.Core.encode FP.Core.b64 (FP.Core.roundRatio FP.Core.b64 false f 1 (-52))) := by
  have n := nrm_f hf (q := -52) (by omega) (by omega)
  rw [← sub_f hf]
  unfold FP.dsub FP.Core.dsub FP.Core.sub
  rw [fnU_nat n, dec_fnN n, dec_1]
theorem mul_u {a : Nat} {e : Int} (n : nrm a e) (n2 : nrm a (e + 52)) (h : e ≤ 800) : FP.dmul (fnU a e) 4841369599423283200 = fnU a (e + 52) := by
  unfold FP.dmul FP.Core.dmul FP.Core.mul
  rw [fnU_nat n, dec_fnN n, dec_p52]
  unfold FP.Core.exactProduct FP.Core.round
  dsimp only
  rw [show (false != false) = false from rfl, Int.add_zero, rr_shift n.1 n.2.1 n.2.2.1 h, enc_fnN n2]
  rfl
theorem d2l_u {f k : Nat} (hk : k ≤ 51) (n : nrm (f * 2 ^ (52 - k)) ((k : Int) - 52)) (hf : f < 4503599627370496) : FP.d2l (fnU (f * 2 ^ (52 - k)) ((k : Int) - 52)) = Int64.ofNat f := by
  unfold FP.d2l FP.Core.d2l
  rw [fnU_nat n, dec_fnN n]
  have tr : FP.Core.truncate false (f * 2 ^ (52 - k)) ((k : Int) - 52) = (f : Int) := by
    unfold FP.Core.truncate
    rw [show ((k : Int) - 52).toNat = 0 by omega, show (-((k : Int) - 52)).toNat = 52 - k by omega, Nat.pow_zero, Nat.mul_one, Nat.mul_div_cancel _ (Nat.two_pow_pos _)]
    rfl
  unfold FP.Core.toL FP.Core.toInt
  dsimp only
  rw [tr, show max (-2 ^ 63) (min (2 ^ 63 - 1) (f : Int)) = (f : Int) by omega]
  rfl
/-- the last steps: the fraction -/
theorem frac {f : Nat} (hf : f < 4503599627370496) : ∃ z : UInt64, FP.dsub (fnU (4503599627370496 + f) (-52)) 0x3ff0000000000000 = z ∧ z.toNat ≤ 9218868437227405312 ∧ (FP.dmul z 4841369599423283200).toNat ≤ 9218868437227405312 ∧ FP.d2l (FP.dmul z 4841369599423283200) = Int64.ofNat f := by
  refine ⟨_, sub_u hf, ?_⟩
  by_cases z : f = 0
  · subst z
    have r0 : FP.Core.roundRatio FP.Core.b64 false 0 1 (-52) = .fin false 0 (-1074) := by
      unfold FP.Core.roundRatio
      rw [if_pos rfl, fx_qmin]
    rw [r0]
    exact ⟨by decide +kernel, by decide +kernel, by decide +kernel⟩
  · obtain ⟨k, k1, k2, k3⟩ : ∃ k, 2 ^ k ≤ f ∧ f < 2 ^ (k + 1) ∧ k ≤ 51 := by
      refine ⟨f.log2, Nat.log2_self_le z, Nat.lt_log2_self, ?_⟩
      have l : 2 ^ f.log2 ≤ f := Nat.log2_self_le z
      have : f.log2 < 52 := (Nat.pow_lt_pow_iff_right (by decide : 1 < 2)).mp (Nat.lt_of_le_of_lt l (show f < 2 ^ 52 from hf))
      omega
    obtain ⟨e1, n1⟩ := rr_whole (A := f) (k := k) (e := -52) k1 k2 (by omega) (by omega) (by omega)
    rw [e1, enc_fnN n1]
    have n2 : nrm (f * 2 ^ (52 - k)) ((k : Int) - 52) := ⟨n1.1, n1.2.1, by omega, by omega⟩
    have em : FP.dmul (fnU (f * 2 ^ (52 - k)) (-52 + (k : Int) - 52)) 4841369599423283200 = fnU (f * 2 ^ (52 - k)) ((k : Int) - 52) := by
      have e52 : -52 + (k : Int) - 52 + 52 = (k : Int) - 52 := by omega
      have := mul_u n1 (by rw [e52]; exact n2) (by omega)
      rw [e52] at this
      exact this
    have eu : UInt64.ofNat (fnN (f * 2 ^ (52 - k)) (-52 + (k : Int) - 52)) = fnU (f * 2 ^ (52 - k)) (-52 + (k : Int) - 52) := rfl
    rw [eu, em]
    refine ⟨?_, ?_, d2l_u k3 n2 hf⟩
    · rw [fnU_nat n1]
      exact Nat.le_of_lt (fnN_lt n1)
    · rw [fnU_nat n2]
      exact Nat.le_of_lt (fnN_lt n2)
theorem bits_u {E f : Nat} (hE : E ≤ 1023) (hf : f < 4503599627370496) : (Int64.ofNat E <<< ((52 : Int32).toInt64 &&& 63)) ||| Int64.ofNat f = (UInt64.ofNat (E * 4503599627370496 + f)).toInt64 := by
  apply Int64.toBitVec_inj.mp
  have e52 : (52 : Int32).toInt64 &&& 63 = 52 := by decide
  rw [e52, Int64.toBitVec_or, Int64.toBitVec_shiftLeft]
  have l : (UInt64.ofNat (E * 4503599627370496 + f)).toInt64.toBitVec = BitVec.ofNat 64 (E * 4503599627370496 + f) := rfl
  have l2 : (Int64.ofNat E).toBitVec = BitVec.ofNat 64 E := rfl
  have l3 : (Int64.ofNat f).toBitVec = BitVec.ofNat 64 f := rfl
  rw [l, l2, l3, show (52 : Int64).toBitVec.smod 64 = 52#64 by decide]
  apply BitVec.eq_of_toNat_eq
  rw [BitVec.toNat_or, BitVec.shiftLeft_eq', BitVec.toNat_shiftLeft, BitVec.toNat_ofNat, BitVec.toNat_ofNat, BitVec.toNat_ofNat, BitVec.toNat_ofNat, show 52 % 2 ^ 64 = 52 from rfl, Nat.shiftLeft_eq, Nat.mod_eq_of_lt (a := E) (by omega), Nat.mod_eq_of_lt (a := f) (by omega), show (2 : Nat) ^ 52 = 4503599627370496 from rfl, Nat.mod_eq_of_lt (a := E * 4503599627370496) (by omega), Nat.mod_eq_of_lt (a := E * 4503599627370496 + f) (by omega)]
  have := Nat.shiftLeft_add_eq_or_of_lt (b := f) (i := 52) (show f < 2 ^ 52 from hf) E
  rw [Nat.shiftLeft_eq, show (2 : Nat) ^ 52 = 4503599627370496 from rfl] at this
  exact this.symm
theorem s7_bits (n : nrm c q) (h9 : -100 ≤ q) (hq : q ≤ -52) : f_X7_bitsOfShare (fnU c q) m = some (fnU c q).toInt64 := by
  obtain ⟨f, rfl⟩ : ∃ f, c = 4503599627370496 + f := ⟨c - 4503599627370496, by have := n.1; omega⟩
  have hf : f < 4503599627370496 := by have := n.2.1; omega
  obtain ⟨z, a1, a2, a4, a5⟩ := frac hf
  rw [f_X7_bitsOfShare, dcmp_0 n, pz_nm]
  have g : (0 : Int32) < Op.cmpValue (some .gt) .g := by decide
  rw [if_pos g, bits_loop n h9 hq, pz_bnd]
  dsimp only
  rw [pz_jl]
  dsimp only
  rw [a1, gD_nat a2, pz_nm, gD_nat a4, pz_nm, a5, pz_nm, bits_u (by omega) hf]
  unfold fnU fnN
  rw [Nat.add_sub_cancel_left]
theorem s7_bits0 : f_X7_bitsOfShare 0 m = some 0 := by
  rw [f_X7_bitsOfShare, show FP.dcmp 0 0 = some .eq by decide +kernel, pz_nm, if_neg (by decide), pz_jr]
end BITS
