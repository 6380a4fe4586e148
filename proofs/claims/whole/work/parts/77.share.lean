/-! calls: doneShare -/
def shR (r : Row) : UInt64 := if r 10 = 0 then 0 else FP.ddiv (FP.i2d (r 10 - r 11 - r 12)) (FP.i2d (r 10))
section SHARE
variable {m : Mem} {A : Ab} {r : Row}
theorem shR_is (R : RW r) : (shR r = 0 ∨ ∃ c q, shR r = fnU c q ∧ nrm c q ∧ -100 ≤ q ∧ q ≤ -52) := by
  obtain ⟨P, V, Q, e1, e2, e3, h1, h2⟩ := R.2.2.2.2
  have cl := clo_le r (hrs r)
  have h30 := R.1.1.2.2.1
  have P12 : P ≤ 12000000 := by
    have := Nat.mul_le_mul_left 400000 (show clo r (hrs r) ≤ 30 by omega)
    omega
  unfold shR
  rw [e1, e2, e3, pk_sub (by omega), pk_sub (by omega)]
  have e0 : (nI P = 0) = (P = 0) := propext ((nI_eq (b := 0) (by omega) (by omega)))
  by_cases z : P = 0
  · rw [if_pos (by rw [e0]; exact z)]
    exact Or.inl rfl
  · rw [if_neg (by rw [e0]; exact z)]
    by_cases y : P - V - Q = 0
    · rw [y]
      exact Or.inl (share_0 (by omega) (by omega))
    · exact Or.inr (share_val (by omega) (by omega) (by omega))
theorem dcmp_r (R : RW r) : FP.dcmp (shR r) (shR r) = some .eq := by
  rcases shR_is R with e | ⟨c, q, e, n, -, -⟩
  · rw [e]
    decide +kernel
  · rw [e]
    show FP.Core.order (FP.Core.decode FP.Core.b64 (fnU c q).toNat) (FP.Core.decode FP.Core.b64 (fnU c q).toNat) = _
    rw [fnU_nat n, dec_fnN n]
    exact congrArg some cmp_eq
theorem gD_shR {β : Type} (R : RW r) (K : Option β) : gDn (shR r) K = K := by
  rcases shR_is R with e | ⟨c, q, e, n, -, -⟩
  · rw [e]
    exact gD_nat (by decide) K
  · rw [e]
    exact gD_fnU n K
theorem s7_bitsR (R : RW r) : f_X7_bitsOfShare (shR r) m = some (shR r).toInt64 := by
  rcases shR_is R with e | ⟨c, q, e, n, h1, h2⟩
  · rw [e]
    exact s7_bits0
  · rw [e]
    exact s7_bits n h1 h2
theorem s8_bitsR (R : RW r) : f_Jxe99ae_doubleToLongBits_ccdee (shR r) m = some (shR r).toInt64 := by
  rw [f_Jxe99ae_doubleToLongBits_ccdee, f_Jxe99ae_isNaN_b9ae7, dcmp_r R, pz_nm, if_pos (by decide), pz_bnd, if_pos rfl]
theorem s7_share (hC : CR0 1 m r) (R : RW r) : f_X7_doneShare m = some (shR r) := by
  have g := gD_shR (β := UInt64) R
  unfold shR at g
  rw [f_X7_doneShare, hC.paid, hC.paidV, hC.paidA]
  unfold shR
  by_cases z : r 10 = 0
  · rw [if_pos z, if_pos z]
  · rw [if_neg z] at g
    rw [if_neg z, if_neg z]
    simp only [pz_nm]
    rw [g]
theorem s8_share (hz : m.1 163 = r) (R : RW r) : f_X8_share m = some (shR r) := by
  have g := gD_shR (β := UInt64) R
  unfold shR at g
  rw [f_X8_share, hz]
  unfold shR
  by_cases z : r 10 = 0
  · rw [if_pos z, if_pos z]
  · rw [if_neg z] at g
    rw [if_neg z, if_neg z]
    simp only [pz_nm]
    rw [g]
theorem o_doneShare (hC : AC m A) (hM : AM m A) (ok : Ok A) : ∃ m2, f_X7_doneShare m = some (shR A.r) ∧ f_X8_doneShare m = some (shR A.r, m2) ∧ AC m2 A ∧ AM m2 A := by
  have gd := ok.2.2.1
  have am := hM.set5 (j := 5) (by decide) (by decide) 0
  refine ⟨si m 162 5 0, s7_share hC.1.1 gd.1, ?_, hC.frM (FrM.rf.put (by omega)) ok.1, am⟩
  rw [f_X8_doneShare, pz_nm, s8_share am.1 gd.1, pz_bnd]
end SHARE
