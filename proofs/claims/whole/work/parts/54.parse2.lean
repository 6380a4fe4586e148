/-! a text read by the model -/
section PARSE2
variable {m : Mem} {q v u s : Nat}
theorem dig_wth (hq : q ≤ 200) : wth (nI q - 48) 0 9 = decide (48 ≤ q ∧ q ≤ 57) := by
  unfold wth
  by_cases h : 48 ≤ q
  · rw [show (48 : Int32) = nI 48 from rfl, pk_sub h]
    have e1 : (nI (q - 48) < 0) = False := pz_not0 (by omega)
    have e2 : (9 < nI (q - 48)) = (9 < q - 48) := pz_lt (a := (9 : Nat)) (by decide) (by omega)
    have d1 : decide (¬ nI (q - 48) < 0) = true := by rw [decide_eq_true_eq, e1]; exact id
    have d2 : decide (¬ 9 < nI (q - 48)) = decide (48 ≤ q ∧ q ≤ 57) := decide_eq_decide.mpr (by rw [e2]; omega)
    rw [d1, d2, Bool.true_and]
  · have e1 : nI q - 48 < 0 := pk_sneg (a := q) (b := 48) (by omega) (by omega)
    have d1 : decide (¬ nI q - 48 < 0) = false := by rw [decide_eq_false_iff_not]; exact fun w => w e1
    have d2 : decide (48 ≤ q ∧ q ≤ 57) = false := by rw [decide_eq_false_iff_not]; omega
    rw [d1, d2, Bool.false_and]
def dgt (v : Nat) : Int32 := if v = 0 then -1 else nI v
theorem s8_takesDigit (hq : q ≤ 200) (hv : v ≤ 2000) (hs : s = 3 ∨ s = 4) (h11 : m.1 162 11 = nI s) (h10 : m.1 162 10 = dgt v) : f_X8_takesDigit (nI q - 48) m = some (bI (decide (48 ≤ q ∧ q ≤ 57 ∧ 0 < 10 * v + (q - 48) ∧ 10 * v + (q - 48) ≤ if s = 3 then 2000 else 240)), si m 162 10 (if 48 ≤ q ∧ q ≤ 57 ∧ 0 < 10 * v + (q - 48) ∧ 10 * v + (q - 48) ≤ (if s = 3 then 2000 else 240) then nI (10 * v + (q - 48)) else dgt v)) := by
  unfold f_X8_takesDigit
  have ex : (if dgt v = -1 then some (nI q - 48) else nm (10 * dgt v + (nI q - 48)) fun x3 => some x3) = some (if v = 0 then nI q - 48 else 10 * nI v + (nI q - 48)) := by
    unfold dgt
    by_cases z : v = 0
    · rw [if_pos z, if_pos rfl, if_pos z]
    · rw [if_neg z, if_neg (by rw [pz_ne1 (by omega)]; exact id), if_neg z, pz_nm]
  rw [h10, h11, ex, pz_bnd, s8_wth, pz_bnd, dig_wth hq, bI_ite]
  by_cases d : 48 ≤ q ∧ q ≤ 57
  · have e4 : (if v = 0 then nI q - 48 else 10 * nI v + (nI q - 48)) = nI (10 * v + (q - 48)) := by
      rw [show (48 : Int32) = nI 48 from rfl, show (10 : Int32) = nI 10 from rfl, pk_sub d.1, pz_mul, pz_add]
      by_cases z : v = 0
      · rw [if_pos z, z]
        exact congrArg nI (by omega)
      · rw [if_neg z]
    have k1 : (nI (10 * v + (q - 48)) ≤ 0) = (10 * v + (q - 48) = 0) := i32_le0 (by omega)
    have k3 : (nI s = 3) = (s = 3) := pz_eq (b := (3 : Nat)) (by omega) (by decide)
    have k4 : (2000 < nI (10 * v + (q - 48))) = (2000 < 10 * v + (q - 48)) := pz_lt (a := (2000 : Nat)) (by decide) (by omega)
    have k5 : (240 < nI (10 * v + (q - 48))) = (240 < 10 * v + (q - 48)) := pz_lt (a := (240 : Nat)) (by decide) (by omega)
    have e13 : (if decide (48 ≤ q ∧ q ≤ 57) = true then (if nI (10 * v + (q - 48)) ≤ 0 then some 0 else (if nI s = 3 then (if 2000 < nI (10 * v + (q - 48)) then some 0 else some 1) else (if 240 < nI (10 * v + (q - 48)) then some 0 else some 1))) else some 0) = some (bI (decide (48 ≤ q ∧ q ≤ 57 ∧ 0 < 10 * v + (q - 48) ∧ 10 * v + (q - 48) ≤ if s = 3 then 2000 else 240))) := by
      rw [if_pos (by rw [decide_eq_true_eq]; exact d)]
      by_cases z : 10 * v + (q - 48) = 0
      · rw [if_pos (by rw [k1]; exact z), decide_eq_false (by omega)]
        rfl
      · rw [if_neg (by rw [k1]; exact z)]
        rcases hs with rfl | rfl
        · rw [if_pos (c := nI 3 = 3) rfl, if_pos (c := (3 : Nat) = 3) rfl]
          by_cases y : 2000 < 10 * v + (q - 48)
          · rw [if_pos (by rw [k4]; exact y), decide_eq_false (by omega)]
            rfl
          · rw [if_neg (by rw [k4]; exact y), decide_eq_true (by omega)]
            rfl
        · rw [if_neg (c := nI 4 = 3) (by decide), if_neg (c := (4 : Nat) = 3) (by decide)]
          by_cases y : 240 < 10 * v + (q - 48)
          · rw [if_pos (by rw [k5]; exact y), decide_eq_false (by omega)]
            rfl
          · rw [if_neg (by rw [k5]; exact y), decide_eq_true (by omega)]
            rfl
    rw [e4, e13, pz_bnd, bI_ite]
    simp only [pz_nm, pz_bo]
    by_cases w : 48 ≤ q ∧ q ≤ 57 ∧ 0 < 10 * v + (q - 48) ∧ 10 * v + (q - 48) ≤ (if s = 3 then 2000 else 240)
    · rw [if_pos (by rw [decide_eq_true_eq]; exact w), if_pos w]
    · rw [if_neg (by rw [decide_eq_true_eq]; exact w), if_neg w]
  · rw [if_neg (by rw [decide_eq_true_eq]; exact d), pz_bnd, if_pos rfl, if_neg (c := 48 ≤ q ∧ q ≤ 57 ∧ 0 < 10 * v + (q - 48) ∧ 10 * v + (q - 48) ≤ (if s = 3 then 2000 else 240)) (fun w => d ⟨w.1, w.2.1⟩), decide_eq_false (fun w => d ⟨w.1, w.2.1⟩)]
    rfl
end PARSE2
