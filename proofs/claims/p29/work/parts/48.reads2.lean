/-! calls that read: interpreter, hearing, count, ifVacated -/
def pvR (r : Row) (p k : Nat) : Int32 := if k < 5 then r (13 + 10 * k + p) else if k = 5 then cnI (fun o => lst r o && inCh r (nI p) o) (hrs r) else if k = 6 then opI (wkR r p) else r (63 + p)
def hvR (r : Row) (h k : Nat) : Int32 := if k < 9 then r (73 + 10 * h + k) else if k = 9 then payR r h 2 else if k = 10 then r (82 + 10 * h) else cnI (fun o => decide (o ≠ h) && (lst r o && (lst r h && clsh r o h))) (hrs r)
def cvR (r : Row) (n k : Nat) : Int32 := if k = 0 then r 7 else if k = 1 then r 8 else if k = 2 then r 9 else if k = 3 then cnI (stg r 0) (hrs r) else if k = 4 then cnI (fun o => lst r o && decide (¬ r (73 + 10 * o + 5) ≤ 0)) (hrs r) else if k = 5 then cnI (stg r 1) (hrs r) else if k = 6 then cnI (stg r 2) (hrs r) else if k = 7 then cnI (stg r 3) (hrs r)
  else if k = 8 then r 10 else if k = 9 then r 11 else if k = 10 then r 12 else if k = 11 then nI (ct (fun p => wrkN r p (hrs r)) 10) else nI n
section READS2
variable {c : Nat} {m : Mem} {r : Row} {h p k : Nat} {x y : Int32}
theorem s2_ofInt (hC : CR c m r) (hn : NumW r) (hw : ChWs r) (hp : p < 10) (hk : k < 8) : f_X2_ofInterpreter c (nI p) (nI k) m = some (pvR r p k) := by
  unfold f_X2_ofInterpreter
  rw [s3_listedWith hC hn hw hp, s2_workplaceOf hC hn hw hp, pz_in (by omega) (by omega), pz_in (by omega) (by omega), pz_in (by omega) (by omega), pz_in (by omega) (by omega), pz_in (by omega) (by omega), pz_in (by omega) (by omega), pz_cl (by omega), hC.1.speaks hp, hC.1.may hp, hC.1.rate hp, hC.1.tired hp, hC.1.earned hp, hC.1.worked hp]
  rcases (show k = 0 ∨ k = 1 ∨ k = 2 ∨ k = 3 ∨ k = 4 ∨ k = 5 ∨ k = 6 ∨ k = 7 by omega) with rfl | rfl | rfl | rfl | rfl | rfl | rfl | rfl <;> rfl
theorem s2_ofHear (hC : CR c m r) (hn : NumW r) (hw : ChWs r) (hh : h < hrs r) (hk : k < 12) : f_X2_ofHearing c (nI h) (nI k) m = some (hvR r h k) := by
  have h30 := hn.2.2.1
  have m0 := s3_member (k := 0) hC.1 hn hh (by omega)
  have m1 := s3_member (k := 1) hC.1 hn hh (by omega)
  have m2 := s3_member (k := 2) hC.1 hn hh (by omega)
  rw [show nI 0 = (0 : Int32) from rfl, show 79 + 10 * h + 0 = 73 + 10 * h + 6 by omega] at m0
  rw [show nI 1 = (1 : Int32) from rfl, show 79 + 10 * h + 1 = 73 + 10 * h + 7 by omega] at m1
  rw [show nI 2 = (2 : Int32) from rfl, show 79 + 10 * h + 2 = 73 + 10 * h + 8 by omega] at m2
  unfold f_X2_ofHearing
  rw [m0, m1, m2, s2_chainPay hC.1 hn (hw h hh) hh, s3_isListed hC.1 (by omega), s3_clashesOf hC.1 hn (by omega)]
  have e11 : (bnd (some (bI (lst r h))) fun x36 => if x36 = 0 then some 0 else bnd (some (cnI (fun o => decide (o ≠ h) && (lst r o && clsh r o h)) (hrs r))) fun x39 => some x39) = some (cnI (fun o => decide (o ≠ h) && (lst r o && (lst r h && clsh r o h))) (hrs r)) := by
    rw [pz_bnd, bI_ite]
    by_cases q : lst r h = true
    · rw [if_pos q, pz_bnd, clash_both q]
    · rw [if_neg q, clash_none (by simpa using q)]
  rw [e11]
  rw [pz_in (by omega) (by omega), pz_in (by omega) (by omega), pz_in (by omega) (by omega), pz_in (by omega) (by omega), pz_in (by omega) (by omega), pz_in (by omega) (by omega), pz_in (by omega) (by omega), pz_cl (by omega), hC.1.kind (by omega), hC.1.lang (by omega), hC.1.start (by omega), hC.1.length (by omega), hC.1.stage (by omega), hC.1.size (by omega), hC.1.got (by omega)]
  rcases (show k = 0 ∨ k = 1 ∨ k = 2 ∨ k = 3 ∨ k = 4 ∨ k = 5 ∨ k = 6 ∨ k = 7 ∨ k = 8 ∨ k = 9 ∨ k = 10 ∨ k = 11 by omega) with rfl | rfl | rfl | rfl | rfl | rfl | rfl | rfl | rfl | rfl | rfl | rfl <;> rfl
theorem s2_numOf (hC : CR c m r) (hn : NumW r) (hw : ChWs r) (hk : k < 12) {n : Nat} : f_X2_numberOf c (nI k) m = some (cvR r n k) := by
  obtain ⟨M, e, hM⟩ := s2_working hC hn hw
  unfold f_X2_numberOf
  rw [s3_countStage hC.1 hn, s3_countStage hC.1 hn, s3_countStage hC.1 hn, s3_countStage hC.1 hn, s3_countLM hC.1 hn, e, pz_bnd (a := M), s6_bitCount, hM.pop, hC.1.people, hC.1.hearings, hC.1.minute, hC.1.paid, hC.1.paidV, hC.1.paidA]
  rcases (show k = 0 ∨ k = 1 ∨ k = 2 ∨ k = 3 ∨ k = 4 ∨ k = 5 ∨ k = 6 ∨ k = 7 ∨ k = 8 ∨ k = 9 ∨ k = 10 ∨ k = 11 by omega) with rfl | rfl | rfl | rfl | rfl | rfl | rfl | rfl | rfl | rfl | rfl | rfl <;> rfl
end READS2
