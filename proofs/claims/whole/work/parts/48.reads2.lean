/-! calls that read: interpreter, hearing, count, ifVacated -/
def pvR (r : Row) (p k : Nat) : Int32 := if k < 5 then r (13 + 10 * k + p) else if k = 5 then cnI (fun o => lst r o && inCh r (nI p) o) (hrs r) else if k = 6 then opI (wkR r p) else r (63 + p)
def hvR (r : Row) (h k : Nat) : Int32 := if k < 9 then r (73 + 10 * h + k) else if k = 9 then payR r h 2 else if k = 10 then r (82 + 10 * h) else cnI (fun o => decide (o ≠ h) && (lst r o && (lst r h && clsh r o h))) (hrs r)
def cvR (r : Row) (n k : Nat) : Int32 := if k = 0 then r 7 else if k = 1 then r 8 else if k = 2 then r 9 else if k = 3 then cnI (stg r 0) (hrs r) else if k = 4 then cnI (fun o => lst r o && decide (¬ r (73 + 10 * o + 5) ≤ 0)) (hrs r) else if k = 5 then cnI (stg r 1) (hrs r) else if k = 6 then cnI (stg r 2) (hrs r) else if k = 7 then cnI (stg r 3) (hrs r)
  else if k = 8 then r 10 else if k = 9 then r 11 else if k = 10 then r 12 else if k = 11 then nI (ct (fun p => wrkN r p (hrs r)) 10) else nI n
section READS2
variable {c : Nat} {m : Mem} {r : Row} {h p k : Nat} {x y : Int32}
theorem s2_ofInt (hC : CR c m r) (hn : NumW r) (hw : ChWs r) (hp : p < 10) (hk : k < 8) : f_X2_ofInterpreter c (nI p) (nI k) m = some (pvR r p k) := by
  unfold f_X2_ofInterpreter
  rw [s3_listedWith hC hn hw hp, s2_workplaceOf hC hn hw hp, pz_in (by omega) (by omega), pz_in (by omega) (by omega), pz_in (by omega) (by omega), pz_in (by omega) (by omega), pz_in (by omega) (by omega), pz_in (by omega) (by omega), pz_cl (by omega), hC.1.speaks hp, hC.1.may hp, hC.1.rate hp, hC.1.tired hp, hC.1.earned hp, hC.1.worked hp]
  rcases (show k = 0 ∨ k = 1 ∨ k = 2 ∨ k = 3 ∨ k = 4 ∨ k = 5 ∨ k = 6 ∨ k = 7 by omega) with rfl | rfl | rfl | rfl | rfl | rfl | rfl | rfl <;> rfl
theorem s8_perNow (hz : m.1 163 = r) (hn : NumW r) (hw : ChWs r) (hp : p < 10) (hk : k < 8) : f_X8_personNow (nI p) (nI k) m = some (pvR r p k) := by
  unfold f_X8_personNow
  rw [s8_listedWith hz hn hw, s8_worksIn hz hn hw, show (13 : Int32) = nI 13 from rfl, show (23 : Int32) = nI 23 from rfl, show (33 : Int32) = nI 33 from rfl, show (43 : Int32) = nI 43 from rfl, show (53 : Int32) = nI 53 from rfl, show (63 : Int32) = nI 63 from rfl, pz_add, pz_add, pz_add, pz_add, pz_add, pz_add]
  rw [pz_in (by omega) (by omega), pz_in (by omega) (by omega), pz_in (by omega) (by omega), pz_in (by omega) (by omega), pz_in (by omega) (by omega), pz_in (by omega) (by omega), pz_cl (by omega), pz_cl (by omega), pz_cl (by omega), pz_cl (by omega), pz_cl (by omega), pz_cl (by omega), hz]
  rcases (show k = 0 ∨ k = 1 ∨ k = 2 ∨ k = 3 ∨ k = 4 ∨ k = 5 ∨ k = 6 ∨ k = 7 by omega) with rfl | rfl | rfl | rfl | rfl | rfl | rfl | rfl <;> rfl
theorem s2_ofHear (hC : CR c m r) (hn : NumW r) (hw : ChWs r) (hh : h < hrs r) (hk : k < 12) : f_X2_ofHearing c (nI h) (nI k) m = some (hvR r h k) := by
  have h30 := hn.2.2.1
  have m0 := s3_member (k := 0) hC.1 hn hh (by omega)
  have m1 := s3_member (k := 1) hC.1 hn hh (by omega)
  have m2 := s3_member (k := 2) hC.1 hn hh (by omega)
  rw [show nI 0 = (0 : Int32) from rfl, show 79 + 10 * h + 0 = 73 + 10 * h + 6 by omega] at m0
  rw [show nI 1 = (1 : Int32) from rfl, show 79 + 10 * h + 1 = 73 + 10 * h + 7 by omega] at m1
  rw [show nI 2 = (2 : Int32) from rfl, show 79 + 10 * h + 2 = 73 + 10 * h + 8 by omega] at m2
  unfold f_X2_ofHearing
  rw [m0, m1, m2, s2_chainPay hC.1 hn (hw h hh) hh, s3_isListed hC.1 (by omega), s3_clashesOf hC.1 hn (by omega)]
  have e11 : (bnd (some (bI (lst r h))) fun x36 => if x36 = 0 then some 0 else bnd (some (cnI (fun o => decide (o ≠ h) && (lst r o && clsh r o h)) (hrs r))) fun x39 => some x39) = some (cnI (fun o => decide (o ≠ h) && (lst r o && (lst r h && clsh r o h))) (hrs r)) := by
    rw [pz_bnd, bI_ite]
    by_cases q : lst r h = true
    · rw [if_pos q, pz_bnd, clash_both q]
    · rw [if_neg q, clash_none (by simpa using q)]
  rw [e11]
  rw [pz_in (by omega) (by omega), pz_in (by omega) (by omega), pz_in (by omega) (by omega), pz_in (by omega) (by omega), pz_in (by omega) (by omega), pz_in (by omega) (by omega), pz_in (by omega) (by omega), pz_cl (by omega), hC.1.kind (by omega), hC.1.lang (by omega), hC.1.start (by omega), hC.1.length (by omega), hC.1.stage (by omega), hC.1.size (by omega), hC.1.got (by omega)]
  rcases (show k = 0 ∨ k = 1 ∨ k = 2 ∨ k = 3 ∨ k = 4 ∨ k = 5 ∨ k = 6 ∨ k = 7 ∨ k = 8 ∨ k = 9 ∨ k = 10 ∨ k = 11 by omega) with rfl | rfl | rfl | rfl | rfl | rfl | rfl | rfl | rfl | rfl | rfl | rfl <;> rfl
theorem s8_hearNow (hz : m.1 163 = r) (hn : NumW r) (hw : ChWs r) (hh : h < hrs r) (hk : k < 12) : f_X8_hearingNow (nI h) (nI k) m = some (hvR r h k) := by
  have h30 := hn.2.2.1
  unfold f_X8_hearingNow
  rw [s8_payFor hz hn (by omega) (hw h hh), s8_clashes hz hn (by omega), show (f_X8_of (nI h) 9 m) = some (r (82 + 10 * h)) by rw [show (9 : Int32) = nI 9 from rfl, s8_of hz (by omega) (by omega), show 73 + 10 * h + 9 = 82 + 10 * h by omega]]
  by_cases q : k < 10
  · rw [s8_of hz (by omega) q]
    rcases (show k = 0 ∨ k = 1 ∨ k = 2 ∨ k = 3 ∨ k = 4 ∨ k = 5 ∨ k = 6 ∨ k = 7 ∨ k = 8 ∨ k = 9 by omega) with rfl | rfl | rfl | rfl | rfl | rfl | rfl | rfl | rfl | rfl <;> rfl
  · rcases (show k = 10 ∨ k = 11 by omega) with rfl | rfl <;> rfl
theorem s2_numOf (hC : CR c m r) (hn : NumW r) (hw : ChWs r) (hk : k < 12) {n : Nat} : f_X2_numberOf c (nI k) m = some (cvR r n k) := by
  obtain ⟨M, e, hM⟩ := s2_working hC hn hw
  unfold f_X2_numberOf
  rw [s3_countStage hC.1 hn, s3_countStage hC.1 hn, s3_countStage hC.1 hn, s3_countStage hC.1 hn, s3_countLM hC.1 hn, e, pz_bnd (a := M), s6_bitCount, hM.pop, hC.1.people, hC.1.hearings, hC.1.minute, hC.1.paid, hC.1.paidV, hC.1.paidA]
  rcases (show k = 0 ∨ k = 1 ∨ k = 2 ∨ k = 3 ∨ k = 4 ∨ k = 5 ∨ k = 6 ∨ k = 7 ∨ k = 8 ∨ k = 9 ∨ k = 10 ∨ k = 11 by omega) with rfl | rfl | rfl | rfl | rfl | rfl | rfl | rfl | rfl | rfl | rfl | rfl <;> rfl
theorem s8_counted (hz : m.1 163 = r) (hn : NumW r) (hw : ChWs r) (hk : k < 13) {n : Nat} (h1 : m.1 162 1 = nI n) : f_X8_counted (nI k) m = some (cvR r n k) := by
  unfold f_X8_counted
  rw [s8_hearingsIn0 hz hn, s8_hearingsIn1 hz hn, s8_hearingsIn0 hz hn, s8_working hz hn hw, hz, h1]
  rcases (show k = 0 ∨ k = 1 ∨ k = 2 ∨ k = 3 ∨ k = 4 ∨ k = 5 ∨ k = 6 ∨ k = 7 ∨ k = 8 ∨ k = 9 ∨ k = 10 ∨ k = 11 ∨ k = 12 by omega) with rfl | rfl | rfl | rfl | rfl | rfl | rfl | rfl | rfl | rfl | rfl | rfl | rfl <;> rfl
theorem s8_vacThen (hz : m.1 163 = r) (hn : NumW r) (hc : ChW r h) (hh : h < 30) : f_X8_vacatedThen (nI h) x m = some (vacR r h x) := by
  unfold f_X8_vacatedThen vacR
  rw [show (2 : Int32) = nI 2 from rfl, s8_of hz hh (by omega), pz_bnd, hz, pz_nm, s8_isListed hz hh, pz_bnd, bI_ite]
  have e : (0 < r (73 + 10 * h + 2) - r 9 - x) = ¬ (r (73 + 10 * h + 2) - r 9 - x ≤ 0) := propext Int32.not_le.symm
  by_cases q : lst r h = true
  · rw [if_pos q]
    by_cases z : r (73 + 10 * h + 2) - r 9 - x ≤ 0
    · rw [if_neg (by rw [e]; exact fun w => w z), if_pos (Or.inr z)]
    · rw [if_pos (by rw [e]; exact z), s8_halvesBy hz, pz_bnd, s8_payFor hz hn hh hc, pz_bnd, if_neg (by rintro (w | w); rw [w] at q; cases q; exact z w)]
  · rw [if_neg q, if_pos (Or.inl (by simpa using q))]
end READS2
section OPS4
variable {m : Mem} {A : Ab} {x y z w : Int32}
theorem o_interpreter (hC : AC m A) (hM : AM m A) (ok : Ok A) : OPS (w_L_interpreter x y m) (f_X8_interpreter x y) := by
  have gd := ok.2.2.1
  have hn := gd.1.1.1
  have h10 := hn.1
  cases hp : isp A.r x
  · refine ops_throw hC hM ok (c := 1) (by decide) ?_ ?_
    · rw [w_L_interpreter, e_X7_interpreter, s6_has hC.1.1, pz_bnd, bI_ite, if_neg (by rw [hp]; simp), pz_bnd]
      rfl
    · rw [f_X8_interpreter, s8_isPerson hM.1 hn, pz_bnd, bI_ite, if_neg (by rw [hp]; simp), pz_bnd, pz_nm, si_at, if_neg (by decide)]
  obtain ⟨p, hpl, rfl⟩ := isp_of hn hp
  cases hv : wth y 0 7
  · refine ops_throw hC hM ok (c := 2) (by decide) ?_ ?_
    · rw [w_L_interpreter, e_X7_interpreter, s6_has hC.1.1, pz_bnd, bI_ite, if_pos hp, s7_wth, pz_bnd, bI_ite, if_neg (by rw [hv]; simp), pz_bnd]
      rfl
    · rw [f_X8_interpreter, s8_isPerson hM.1 hn, pz_bnd, bI_ite, if_pos hp, s8_wth, pz_bnd, bI_ite, if_neg (by rw [hv]; simp), pz_bnd, pz_nm, si_at, if_neg (by decide)]
  obtain ⟨k, -, k7, rfl⟩ := wth_of (a := 0) (b := 7) (by omega) (by omega) hv
  refine ops_read hC hM ok (y := pvR A.r p k) ⟨m, ?_, hC, FrX.rf⟩ (fun m1 am => ⟨si m1 162 5 0, ?_, am.set5 (by decide) (by decide) 0, FrM.rf.put (by omega), si_at _ _ _ _⟩)
  · rw [w_L_interpreter, e_X7_interpreter, s6_has hC.1.1, pz_bnd, bI_ite, if_pos hp, s7_wth, pz_bnd, bI_ite, if_pos hv, s2_ofInt hC.1 hn gd.1.1.2.1 (by omega) (by omega), pz_bnd, pz_bnd]
  · rw [f_X8_interpreter, s8_isPerson am.1 hn, pz_bnd, bI_ite, if_pos hp, s8_wth, pz_bnd, bI_ite, if_pos hv, pz_bnd, pz_nm, si_at, if_pos (by decide), s8_perNow (am.set5 (j := 5) (by decide) (by decide) 0).1 hn gd.1.1.2.1 (by omega) (by omega), pz_bnd]
theorem o_hearing (hC : AC m A) (hM : AM m A) (ok : Ok A) : OPS (w_L_hearing x y m) (f_X8_hearing x y) := by
  have gd := ok.2.2.1
  have hn := gd.1.1.1
  have h30 := hn.2.2.1
  cases hp : ish A.r x
  · refine ops_throw hC hM ok (c := 1) (by decide) ?_ ?_
    · rw [w_L_hearing, e_X7_hearing, s3_has hC.1.1, pz_bnd, bI_ite, if_neg (by rw [hp]; simp), pz_bnd]
      rfl
    · rw [f_X8_hearing, s8_isHearing hM.1 hn, pz_bnd, bI_ite, if_neg (by rw [hp]; simp), pz_bnd, pz_nm, si_at, if_neg (by decide)]
  obtain ⟨h, hh, rfl⟩ := ish_of hn hp
  cases hv : wth y 0 11
  · refine ops_throw hC hM ok (c := 2) (by decide) ?_ ?_
    · rw [w_L_hearing, e_X7_hearing, s3_has hC.1.1, pz_bnd, bI_ite, if_pos hp, s7_wth, pz_bnd, bI_ite, if_neg (by rw [hv]; simp), pz_bnd]
      rfl
    · rw [f_X8_hearing, s8_isHearing hM.1 hn, pz_bnd, bI_ite, if_pos hp, s8_wth, pz_bnd, bI_ite, if_neg (by rw [hv]; simp), pz_bnd, pz_nm, si_at, if_neg (by decide)]
  obtain ⟨k, -, k7, rfl⟩ := wth_of (a := 0) (b := 11) (by omega) (by omega) hv
  refine ops_read hC hM ok (y := hvR A.r h k) ⟨m, ?_, hC, FrX.rf⟩ (fun m1 am => ⟨si m1 162 5 0, ?_, am.set5 (by decide) (by decide) 0, FrM.rf.put (by omega), si_at _ _ _ _⟩)
  · rw [w_L_hearing, e_X7_hearing, s3_has hC.1.1, pz_bnd, bI_ite, if_pos hp, s7_wth, pz_bnd, bI_ite, if_pos hv, s2_ofHear hC.1 hn gd.1.1.2.1 hh (by omega), pz_bnd, pz_bnd]
  · rw [f_X8_hearing, s8_isHearing am.1 hn, pz_bnd, bI_ite, if_pos hp, s8_wth, pz_bnd, bI_ite, if_pos hv, pz_bnd, pz_nm, si_at, if_pos (by decide), s8_hearNow (am.set5 (j := 5) (by decide) (by decide) 0).1 hn gd.1.1.2.1 hh (by omega), pz_bnd]
theorem o_count (hC : AC m A) (hM : AM m A) (ok : Ok A) : OPS (w_L_count x m) (f_X8_count x) := by
  have gd := ok.2.2.1
  have hn := gd.1.1.1
  cases hv : wth x 0 12
  · refine ops_throw hC hM ok (c := 1) (by decide) ?_ ?_
    · rw [w_L_count, e_X7_count, s7_wth, pz_bnd, bI_ite, if_neg (by rw [hv]; simp), pz_bnd]
      rfl
    · rw [f_X8_count, s8_wth, pz_bnd, bI_ite, if_neg (by rw [hv]; simp), pz_bnd, pz_nm, si_at, if_neg (by decide)]
  obtain ⟨k, -, k7, rfl⟩ := wth_of (a := 0) (b := 12) (by omega) (by omega) hv
  have k0 : m.1 39 0 = nI A.n := by
    obtain ⟨-, ⟨f, -, -, q, -⟩, -⟩ := hC
    exact q
  have e12 : (nI k = 12) = (k = 12) := pz_eq (b := (12 : Nat)) (by omega) (by decide)
  refine ops_read hC hM ok (y := cvR A.r A.n k) ⟨m, ?_, hC, FrX.rf⟩ (fun m1 am => ⟨si m1 162 5 0, ?_, am.set5 (by decide) (by decide) 0, FrM.rf.put (by omega), si_at _ _ _ _⟩)
  · rw [w_L_count, e_X7_count, s7_wth, pz_bnd, bI_ite, if_pos hv]
    by_cases u : k = 12
    · rw [if_pos (by rw [e12]; exact u), k0, pz_bnd, u]
      rfl
    · rw [if_neg (by rw [e12]; exact u), s2_numOf (n := A.n) hC.1 hn gd.1.1.2.1 (by omega), pz_bnd, pz_bnd]
  · rw [f_X8_count, s8_wth, pz_bnd, bI_ite, if_pos hv, pz_bnd, pz_nm, si_at, if_pos (by decide), s8_counted (n := A.n) (am.set5 (j := 5) (by decide) (by decide) 0).1 hn gd.1.1.2.1 (by omega) (am.set5 (j := 5) (by decide) (by decide) 0).2.1, pz_bnd]
theorem o_ifVacated (hC : AC m A) (hM : AM m A) (ok : Ok A) : OPS (w_L_ifVacated x y m) (f_X8_ifVacated x y) := by
  have gd := ok.2.2.1
  have hn := gd.1.1.1
  have h30 := hn.2.2.1
  cases hp : ish A.r x
  · refine ops_throw hC hM ok (c := 1) (by decide) ?_ ?_
    · rw [w_L_ifVacated, e_X7_ifVacated, s3_has hC.1.1, pz_bnd, bI_ite, if_neg (by rw [hp]; simp), pz_bnd]
      rfl
    · rw [f_X8_ifVacated, s8_isHearing hM.1 hn, pz_bnd, bI_ite, if_neg (by rw [hp]; simp), pz_bnd, pz_nm, si_at, if_neg (by decide)]
  obtain ⟨h, hh, rfl⟩ := ish_of hn hp
  have hc := gd.1.1.2.1 h hh
  cases hv : wth y 0 2000
  · refine ops_throw hC hM ok (c := 2) (by decide) ?_ ?_
    · rw [w_L_ifVacated, e_X7_ifVacated, s3_has hC.1.1, pz_bnd, bI_ite, if_pos hp, s7_wth, pz_bnd, bI_ite, if_neg (by rw [hv]; simp), pz_bnd]
      rfl
    · rw [f_X8_ifVacated, s8_isHearing hM.1 hn, pz_bnd, bI_ite, if_pos hp, s8_wth, pz_bnd, bI_ite, if_neg (by rw [hv]; simp), pz_bnd, pz_nm, si_at, if_neg (by decide)]
  refine ops_read hC hM ok (y := vacR A.r h y) ⟨m, ?_, hC, FrX.rf⟩ (fun m1 am => ⟨si m1 162 5 0, ?_, am.set5 (by decide) (by decide) 0, FrM.rf.put (by omega), si_at _ _ _ _⟩)
  · rw [w_L_ifVacated, e_X7_ifVacated, s3_has hC.1.1, pz_bnd, bI_ite, if_pos hp, s7_wth, pz_bnd, bI_ite, if_pos hv, s2_payIfVacated hC.1.1 hn hc hh, pz_bnd, pz_bnd]
  · rw [f_X8_ifVacated, s8_isHearing am.1 hn, pz_bnd, bI_ite, if_pos hp, s8_wth, pz_bnd, bI_ite, if_pos hv, pz_bnd, pz_nm, si_at, if_pos (by decide), s8_vacThen (am.set5 (j := 5) (by decide) (by decide) 0).1 hn hc (by omega), pz_bnd]
end OPS4
