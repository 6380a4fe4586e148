/-! the class's reads say what the row says -/
def isp (r : Row) (x : Int32) : Bool := decide (¬ x < 0) && decide (¬ r 7 ≤ x)
def ish (r : Row) (x : Int32) : Bool := decide (¬ x < 0) && decide (¬ r 8 ≤ x)
theorem isp_of {r : Row} (hn : NumW r) {x : Int32} (h : isp r x = true) : ∃ p, p < ppl r ∧ x = nI p := by
  simp only [isp, Bool.and_eq_true, decide_eq_true_eq] at h
  obtain ⟨j, hj, rfl⟩ := nI_of h.1
  refine ⟨j, ?_, rfl⟩
  have h2 := h.2
  rw [hn.2.1] at h2
  have := hn.1
  rw [nI_leI (by omega) hj] at h2
  omega
theorem ish_of {r : Row} (hn : NumW r) {x : Int32} (h : ish r x = true) : ∃ p, p < hrs r ∧ x = nI p := by
  simp only [ish, Bool.and_eq_true, decide_eq_true_eq] at h
  obtain ⟨j, hj, rfl⟩ := nI_of h.1
  refine ⟨j, ?_, rfl⟩
  have h2 := h.2
  rw [hn.2.2.2] at h2
  have := hn.2.2.1
  rw [nI_leI (by omega) hj] at h2
  omega
theorem isp_nI {r : Row} (hn : NumW r) {p : Nat} (h : p < ppl r) : isp r (nI p) = true := by
  have := hn.1
  simp only [isp, Bool.and_eq_true, decide_eq_true_eq, hn.2.1]
  exact ⟨by rw [pz_not0 (by omega)]; exact id, by rw [pz_le (by omega) (by omega)]; omega⟩
theorem ish_nI {r : Row} (hn : NumW r) {p : Nat} (h : p < hrs r) : ish r (nI p) = true := by
  have := hn.2.2.1
  simp only [ish, Bool.and_eq_true, decide_eq_true_eq, hn.2.2.2]
  exact ⟨by rw [pz_not0 (by omega)]; exact id, by rw [pz_le (by omega) (by omega)]; omega⟩
/-- a loop that counts, with what holds at its head -/
theorem lp_inv {S T : Type} {body : S → Option (S ⊕ T)} (I : Nat → S → Prop) {N n : Nat} {Qt : T → Prop} (hs : ∀ i s, i < N → I i s → ∃ s', body s = some (.inl s') ∧ I (i + 1) s') (he : ∀ s, I N s → ∃ t, body s = some (.inr t) ∧ Qt t) (s : S) (h0 : I 0 s) (hn : N < n) : ∃ t, lp body n s = some t ∧ Qt t := by
  have key : ∀ (d i n : Nat) (s : S), i + d = N → d < n → I i s → ∃ t, lp body n s = some t ∧ Qt t := by
    intro d
    induction d with
    | zero =>
      intro i n s hi hn hI
      have : i = N := by omega
      subst this
      obtain ⟨n, rfl⟩ : ∃ k, n = k + 1 := ⟨n - 1, by omega⟩
      obtain ⟨t, e, q⟩ := he s hI
      exact ⟨t, by rw [lp, e], q⟩
    | succ d ih =>
      intro i n s hi hn hI
      obtain ⟨n, rfl⟩ : ∃ k, n = k + 1 := ⟨n - 1, by omega⟩
      obtain ⟨s', e, q⟩ := hs i s (by omega) hI
      obtain ⟨t, e2, q2⟩ := ih (i + 1) n s' (by omega) (by omega) q
      exact ⟨t, by rw [lp, e]; exact e2, q2⟩
  exact key N 0 n s (by omega) hn h0
section CLASS
variable {c : Nat} {m : Mem} {r : Row} {h k a b p : Nat} {x y : Int32}
theorem s7_within {x l u : Int32} : f_X7_within x l u m = some (bI (decide (¬ x < l) && decide (¬ u < x))) := by
  unfold f_X7_within
  by_cases h1 : x < l
  · simp [h1, bI]
  · by_cases h2 : u < x <;> simp [h1, h2, bI]
theorem s6_has (hC : CR0 c m r) : f_X6_has c x m = some (bI (isp r x)) := by
  unfold f_X6_has isp
  rw [hC.people]
  by_cases h1 : x < 0
  · simp [h1, bI]
  · by_cases h2 : r 7 ≤ x <;> simp [h1, h2, bI]
theorem s3_has (hC : CR0 c m r) : f_X3_has c x m = some (bI (ish r x)) := by
  unfold f_X3_has ish
  rw [hC.hearings]
  by_cases h1 : x < 0
  · simp [h1, bI]
  · by_cases h2 : r 8 ≤ x <;> simp [h1, h2, bI]
theorem s3_isListed (hC : CR0 c m r) (hh : h < 30) : f_X3_isListed c (nI h) m = some (bI (lst r h)) := by
  unfold f_X3_isListed
  rw [pz_in hh (by omega), pz_cl (by omega), hC.stage hh, pz_nm]
  unfold lst
  by_cases h1 : r (73 + 10 * h + 4) = 0 <;> simp [h1, bI]
theorem s2_hasStarted (hC : CR0 c m r) (hh : h < 30) : f_X2_hasStarted c (nI h) m = some (bI (std r h)) := by
  unfold f_X2_hasStarted
  rw [pz_in hh (by omega), pz_cl (by omega), hC.start hh, pz_nm, hC.minute]
  unfold std
  by_cases h1 : r 9 < r (73 + 10 * h + 2) <;> simp [h1, bI]
theorem s2_isAhead (hC : CR0 c m r) (hh : h < 30) : f_X2_isAhead c (nI h) m = some (bI (lst r h && !std r h)) := by
  unfold f_X2_isAhead
  rw [s3_isListed hC hh, pz_bnd, bI_ite, s2_hasStarted hC hh, pz_bnd, bI_ite]
  cases lst r h <;> cases std r h <;> rfl
theorem s2_isUnderWay (hC : CR0 c m r) (hh : h < 30) : f_X2_isUnderWay c (nI h) m = some (bI (lst r h && std r h)) := by
  unfold f_X2_isUnderWay
  rw [s3_isListed hC hh, pz_bnd, bI_ite, s2_hasStarted hC hh, pz_bnd, bI_ite]
  cases lst r h <;> cases std r h <;> rfl
theorem s3_end (hC : CR0 c m r) (hh : h < 30) : f_X3_end c (nI h) m = some (endR r h) := by
  unfold f_X3_end
  rw [pz_in hh (by omega), pz_cl (by omega), hC.start hh, pz_nm, pz_in hh (by omega), hC.length hh, pz_nm]
  rfl
theorem s3_lac (hC : CR0 c m r) (ha : a < 30) (hb : b < 30) : f_X3_listedAndClashing c (nI a) (nI b) m = some (bI (decide (a ≠ b) && (lst r a && clsh r a b))) := by
  unfold f_X3_listedAndClashing
  have e0 : (nI a = nI b) = (a = b) := pz_eq (by omega) (by omega)
  rw [s3_isListed hC ha, pz_bnd, bI_ite, pz_in ha (by omega), pz_cl (by omega), hC.start ha, pz_nm, s3_end hC hb, pz_bnd, pz_in hb (by omega), pz_cl (by omega), hC.start hb, pz_nm, s3_end hC ha, pz_bnd]
  by_cases e : a = b
  · rw [if_pos (by rw [e0]; exact e)]
    simp [e, bI]
  · rw [if_neg (by rw [e0]; exact e)]
    unfold clsh
    cases lst r a
    · simp [bI]
    · by_cases h1 : endR r b ≤ r (73 + 10 * a + 2)
      · simp [h1, bI]
      · by_cases h2 : endR r a ≤ r (73 + 10 * b + 2) <;> simp [e, h1, h2, bI]
theorem s7_bitOf : f_X7_bitOf x m = some (boI x) := by
  unfold f_X7_bitOf boI
  by_cases h1 : 0 ≤ x <;> simp [h1]
theorem s7_maskOf {z : Int32} : f_X7_maskOf x y z m = some (boI x ||| boI y ||| boI z) := by
  unfold f_X7_maskOf
  rw [s7_bitOf, pz_bnd, s7_bitOf, pz_bnd, s7_bitOf, pz_bnd]
theorem s3_holds (hC : CR c m r) (hn : NumW r) (hc : ChW r h) (hh : h < hrs r) (hp : p < 10) : f_X3_holds c (nI h) (nI p) m = some (bI (inCh r (nI p) h)) := by
  have h30 := hn.2.2.1
  unfold f_X3_holds
  rw [pz_in (by omega) (by omega), pz_cl (by omega), hC.2 h hh, pz_nm, s7_bitOf, pz_bnd]
  have e := (msk_MK hn.1 hc).has (p := p) hp
  cases q : inCh r (nI p) h
  · rw [if_pos (by rw [e]; exact q)]; rfl
  · rw [if_neg (by rw [e, q]; simp)]; rfl
theorem s3_member (hC : CR0 c m r) (hn : NumW r) (hh : h < hrs r) (hk : k < 3) : f_X3_member c (nI h) (nI k) m = some (r (79 + 10 * h + k)) := by
  have h30 := hn.2.2.1
  unfold f_X3_member
  rw [hC.hearings, hn.2.2.2, if_neg (by rw [pz_not0 (by omega)]; exact id), if_neg (by rw [pz_le (by omega) (by omega)]; omega), if_neg (by rw [pz_not0 (by omega)]; exact id), show (3 : Int32) = nI 3 from rfl, if_pos (by rw [pz_lt (by omega) (by omega)]; exact hk),
    pz_mul, pz_add, pz_in (by omega) (by omega), pz_cl (by omega), Nat.mul_comm h 3, hC.chain (by omega) hk, pz_nm]
theorem s2_earns (hC : CR0 c m r) (hn : NumW r) (hp : p < ppl r) (hh : h < 30) : f_X2_earns c (nI p) (nI h) (bI (decide (1 < k))) m = some (earnR r p h (decide (1 < k))) := by
  have h10 := hn.1
  unfold f_X2_earns
  rw [hC.people, hn.2.1, if_neg (by rw [pz_not0 (by omega)]; exact id), if_pos (by rw [pz_lt (by omega) (by omega)]; exact hp), pz_in (by omega) (by omega), pz_cl (by omega), hC.rate (by omega), pz_nm, pz_in hh (by omega), pz_cl (by omega), hC.length hh, pz_nm, bI_ite, hC.setting (by omega)]
  unfold earnR
  cases decide (1 < k) <;> rfl
theorem s2_payOf (hC : CR0 c m r) (hn : NumW r) (hc : ChW r h) (hh : h < hrs r) (hk : k < szN r h) : f_X2_payOf c (nI h) (nI k) x m = some (earnR r (mbN r h k) h (decide (1 < szN r h)) * x / 2) := by
  have h30 := hn.2.2.1
  have h3 := hc.1
  obtain ⟨h1, h2⟩ := hc.2.2.1 k hk
  unfold f_X2_payOf
  rw [s3_member hC hn hh (by omega), pz_bnd, pz_in (by omega) (by omega), pz_cl (by omega), hC.size (by omega), pz_nm, hc.2.1, h2]
  have e : (if nI (szN r h) ≤ 1 then some (0 : Int32) else some 1) = some (bI (decide (1 < szN r h))) := by
    have e1 : (nI (szN r h) ≤ 1) = (szN r h ≤ 1) := by rw [pz_1, pz_le (by omega) (by omega)]
    by_cases q : 1 < szN r h
    · rw [if_neg (by rw [e1]; omega)]; simp [q, bI]
    · rw [if_pos (by rw [e1]; omega)]; simp [q, bI]
  rw [e, pz_bnd, s2_earns hC hn h1 (by omega), pz_bnd]
theorem s2_chainPay (hC : CR0 c m r) (hn : NumW r) (hc : ChW r h) (hh : h < hrs r) : f_X2_chainPay c (nI h) x m = some (payR r h x) := by
  have h30 := hn.2.2.1
  have h3 := hc.1
  unfold f_X2_chainPay
  have e : lp (f_X2_chainPay_L5 c (nI h) x m) 1000000 (0, 0) = some (payR r h x) := by
    refine lp_cnt (fun k => (payN r h x k, nI k)) (N := szN r h) (fun k hk => ?_) ?_ (by omega)
    · rw [f_X2_chainPay_L5, pz_in (by omega) (by omega), pz_cl (by omega), hC.size (by omega), pz_nm, hc.2.1, if_neg (by rw [pz_le (by omega) (by omega)]; omega), s2_payOf hC hn hc hh hk, pz_bnd, pz_s, pz_nm]
      rfl
    · rw [f_X2_chainPay_L5, pz_in (by omega) (by omega), pz_cl (by omega), hC.size (by omega), pz_nm, hc.2.1, if_pos (by rw [pz_le (by omega) (by omega)]; omega)]
      rfl
  rw [e, pz_bnd]
theorem s2_payByNotice (hC : CR0 c m r) : f_X2_payByNotice c x m = some (halv r x) := by
  unfold f_X2_payByNotice halv
  rw [hC.setting (by omega), hC.setting (by omega)]
  by_cases h1 : r 4 ≤ x <;> by_cases h2 : r 5 ≤ x <;> simp [h1, h2]
/-- what vacating would cost -/
def vacR (r : Row) (h : Nat) (x : Int32) : Int32 :=
  if lst r h = false ∨ r (73 + 10 * h + 2) - r 9 - x ≤ 0 then -1 else payR r h (halv r (r (73 + 10 * h + 2) - r 9 - x))
theorem s3_busyFor (hC : CR c m r) (hn : NumW r) (hw : ∀ o, o < hrs r → ChW r o) (hh : h < 30) : ∃ M, f_X3_busyFor c (nI h) m = some M ∧ MK M (fun p => busy r (nI p) h) := by
  have h30 := hn.2.2.1
  have e : ∃ M, lp (f_X3_busyFor_L4 c (nI h) m) 1000000 (0, 0) = some M ∧ MK M (fun p => busy r (nI p) h) := by
    refine lp_inv (fun i (s : Int32 × Int32) => s.2 = nI i ∧ MK s.1 (fun p => busyN r (nI p) h i)) (N := hrs r) (fun i s hi hI => ?_) (fun s hI => ?_) (0, 0) ⟨rfl, MK.none⟩ (by omega)
    · obtain ⟨M, w⟩ := s
      obtain ⟨rfl, hM⟩ := hI
      rw [f_X3_busyFor_L4, hC.1.hearings, hn.2.2.2, if_neg (by rw [pz_le (by omega) (by omega)]; omega), s3_lac hC.1 (by omega) hh, pz_bnd, bI_ite, pz_s, pz_in (by omega) (by omega), pz_cl (by omega), hC.2 i hi]
      cases q : (decide (i ≠ h) && (lst r i && clsh r i h))
      · refine ⟨_, rfl, rfl, hM.cong fun p hp => ?_⟩
        rw [busyN]
        revert q
        cases decide (i ≠ h) <;> cases lst r i <;> cases clsh r i h <;> simp
      · refine ⟨_, rfl, rfl, (hM.or (msk_MK hn.1 (hw i hi))).cong fun p hp => ?_⟩
        rw [busyN]
        revert q
        cases decide (i ≠ h) <;> cases lst r i <;> cases clsh r i h <;> simp
    · obtain ⟨M, w⟩ := s
      obtain ⟨rfl, hM⟩ := hI
      rw [f_X3_busyFor_L4, hC.1.hearings, hn.2.2.2, if_pos (by rw [pz_le (by omega) (by omega)]; omega)]
      exact ⟨M, rfl, hM⟩
  obtain ⟨M, e, hM⟩ := e
  exact ⟨M, by rw [f_X3_busyFor, e, pz_bnd], hM⟩
end CLASS
