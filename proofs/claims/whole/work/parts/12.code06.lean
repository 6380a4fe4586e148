def f_X8_vacatedThen (p1 : Int32) (p2 : Int32) (m0 : Mem) : Option Int32 :=
  bnd (f_X8_of p1 2 m0) fun x2 => nm (m0.1 163 (9 : Int32).toNatClampNeg) fun x3 => bnd (f_X8_isListed p1 m0) fun x5 => (if x5 = 0 then some (-1) else (if 0 < ((x2 - x3) - p2) then bnd (f_X8_halvesBy ((x2 - x3) - p2) m0) fun x9 => bnd (f_X8_payFor p1 x9 m0) fun x11 => some x11 else some (-1)))
set_option maxRecDepth 100000 in
set_option maxHeartbeats 4000000 in
theorem m_X8_vacatedThen {p1 : Int32} {p2 : Int32} {m0 : Mem} {rr : Int32} (h : f_X8_vacatedThen p1 p2 m0 = some rr) : Con yX8_vacatedThen cX8_vacatedThen 4 (some Jvm.ClassFile.FieldType.int) 3 71 (fun G => [.ref (ga G 162), .int p1, .int p2]) m0 (some (.int rr)) m0 := by
  refine con_of (lv := []) (by decide) (fun G => Nat.le_of_ble_eq_true rfl) (fun X F => ?_)
  show WA X 0 0 0 [(0, .ref (ga X.G 162)), (1, .int p1), (2, .int p2)] [] m0 (EQ X (some (.int rr)) m0)
  rw [f_X8_vacatedThen] at h
  refine a_aload_n (pc := 0) F dX8_vacatedThen_0 0 rfl ?_
  refine a_iload_n (pc := 1) F dX8_vacatedThen_1 1 rfl ?_
  refine a_iconst (v := 2) (pc := 2) F dX8_vacatedThen_2 (by decide) ?_
  replace h := bnd_some h
  obtain ⟨x2, hc1, h⟩ := h
  refine a_callV (pc := 3) (k := 162) (As := [.int p1, .int 2]) (st := []) F dX8_vacatedThen_3 (m_X8_of hc1) cv_RX8_42 kl_162 ks_162 ⟨_, _, rfl⟩ rfl rfl rfl (Nat.le_of_ble_eq_true rfl) ⟨Nat.le_of_ble_eq_true rfl, Nat.le_of_ble_eq_true rfl⟩ ?_ rfl rfl
  clear hc1
  refine a_aload_n (pc := 6) F dX8_vacatedThen_6 0 rfl ?_
  refine a_getr (k := 162) (r := 163) (pc := 7) F dX8_vacatedThen_7 fl_RX8_7 kl_162 ks_162 rfl ?_
  refine a_bipush (v := 9) (pc := 10) F dX8_vacatedThen_10 (by decide) ?_
  refine a_ial (k := 163) (pc := 12) F dX8_vacatedThen_12 kl_163 ks_163 (vp_lit rfl) ?_
  refine a_nmi fun x3 ex3 => ?_
  replace h := nm_at ex3 h
  clear ex3
  refine a_isub (pc := 13) F dX8_vacatedThen_13 ?_
  refine a_iload_n (pc := 14) F dX8_vacatedThen_14 2 rfl ?_
  refine a_isub (pc := 15) F dX8_vacatedThen_15 ?_
  refine a_istore_n (lv' := [(3, .int ((x2 - x3) - p2)), (0, .ref (ga X.G 162)), (1, .int p1), (2, .int p2)]) (pc := 16) F dX8_vacatedThen_16 (by decide) rfl ?_
  refine a_aload_n (pc := 17) F dX8_vacatedThen_17 1 rfl ?_
  refine a_iload_n (pc := 18) F dX8_vacatedThen_18 2 rfl ?_
  replace h := bnd_some h
  obtain ⟨x5, hc4, h⟩ := h
  refine a_callV (pc := 19) (k := 162) (As := [.int p1]) (st := []) F dX8_vacatedThen_19 (m_X8_isListed hc4) cv_RX8_50 kl_162 ks_162 ⟨_, _, rfl⟩ rfl rfl rfl (Nat.le_of_ble_eq_true rfl) ⟨Nat.le_of_ble_eq_true rfl, Nat.le_of_ble_eq_true rfl⟩ ?_ rfl rfl
  clear hc4
  refine a_if_eq (tgt := 29) (pc := 22) F dX8_vacatedThen_22 (by decide) (fun q6 => ?_) (fun q6 => ?_)
  · replace h := ite_t q6 h
    clear q6
    refine a_iconst (v := (-1)) (pc := 29) F dX8_vacatedThen_29 (by decide) ?_
    refine a_goto (tgt := 43) (pc := 30) F dX8_vacatedThen_30 (by decide) ?_
    cases h
    exact a_iret (pc := 43) F dX8_vacatedThen_43 ⟨_, rfl, rfl⟩
  · replace h := ite_f q6 h
    clear q6
    refine a_iload_n (pc := 25) F dX8_vacatedThen_25 0 rfl ?_
    refine a_if_gt (tgt := 33) (pc := 26) F dX8_vacatedThen_26 (by decide) (fun q7 => ?_) (fun q7 => ?_)
    · replace h := ite_t q7 h
      clear q7
      refine a_aload_n (pc := 33) F dX8_vacatedThen_33 1 rfl ?_
      refine a_iload_n (pc := 34) F dX8_vacatedThen_34 2 rfl ?_
      refine a_aload_n (pc := 35) F dX8_vacatedThen_35 1 rfl ?_
      refine a_iload_n (pc := 36) F dX8_vacatedThen_36 0 rfl ?_
      replace h := bnd_some h
      obtain ⟨x9, hc8, h⟩ := h
      refine a_callV (pc := 37) (k := 162) (As := [.int ((x2 - x3) - p2)]) (st := [.int p1, .ref (ga X.G 162)]) F dX8_vacatedThen_37 (m_X8_halvesBy hc8) cv_RX8_128 kl_162 ks_162 ⟨_, _, rfl⟩ rfl rfl rfl (Nat.le_of_ble_eq_true rfl) ⟨Nat.le_of_ble_eq_true rfl, Nat.le_of_ble_eq_true rfl⟩ ?_ rfl rfl
      clear hc8
      replace h := bnd_some h
      obtain ⟨x11, hc10, h⟩ := h
      refine a_callV (pc := 40) (k := 162) (As := [.int p1, .int x9]) (st := []) F dX8_vacatedThen_40 (m_X8_payFor hc10) cv_RX8_65 kl_162 ks_162 ⟨_, _, rfl⟩ rfl rfl rfl (Nat.le_of_ble_eq_true rfl) ⟨Nat.le_of_ble_eq_true rfl, Nat.le_of_ble_eq_true rfl⟩ ?_ rfl rfl
      clear hc10
      cases h
      exact a_iret (pc := 43) F dX8_vacatedThen_43 ⟨_, rfl, rfl⟩
    · replace h := ite_f q7 h
      clear q7
      refine a_iconst (v := (-1)) (pc := 29) F dX8_vacatedThen_29 (by decide) ?_
      refine a_goto (tgt := 43) (pc := 30) F dX8_vacatedThen_30 (by decide) ?_
      cases h
      exact a_iret (pc := 43) F dX8_vacatedThen_43 ⟨_, rfl, rfl⟩
def f_X8_ifVacated (p1 : Int32) (p2 : Int32) (m0 : Mem) : Option (Int32 × Mem) :=
  bnd (f_X8_isHearing p1 m0) fun x2 => bnd ((if x2 = 0 then some 1 else bnd (f_X8_within p2 0 2000 m0) fun x6 => (if x6 = 0 then some 2 else some 0))) (fun (x8 : Int32) => nm (si m0 162 5 x8) fun m9 => (if (m9.1 162 5) ≤ 0 then bnd (f_X8_vacatedThen p1 p2 m9) fun x12 => some (x12, m9) else some (0, m9)))
set_option maxRecDepth 100000 in
set_option maxHeartbeats 4000000 in
theorem m_X8_ifVacated {p1 : Int32} {p2 : Int32} {m0 : Mem} {rr : Int32} {mm : Mem} (h : f_X8_ifVacated p1 p2 m0 = some (rr, mm)) : Con yX8_ifVacated cX8_ifVacated 3 (some Jvm.ClassFile.FieldType.int) 4 94 (fun G => [.ref (ga G 162), .int p1, .int p2]) m0 (some (.int rr)) mm := by
  refine con_of (lv := []) (by decide) (fun G => Nat.le_of_ble_eq_true rfl) (fun X F => ?_)
  show WA X 0 0 0 [(0, .ref (ga X.G 162)), (1, .int p1), (2, .int p2)] [] m0 (EQ X (some (.int rr)) mm)
  rw [f_X8_ifVacated] at h
  refine a_aload_n (pc := 0) F dX8_ifVacated_0 0 rfl ?_
  refine a_aload_n (pc := 1) F dX8_ifVacated_1 0 rfl ?_
  refine a_iload_n (pc := 2) F dX8_ifVacated_2 1 rfl ?_
  replace h := bnd_some h
  obtain ⟨x2, hc1, h⟩ := h
  refine a_callV (pc := 3) (k := 162) (As := [.int p1]) (st := [.ref (ga X.G 162)]) F dX8_ifVacated_3 (m_X8_isHearing hc1) cv_RX8_109 kl_162 ks_162 ⟨_, _, rfl⟩ rfl rfl rfl (Nat.le_of_ble_eq_true rfl) ⟨Nat.le_of_ble_eq_true rfl, Nat.le_of_ble_eq_true rfl⟩ ?_ rfl rfl
  clear hc1
  replace h := bnd_some h
  obtain ⟨x8, hR3, h⟩ := h
  have hJ3 : WA X 0 0 29 [(0, .ref (ga X.G 162)), (1, .int p1), (2, .int p2)] [.int x8, .ref (ga X.G 162)] m0 (EQ X (some (.int rr)) mm) := by
    refine a_puti (k := 162) (pc := 29) F dX8_ifVacated_29 fp_RX8_31 kl_162 ks_162 rfl ?_
    refine a_nmm fun m9 em9 => ?_
    replace h := nm_at em9 h
    clear em9
    refine a_aload_n (pc := 32) F dX8_ifVacated_32 0 rfl ?_
    refine a_geti (k := 162) (pc := 33) F dX8_ifVacated_33 fl_RX8_31 kl_162 ks_162 rfl ?_
    refine a_if_le (tgt := 43) (pc := 36) F dX8_ifVacated_36 (by decide) (fun q10 => ?_) (fun q10 => ?_)
    · replace h := ite_t q10 h
      clear q10
      refine a_aload_n (pc := 43) F dX8_ifVacated_43 0 rfl ?_
      refine a_iload_n (pc := 44) F dX8_ifVacated_44 1 rfl ?_
      refine a_iload_n (pc := 45) F dX8_ifVacated_45 2 rfl ?_
      replace h := bnd_some h
      obtain ⟨x12, hc11, h⟩ := h
      refine a_callV (pc := 46) (k := 162) (As := [.int p1, .int p2]) (st := []) F dX8_ifVacated_46 (m_X8_vacatedThen hc11) cv_RX8_227 kl_162 ks_162 ⟨_, _, rfl⟩ rfl rfl rfl (Nat.le_of_ble_eq_true rfl) ⟨Nat.le_of_ble_eq_true rfl, Nat.le_of_ble_eq_true rfl⟩ ?_ rfl rfl
      clear hc11
      cases h
      exact a_iret (pc := 49) F dX8_ifVacated_49 ⟨_, rfl, rfl⟩
    · replace h := ite_f q10 h
      clear q10
      refine a_iconst (v := 0) (pc := 39) F dX8_ifVacated_39 (by decide) ?_
      refine a_goto (tgt := 49) (pc := 40) F dX8_ifVacated_40 (by decide) ?_
      cases h
      exact a_iret (pc := 49) F dX8_ifVacated_49 ⟨_, rfl, rfl⟩
  clear h
  have h := hR3
  clear hR3
  refine a_if_ne (tgt := 13) (pc := 6) F dX8_ifVacated_6 (by decide) (fun q4 => ?_) (fun q4 => ?_)
  · replace h := ite_f q4 h
    clear q4
    refine a_iload_n (pc := 13) F dX8_ifVacated_13 2 rfl ?_
    refine a_iconst (v := 0) (pc := 14) F dX8_ifVacated_14 (by decide) ?_
    refine a_sipush (v := 2000) (pc := 15) F dX8_ifVacated_15 (by decide) ?_
    replace h := bnd_some h
    obtain ⟨x6, hc5, h⟩ := h
    refine a_callS (pc := 18) (As := [.int p2, .int 0, .int 2000]) (st := [.ref (ga X.G 162)]) F dX8_ifVacated_18 (m_X8_within hc5) cs_RX8_38 rfl rfl rfl (Nat.le_of_ble_eq_true rfl) ⟨Nat.le_of_ble_eq_true rfl, Nat.le_of_ble_eq_true rfl⟩ ?_ rfl rfl
    clear hc5
    refine a_if_eq (tgt := 28) (pc := 21) F dX8_ifVacated_21 (by decide) (fun q7 => ?_) (fun q7 => ?_)
    · replace h := ite_t q7 h
      clear q7
      refine a_iconst (v := 2) (pc := 28) F dX8_ifVacated_28 (by decide) ?_
      cases h
      exact hJ3
    · replace h := ite_f q7 h
      clear q7
      refine a_iconst (v := 0) (pc := 24) F dX8_ifVacated_24 (by decide) ?_
      refine a_goto (tgt := 29) (pc := 25) F dX8_ifVacated_25 (by decide) ?_
      cases h
      exact hJ3
  · replace h := ite_t (Decidable.not_not.mp q4) h
    clear q4
    refine a_iconst (v := 1) (pc := 9) F dX8_ifVacated_9 (by decide) ?_
    refine a_goto (tgt := 29) (pc := 10) F dX8_ifVacated_10 (by decide) ?_
    cases h
    exact hJ3
def f_X8_mannableNow_L8 : (Int32 × Int32 × Mem) → Option ((Int32 × Int32 × Mem) ⊕ (Int32 × Mem))
  | (x4, x5, m6) => nm (m6.1 163 (8 : Int32).toNatClampNeg) fun x7 => (if x7 ≤ x5 then some (.inr (x4, m6)) else bnd (f_X8_isOpen x5 m6) fun x10 => (if x10 = 0 then nm (x5 + 1) fun x12 => some (.inl (x4, x12, m6)) else bnd (f_X8_of x5 5 m6) fun x14 => (if x14 = 0 then bnd2 (f_X8_layCheapest x5 m6) fun x18 m19 => (if x18 = 0 then nm (x5 + 1) fun x21 => some (.inl (x4, x21, m19)) else nm (m19.1 168 (0 : Int32).toNatClampNeg) fun x22 => nm (m19.1 168 (1 : Int32).toNatClampNeg) fun x23 => nm (m19.1 168 (2 : Int32).toNatClampNeg) fun x24 => bnd (f_X8_lay x22 x23 x24 m19) fun m26 => bnd (f_X8_assignTried x5 m26) fun m28 => nm (x4 + 1) fun x29 => nm (x5 + 1) fun x30 => some (.inl (x29, x30, m28))) else nm (x5 + 1) fun x16 => some (.inl (x4, x16, m6)))))
def f_X8_mannableNow (m0 : Mem) : Option (Int32 × Mem) :=
  bnd (f_X8_keep m0) fun m2 => bnd (lp (f_X8_mannableNow_L8) 1000000 (0, 0, m2)) (fun (x31, m32) => bnd (f_X8_layBack m32) fun m34 => some (x31, m34))
set_option maxRecDepth 100000 in
set_option maxHeartbeats 4000000 in
theorem m_X8_mannableNow {m0 : Mem} {rr : Int32} {mm : Mem} (h : f_X8_mannableNow m0 = some (rr, mm)) : Con yX8_mannableNow cX8_mannableNow 3 (some Jvm.ClassFile.FieldType.int) 8 184 (fun G => [.ref (ga G 162)]) m0 (some (.int rr)) mm := by
  refine con_of (lv := []) (by decide) (fun G => Nat.le_of_ble_eq_true rfl) (fun X F => ?_)
  show WA X 0 0 0 [(0, .ref (ga X.G 162))] [] m0 (EQ X (some (.int rr)) mm)
  rw [f_X8_mannableNow] at h
  refine a_aload_n (pc := 0) F dX8_mannableNow_0 0 rfl ?_
  replace h := bnd_some h
  obtain ⟨m2, hc1, h⟩ := h
  refine a_callV (pc := 1) (k := 162) (As := []) (st := []) F dX8_mannableNow_1 (m_X8_keep hc1) cv_RX8_218 kl_162 ks_162 ⟨_, _, rfl⟩ rfl rfl rfl (Nat.le_of_ble_eq_true rfl) ⟨Nat.le_of_ble_eq_true rfl, Nat.le_of_ble_eq_true rfl⟩ ?_ rfl rfl
  clear hc1
  refine a_iconst (v := 0) (pc := 4) F dX8_mannableNow_4 (by decide) ?_
  refine a_istore_n (lv' := [(1, .int 0), (0, .ref (ga X.G 162))]) (pc := 5) F dX8_mannableNow_5 (by decide) rfl ?_
  refine a_iconst (v := 0) (pc := 6) F dX8_mannableNow_6 (by decide) ?_
  refine a_istore_n (lv' := [(2, .int 0), (1, .int 0), (0, .ref (ga X.G 162))]) (pc := 7) F dX8_mannableNow_7 (by decide) rfl ?_
  refine a_lv F [2, 1, 0] rfl ?_
  replace h := bnd_some h
  obtain ⟨⟨x31, m32⟩, hL3, h⟩ := h
  have hE3 : WA X 0 0 80 [(0, .ref (ga X.G 162)), (1, .int x31)] [] m32 (EQ X (some (.int rr)) mm) := by
    refine a_aload_n (pc := 80) F dX8_mannableNow_80 0 rfl ?_
    replace h := bnd_some h
    obtain ⟨m34, hc33, h⟩ := h
    refine a_callV (pc := 81) (k := 162) (As := []) (st := []) F dX8_mannableNow_81 (m_X8_layBack hc33) cv_RX8_221 kl_162 ks_162 ⟨_, _, rfl⟩ rfl rfl rfl (Nat.le_of_ble_eq_true rfl) ⟨Nat.le_of_ble_eq_true rfl, Nat.le_of_ble_eq_true rfl⟩ ?_ rfl rfl
    clear hc33
    refine a_iload_n (pc := 84) F dX8_mannableNow_84 1 rfl ?_
    cases h
    exact a_iret (pc := 85) F dX8_mannableNow_85 ⟨_, rfl, rfl⟩
  clear h
  refine lp_run (P := fun (s : (Int32 × Int32 × Mem)) => WA X 0 0 8 [(0, .ref (ga X.G 162)), (1, .int s.1), (2, .int s.2.1)] [] s.2.2 (EQ X (some (.int rr)) mm)) ?_ _ _ hL3
  clear hL3
  rintro ⟨x4, x5, m6⟩ xo h hP3 hT3
  show WA X 0 0 8 [(0, .ref (ga X.G 162)), (1, .int x4), (2, .int x5)] [] m6 (EQ X (some (.int rr)) mm)
  rw [f_X8_mannableNow_L8] at h
  refine a_iload_n (pc := 8) F dX8_mannableNow_8 2 rfl ?_
  refine a_aload_n (pc := 9) F dX8_mannableNow_9 0 rfl ?_
  refine a_getr (k := 162) (r := 163) (pc := 10) F dX8_mannableNow_10 fl_RX8_7 kl_162 ks_162 rfl ?_
  refine a_bipush (v := 8) (pc := 13) F dX8_mannableNow_13 (by decide) ?_
  refine a_ial (k := 163) (pc := 15) F dX8_mannableNow_15 kl_163 ks_163 (vp_lit rfl) ?_
  refine a_nmi fun x7 ex7 => ?_
  replace h := nm_at ex7 h
  clear ex7
  refine a_icmp_ge (tgt := 80) (pc := 16) F dX8_mannableNow_16 (by decide) (fun q8 => ?_) (fun q8 => ?_)
  · replace h := ite_t q8 h
    clear q8
    refine a_lv F [0, 1] rfl ?_
    cases hT3 _ (Option.some.inj h).symm
    exact hE3
  · replace h := ite_f q8 h
    clear q8
    refine a_aload_n (pc := 19) F dX8_mannableNow_19 0 rfl ?_
    refine a_iload_n (pc := 20) F dX8_mannableNow_20 2 rfl ?_
    replace h := bnd_some h
    obtain ⟨x10, hc9, h⟩ := h
    refine a_callV (pc := 21) (k := 162) (As := [.int x5]) (st := []) F dX8_mannableNow_21 (m_X8_isOpen hc9) cv_RX8_125 kl_162 ks_162 ⟨_, _, rfl⟩ rfl rfl rfl (Nat.le_of_ble_eq_true rfl) ⟨Nat.le_of_ble_eq_true rfl, Nat.le_of_ble_eq_true rfl⟩ ?_ rfl rfl
    clear hc9
    refine a_if_eq (tgt := 74) (pc := 24) F dX8_mannableNow_24 (by decide) (fun q11 => ?_) (fun q11 => ?_)
    · replace h := ite_t q11 h
      clear q11
      obtain ⟨x12, ex12⟩ : ∃ x12 : Int32, x12 = x5 + 1 := ⟨_, rfl⟩
      refine a_iinc (v := x12) (lv' := [(2, .int x12), (0, .ref (ga X.G 162)), (1, .int x4)]) (pc := 74) F dX8_mannableNow_74 2 rfl (by rw [ex12]; rfl) (by decide) rfl ?_
      replace h := nm_at ex12 h
      clear ex12
      refine a_goto (tgt := 8) (pc := 77) F dX8_mannableNow_77 (by decide) ?_
      refine a_lv F [1, 2, 0] rfl ?_
      exact hP3 _ (Option.some.inj h).symm
    · replace h := ite_f q11 h
      clear q11
      refine a_aload_n (pc := 27) F dX8_mannableNow_27 0 rfl ?_
      refine a_iload_n (pc := 28) F dX8_mannableNow_28 2 rfl ?_
      refine a_iconst (v := 5) (pc := 29) F dX8_mannableNow_29 (by decide) ?_
      replace h := bnd_some h
      obtain ⟨x14, hc13, h⟩ := h
      refine a_callV (pc := 30) (k := 162) (As := [.int x5, .int 5]) (st := []) F dX8_mannableNow_30 (m_X8_of hc13) cv_RX8_42 kl_162 ks_162 ⟨_, _, rfl⟩ rfl rfl rfl (Nat.le_of_ble_eq_true rfl) ⟨Nat.le_of_ble_eq_true rfl, Nat.le_of_ble_eq_true rfl⟩ ?_ rfl rfl
      clear hc13
      refine a_if_ne (tgt := 74) (pc := 33) F dX8_mannableNow_33 (by decide) (fun q15 => ?_) (fun q15 => ?_)
      · replace h := ite_f q15 h
        clear q15
        obtain ⟨x16, ex16⟩ : ∃ x16 : Int32, x16 = x5 + 1 := ⟨_, rfl⟩
        refine a_iinc (v := x16) (lv' := [(2, .int x16), (0, .ref (ga X.G 162)), (1, .int x4)]) (pc := 74) F dX8_mannableNow_74 2 rfl (by rw [ex16]; rfl) (by decide) rfl ?_
        replace h := nm_at ex16 h
        clear ex16
        refine a_goto (tgt := 8) (pc := 77) F dX8_mannableNow_77 (by decide) ?_
        refine a_lv F [1, 2, 0] rfl ?_
        exact hP3 _ (Option.some.inj h).symm
      · replace h := ite_t (Decidable.not_not.mp q15) h
        clear q15
        refine a_aload_n (pc := 36) F dX8_mannableNow_36 0 rfl ?_
        refine a_iload_n (pc := 37) F dX8_mannableNow_37 2 rfl ?_
        replace h := bnd2_some h
        obtain ⟨x18, m19, hc17, h⟩ := h
        refine a_callV (pc := 38) (k := 162) (As := [.int x5]) (st := []) F dX8_mannableNow_38 (m_X8_layCheapest hc17) cv_RX8_212 kl_162 ks_162 ⟨_, _, rfl⟩ rfl rfl rfl (Nat.le_of_ble_eq_true rfl) ⟨Nat.le_of_ble_eq_true rfl, Nat.le_of_ble_eq_true rfl⟩ ?_ rfl rfl
        clear hc17
        refine a_if_eq (tgt := 74) (pc := 41) F dX8_mannableNow_41 (by decide) (fun q20 => ?_) (fun q20 => ?_)
        · replace h := ite_t q20 h
          clear q20
          obtain ⟨x21, ex21⟩ : ∃ x21 : Int32, x21 = x5 + 1 := ⟨_, rfl⟩
          refine a_iinc (v := x21) (lv' := [(2, .int x21), (0, .ref (ga X.G 162)), (1, .int x4)]) (pc := 74) F dX8_mannableNow_74 2 rfl (by rw [ex21]; rfl) (by decide) rfl ?_
          replace h := nm_at ex21 h
          clear ex21
          refine a_goto (tgt := 8) (pc := 77) F dX8_mannableNow_77 (by decide) ?_
          refine a_lv F [1, 2, 0] rfl ?_
          exact hP3 _ (Option.some.inj h).symm
        · replace h := ite_f q20 h
          clear q20
          refine a_aload_n (pc := 44) F dX8_mannableNow_44 0 rfl ?_
          refine a_aload_n (pc := 45) F dX8_mannableNow_45 0 rfl ?_
          refine a_getr (k := 162) (r := 168) (pc := 46) F dX8_mannableNow_46 fl_RX8_25 kl_162 ks_162 rfl ?_
          refine a_iconst (v := 0) (pc := 49) F dX8_mannableNow_49 (by decide) ?_
          refine a_ial (k := 168) (pc := 50) F dX8_mannableNow_50 kl_168 ks_168 (vp_lit rfl) ?_
          refine a_nmi fun x22 ex22 => ?_
          replace h := nm_at ex22 h
          clear ex22
          refine a_aload_n (pc := 51) F dX8_mannableNow_51 0 rfl ?_
          refine a_getr (k := 162) (r := 168) (pc := 52) F dX8_mannableNow_52 fl_RX8_25 kl_162 ks_162 rfl ?_
          refine a_iconst (v := 1) (pc := 55) F dX8_mannableNow_55 (by decide) ?_
          refine a_ial (k := 168) (pc := 56) F dX8_mannableNow_56 kl_168 ks_168 (vp_lit rfl) ?_
          refine a_nmi fun x23 ex23 => ?_
          replace h := nm_at ex23 h
          clear ex23
          refine a_aload_n (pc := 57) F dX8_mannableNow_57 0 rfl ?_
          refine a_getr (k := 162) (r := 168) (pc := 58) F dX8_mannableNow_58 fl_RX8_25 kl_162 ks_162 rfl ?_
          refine a_iconst (v := 2) (pc := 61) F dX8_mannableNow_61 (by decide) ?_
          refine a_ial (k := 168) (pc := 62) F dX8_mannableNow_62 kl_168 ks_168 (vp_lit rfl) ?_
          refine a_nmi fun x24 ex24 => ?_
          replace h := nm_at ex24 h
          clear ex24
          replace h := bnd_some h
          obtain ⟨m26, hc25, h⟩ := h
          refine a_callV (pc := 63) (k := 162) (As := [.int x22, .int x23, .int x24]) (st := []) F dX8_mannableNow_63 (m_X8_lay hc25) cv_RX8_112 kl_162 ks_162 ⟨_, _, rfl⟩ rfl rfl rfl (Nat.le_of_ble_eq_true rfl) ⟨Nat.le_of_ble_eq_true rfl, Nat.le_of_ble_eq_true rfl⟩ ?_ rfl rfl
          clear hc25
          refine a_aload_n (pc := 66) F dX8_mannableNow_66 0 rfl ?_
          refine a_iload_n (pc := 67) F dX8_mannableNow_67 2 rfl ?_
          replace h := bnd_some h
          obtain ⟨m28, hc27, h⟩ := h
          refine a_callV (pc := 68) (k := 162) (As := [.int x5]) (st := []) F dX8_mannableNow_68 (m_X8_assignTried hc27) cv_RX8_121 kl_162 ks_162 ⟨_, _, rfl⟩ rfl rfl rfl (Nat.le_of_ble_eq_true rfl) ⟨Nat.le_of_ble_eq_true rfl, Nat.le_of_ble_eq_true rfl⟩ ?_ rfl rfl
          clear hc27
          obtain ⟨x29, ex29⟩ : ∃ x29 : Int32, x29 = x4 + 1 := ⟨_, rfl⟩
          refine a_iinc (v := x29) (lv' := [(1, .int x29), (0, .ref (ga X.G 162)), (2, .int x5)]) (pc := 71) F dX8_mannableNow_71 1 rfl (by rw [ex29]; rfl) (by decide) rfl ?_
          replace h := nm_at ex29 h
          clear ex29
          obtain ⟨x30, ex30⟩ : ∃ x30 : Int32, x30 = x5 + 1 := ⟨_, rfl⟩
          refine a_iinc (v := x30) (lv' := [(2, .int x30), (1, .int x29), (0, .ref (ga X.G 162))]) (pc := 74) F dX8_mannableNow_74 2 rfl (by rw [ex30]; rfl) (by decide) rfl ?_
          replace h := nm_at ex30 h
          clear ex30
          refine a_goto (tgt := 8) (pc := 77) F dX8_mannableNow_77 (by decide) ?_
          refine a_lv F [2, 1, 0] rfl ?_
          exact hP3 _ (Option.some.inj h).symm
def f_X8_mannable (m0 : Mem) : Option (Int32 × Mem) :=
  nm (si m0 162 5 0) fun m1 => bnd2 (f_X8_mannableNow m1) fun x3 m4 => some (x3, m4)
set_option maxRecDepth 100000 in
set_option maxHeartbeats 4000000 in
theorem m_X8_mannable {m0 : Mem} {rr : Int32} {mm : Mem} (h : f_X8_mannable m0 = some (rr, mm)) : Con yX8_mannable cX8_mannable 1 (some Jvm.ClassFile.FieldType.int) 9 206 (fun G => [.ref (ga G 162)]) m0 (some (.int rr)) mm := by
  refine con_of (lv := []) (by decide) (fun G => Nat.le_of_ble_eq_true rfl) (fun X F => ?_)
  show WA X 0 0 0 [(0, .ref (ga X.G 162))] [] m0 (EQ X (some (.int rr)) mm)
  rw [f_X8_mannable] at h
  refine a_aload_n (pc := 0) F dX8_mannable_0 0 rfl ?_
  refine a_iconst (v := 0) (pc := 1) F dX8_mannable_1 (by decide) ?_
  refine a_puti (k := 162) (pc := 2) F dX8_mannable_2 fp_RX8_31 kl_162 ks_162 rfl ?_
  refine a_nmm fun m1 em1 => ?_
  replace h := nm_at em1 h
  clear em1
  refine a_aload_n (pc := 5) F dX8_mannable_5 0 rfl ?_
  replace h := bnd2_some h
  obtain ⟨x3, m4, hc2, h⟩ := h
  refine a_callV (pc := 6) (k := 162) (As := []) (st := []) F dX8_mannable_6 (m_X8_mannableNow hc2) cv_RX8_230 kl_162 ks_162 ⟨_, _, rfl⟩ rfl rfl rfl (Nat.le_of_ble_eq_true rfl) ⟨Nat.le_of_ble_eq_true rfl, Nat.le_of_ble_eq_true rfl⟩ ?_ rfl rfl
  clear hc2
  cases h
  exact a_iret (pc := 9) F dX8_mannable_9 ⟨_, rfl, rfl⟩
def f_X8_missingNow_L61 (p1 : Int32) (m0 : Mem) (x3 : Int32) (x12 : Int32) : (Int32 × Int32) → Option ((Int32 × Int32) ⊕ Int32)
  | (x17, x18) => (if 100 ≤ x18 then some (.inr x17) else bnd (f_X8_isPerson (x18 / 10) m0) fun x21 => bnd ((if x21 = 0 then some 0 else (if (x18 / 10) = x3 then some 0 else gIn (23 + (x18 / 10)) 373 <| nm (m0.1 163 (23 + (x18 / 10)).toNatClampNeg) fun x26 => nm ((x26 >>> (p1 &&& 31)) &&& 1) fun x27 => (if x27 = 1 then gIn (13 + (x18 / 10)) 373 <| nm (m0.1 163 (13 + (x18 / 10)).toNatClampNeg) fun x30 => (if (x30 &&& x12) = 0 then some 0 else some 1) else some 0)))) (fun (x32 : Int32) => bnd ((if x32 = 0 then some 0 else bnd (f_X8_isPerson (x18 - x18 / 10 * 10) m0) fun x36 => (if x36 = 0 then some 0 else (if (x18 - x18 / 10 * 10) = x3 then some 0 else (if (x18 - x18 / 10 * 10) = (x18 / 10) then some 0 else nm (23 + (x18 - x18 / 10 * 10)) fun x40 => gIn x40 373 <| nm (m0.1 163 x40.toNatClampNeg) fun x42 => nm ((x42 >>> (p1 &&& 31)) &&& 1) fun x43 => (if x43 = 1 then nm (13 + (x18 - x18 / 10 * 10)) fun x45 => gIn x45 373 <| nm (m0.1 163 x45.toNatClampNeg) fun x47 => gIn (13 + (x18 / 10)) 373 <| nm (m0.1 163 (13 + (x18 / 10)).toNatClampNeg) fun x49 => (if (x47 &&& x49) = 0 then some 0 else some 1) else some 0)))))) (fun (x51 : Int32) => (if x17 = 0 then (if x32 = 0 then (if x51 = 0 then nm (x18 + 1) fun x56 => some (.inl (0, x56)) else nm (13 + (x18 - x18 / 10 * 10)) fun x57 => gIn x57 373 <| nm (m0.1 163 x57.toNatClampNeg) fun x59 => (if (x59 &&& 1) = 1 then nm (x18 + 1) fun x62 => some (.inl (1, x62)) else nm (x18 + 1) fun x61 => some (.inl (0, x61)))) else gIn (13 + (x18 / 10)) 373 <| nm (m0.1 163 (13 + (x18 / 10)).toNatClampNeg) fun x64 => (if (x64 &&& 1) = 1 then nm (x18 + 1) fun x66 => some (.inl (1, x66)) else (if x51 = 0 then nm (x18 + 1) fun x68 => some (.inl (0, x68)) else nm (13 + (x18 - x18 / 10 * 10)) fun x69 => gIn x69 373 <| nm (m0.1 163 x69.toNatClampNeg) fun x71 => (if (x71 &&& 1) = 1 then nm (x18 + 1) fun x74 => some (.inl (1, x74)) else nm (x18 + 1) fun x73 => some (.inl (0, x73)))))) else nm (x18 + 1) fun x53 => some (.inl (1, x53))))))
def f_X8_missingNow_L4 (p1 : Int32) (m0 : Mem) : (Int32 × Int32) → Option ((Int32 × Int32) ⊕ Int32)
  | (x2, x3) => nm (m0.1 163 (7 : Int32).toNatClampNeg) fun x4 => (if x4 ≤ x3 then some (.inr x2) else gIn (23 + x3) 373 <| nm (m0.1 163 (23 + x3).toNatClampNeg) fun x7 => nm ((x7 >>> (p1 &&& 31)) &&& 1) fun x8 => (if x8 = 1 then gIn (13 + x3) 373 <| nm (m0.1 163 (13 + x3).toNatClampNeg) fun x12 => bnd ((if (x12 &&& 1) = 1 then some 1 else some 0)) (fun (x15 : Int32) => bnd (lp (f_X8_missingNow_L61 p1 m0 x3 x12) 1000000 (x15, 0)) (fun x75 => (if x75 = 0 then nm (x3 + 1) fun x77 => some (.inl (x2 ||| 0, x77)) else nm (x3 + 1) fun x78 => some (.inl (x2 ||| x12, x78))))) else nm (x3 + 1) fun x10 => some (.inl (x2, x10))))
def f_X8_missingNow (p1 : Int32) (m0 : Mem) : Option Int32 :=
  bnd (lp (f_X8_missingNow_L4 p1 m0) 1000000 (0, 0)) (fun x79 => nm (1022 &&& (x79 ^^^ (-1))) fun x80 => some x80)
set_option maxRecDepth 100000 in
set_option maxHeartbeats 4000000 in
theorem m_X8_missingNow {p1 : Int32} {m0 : Mem} {rr : Int32} (h : f_X8_missingNow p1 m0 = some rr) : Con yX8_missingNow cX8_missingNow 11 (some Jvm.ClassFile.FieldType.int) 2 43 (fun G => [.ref (ga G 162), .int p1]) m0 (some (.int rr)) m0 := by
  refine con_of (lv := []) (by decide) (fun G => Nat.le_of_ble_eq_true rfl) (fun X F => ?_)
  show WA X 0 0 0 [(0, .ref (ga X.G 162)), (1, .int p1)] [] m0 (EQ X (some (.int rr)) m0)
  rw [f_X8_missingNow] at h
  refine a_iconst (v := 0) (pc := 0) F dX8_missingNow_0 (by decide) ?_
  refine a_istore_n (lv' := [(2, .int 0), (0, .ref (ga X.G 162)), (1, .int p1)]) (pc := 1) F dX8_missingNow_1 (by decide) rfl ?_
  refine a_iconst (v := 0) (pc := 2) F dX8_missingNow_2 (by decide) ?_
  refine a_istore_n (lv' := [(3, .int 0), (2, .int 0), (0, .ref (ga X.G 162)), (1, .int p1)]) (pc := 3) F dX8_missingNow_3 (by decide) rfl ?_
  refine a_lv F [2, 3, 1, 0] rfl ?_
  replace h := bnd_some h
  obtain ⟨x79, hL1, h⟩ := h
  have hE1 : WA X 0 0 294 [(2, .int x79)] [] m0 (EQ X (some (.int rr)) m0) := by
    refine a_sipush (v := 1022) (pc := 294) F dX8_missingNow_294 (by decide) ?_
    refine a_iload_n (pc := 297) F dX8_missingNow_297 0 rfl ?_
    refine a_iconst (v := (-1)) (pc := 298) F dX8_missingNow_298 (by decide) ?_
    refine a_ixor (pc := 299) F dX8_missingNow_299 ?_
    refine a_iand (pc := 300) F dX8_missingNow_300 ?_
    refine a_nmi fun x80 ex80 => ?_
    replace h := nm_at ex80 h
    clear ex80
    cases h
    exact a_iret (pc := 301) F dX8_missingNow_301 ⟨_, rfl, rfl⟩
  clear h
  refine lp_run (P := fun (s : (Int32 × Int32)) => WA X 0 0 4 [(0, .ref (ga X.G 162)), (1, .int p1), (2, .int s.1), (3, .int s.2)] [] m0 (EQ X (some (.int rr)) m0)) ?_ _ _ hL1
  clear hL1
  rintro ⟨x2, x3⟩ xo h hP1 hT1
  show WA X 0 0 4 [(0, .ref (ga X.G 162)), (1, .int p1), (2, .int x2), (3, .int x3)] [] m0 (EQ X (some (.int rr)) m0)
  rw [f_X8_missingNow_L4] at h
  refine a_iload_n (pc := 4) F dX8_missingNow_4 3 rfl ?_
  refine a_aload_n (pc := 5) F dX8_missingNow_5 0 rfl ?_
  refine a_getr (k := 162) (r := 163) (pc := 6) F dX8_missingNow_6 fl_RX8_7 kl_162 ks_162 rfl ?_
  refine a_bipush (v := 7) (pc := 9) F dX8_missingNow_9 (by decide) ?_
  refine a_ial (k := 163) (pc := 11) F dX8_missingNow_11 kl_163 ks_163 (vp_lit rfl) ?_
  refine a_nmi fun x4 ex4 => ?_
  replace h := nm_at ex4 h
  clear ex4
  refine a_icmp_ge (tgt := 294) (pc := 12) F dX8_missingNow_12 (by decide) (fun q5 => ?_) (fun q5 => ?_)
  · replace h := ite_t q5 h
    clear q5
    refine a_lv F [2] rfl ?_
    cases hT1 _ (Option.some.inj h).symm
    exact hE1
  · replace h := ite_f q5 h
    clear q5
    refine a_aload_n (pc := 15) F dX8_missingNow_15 0 rfl ?_
    refine a_getr (k := 162) (r := 163) (pc := 16) F dX8_missingNow_16 fl_RX8_7 kl_162 ks_162 rfl ?_
    refine a_bipush (v := 23) (pc := 19) F dX8_missingNow_19 (by decide) ?_
    refine a_iload_n (pc := 21) F dX8_missingNow_21 3 rfl ?_
    refine a_iadd (pc := 22) F dX8_missingNow_22 ?_
    replace h := gIn_some h
    obtain ⟨g6, h⟩ := h
    refine a_ial (k := 163) (pc := 23) F dX8_missingNow_23 kl_163 ks_163 g6 ?_
    refine a_nmi fun x7 ex7 => ?_
    replace h := nm_at ex7 h
    clear ex7
    refine a_iload_n (pc := 24) F dX8_missingNow_24 1 rfl ?_
    refine a_ishr (pc := 25) F dX8_missingNow_25 ?_
    refine a_iconst (v := 1) (pc := 26) F dX8_missingNow_26 (by decide) ?_
    refine a_iand (pc := 27) F dX8_missingNow_27 ?_
    refine a_nmi fun x8 ex8 => ?_
    replace h := nm_at ex8 h
    clear ex8
    refine a_iconst (v := 1) (pc := 28) F dX8_missingNow_28 (by decide) ?_
    refine a_icmp_ne (tgt := 288) (pc := 29) F dX8_missingNow_29 (by decide) (fun q9 => ?_) (fun q9 => ?_)
    · replace h := ite_f q9 h
      clear q9
      obtain ⟨x10, ex10⟩ : ∃ x10 : Int32, x10 = x3 + 1 := ⟨_, rfl⟩
      refine a_iinc (v := x10) (lv' := [(3, .int x10), (0, .ref (ga X.G 162)), (1, .int p1), (2, .int x2)]) (pc := 288) F dX8_missingNow_288 3 rfl (by rw [ex10]; rfl) (by decide) rfl ?_
      replace h := nm_at ex10 h
      clear ex10
      refine a_goto (tgt := 4) (pc := 291) F dX8_missingNow_291 (by decide) ?_
      refine a_lv F [1, 2, 3, 0] rfl ?_
      exact hP1 _ (Option.some.inj h).symm
    · replace h := ite_t (Decidable.not_not.mp q9) h
      clear q9
      refine a_aload_n (pc := 32) F dX8_missingNow_32 0 rfl ?_
      refine a_getr (k := 162) (r := 163) (pc := 33) F dX8_missingNow_33 fl_RX8_7 kl_162 ks_162 rfl ?_
      refine a_bipush (v := 13) (pc := 36) F dX8_missingNow_36 (by decide) ?_
      refine a_iload_n (pc := 38) F dX8_missingNow_38 3 rfl ?_
      refine a_iadd (pc := 39) F dX8_missingNow_39 ?_
      replace h := gIn_some h
      obtain ⟨g11, h⟩ := h
      refine a_ial (k := 163) (pc := 40) F dX8_missingNow_40 kl_163 ks_163 g11 ?_
      refine a_nmi fun x12 ex12 => ?_
      replace h := nm_at ex12 h
      clear ex12
      refine a_istore (lv' := [(4, .int x12), (0, .ref (ga X.G 162)), (1, .int p1), (2, .int x2), (3, .int x3)]) (pc := 41) F dX8_missingNow_41 (by decide) rfl ?_
      refine a_iload (pc := 43) F dX8_missingNow_43 0 rfl ?_
      refine a_iconst (v := 1) (pc := 45) F dX8_missingNow_45 (by decide) ?_
      refine a_iand (pc := 46) F dX8_missingNow_46 ?_
      refine a_iconst (v := 1) (pc := 47) F dX8_missingNow_47 (by decide) ?_
      replace h := bnd_some h
      obtain ⟨x15, hR13, h⟩ := h
      have hJ13 : WA X 0 0 56 [(0, .ref (ga X.G 162)), (1, .int p1), (2, .int x2), (3, .int x3), (4, .int x12)] [.int x15] m0 (EQ X (some (.int rr)) m0) := by
        refine a_istore (lv' := [(5, .int x15), (0, .ref (ga X.G 162)), (1, .int p1), (2, .int x2), (3, .int x3), (4, .int x12)]) (pc := 56) F dX8_missingNow_56 (by decide) rfl ?_
        refine a_iconst (v := 0) (pc := 58) F dX8_missingNow_58 (by decide) ?_
        refine a_istore (lv' := [(6, .int 0), (5, .int x15), (0, .ref (ga X.G 162)), (1, .int p1), (2, .int x2), (3, .int x3), (4, .int x12)]) (pc := 59) F dX8_missingNow_59 (by decide) rfl ?_
        refine a_lv F [2, 3, 4, 5, 6, 1, 0] rfl ?_
        replace h := bnd_some h
        obtain ⟨x75, hL16, h⟩ := h
        have hE16 : WA X 0 0 274 [(0, .ref (ga X.G 162)), (1, .int p1), (2, .int x2), (3, .int x3), (4, .int x12), (5, .int x75)] [] m0 (EQ X (some (.int rr)) m0) := by
          refine a_iload_n (pc := 274) F dX8_missingNow_274 2 rfl ?_
          refine a_iload (pc := 275) F dX8_missingNow_275 5 rfl ?_
          refine a_if_eq (tgt := 285) (pc := 277) F dX8_missingNow_277 (by decide) (fun q76 => ?_) (fun q76 => ?_)
          · replace h := ite_t q76 h
            clear q76
            refine a_iconst (v := 0) (pc := 285) F dX8_missingNow_285 (by decide) ?_
            refine a_ior (pc := 286) F dX8_missingNow_286 ?_
            refine a_istore_n (lv' := [(2, .int (x2 ||| 0)), (0, .ref (ga X.G 162)), (1, .int p1), (3, .int x3), (4, .int x12), (5, .int x75)]) (pc := 287) F dX8_missingNow_287 (by decide) rfl ?_
            obtain ⟨x77, ex77⟩ : ∃ x77 : Int32, x77 = x3 + 1 := ⟨_, rfl⟩
            refine a_iinc (v := x77) (lv' := [(3, .int x77), (2, .int (x2 ||| 0)), (0, .ref (ga X.G 162)), (1, .int p1), (4, .int x12), (5, .int x75)]) (pc := 288) F dX8_missingNow_288 3 rfl (by rw [ex77]; rfl) (by decide) rfl ?_
            replace h := nm_at ex77 h
            clear ex77
            refine a_goto (tgt := 4) (pc := 291) F dX8_missingNow_291 (by decide) ?_
            refine a_lv F [2, 3, 1, 0] rfl ?_
            exact hP1 _ (Option.some.inj h).symm
          · replace h := ite_f q76 h
            clear q76
            refine a_iload (pc := 280) F dX8_missingNow_280 4 rfl ?_
            refine a_goto (tgt := 286) (pc := 282) F dX8_missingNow_282 (by decide) ?_
            refine a_ior (pc := 286) F dX8_missingNow_286 ?_
            refine a_istore_n (lv' := [(2, .int (x2 ||| x12)), (0, .ref (ga X.G 162)), (1, .int p1), (3, .int x3), (4, .int x12), (5, .int x75)]) (pc := 287) F dX8_missingNow_287 (by decide) rfl ?_
            obtain ⟨x78, ex78⟩ : ∃ x78 : Int32, x78 = x3 + 1 := ⟨_, rfl⟩
            refine a_iinc (v := x78) (lv' := [(3, .int x78), (2, .int (x2 ||| x12)), (0, .ref (ga X.G 162)), (1, .int p1), (4, .int x12), (5, .int x75)]) (pc := 288) F dX8_missingNow_288 3 rfl (by rw [ex78]; rfl) (by decide) rfl ?_
            replace h := nm_at ex78 h
            clear ex78
            refine a_goto (tgt := 4) (pc := 291) F dX8_missingNow_291 (by decide) ?_
            refine a_lv F [2, 3, 1, 0] rfl ?_
            exact hP1 _ (Option.some.inj h).symm
        clear h
        refine lp_run (P := fun (s : (Int32 × Int32)) => WA X 0 0 61 [(0, .ref (ga X.G 162)), (1, .int p1), (2, .int x2), (3, .int x3), (4, .int x12), (5, .int s.1), (6, .int s.2)] [] m0 (EQ X (some (.int rr)) m0)) ?_ _ _ hL16
        clear hL16
        rintro ⟨x17, x18⟩ xo h hP16 hT16
        show WA X 0 0 61 [(0, .ref (ga X.G 162)), (1, .int p1), (2, .int x2), (3, .int x3), (4, .int x12), (5, .int x17), (6, .int x18)] [] m0 (EQ X (some (.int rr)) m0)
        rw [f_X8_missingNow_L61] at h
        refine a_iload (pc := 61) F dX8_missingNow_61 6 rfl ?_
        refine a_bipush (v := 100) (pc := 63) F dX8_missingNow_63 (by decide) ?_
        refine a_icmp_ge (tgt := 274) (pc := 65) F dX8_missingNow_65 (by decide) (fun q19 => ?_) (fun q19 => ?_)
        · replace h := ite_t q19 h
          clear q19
          refine a_lv F [0, 1, 2, 3, 4, 5] rfl ?_
          cases hT16 _ (Option.some.inj h).symm
          exact hE16
        · replace h := ite_f q19 h
          clear q19
          refine a_iload (pc := 68) F dX8_missingNow_68 6 rfl ?_
          refine a_bipush (v := 10) (pc := 70) F dX8_missingNow_70 (by decide) ?_
          refine a_idiv (pc := 72) F dX8_missingNow_72 (by decide) ?_
          refine a_istore (lv' := [(7, .int (x18 / 10)), (0, .ref (ga X.G 162)), (1, .int p1), (2, .int x2), (3, .int x3), (4, .int x12), (5, .int x17), (6, .int x18)]) (pc := 73) F dX8_missingNow_73 (by decide) rfl ?_
          refine a_iload (pc := 75) F dX8_missingNow_75 7 rfl ?_
          refine a_bipush (v := 10) (pc := 77) F dX8_missingNow_77 (by decide) ?_
          refine a_irem (pc := 79) F dX8_missingNow_79 (by decide) ?_
          refine a_istore (lv' := [(8, .int (x18 - x18 / 10 * 10)), (7, .int (x18 / 10)), (0, .ref (ga X.G 162)), (1, .int p1), (2, .int x2), (3, .int x3), (4, .int x12), (5, .int x17), (6, .int x18)]) (pc := 80) F dX8_missingNow_80 (by decide) rfl ?_
          refine a_aload_n (pc := 82) F dX8_missingNow_82 2 rfl ?_
          refine a_iload (pc := 83) F dX8_missingNow_83 1 rfl ?_
          replace h := bnd_some h
          obtain ⟨x21, hc20, h⟩ := h
          refine a_callV (pc := 85) (k := 162) (As := [.int (x18 / 10)]) (st := []) F dX8_missingNow_85 (m_X8_isPerson hc20) cv_RX8_82 kl_162 ks_162 ⟨_, _, rfl⟩ rfl rfl rfl (Nat.le_of_ble_eq_true rfl) ⟨Nat.le_of_ble_eq_true rfl, Nat.le_of_ble_eq_true rfl⟩ ?_ rfl rfl
          clear hc20
          replace h := bnd_some h
          obtain ⟨x32, hR22, h⟩ := h
          have hJ22 : WA X 0 0 136 [(0, .ref (ga X.G 162)), (1, .int p1), (2, .int x2), (3, .int x3), (4, .int x12), (5, .int x17), (6, .int x18), (7, .int (x18 / 10)), (8, .int (x18 - x18 / 10 * 10))] [.int x32] m0 (EQ X (some (.int rr)) m0) := by
            refine a_istore (lv' := [(9, .int x32), (0, .ref (ga X.G 162)), (1, .int p1), (2, .int x2), (3, .int x3), (4, .int x12), (5, .int x17), (6, .int x18), (7, .int (x18 / 10)), (8, .int (x18 - x18 / 10 * 10))]) (pc := 136) F dX8_missingNow_136 (by decide) rfl ?_
            refine a_iload (pc := 138) F dX8_missingNow_138 0 rfl ?_
            replace h := bnd_some h
            obtain ⟨x51, hR33, h⟩ := h
            have hJ33 : WA X 0 0 212 [(0, .ref (ga X.G 162)), (1, .int p1), (2, .int x2), (3, .int x3), (4, .int x12), (5, .int x17), (6, .int x18), (7, .int (x18 / 10)), (8, .int (x18 - x18 / 10 * 10)), (9, .int x32)] [.int x51] m0 (EQ X (some (.int rr)) m0) := by
              refine a_istore (lv' := [(10, .int x51), (0, .ref (ga X.G 162)), (1, .int p1), (2, .int x2), (3, .int x3), (4, .int x12), (5, .int x17), (6, .int x18), (7, .int (x18 / 10)), (8, .int (x18 - x18 / 10 * 10)), (9, .int x32)]) (pc := 212) F dX8_missingNow_212 (by decide) rfl ?_
              refine a_iload (pc := 214) F dX8_missingNow_214 6 rfl ?_
              refine a_if_ne (tgt := 261) (pc := 216) F dX8_missingNow_216 (by decide) (fun q52 => ?_) (fun q52 => ?_)
              · replace h := ite_f q52 h
                clear q52
                refine a_iconst (v := 1) (pc := 261) F dX8_missingNow_261 (by decide) ?_
                refine a_goto (tgt := 266) (pc := 262) F dX8_missingNow_262 (by decide) ?_
                refine a_istore (lv' := [(5, .int 1), (10, .int x51), (0, .ref (ga X.G 162)), (1, .int p1), (2, .int x2), (3, .int x3), (4, .int x12), (6, .int x18), (7, .int (x18 / 10)), (8, .int (x18 - x18 / 10 * 10)), (9, .int x32)]) (pc := 266) F dX8_missingNow_266 (by decide) rfl ?_
                obtain ⟨x53, ex53⟩ : ∃ x53 : Int32, x53 = x18 + 1 := ⟨_, rfl⟩
                refine a_iinc (v := x53) (lv' := [(6, .int x53), (5, .int 1), (10, .int x51), (0, .ref (ga X.G 162)), (1, .int p1), (2, .int x2), (3, .int x3), (4, .int x12), (7, .int (x18 / 10)), (8, .int (x18 - x18 / 10 * 10)), (9, .int x32)]) (pc := 268) F dX8_missingNow_268 7 rfl (by rw [ex53]; rfl) (by decide) rfl ?_
                replace h := nm_at ex53 h
                clear ex53
                refine a_goto (tgt := 61) (pc := 271) F dX8_missingNow_271 (by decide) ?_
                refine a_lv F [3, 4, 5, 6, 7, 1, 0] rfl ?_
                exact hP16 _ (Option.some.inj h).symm
              · replace h := ite_t (Decidable.not_not.mp q52) h
                clear q52
                refine a_iload (pc := 219) F dX8_missingNow_219 10 rfl ?_
                refine a_if_eq (tgt := 240) (pc := 221) F dX8_missingNow_221 (by decide) (fun q54 => ?_) (fun q54 => ?_)
                · replace h := ite_t q54 h
                  clear q54
                  refine a_iload (pc := 240) F dX8_missingNow_240 0 rfl ?_
                  refine a_if_eq (tgt := 265) (pc := 242) F dX8_missingNow_242 (by decide) (fun q55 => ?_) (fun q55 => ?_)
                  · replace h := ite_t q55 h
                    clear q55
                    refine a_iconst (v := 0) (pc := 265) F dX8_missingNow_265 (by decide) ?_
                    refine a_istore (lv' := [(5, .int 0), (10, .int x51), (0, .ref (ga X.G 162)), (1, .int p1), (2, .int x2), (3, .int x3), (4, .int x12), (6, .int x18), (7, .int (x18 / 10)), (8, .int (x18 - x18 / 10 * 10)), (9, .int x32)]) (pc := 266) F dX8_missingNow_266 (by decide) rfl ?_
                    obtain ⟨x56, ex56⟩ : ∃ x56 : Int32, x56 = x18 + 1 := ⟨_, rfl⟩
                    refine a_iinc (v := x56) (lv' := [(6, .int x56), (5, .int 0), (10, .int x51), (0, .ref (ga X.G 162)), (1, .int p1), (2, .int x2), (3, .int x3), (4, .int x12), (7, .int (x18 / 10)), (8, .int (x18 - x18 / 10 * 10)), (9, .int x32)]) (pc := 268) F dX8_missingNow_268 7 rfl (by rw [ex56]; rfl) (by decide) rfl ?_
                    replace h := nm_at ex56 h
                    clear ex56
                    refine a_goto (tgt := 61) (pc := 271) F dX8_missingNow_271 (by decide) ?_
                    refine a_lv F [3, 4, 5, 6, 7, 1, 0] rfl ?_
                    exact hP16 _ (Option.some.inj h).symm
                  · replace h := ite_f q55 h
                    clear q55
                    refine a_aload_n (pc := 245) F dX8_missingNow_245 1 rfl ?_
                    refine a_getr (k := 162) (r := 163) (pc := 246) F dX8_missingNow_246 fl_RX8_7 kl_162 ks_162 rfl ?_
                    refine a_bipush (v := 13) (pc := 249) F dX8_missingNow_249 (by decide) ?_
                    refine a_iload (pc := 251) F dX8_missingNow_251 9 rfl ?_
                    refine a_iadd (pc := 253) F dX8_missingNow_253 ?_
                    refine a_nmi fun x57 ex57 => ?_
                    replace h := nm_at ex57 h
                    clear ex57
                    replace h := gIn_some h
                    obtain ⟨g58, h⟩ := h
                    refine a_ial (k := 163) (pc := 254) F dX8_missingNow_254 kl_163 ks_163 g58 ?_
                    refine a_nmi fun x59 ex59 => ?_
                    replace h := nm_at ex59 h
                    clear ex59
                    refine a_iconst (v := 1) (pc := 255) F dX8_missingNow_255 (by decide) ?_
                    refine a_iand (pc := 256) F dX8_missingNow_256 ?_
                    refine a_iconst (v := 1) (pc := 257) F dX8_missingNow_257 (by decide) ?_
                    refine a_icmp_ne (tgt := 265) (pc := 258) F dX8_missingNow_258 (by decide) (fun q60 => ?_) (fun q60 => ?_)
                    · replace h := ite_f q60 h
                      clear q60
                      refine a_iconst (v := 0) (pc := 265) F dX8_missingNow_265 (by decide) ?_
                      refine a_istore (lv' := [(5, .int 0), (10, .int x51), (0, .ref (ga X.G 162)), (1, .int p1), (2, .int x2), (3, .int x3), (4, .int x12), (6, .int x18), (7, .int (x18 / 10)), (8, .int (x18 - x18 / 10 * 10)), (9, .int x32)]) (pc := 266) F dX8_missingNow_266 (by decide) rfl ?_
                      obtain ⟨x61, ex61⟩ : ∃ x61 : Int32, x61 = x18 + 1 := ⟨_, rfl⟩
                      refine a_iinc (v := x61) (lv' := [(6, .int x61), (5, .int 0), (10, .int x51), (0, .ref (ga X.G 162)), (1, .int p1), (2, .int x2), (3, .int x3), (4, .int x12), (7, .int (x18 / 10)), (8, .int (x18 - x18 / 10 * 10)), (9, .int x32)]) (pc := 268) F dX8_missingNow_268 7 rfl (by rw [ex61]; rfl) (by decide) rfl ?_
                      replace h := nm_at ex61 h
                      clear ex61
                      refine a_goto (tgt := 61) (pc := 271) F dX8_missingNow_271 (by decide) ?_
                      refine a_lv F [3, 4, 5, 6, 7, 1, 0] rfl ?_
                      exact hP16 _ (Option.some.inj h).symm
                    · replace h := ite_t (Decidable.not_not.mp q60) h
                      clear q60
                      refine a_iconst (v := 1) (pc := 261) F dX8_missingNow_261 (by decide) ?_
                      refine a_goto (tgt := 266) (pc := 262) F dX8_missingNow_262 (by decide) ?_
                      refine a_istore (lv' := [(5, .int 1), (10, .int x51), (0, .ref (ga X.G 162)), (1, .int p1), (2, .int x2), (3, .int x3), (4, .int x12), (6, .int x18), (7, .int (x18 / 10)), (8, .int (x18 - x18 / 10 * 10)), (9, .int x32)]) (pc := 266) F dX8_missingNow_266 (by decide) rfl ?_
                      obtain ⟨x62, ex62⟩ : ∃ x62 : Int32, x62 = x18 + 1 := ⟨_, rfl⟩
                      refine a_iinc (v := x62) (lv' := [(6, .int x62), (5, .int 1), (10, .int x51), (0, .ref (ga X.G 162)), (1, .int p1), (2, .int x2), (3, .int x3), (4, .int x12), (7, .int (x18 / 10)), (8, .int (x18 - x18 / 10 * 10)), (9, .int x32)]) (pc := 268) F dX8_missingNow_268 7 rfl (by rw [ex62]; rfl) (by decide) rfl ?_
                      replace h := nm_at ex62 h
                      clear ex62
                      refine a_goto (tgt := 61) (pc := 271) F dX8_missingNow_271 (by decide) ?_
                      refine a_lv F [3, 4, 5, 6, 7, 1, 0] rfl ?_
                      exact hP16 _ (Option.some.inj h).symm
                · replace h := ite_f q54 h
                  clear q54
                  refine a_aload_n (pc := 224) F dX8_missingNow_224 1 rfl ?_
                  refine a_getr (k := 162) (r := 163) (pc := 225) F dX8_missingNow_225 fl_RX8_7 kl_162 ks_162 rfl ?_
                  refine a_bipush (v := 13) (pc := 228) F dX8_missingNow_228 (by decide) ?_
                  refine a_iload (pc := 230) F dX8_missingNow_230 8 rfl ?_
                  refine a_iadd (pc := 232) F dX8_missingNow_232 ?_
                  replace h := gIn_some h
                  obtain ⟨g63, h⟩ := h
                  refine a_ial (k := 163) (pc := 233) F dX8_missingNow_233 kl_163 ks_163 g63 ?_
                  refine a_nmi fun x64 ex64 => ?_
                  replace h := nm_at ex64 h
                  clear ex64
                  refine a_iconst (v := 1) (pc := 234) F dX8_missingNow_234 (by decide) ?_
                  refine a_iand (pc := 235) F dX8_missingNow_235 ?_
                  refine a_iconst (v := 1) (pc := 236) F dX8_missingNow_236 (by decide) ?_
                  refine a_icmp_eq (tgt := 261) (pc := 237) F dX8_missingNow_237 (by decide) (fun q65 => ?_) (fun q65 => ?_)
                  · replace h := ite_t q65 h
                    clear q65
                    refine a_iconst (v := 1) (pc := 261) F dX8_missingNow_261 (by decide) ?_
                    refine a_goto (tgt := 266) (pc := 262) F dX8_missingNow_262 (by decide) ?_
                    refine a_istore (lv' := [(5, .int 1), (10, .int x51), (0, .ref (ga X.G 162)), (1, .int p1), (2, .int x2), (3, .int x3), (4, .int x12), (6, .int x18), (7, .int (x18 / 10)), (8, .int (x18 - x18 / 10 * 10)), (9, .int x32)]) (pc := 266) F dX8_missingNow_266 (by decide) rfl ?_
                    obtain ⟨x66, ex66⟩ : ∃ x66 : Int32, x66 = x18 + 1 := ⟨_, rfl⟩
                    refine a_iinc (v := x66) (lv' := [(6, .int x66), (5, .int 1), (10, .int x51), (0, .ref (ga X.G 162)), (1, .int p1), (2, .int x2), (3, .int x3), (4, .int x12), (7, .int (x18 / 10)), (8, .int (x18 - x18 / 10 * 10)), (9, .int x32)]) (pc := 268) F dX8_missingNow_268 7 rfl (by rw [ex66]; rfl) (by decide) rfl ?_
                    replace h := nm_at ex66 h
                    clear ex66
                    refine a_goto (tgt := 61) (pc := 271) F dX8_missingNow_271 (by decide) ?_
                    refine a_lv F [3, 4, 5, 6, 7, 1, 0] rfl ?_
                    exact hP16 _ (Option.some.inj h).symm
                  · replace h := ite_f q65 h
                    clear q65
                    refine a_iload (pc := 240) F dX8_missingNow_240 0 rfl ?_
                    refine a_if_eq (tgt := 265) (pc := 242) F dX8_missingNow_242 (by decide) (fun q67 => ?_) (fun q67 => ?_)
                    · replace h := ite_t q67 h
                      clear q67
                      refine a_iconst (v := 0) (pc := 265) F dX8_missingNow_265 (by decide) ?_
                      refine a_istore (lv' := [(5, .int 0), (10, .int x51), (0, .ref (ga X.G 162)), (1, .int p1), (2, .int x2), (3, .int x3), (4, .int x12), (6, .int x18), (7, .int (x18 / 10)), (8, .int (x18 - x18 / 10 * 10)), (9, .int x32)]) (pc := 266) F dX8_missingNow_266 (by decide) rfl ?_
                      obtain ⟨x68, ex68⟩ : ∃ x68 : Int32, x68 = x18 + 1 := ⟨_, rfl⟩
                      refine a_iinc (v := x68) (lv' := [(6, .int x68), (5, .int 0), (10, .int x51), (0, .ref (ga X.G 162)), (1, .int p1), (2, .int x2), (3, .int x3), (4, .int x12), (7, .int (x18 / 10)), (8, .int (x18 - x18 / 10 * 10)), (9, .int x32)]) (pc := 268) F dX8_missingNow_268 7 rfl (by rw [ex68]; rfl) (by decide) rfl ?_
                      replace h := nm_at ex68 h
                      clear ex68
                      refine a_goto (tgt := 61) (pc := 271) F dX8_missingNow_271 (by decide) ?_
                      refine a_lv F [3, 4, 5, 6, 7, 1, 0] rfl ?_
                      exact hP16 _ (Option.some.inj h).symm
                    · replace h := ite_f q67 h
                      clear q67
                      refine a_aload_n (pc := 245) F dX8_missingNow_245 1 rfl ?_
                      refine a_getr (k := 162) (r := 163) (pc := 246) F dX8_missingNow_246 fl_RX8_7 kl_162 ks_162 rfl ?_
                      refine a_bipush (v := 13) (pc := 249) F dX8_missingNow_249 (by decide) ?_
                      refine a_iload (pc := 251) F dX8_missingNow_251 9 rfl ?_
                      refine a_iadd (pc := 253) F dX8_missingNow_253 ?_
                      refine a_nmi fun x69 ex69 => ?_
                      replace h := nm_at ex69 h
                      clear ex69
                      replace h := gIn_some h
                      obtain ⟨g70, h⟩ := h
                      refine a_ial (k := 163) (pc := 254) F dX8_missingNow_254 kl_163 ks_163 g70 ?_
                      refine a_nmi fun x71 ex71 => ?_
                      replace h := nm_at ex71 h
                      clear ex71
                      refine a_iconst (v := 1) (pc := 255) F dX8_missingNow_255 (by decide) ?_
                      refine a_iand (pc := 256) F dX8_missingNow_256 ?_
                      refine a_iconst (v := 1) (pc := 257) F dX8_missingNow_257 (by decide) ?_
                      refine a_icmp_ne (tgt := 265) (pc := 258) F dX8_missingNow_258 (by decide) (fun q72 => ?_) (fun q72 => ?_)
                      · replace h := ite_f q72 h
                        clear q72
                        refine a_iconst (v := 0) (pc := 265) F dX8_missingNow_265 (by decide) ?_
                        refine a_istore (lv' := [(5, .int 0), (10, .int x51), (0, .ref (ga X.G 162)), (1, .int p1), (2, .int x2), (3, .int x3), (4, .int x12), (6, .int x18), (7, .int (x18 / 10)), (8, .int (x18 - x18 / 10 * 10)), (9, .int x32)]) (pc := 266) F dX8_missingNow_266 (by decide) rfl ?_
                        obtain ⟨x73, ex73⟩ : ∃ x73 : Int32, x73 = x18 + 1 := ⟨_, rfl⟩
                        refine a_iinc (v := x73) (lv' := [(6, .int x73), (5, .int 0), (10, .int x51), (0, .ref (ga X.G 162)), (1, .int p1), (2, .int x2), (3, .int x3), (4, .int x12), (7, .int (x18 / 10)), (8, .int (x18 - x18 / 10 * 10)), (9, .int x32)]) (pc := 268) F dX8_missingNow_268 7 rfl (by rw [ex73]; rfl) (by decide) rfl ?_
                        replace h := nm_at ex73 h
                        clear ex73
                        refine a_goto (tgt := 61) (pc := 271) F dX8_missingNow_271 (by decide) ?_
                        refine a_lv F [3, 4, 5, 6, 7, 1, 0] rfl ?_
                        exact hP16 _ (Option.some.inj h).symm
                      · replace h := ite_t (Decidable.not_not.mp q72) h
                        clear q72
                        refine a_iconst (v := 1) (pc := 261) F dX8_missingNow_261 (by decide) ?_
                        refine a_goto (tgt := 266) (pc := 262) F dX8_missingNow_262 (by decide) ?_
                        refine a_istore (lv' := [(5, .int 1), (10, .int x51), (0, .ref (ga X.G 162)), (1, .int p1), (2, .int x2), (3, .int x3), (4, .int x12), (6, .int x18), (7, .int (x18 / 10)), (8, .int (x18 - x18 / 10 * 10)), (9, .int x32)]) (pc := 266) F dX8_missingNow_266 (by decide) rfl ?_
                        obtain ⟨x74, ex74⟩ : ∃ x74 : Int32, x74 = x18 + 1 := ⟨_, rfl⟩
                        refine a_iinc (v := x74) (lv' := [(6, .int x74), (5, .int 1), (10, .int x51), (0, .ref (ga X.G 162)), (1, .int p1), (2, .int x2), (3, .int x3), (4, .int x12), (7, .int (x18 / 10)), (8, .int (x18 - x18 / 10 * 10)), (9, .int x32)]) (pc := 268) F dX8_missingNow_268 7 rfl (by rw [ex74]; rfl) (by decide) rfl ?_
                        replace h := nm_at ex74 h
                        clear ex74
                        refine a_goto (tgt := 61) (pc := 271) F dX8_missingNow_271 (by decide) ?_
                        refine a_lv F [3, 4, 5, 6, 7, 1, 0] rfl ?_
                        exact hP16 _ (Option.some.inj h).symm
            clear h
            have h := hR33
            clear hR33
            refine a_if_eq (tgt := 211) (pc := 140) F dX8_missingNow_140 (by decide) (fun q34 => ?_) (fun q34 => ?_)
            · replace h := ite_t q34 h
              clear q34
              refine a_iconst (v := 0) (pc := 211) F dX8_missingNow_211 (by decide) ?_
              refine a_lv F [1, 2, 3, 4, 5, 6, 7, 8, 9, 0] rfl ?_
              cases h
              exact hJ33
            · replace h := ite_f q34 h
              clear q34
              refine a_aload_n (pc := 143) F dX8_missingNow_143 1 rfl ?_
              refine a_iload (pc := 144) F dX8_missingNow_144 9 rfl ?_
              replace h := bnd_some h
              obtain ⟨x36, hc35, h⟩ := h
              refine a_callV (pc := 146) (k := 162) (As := [.int (x18 - x18 / 10 * 10)]) (st := []) F dX8_missingNow_146 (m_X8_isPerson hc35) cv_RX8_82 kl_162 ks_162 ⟨_, _, rfl⟩ rfl rfl rfl (Nat.le_of_ble_eq_true rfl) ⟨Nat.le_of_ble_eq_true rfl, Nat.le_of_ble_eq_true rfl⟩ ?_ rfl rfl
              clear hc35
              refine a_if_eq (tgt := 211) (pc := 149) F dX8_missingNow_149 (by decide) (fun q37 => ?_) (fun q37 => ?_)
              · replace h := ite_t q37 h
                clear q37
                refine a_iconst (v := 0) (pc := 211) F dX8_missingNow_211 (by decide) ?_
                refine a_lv F [1, 2, 3, 4, 5, 6, 7, 8, 9, 0] rfl ?_
                cases h
                exact hJ33
              · replace h := ite_f q37 h
                clear q37
                refine a_iload (pc := 152) F dX8_missingNow_152 9 rfl ?_
                refine a_iload_n (pc := 154) F dX8_missingNow_154 4 rfl ?_
                refine a_icmp_eq (tgt := 211) (pc := 155) F dX8_missingNow_155 (by decide) (fun q38 => ?_) (fun q38 => ?_)
                · replace h := ite_t q38 h
                  clear q38
                  refine a_iconst (v := 0) (pc := 211) F dX8_missingNow_211 (by decide) ?_
                  refine a_lv F [1, 2, 3, 4, 5, 6, 7, 8, 9, 0] rfl ?_
                  cases h
                  exact hJ33
                · replace h := ite_f q38 h
                  clear q38
                  refine a_iload (pc := 158) F dX8_missingNow_158 9 rfl ?_
                  refine a_iload (pc := 160) F dX8_missingNow_160 8 rfl ?_
                  refine a_icmp_eq (tgt := 211) (pc := 162) F dX8_missingNow_162 (by decide) (fun q39 => ?_) (fun q39 => ?_)
                  · replace h := ite_t q39 h
                    clear q39
                    refine a_iconst (v := 0) (pc := 211) F dX8_missingNow_211 (by decide) ?_
                    refine a_lv F [1, 2, 3, 4, 5, 6, 7, 8, 9, 0] rfl ?_
                    cases h
                    exact hJ33
                  · replace h := ite_f q39 h
                    clear q39
                    refine a_aload_n (pc := 165) F dX8_missingNow_165 1 rfl ?_
                    refine a_getr (k := 162) (r := 163) (pc := 166) F dX8_missingNow_166 fl_RX8_7 kl_162 ks_162 rfl ?_
                    refine a_bipush (v := 23) (pc := 169) F dX8_missingNow_169 (by decide) ?_
                    refine a_iload (pc := 171) F dX8_missingNow_171 9 rfl ?_
                    refine a_iadd (pc := 173) F dX8_missingNow_173 ?_
                    refine a_nmi fun x40 ex40 => ?_
                    replace h := nm_at ex40 h
                    clear ex40
                    replace h := gIn_some h
                    obtain ⟨g41, h⟩ := h
                    refine a_ial (k := 163) (pc := 174) F dX8_missingNow_174 kl_163 ks_163 g41 ?_
                    refine a_nmi fun x42 ex42 => ?_
                    replace h := nm_at ex42 h
                    clear ex42
                    refine a_iload_n (pc := 175) F dX8_missingNow_175 2 rfl ?_
                    refine a_ishr (pc := 176) F dX8_missingNow_176 ?_
                    refine a_iconst (v := 1) (pc := 177) F dX8_missingNow_177 (by decide) ?_
                    refine a_iand (pc := 178) F dX8_missingNow_178 ?_
                    refine a_nmi fun x43 ex43 => ?_
                    replace h := nm_at ex43 h
                    clear ex43
                    refine a_iconst (v := 1) (pc := 179) F dX8_missingNow_179 (by decide) ?_
                    refine a_icmp_ne (tgt := 211) (pc := 180) F dX8_missingNow_180 (by decide) (fun q44 => ?_) (fun q44 => ?_)
                    · replace h := ite_f q44 h
                      clear q44
                      refine a_iconst (v := 0) (pc := 211) F dX8_missingNow_211 (by decide) ?_
                      refine a_lv F [1, 2, 3, 4, 5, 6, 7, 8, 9, 0] rfl ?_
                      cases h
                      exact hJ33
                    · replace h := ite_t (Decidable.not_not.mp q44) h
                      clear q44
                      refine a_aload_n (pc := 183) F dX8_missingNow_183 1 rfl ?_
                      refine a_getr (k := 162) (r := 163) (pc := 184) F dX8_missingNow_184 fl_RX8_7 kl_162 ks_162 rfl ?_
                      refine a_bipush (v := 13) (pc := 187) F dX8_missingNow_187 (by decide) ?_
                      refine a_iload (pc := 189) F dX8_missingNow_189 9 rfl ?_
                      refine a_iadd (pc := 191) F dX8_missingNow_191 ?_
                      refine a_nmi fun x45 ex45 => ?_
                      replace h := nm_at ex45 h
                      clear ex45
                      replace h := gIn_some h
                      obtain ⟨g46, h⟩ := h
                      refine a_ial (k := 163) (pc := 192) F dX8_missingNow_192 kl_163 ks_163 g46 ?_
                      refine a_nmi fun x47 ex47 => ?_
                      replace h := nm_at ex47 h
                      clear ex47
                      refine a_aload_n (pc := 193) F dX8_missingNow_193 1 rfl ?_
                      refine a_getr (k := 162) (r := 163) (pc := 194) F dX8_missingNow_194 fl_RX8_7 kl_162 ks_162 rfl ?_
                      refine a_bipush (v := 13) (pc := 197) F dX8_missingNow_197 (by decide) ?_
                      refine a_iload (pc := 199) F dX8_missingNow_199 8 rfl ?_
                      refine a_iadd (pc := 201) F dX8_missingNow_201 ?_
                      replace h := gIn_some h
                      obtain ⟨g48, h⟩ := h
                      refine a_ial (k := 163) (pc := 202) F dX8_missingNow_202 kl_163 ks_163 g48 ?_
                      refine a_nmi fun x49 ex49 => ?_
                      replace h := nm_at ex49 h
                      clear ex49
                      refine a_iand (pc := 203) F dX8_missingNow_203 ?_
                      refine a_if_eq (tgt := 211) (pc := 204) F dX8_missingNow_204 (by decide) (fun q50 => ?_) (fun q50 => ?_)
                      · replace h := ite_t q50 h
                        clear q50
                        refine a_iconst (v := 0) (pc := 211) F dX8_missingNow_211 (by decide) ?_
                        refine a_lv F [1, 2, 3, 4, 5, 6, 7, 8, 9, 0] rfl ?_
                        cases h
                        exact hJ33
                      · replace h := ite_f q50 h
                        clear q50
                        refine a_iconst (v := 1) (pc := 207) F dX8_missingNow_207 (by decide) ?_
                        refine a_goto (tgt := 212) (pc := 208) F dX8_missingNow_208 (by decide) ?_
                        refine a_lv F [1, 2, 3, 4, 5, 6, 7, 8, 9, 0] rfl ?_
                        cases h
                        exact hJ33
          clear h
          have h := hR22
          clear hR22
          refine a_if_eq (tgt := 135) (pc := 88) F dX8_missingNow_88 (by decide) (fun q23 => ?_) (fun q23 => ?_)
          · replace h := ite_t q23 h
            clear q23
            refine a_iconst (v := 0) (pc := 135) F dX8_missingNow_135 (by decide) ?_
            refine a_lv F [2, 3, 4, 5, 6, 7, 8, 1, 0] rfl ?_
            cases h
            exact hJ22
          · replace h := ite_f q23 h
            clear q23
            refine a_iload (pc := 91) F dX8_missingNow_91 1 rfl ?_
            refine a_iload_n (pc := 93) F dX8_missingNow_93 5 rfl ?_
            refine a_icmp_eq (tgt := 135) (pc := 94) F dX8_missingNow_94 (by decide) (fun q24 => ?_) (fun q24 => ?_)
            · replace h := ite_t q24 h
              clear q24
              refine a_iconst (v := 0) (pc := 135) F dX8_missingNow_135 (by decide) ?_
              refine a_lv F [2, 3, 4, 5, 6, 7, 8, 1, 0] rfl ?_
              cases h
              exact hJ22
            · replace h := ite_f q24 h
              clear q24
              refine a_aload_n (pc := 97) F dX8_missingNow_97 2 rfl ?_
              refine a_getr (k := 162) (r := 163) (pc := 98) F dX8_missingNow_98 fl_RX8_7 kl_162 ks_162 rfl ?_
              refine a_bipush (v := 23) (pc := 101) F dX8_missingNow_101 (by decide) ?_
              refine a_iload (pc := 103) F dX8_missingNow_103 1 rfl ?_
              refine a_iadd (pc := 105) F dX8_missingNow_105 ?_
              replace h := gIn_some h
              obtain ⟨g25, h⟩ := h
              refine a_ial (k := 163) (pc := 106) F dX8_missingNow_106 kl_163 ks_163 g25 ?_
              refine a_nmi fun x26 ex26 => ?_
              replace h := nm_at ex26 h
              clear ex26
              refine a_iload_n (pc := 107) F dX8_missingNow_107 3 rfl ?_
              refine a_ishr (pc := 108) F dX8_missingNow_108 ?_
              refine a_iconst (v := 1) (pc := 109) F dX8_missingNow_109 (by decide) ?_
              refine a_iand (pc := 110) F dX8_missingNow_110 ?_
              refine a_nmi fun x27 ex27 => ?_
              replace h := nm_at ex27 h
              clear ex27
              refine a_iconst (v := 1) (pc := 111) F dX8_missingNow_111 (by decide) ?_
              refine a_icmp_ne (tgt := 135) (pc := 112) F dX8_missingNow_112 (by decide) (fun q28 => ?_) (fun q28 => ?_)
              · replace h := ite_f q28 h
                clear q28
                refine a_iconst (v := 0) (pc := 135) F dX8_missingNow_135 (by decide) ?_
                refine a_lv F [2, 3, 4, 5, 6, 7, 8, 1, 0] rfl ?_
                cases h
                exact hJ22
              · replace h := ite_t (Decidable.not_not.mp q28) h
                clear q28
                refine a_aload_n (pc := 115) F dX8_missingNow_115 2 rfl ?_
                refine a_getr (k := 162) (r := 163) (pc := 116) F dX8_missingNow_116 fl_RX8_7 kl_162 ks_162 rfl ?_
                refine a_bipush (v := 13) (pc := 119) F dX8_missingNow_119 (by decide) ?_
                refine a_iload (pc := 121) F dX8_missingNow_121 1 rfl ?_
                refine a_iadd (pc := 123) F dX8_missingNow_123 ?_
                replace h := gIn_some h
                obtain ⟨g29, h⟩ := h
                refine a_ial (k := 163) (pc := 124) F dX8_missingNow_124 kl_163 ks_163 g29 ?_
                refine a_nmi fun x30 ex30 => ?_
                replace h := nm_at ex30 h
                clear ex30
                refine a_iload (pc := 125) F dX8_missingNow_125 6 rfl ?_
                refine a_iand (pc := 127) F dX8_missingNow_127 ?_
                refine a_if_eq (tgt := 135) (pc := 128) F dX8_missingNow_128 (by decide) (fun q31 => ?_) (fun q31 => ?_)
                · replace h := ite_t q31 h
                  clear q31
                  refine a_iconst (v := 0) (pc := 135) F dX8_missingNow_135 (by decide) ?_
                  refine a_lv F [2, 3, 4, 5, 6, 7, 8, 1, 0] rfl ?_
                  cases h
                  exact hJ22
                · replace h := ite_f q31 h
                  clear q31
                  refine a_iconst (v := 1) (pc := 131) F dX8_missingNow_131 (by decide) ?_
                  refine a_goto (tgt := 136) (pc := 132) F dX8_missingNow_132 (by decide) ?_
                  refine a_lv F [2, 3, 4, 5, 6, 7, 8, 1, 0] rfl ?_
                  cases h
                  exact hJ22
      clear h
      have h := hR13
      clear hR13
      refine a_icmp_ne (tgt := 55) (pc := 48) F dX8_missingNow_48 (by decide) (fun q14 => ?_) (fun q14 => ?_)
      · replace h := ite_f q14 h
        clear q14
        refine a_iconst (v := 0) (pc := 55) F dX8_missingNow_55 (by decide) ?_
        refine a_lv F [1, 2, 3, 4, 0] rfl ?_
        cases h
        exact hJ13
      · replace h := ite_t (Decidable.not_not.mp q14) h
        clear q14
        refine a_iconst (v := 1) (pc := 51) F dX8_missingNow_51 (by decide) ?_
        refine a_goto (tgt := 56) (pc := 52) F dX8_missingNow_52 (by decide) ?_
        refine a_lv F [1, 2, 3, 4, 0] rfl ?_
        cases h
        exact hJ13
def f_X8_missing (p1 : Int32) (m0 : Mem) : Option (Int32 × Mem) :=
  bnd (f_X8_within p1 0 2 m0) fun x2 => bnd ((if x2 = 0 then some 1 else some 0)) (fun (x5 : Int32) => nm (si m0 162 5 x5) fun m6 => (if (m6.1 162 5) ≤ 0 then bnd (f_X8_missingNow p1 m6) fun x9 => some (x9, m6) else some (0, m6)))
set_option maxRecDepth 100000 in
set_option maxHeartbeats 4000000 in
theorem m_X8_missing {p1 : Int32} {m0 : Mem} {rr : Int32} {mm : Mem} (h : f_X8_missing p1 m0 = some (rr, mm)) : Con yX8_missing cX8_missing 2 (some Jvm.ClassFile.FieldType.int) 3 73 (fun G => [.ref (ga G 162), .int p1]) m0 (some (.int rr)) mm := by
  refine con_of (lv := []) (by decide) (fun G => Nat.le_of_ble_eq_true rfl) (fun X F => ?_)
  show WA X 0 0 0 [(0, .ref (ga X.G 162)), (1, .int p1)] [] m0 (EQ X (some (.int rr)) mm)
  rw [f_X8_missing] at h
  refine a_aload_n (pc := 0) F dX8_missing_0 0 rfl ?_
  refine a_iload_n (pc := 1) F dX8_missing_1 1 rfl ?_
  refine a_iconst (v := 0) (pc := 2) F dX8_missing_2 (by decide) ?_
  refine a_iconst (v := 2) (pc := 3) F dX8_missing_3 (by decide) ?_
  replace h := bnd_some h
  obtain ⟨x2, hc1, h⟩ := h
  refine a_callS (pc := 4) (As := [.int p1, .int 0, .int 2]) (st := [.ref (ga X.G 162)]) F dX8_missing_4 (m_X8_within hc1) cs_RX8_38 rfl rfl rfl (Nat.le_of_ble_eq_true rfl) ⟨Nat.le_of_ble_eq_true rfl, Nat.le_of_ble_eq_true rfl⟩ ?_ rfl rfl
  clear hc1
  replace h := bnd_some h
  obtain ⟨x5, hR3, h⟩ := h
  have hJ3 : WA X 0 0 15 [(0, .ref (ga X.G 162)), (1, .int p1)] [.int x5, .ref (ga X.G 162)] m0 (EQ X (some (.int rr)) mm) := by
    refine a_puti (k := 162) (pc := 15) F dX8_missing_15 fp_RX8_31 kl_162 ks_162 rfl ?_
    refine a_nmm fun m6 em6 => ?_
    replace h := nm_at em6 h
    clear em6
    refine a_aload_n (pc := 18) F dX8_missing_18 0 rfl ?_
    refine a_geti (k := 162) (pc := 19) F dX8_missing_19 fl_RX8_31 kl_162 ks_162 rfl ?_
    refine a_if_le (tgt := 29) (pc := 22) F dX8_missing_22 (by decide) (fun q7 => ?_) (fun q7 => ?_)
    · replace h := ite_t q7 h
      clear q7
      refine a_aload_n (pc := 29) F dX8_missing_29 0 rfl ?_
      refine a_iload_n (pc := 30) F dX8_missing_30 1 rfl ?_
      replace h := bnd_some h
      obtain ⟨x9, hc8, h⟩ := h
      refine a_callV (pc := 31) (k := 162) (As := [.int p1]) (st := []) F dX8_missing_31 (m_X8_missingNow hc8) cv_RX8_233 kl_162 ks_162 ⟨_, _, rfl⟩ rfl rfl rfl (Nat.le_of_ble_eq_true rfl) ⟨Nat.le_of_ble_eq_true rfl, Nat.le_of_ble_eq_true rfl⟩ ?_ rfl rfl
      clear hc8
      cases h
      exact a_iret (pc := 34) F dX8_missing_34 ⟨_, rfl, rfl⟩
    · replace h := ite_f q7 h
      clear q7
      refine a_iconst (v := 0) (pc := 25) F dX8_missing_25 (by decide) ?_
      refine a_goto (tgt := 34) (pc := 26) F dX8_missing_26 (by decide) ?_
      cases h
      exact a_iret (pc := 34) F dX8_missing_34 ⟨_, rfl, rfl⟩
  clear h
  have h := hR3
  clear hR3
  refine a_if_eq (tgt := 14) (pc := 7) F dX8_missing_7 (by decide) (fun q4 => ?_) (fun q4 => ?_)
  · replace h := ite_t q4 h
    clear q4
    refine a_iconst (v := 1) (pc := 14) F dX8_missing_14 (by decide) ?_
    cases h
    exact hJ3
  · replace h := ite_f q4 h
    clear q4
    refine a_iconst (v := 0) (pc := 10) F dX8_missing_10 (by decide) ?_
    refine a_goto (tgt := 15) (pc := 11) F dX8_missing_11 (by decide) ?_
    cases h
    exact hJ3
def f_X8_share (m0 : Mem) : Option UInt64 :=
  nm (m0.1 163 (10 : Int32).toNatClampNeg) fun x1 => (if x1 = 0 then some 0 else nm (m0.1 163 (10 : Int32).toNatClampNeg) fun x3 => nm (m0.1 163 (11 : Int32).toNatClampNeg) fun x4 => nm (m0.1 163 (12 : Int32).toNatClampNeg) fun x5 => nm (FP.i2d ((x3 - x4) - x5)) fun z6 => nm (m0.1 163 (10 : Int32).toNatClampNeg) fun x7 => gDn (FP.ddiv z6 (FP.i2d x7)) <| some (FP.ddiv z6 (FP.i2d x7)))
set_option maxRecDepth 100000 in
set_option maxHeartbeats 4000000 in
theorem m_X8_share {m0 : Mem} {rr : UInt64} (h : f_X8_share m0 = some rr) : Con yX8_share cX8_share 1 (some Jvm.ClassFile.FieldType.double) 0 0 (fun G => [.ref (ga G 162)]) m0 (some (.double rr)) m0 := by
  refine con_of (lv := []) (by decide) (fun G => Nat.le_of_ble_eq_true rfl) (fun X F => ?_)
  show WA X 0 0 0 [(0, .ref (ga X.G 162))] [] m0 (EQ X (some (.double rr)) m0)
  rw [f_X8_share] at h
  refine a_aload_n (pc := 0) F dX8_share_0 0 rfl ?_
  refine a_getr (k := 162) (r := 163) (pc := 1) F dX8_share_1 fl_RX8_7 kl_162 ks_162 rfl ?_
  refine a_bipush (v := 10) (pc := 4) F dX8_share_4 (by decide) ?_
  refine a_ial (k := 163) (pc := 6) F dX8_share_6 kl_163 ks_163 (vp_lit rfl) ?_
  refine a_nmi fun x1 ex1 => ?_
  replace h := nm_at ex1 h
  clear ex1
  refine a_if_ne (tgt := 14) (pc := 7) F dX8_share_7 (by decide) (fun q2 => ?_) (fun q2 => ?_)
  · replace h := ite_f q2 h
    clear q2
    refine a_aload_n (pc := 14) F dX8_share_14 0 rfl ?_
    refine a_getr (k := 162) (r := 163) (pc := 15) F dX8_share_15 fl_RX8_7 kl_162 ks_162 rfl ?_
    refine a_bipush (v := 10) (pc := 18) F dX8_share_18 (by decide) ?_
    refine a_ial (k := 163) (pc := 20) F dX8_share_20 kl_163 ks_163 (vp_lit rfl) ?_
    refine a_nmi fun x3 ex3 => ?_
    replace h := nm_at ex3 h
    clear ex3
    refine a_aload_n (pc := 21) F dX8_share_21 0 rfl ?_
    refine a_getr (k := 162) (r := 163) (pc := 22) F dX8_share_22 fl_RX8_7 kl_162 ks_162 rfl ?_
    refine a_bipush (v := 11) (pc := 25) F dX8_share_25 (by decide) ?_
    refine a_ial (k := 163) (pc := 27) F dX8_share_27 kl_163 ks_163 (vp_lit rfl) ?_
    refine a_nmi fun x4 ex4 => ?_
    replace h := nm_at ex4 h
    clear ex4
    refine a_isub (pc := 28) F dX8_share_28 ?_
    refine a_aload_n (pc := 29) F dX8_share_29 0 rfl ?_
    refine a_getr (k := 162) (r := 163) (pc := 30) F dX8_share_30 fl_RX8_7 kl_162 ks_162 rfl ?_
    refine a_bipush (v := 12) (pc := 33) F dX8_share_33 (by decide) ?_
    refine a_ial (k := 163) (pc := 35) F dX8_share_35 kl_163 ks_163 (vp_lit rfl) ?_
    refine a_nmi fun x5 ex5 => ?_
    replace h := nm_at ex5 h
    clear ex5
    refine a_isub (pc := 36) F dX8_share_36 ?_
    refine a_i2d (pc := 37) F dX8_share_37 ?_
    refine a_nmd fun z6 ez6 => ?_
    replace h := nm_at ez6 h
    clear ez6
    refine a_aload_n (pc := 38) F dX8_share_38 0 rfl ?_
    refine a_getr (k := 162) (r := 163) (pc := 39) F dX8_share_39 fl_RX8_7 kl_162 ks_162 rfl ?_
    refine a_bipush (v := 10) (pc := 42) F dX8_share_42 (by decide) ?_
    refine a_ial (k := 163) (pc := 44) F dX8_share_44 kl_163 ks_163 (vp_lit rfl) ?_
    refine a_nmi fun x7 ex7 => ?_
    replace h := nm_at ex7 h
    clear ex7
    refine a_i2d (pc := 45) F dX8_share_45 ?_
    replace h := gDn_some h
    obtain ⟨g8, h⟩ := h
    refine a_ddiv (pc := 46) F dX8_share_46 g8 ?_
    cases h
    exact a_dret (pc := 47) F dX8_share_47 rfl
  · replace h := ite_t (Decidable.not_not.mp q2) h
    clear q2
    refine a_dconst0 (pc := 10) F dX8_share_10 ?_
    refine a_goto (tgt := 47) (pc := 11) F dX8_share_11 (by decide) ?_
    cases h
    exact a_dret (pc := 47) F dX8_share_47 rfl
def f_X8_doneShare (m0 : Mem) : Option (UInt64 × Mem) :=
  nm (si m0 162 5 0) fun m1 => bnd (f_X8_share m1) fun z3 => some (z3, m1)
set_option maxRecDepth 100000 in
set_option maxHeartbeats 4000000 in
theorem m_X8_doneShare {m0 : Mem} {rr : UInt64} {mm : Mem} (h : f_X8_doneShare m0 = some (rr, mm)) : Con yX8_doneShare cX8_doneShare 1 (some Jvm.ClassFile.FieldType.double) 1 20 (fun G => [.ref (ga G 162)]) m0 (some (.double rr)) mm := by
  refine con_of (lv := []) (by decide) (fun G => Nat.le_of_ble_eq_true rfl) (fun X F => ?_)
  show WA X 0 0 0 [(0, .ref (ga X.G 162))] [] m0 (EQ X (some (.double rr)) mm)
  rw [f_X8_doneShare] at h
  refine a_aload_n (pc := 0) F dX8_doneShare_0 0 rfl ?_
  refine a_iconst (v := 0) (pc := 1) F dX8_doneShare_1 (by decide) ?_
  refine a_puti (k := 162) (pc := 2) F dX8_doneShare_2 fp_RX8_31 kl_162 ks_162 rfl ?_
  refine a_nmm fun m1 em1 => ?_
  replace h := nm_at em1 h
  clear em1
  refine a_aload_n (pc := 5) F dX8_doneShare_5 0 rfl ?_
  replace h := bnd_some h
  obtain ⟨z3, hc2, h⟩ := h
  refine a_callV (pc := 6) (k := 162) (As := []) (st := []) F dX8_doneShare_6 (m_X8_share hc2) cv_RX8_236 kl_162 ks_162 ⟨_, _, rfl⟩ rfl rfl rfl (Nat.le_of_ble_eq_true rfl) ⟨Nat.le_of_ble_eq_true rfl, Nat.le_of_ble_eq_true rfl⟩ ?_ rfl rfl
  clear hc2
  cases h
  exact a_dret (pc := 9) F dX8_doneShare_9 rfl
def f_X8_mix (p1 : Int64) (m0 : Mem) : Option Mem :=
  nm ((31 : Int64) * (m0.2 162 16)) fun y1 => nm (slm m0 162 16 (y1 + p1)) fun m2 => some m2
set_option maxRecDepth 100000 in
set_option maxHeartbeats 4000000 in
theorem m_X8_mix {p1 : Int64} {m0 : Mem} {mm : Mem} (h : f_X8_mix p1 m0 = some mm) : Con yX8_mix cX8_mix 3 none 0 0 (fun G => [.ref (ga G 162), .long p1]) m0 none mm := by
  refine con_of (lv := []) (by decide) (fun G => Nat.le_of_ble_eq_true rfl) (fun X F => ?_)
  show WA X 0 0 0 [(0, .ref (ga X.G 162)), (1, .long p1)] [] m0 (EQ X none mm)
  rw [f_X8_mix] at h
  refine a_aload_n (pc := 0) F dX8_mix_0 0 rfl ?_
  refine a_ldc2l (v := 31) (pc := 1) F dX8_mix_1 cw_RX8_240 ?_
  refine a_aload_n (pc := 4) F dX8_mix_4 0 rfl ?_
  refine a_getl (k := 162) (pc := 5) F dX8_mix_5 fl_RX8_242 kl_162 ks_162 rfl ?_
  refine a_lmul (pc := 8) F dX8_mix_8 ?_
  refine a_nml fun y1 ey1 => ?_
  replace h := nm_at ey1 h
  clear ey1
  refine a_lload_n (pc := 9) F dX8_mix_9 1 rfl ?_
  refine a_ladd (pc := 10) F dX8_mix_10 ?_
  refine a_putl (k := 162) (pc := 11) F dX8_mix_11 fp_RX8_242 kl_162 ks_162 rfl ?_
  refine a_nmm fun m2 em2 => ?_
  replace h := nm_at em2 h
  clear em2
  cases h
  exact a_vret (pc := 14) F dX8_mix_14 rfl
def f_X8_mixHearing_L27 (p1 : Int32) : (Int32 × Mem) → Option ((Int32 × Mem) ⊕ Mem)
  | (x12, m13) => (if 5 ≤ x12 then some (.inr m13) else bnd2 (f_X8_cheapestNow p1 x12 m13) fun x16 m17 => bnd (f_X8_mix x16.toInt64 m17) fun m19 => nm (x12 + 1) fun x20 => some (.inl (x20, m19)))
def f_X8_mixHearing_L2 (p1 : Int32) : (Int32 × Mem) → Option ((Int32 × Mem) ⊕ Mem)
  | (x2, m3) => (if 12 ≤ x2 then some (.inr m3) else bnd (f_X8_hearingNow p1 x2 m3) fun x6 => bnd (f_X8_mix x6.toInt64 m3) fun m8 => nm (x2 + 1) fun x9 => some (.inl (x9, m8)))
def f_X8_mixHearing (p1 : Int32) (m0 : Mem) : Option Mem :=
  bnd (lp (f_X8_mixHearing_L2 p1) 1000000 (0, m0)) (fun m10 => bnd (lp (f_X8_mixHearing_L27 p1) 1000000 (0, m10)) (fun m21 => bnd (f_X8_vacatedThen p1 0 m21) fun x23 => bnd (f_X8_mix x23.toInt64 m21) fun m25 => some m25))
set_option maxRecDepth 100000 in
set_option maxHeartbeats 4000000 in
theorem m_X8_mixHearing {p1 : Int32} {m0 : Mem} {mm : Mem} (h : f_X8_mixHearing p1 m0 = some mm) : Con yX8_mixHearing cX8_mixHearing 3 none 9 206 (fun G => [.ref (ga G 162), .int p1]) m0 none mm := by
  refine con_of (lv := []) (by decide) (fun G => Nat.le_of_ble_eq_true rfl) (fun X F => ?_)
  show WA X 0 0 0 [(0, .ref (ga X.G 162)), (1, .int p1)] [] m0 (EQ X none mm)
  rw [f_X8_mixHearing] at h
  refine a_iconst (v := 0) (pc := 0) F dX8_mixHearing_0 (by decide) ?_
  refine a_istore_n (lv' := [(2, .int 0), (0, .ref (ga X.G 162)), (1, .int p1)]) (pc := 1) F dX8_mixHearing_1 (by decide) rfl ?_
  refine a_lv F [1, 2, 0] rfl ?_
  replace h := bnd_some h
  obtain ⟨m10, hL1, h⟩ := h
  have hE1 : WA X 0 0 25 [(0, .ref (ga X.G 162)), (1, .int p1)] [] m10 (EQ X none mm) := by
    refine a_iconst (v := 0) (pc := 25) F dX8_mixHearing_25 (by decide) ?_
    refine a_istore_n (lv' := [(2, .int 0), (0, .ref (ga X.G 162)), (1, .int p1)]) (pc := 26) F dX8_mixHearing_26 (by decide) rfl ?_
    refine a_lv F [1, 2, 0] rfl ?_
    replace h := bnd_some h
    obtain ⟨m21, hL11, h⟩ := h
    have hE11 : WA X 0 0 49 [(0, .ref (ga X.G 162)), (1, .int p1)] [] m21 (EQ X none mm) := by
      refine a_aload_n (pc := 49) F dX8_mixHearing_49 0 rfl ?_
      refine a_aload_n (pc := 50) F dX8_mixHearing_50 0 rfl ?_
      refine a_iload_n (pc := 51) F dX8_mixHearing_51 1 rfl ?_
      refine a_iconst (v := 0) (pc := 52) F dX8_mixHearing_52 (by decide) ?_
      replace h := bnd_some h
      obtain ⟨x23, hc22, h⟩ := h
      refine a_callV (pc := 53) (k := 162) (As := [.int p1, .int 0]) (st := [.ref (ga X.G 162)]) F dX8_mixHearing_53 (m_X8_vacatedThen hc22) cv_RX8_227 kl_162 ks_162 ⟨_, _, rfl⟩ rfl rfl rfl (Nat.le_of_ble_eq_true rfl) ⟨Nat.le_of_ble_eq_true rfl, Nat.le_of_ble_eq_true rfl⟩ ?_ rfl rfl
      clear hc22
      refine a_i2l (pc := 56) F dX8_mixHearing_56 ?_
      replace h := bnd_some h
      obtain ⟨m25, hc24, h⟩ := h
      refine a_callV (pc := 57) (k := 162) (As := [.long x23.toInt64]) (st := []) F dX8_mixHearing_57 (m_X8_mix hc24) cv_RX8_246 kl_162 ks_162 ⟨_, _, rfl⟩ rfl rfl rfl (Nat.le_of_ble_eq_true rfl) ⟨Nat.le_of_ble_eq_true rfl, Nat.le_of_ble_eq_true rfl⟩ ?_ rfl rfl
      clear hc24
      cases h
      exact a_vret (pc := 60) F dX8_mixHearing_60 rfl
    clear h
    refine lp_run (P := fun (s : (Int32 × Mem)) => WA X 0 0 27 [(0, .ref (ga X.G 162)), (1, .int p1), (2, .int s.1)] [] s.2 (EQ X none mm)) ?_ _ _ hL11
    clear hL11
    rintro ⟨x12, m13⟩ xo h hP11 hT11
    show WA X 0 0 27 [(0, .ref (ga X.G 162)), (1, .int p1), (2, .int x12)] [] m13 (EQ X none mm)
    rw [f_X8_mixHearing_L27] at h
    refine a_iload_n (pc := 27) F dX8_mixHearing_27 2 rfl ?_
    refine a_iconst (v := 5) (pc := 28) F dX8_mixHearing_28 (by decide) ?_
    refine a_icmp_ge (tgt := 49) (pc := 29) F dX8_mixHearing_29 (by decide) (fun q14 => ?_) (fun q14 => ?_)
    · replace h := ite_t q14 h
      clear q14
      refine a_lv F [0, 1] rfl ?_
      cases hT11 _ (Option.some.inj h).symm
      exact hE11
    · replace h := ite_f q14 h
      clear q14
      refine a_aload_n (pc := 32) F dX8_mixHearing_32 0 rfl ?_
      refine a_aload_n (pc := 33) F dX8_mixHearing_33 0 rfl ?_
      refine a_iload_n (pc := 34) F dX8_mixHearing_34 1 rfl ?_
      refine a_iload_n (pc := 35) F dX8_mixHearing_35 2 rfl ?_
      replace h := bnd2_some h
      obtain ⟨x16, m17, hc15, h⟩ := h
      refine a_callV (pc := 36) (k := 162) (As := [.int p1, .int x12]) (st := [.ref (ga X.G 162)]) F dX8_mixHearing_36 (m_X8_cheapestNow hc15) cv_RX8_215 kl_162 ks_162 ⟨_, _, rfl⟩ rfl rfl rfl (Nat.le_of_ble_eq_true rfl) ⟨Nat.le_of_ble_eq_true rfl, Nat.le_of_ble_eq_true rfl⟩ ?_ rfl rfl
      clear hc15
      refine a_i2l (pc := 39) F dX8_mixHearing_39 ?_
      replace h := bnd_some h
      obtain ⟨m19, hc18, h⟩ := h
      refine a_callV (pc := 40) (k := 162) (As := [.long x16.toInt64]) (st := []) F dX8_mixHearing_40 (m_X8_mix hc18) cv_RX8_246 kl_162 ks_162 ⟨_, _, rfl⟩ rfl rfl rfl (Nat.le_of_ble_eq_true rfl) ⟨Nat.le_of_ble_eq_true rfl, Nat.le_of_ble_eq_true rfl⟩ ?_ rfl rfl
      clear hc18
      obtain ⟨x20, ex20⟩ : ∃ x20 : Int32, x20 = x12 + 1 := ⟨_, rfl⟩
      refine a_iinc (v := x20) (lv' := [(2, .int x20), (0, .ref (ga X.G 162)), (1, .int p1)]) (pc := 43) F dX8_mixHearing_43 2 rfl (by rw [ex20]; rfl) (by decide) rfl ?_
      replace h := nm_at ex20 h
      clear ex20
      refine a_goto (tgt := 27) (pc := 46) F dX8_mixHearing_46 (by decide) ?_
      refine a_lv F [1, 2, 0] rfl ?_
      exact hP11 _ (Option.some.inj h).symm
  clear h
  refine lp_run (P := fun (s : (Int32 × Mem)) => WA X 0 0 2 [(0, .ref (ga X.G 162)), (1, .int p1), (2, .int s.1)] [] s.2 (EQ X none mm)) ?_ _ _ hL1
  clear hL1
  rintro ⟨x2, m3⟩ xo h hP1 hT1
  show WA X 0 0 2 [(0, .ref (ga X.G 162)), (1, .int p1), (2, .int x2)] [] m3 (EQ X none mm)
  rw [f_X8_mixHearing_L2] at h
  refine a_iload_n (pc := 2) F dX8_mixHearing_2 2 rfl ?_
  refine a_bipush (v := 12) (pc := 3) F dX8_mixHearing_3 (by decide) ?_
  refine a_icmp_ge (tgt := 25) (pc := 5) F dX8_mixHearing_5 (by decide) (fun q4 => ?_) (fun q4 => ?_)
  · replace h := ite_t q4 h
    clear q4
    refine a_lv F [0, 1] rfl ?_
    cases hT1 _ (Option.some.inj h).symm
    exact hE1
  · replace h := ite_f q4 h
    clear q4
    refine a_aload_n (pc := 8) F dX8_mixHearing_8 0 rfl ?_
    refine a_aload_n (pc := 9) F dX8_mixHearing_9 0 rfl ?_
    refine a_iload_n (pc := 10) F dX8_mixHearing_10 1 rfl ?_
    refine a_iload_n (pc := 11) F dX8_mixHearing_11 2 rfl ?_
    replace h := bnd_some h
    obtain ⟨x6, hc5, h⟩ := h
    refine a_callV (pc := 12) (k := 162) (As := [.int p1, .int x2]) (st := [.ref (ga X.G 162)]) F dX8_mixHearing_12 (m_X8_hearingNow hc5) cv_RX8_189 kl_162 ks_162 ⟨_, _, rfl⟩ rfl rfl rfl (Nat.le_of_ble_eq_true rfl) ⟨Nat.le_of_ble_eq_true rfl, Nat.le_of_ble_eq_true rfl⟩ ?_ rfl rfl
    clear hc5
    refine a_i2l (pc := 15) F dX8_mixHearing_15 ?_
    replace h := bnd_some h
    obtain ⟨m8, hc7, h⟩ := h
    refine a_callV (pc := 16) (k := 162) (As := [.long x6.toInt64]) (st := []) F dX8_mixHearing_16 (m_X8_mix hc7) cv_RX8_246 kl_162 ks_162 ⟨_, _, rfl⟩ rfl rfl rfl (Nat.le_of_ble_eq_true rfl) ⟨Nat.le_of_ble_eq_true rfl, Nat.le_of_ble_eq_true rfl⟩ ?_ rfl rfl
    clear hc7
    obtain ⟨x9, ex9⟩ : ∃ x9 : Int32, x9 = x2 + 1 := ⟨_, rfl⟩
    refine a_iinc (v := x9) (lv' := [(2, .int x9), (0, .ref (ga X.G 162)), (1, .int p1)]) (pc := 19) F dX8_mixHearing_19 2 rfl (by rw [ex9]; rfl) (by decide) rfl ?_
    replace h := nm_at ex9 h
    clear ex9
    refine a_goto (tgt := 2) (pc := 22) F dX8_mixHearing_22 (by decide) ?_
    refine a_lv F [1, 2, 0] rfl ?_
    exact hP1 _ (Option.some.inj h).symm
