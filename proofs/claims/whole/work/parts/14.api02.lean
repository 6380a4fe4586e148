def e_X7_setting (p1 : Int32) (m0 : Mem) : Option ((Int32 × Mem) ⊕ (Nat × Mem)) :=
  bnd (f_X7_isSetting p1 m0) fun x2 => (if x2 = 0 then some (.inr (3, m0)) else gIn p1 7 <| nm (m0.1 (1 + 18) p1.toNatClampNeg) fun x5 => some (.inl (x5, m0)))
set_option maxRecDepth 100000 in
set_option maxHeartbeats 4000000 in
theorem mx_X7_setting {p1 : Int32} {m0 : Mem} {oo : (Int32 × Mem) ⊕ (Nat × Mem)} (h : e_X7_setting p1 m0 = some oo) : ConX yX7_setting cX7_setting 2 (some Jvm.ClassFile.FieldType.int) 6 82 (fun G => [.ref (ga G 0), .int p1]) m0 (ocI oo) := by
  refine conx_of (by decide) (fun G => Nat.le_of_ble_eq_true rfl) (fun X F FX => ?_)
  show WA X 0 0 0 [(0, .ref (ga X.G 0)), (1, .int p1)] [] m0 (EQX X (ocI oo))
  rw [e_X7_setting] at h
  refine a_iload_n (pc := 0) F dX7_setting_0 1 rfl ?_
  replace h := bnd_some h
  obtain ⟨x2, hc1, h⟩ := h
  refine a_callS (pc := 1) (As := [.int p1]) (st := []) F dX7_setting_1 (m_X7_isSetting hc1) cs_RX7_120 rfl rfl rfl (Nat.le_of_ble_eq_true rfl) ⟨Nat.le_of_ble_eq_true rfl, Nat.le_of_ble_eq_true rfl⟩ ?_ rfl rfl
  clear hc1
  refine a_if_ne (tgt := 17) (pc := 4) F dX7_setting_4 (by decide) (fun q3 => ?_) (fun q3 => ?_)
  · replace h := ite_f q3 h
    clear q3
    refine a_aload_n (pc := 17) F dX7_setting_17 0 rfl ?_
    refine a_getr (k := 0) (r := 1) (pc := 18) F dX7_setting_18 fl_RX7_10 kl_0 ks_0 rfl ?_
    refine a_getr (k := 1) (r := (1 + 18)) (pc := 21) F dX7_setting_21 fl_RX7_130 (klC_0 isC_1) (ksC_0 isC_1) rfl ?_
    refine a_iload_n (pc := 24) F dX7_setting_24 1 rfl ?_
    replace h := gIn_some h
    obtain ⟨g4, h⟩ := h
    refine a_ial (k := (1 + 18)) (pc := 25) F dX7_setting_25 (klC_18 isC_1) (ksC_18 isC_1) g4 ?_
    refine a_nmi fun x5 ex5 => ?_
    replace h := nm_at ex5 h
    clear ex5
    cases h
    exact x_iret (pc := 26) F dX7_setting_26 ⟨_, rfl, rfl⟩ rfl
  · replace h := ite_t (Decidable.not_not.mp q3) h
    clear q3
    cases h
    exact x_throw (pc := 7) F FX tw_3 sl_123 dX7_setting_7 dX7_setting_10 dX7_setting_11 dX7_setting_13 dX7_setting_16 (by decide) (Nat.le_of_ble_eq_true rfl) rfl
def e_X7_whyNot (p1 : Int32) (p2 : Int32) (p3 : Int32) (p4 : Int32) (m0 : Mem) : Option ((Int32 × Mem) ⊕ (Nat × Mem)) :=
  bnd (f_X3_has 1 p1 m0) fun x2 => jn ((if x2 = 0 then some (.inl ()) else bnd (f_X7_nameInterpreters p2 p3 p4 m0) fun x6 => (if x6 = 0 then some (.inl ()) else bnd (f_X7_areRowOfDifferent p2 p3 p4 m0) fun x9 => (if x9 = 0 then some (.inr (.inr (1, m0))) else bnd (f_X2_reasonAgainst 1 p1 p2 p3 p4 m0) fun x12 => some (.inr (.inl (x12, m0))))))) (fun (_ : Unit) => some (.inr (3, m0)))
set_option maxRecDepth 100000 in
set_option maxHeartbeats 4000000 in
theorem mx_X7_whyNot {p1 : Int32} {p2 : Int32} {p3 : Int32} {p4 : Int32} {m0 : Mem} {oo : (Int32 × Mem) ⊕ (Nat × Mem)} (h : e_X7_whyNot p1 p2 p3 p4 m0 = some oo) : ConX yX7_whyNot cX7_whyNot 5 (some Jvm.ClassFile.FieldType.int) 6 93 (fun G => [.ref (ga G 0), .int p1, .int p2, .int p3, .int p4]) m0 (ocI oo) := by
  refine conx_of (by decide) (fun G => Nat.le_of_ble_eq_true rfl) (fun X F FX => ?_)
  show WA X 0 0 0 [(0, .ref (ga X.G 0)), (1, .int p1), (2, .int p2), (3, .int p3), (4, .int p4)] [] m0 (EQX X (ocI oo))
  rw [e_X7_whyNot] at h
  refine a_aload_n (pc := 0) F dX7_whyNot_0 0 rfl ?_
  refine a_getr (k := 0) (r := 1) (pc := 1) F dX7_whyNot_1 fl_RX7_10 kl_0 ks_0 rfl ?_
  refine a_getr (k := 1) (r := (1 + 8)) (pc := 4) F dX7_whyNot_4 fl_RX7_89 (klC_0 isC_1) (ksC_0 isC_1) rfl ?_
  refine a_iload_n (pc := 7) F dX7_whyNot_7 1 rfl ?_
  replace h := bnd_some h
  obtain ⟨x2, hc1, h⟩ := h
  refine a_callV (pc := 8) (k := (1 + 8)) (As := [.int p1]) (st := []) F dX7_whyNot_8 (m_X3_has isC_1 hc1) cv_RX7_133 (klC_8 isC_1) (ksC_8 isC_1) ⟨_, _, rfl⟩ rfl rfl rfl (Nat.le_of_ble_eq_true rfl) ⟨Nat.le_of_ble_eq_true rfl, Nat.le_of_ble_eq_true rfl⟩ ?_ rfl rfl
  clear hc1
  replace h := jn_some h
  obtain ⟨o3, hR3, hK3, hB3⟩ := h
  have hJ3 : ∀ (u : Unit), o3 = .inl u → WA X 0 0 25 [] [] m0 (EQX X (ocI oo)) := by
    intro u eo
    have h := hK3 _ eo
    clear hK3 eo
    cases h
    exact x_throw (pc := 25) F FX tw_3 sl_137 dX7_whyNot_25 dX7_whyNot_28 dX7_whyNot_29 dX7_whyNot_31 dX7_whyNot_34 (by decide) (Nat.le_of_ble_eq_true rfl) rfl
  clear hK3
  have h := hR3
  clear hR3
  refine a_if_eq (tgt := 25) (pc := 11) F dX7_whyNot_11 (by decide) (fun q4 => ?_) (fun q4 => ?_)
  · replace h := ite_t q4 h
    clear q4
    refine a_lv F [] rfl ?_
    exact hJ3 _ (Option.some.inj h).symm
  · replace h := ite_f q4 h
    clear q4
    refine a_aload_n (pc := 14) F dX7_whyNot_14 0 rfl ?_
    refine a_iload_n (pc := 15) F dX7_whyNot_15 2 rfl ?_
    refine a_iload_n (pc := 16) F dX7_whyNot_16 3 rfl ?_
    refine a_iload (pc := 17) F dX7_whyNot_17 4 rfl ?_
    replace h := bnd_some h
    obtain ⟨x6, hc5, h⟩ := h
    refine a_callV (pc := 19) (k := 0) (As := [.int p2, .int p3, .int p4]) (st := []) F dX7_whyNot_19 (m_X7_nameInterpreters hc5) cv_RX7_134 kl_0 ks_0 ⟨_, _, rfl⟩ rfl rfl rfl (Nat.le_of_ble_eq_true rfl) ⟨Nat.le_of_ble_eq_true rfl, Nat.le_of_ble_eq_true rfl⟩ ?_ rfl rfl
    clear hc5
    refine a_if_ne (tgt := 35) (pc := 22) F dX7_whyNot_22 (by decide) (fun q7 => ?_) (fun q7 => ?_)
    · replace h := ite_f q7 h
      clear q7
      refine a_iload_n (pc := 35) F dX7_whyNot_35 2 rfl ?_
      refine a_iload_n (pc := 36) F dX7_whyNot_36 3 rfl ?_
      refine a_iload (pc := 37) F dX7_whyNot_37 4 rfl ?_
      replace h := bnd_some h
      obtain ⟨x9, hc8, h⟩ := h
      refine a_callS (pc := 39) (As := [.int p2, .int p3, .int p4]) (st := []) F dX7_whyNot_39 (m_X7_areRowOfDifferent hc8) cs_RX7_139 rfl rfl rfl (Nat.le_of_ble_eq_true rfl) ⟨Nat.le_of_ble_eq_true rfl, Nat.le_of_ble_eq_true rfl⟩ ?_ rfl rfl
      clear hc8
      refine a_if_ne (tgt := 55) (pc := 42) F dX7_whyNot_42 (by decide) (fun q10 => ?_) (fun q10 => ?_)
      · replace h := ite_f q10 h
        clear q10
        refine a_aload_n (pc := 55) F dX7_whyNot_55 0 rfl ?_
        refine a_getr (k := 0) (r := 1) (pc := 56) F dX7_whyNot_56 fl_RX7_10 kl_0 ks_0 rfl ?_
        refine a_iload_n (pc := 59) F dX7_whyNot_59 1 rfl ?_
        refine a_iload_n (pc := 60) F dX7_whyNot_60 2 rfl ?_
        refine a_iload_n (pc := 61) F dX7_whyNot_61 3 rfl ?_
        refine a_iload (pc := 62) F dX7_whyNot_62 4 rfl ?_
        replace h := bnd_some h
        obtain ⟨x12, hc11, h⟩ := h
        refine a_callV (pc := 64) (k := 1) (As := [.int p1, .int p2, .int p3, .int p4]) (st := []) F dX7_whyNot_64 (m_X2_reasonAgainst isC_1 hc11) cv_RX7_144 (klC_0 isC_1) (ksC_0 isC_1) ⟨_, _, rfl⟩ rfl rfl rfl (Nat.le_of_ble_eq_true rfl) ⟨Nat.le_of_ble_eq_true rfl, Nat.le_of_ble_eq_true rfl⟩ ?_ rfl rfl
        clear hc11
        replace h := hB3 _ (Option.some.inj h).symm
        cases h
        exact x_iret (pc := 67) F dX7_whyNot_67 ⟨_, rfl, rfl⟩ rfl
      · replace h := ite_t (Decidable.not_not.mp q10) h
        clear q10
        replace h := hB3 _ (Option.some.inj h).symm
        cases h
        exact x_throw (pc := 45) F FX tw_1 sl_142 dX7_whyNot_45 dX7_whyNot_48 dX7_whyNot_49 dX7_whyNot_51 dX7_whyNot_54 (by decide) (Nat.le_of_ble_eq_true rfl) rfl
    · replace h := ite_t (Decidable.not_not.mp q7) h
      clear q7
      refine a_lv F [] rfl ?_
      exact hJ3 _ (Option.some.inj h).symm
def e_X7_cheapest (p1 : Int32) (p2 : Int32) (m0 : Mem) : Option ((Int32 × Mem) ⊕ (Nat × Mem)) :=
  bnd (f_X3_has 1 p1 m0) fun x2 => (if x2 = 0 then some (.inr (3, m0)) else bnd (f_X7_within p2 0 4 m0) fun x5 => (if x5 = 0 then some (.inr (1, m0)) else bnd (f_X1_seek 1 p1 m0) fun m8 => bnd (f_X1_found p2 m8) fun x10 => some (.inl (x10, m8))))
set_option maxRecDepth 100000 in
set_option maxHeartbeats 4000000 in
theorem mx_X7_cheapest {p1 : Int32} {p2 : Int32} {m0 : Mem} {oo : (Int32 × Mem) ⊕ (Nat × Mem)} (h : e_X7_cheapest p1 p2 m0 = some oo) : ConX yX7_cheapest cX7_cheapest 3 (some Jvm.ClassFile.FieldType.int) 6 123 (fun G => [.ref (ga G 0), .int p1, .int p2]) m0 (ocI oo) := by
  refine conx_of (by decide) (fun G => Nat.le_of_ble_eq_true rfl) (fun X F FX => ?_)
  show WA X 0 0 0 [(0, .ref (ga X.G 0)), (1, .int p1), (2, .int p2)] [] m0 (EQX X (ocI oo))
  rw [e_X7_cheapest] at h
  refine a_aload_n (pc := 0) F dX7_cheapest_0 0 rfl ?_
  refine a_getr (k := 0) (r := 1) (pc := 1) F dX7_cheapest_1 fl_RX7_10 kl_0 ks_0 rfl ?_
  refine a_getr (k := 1) (r := (1 + 8)) (pc := 4) F dX7_cheapest_4 fl_RX7_89 (klC_0 isC_1) (ksC_0 isC_1) rfl ?_
  refine a_iload_n (pc := 7) F dX7_cheapest_7 1 rfl ?_
  replace h := bnd_some h
  obtain ⟨x2, hc1, h⟩ := h
  refine a_callV (pc := 8) (k := (1 + 8)) (As := [.int p1]) (st := []) F dX7_cheapest_8 (m_X3_has isC_1 hc1) cv_RX7_133 (klC_8 isC_1) (ksC_8 isC_1) ⟨_, _, rfl⟩ rfl rfl rfl (Nat.le_of_ble_eq_true rfl) ⟨Nat.le_of_ble_eq_true rfl, Nat.le_of_ble_eq_true rfl⟩ ?_ rfl rfl
  clear hc1
  refine a_if_ne (tgt := 24) (pc := 11) F dX7_cheapest_11 (by decide) (fun q3 => ?_) (fun q3 => ?_)
  · replace h := ite_f q3 h
    clear q3
    refine a_iload_n (pc := 24) F dX7_cheapest_24 2 rfl ?_
    refine a_iconst (v := 0) (pc := 25) F dX7_cheapest_25 (by decide) ?_
    refine a_iconst (v := 4) (pc := 26) F dX7_cheapest_26 (by decide) ?_
    replace h := bnd_some h
    obtain ⟨x5, hc4, h⟩ := h
    refine a_callS (pc := 27) (As := [.int p2, .int 0, .int 4]) (st := []) F dX7_cheapest_27 (m_X7_within hc4) cs_RX7_47 rfl rfl rfl (Nat.le_of_ble_eq_true rfl) ⟨Nat.le_of_ble_eq_true rfl, Nat.le_of_ble_eq_true rfl⟩ ?_ rfl rfl
    clear hc4
    refine a_if_ne (tgt := 43) (pc := 30) F dX7_cheapest_30 (by decide) (fun q6 => ?_) (fun q6 => ?_)
    · replace h := ite_f q6 h
      clear q6
      refine a_aload_n (pc := 43) F dX7_cheapest_43 0 rfl ?_
      refine a_getr (k := 0) (r := 158) (pc := 44) F dX7_cheapest_44 fl_RX7_43 kl_0 ks_0 rfl ?_
      refine a_aload_n (pc := 47) F dX7_cheapest_47 0 rfl ?_
      refine a_getr (k := 0) (r := 1) (pc := 48) F dX7_cheapest_48 fl_RX7_10 kl_0 ks_0 rfl ?_
      refine a_iload_n (pc := 51) F dX7_cheapest_51 1 rfl ?_
      replace h := bnd_some h
      obtain ⟨m8, hc7, h⟩ := h
      refine a_callV (pc := 52) (k := 158) (As := [.ref (ga X.G 1), .int p1]) (st := []) F dX7_cheapest_52 (m_X1_seek isC_1 hc7) cv_RX7_250 kl_158 ks_158 ⟨_, _, rfl⟩ rfl rfl rfl (Nat.le_of_ble_eq_true rfl) ⟨Nat.le_of_ble_eq_true rfl, Nat.le_of_ble_eq_true rfl⟩ ?_ rfl rfl
      clear hc7
      refine a_aload_n (pc := 55) F dX7_cheapest_55 0 rfl ?_
      refine a_getr (k := 0) (r := 158) (pc := 56) F dX7_cheapest_56 fl_RX7_43 kl_0 ks_0 rfl ?_
      refine a_iload_n (pc := 59) F dX7_cheapest_59 2 rfl ?_
      replace h := bnd_some h
      obtain ⟨x10, hc9, h⟩ := h
      refine a_callV (pc := 60) (k := 158) (As := [.int p2]) (st := []) F dX7_cheapest_60 (m_X1_found hc9) cv_RX7_254 kl_158 ks_158 ⟨_, _, rfl⟩ rfl rfl rfl (Nat.le_of_ble_eq_true rfl) ⟨Nat.le_of_ble_eq_true rfl, Nat.le_of_ble_eq_true rfl⟩ ?_ rfl rfl
      clear hc9
      cases h
      exact x_iret (pc := 63) F dX7_cheapest_63 ⟨_, rfl, rfl⟩ rfl
    · replace h := ite_t (Decidable.not_not.mp q6) h
      clear q6
      cases h
      exact x_throw (pc := 33) F FX tw_1 sl_248 dX7_cheapest_33 dX7_cheapest_36 dX7_cheapest_37 dX7_cheapest_39 dX7_cheapest_42 (by decide) (Nat.le_of_ble_eq_true rfl) rfl
  · replace h := ite_t (Decidable.not_not.mp q3) h
    clear q3
    cases h
    exact x_throw (pc := 14) F FX tw_3 sl_157 dX7_cheapest_14 dX7_cheapest_17 dX7_cheapest_18 dX7_cheapest_20 dX7_cheapest_23 (by decide) (Nat.le_of_ble_eq_true rfl) rfl
def e_X7_tiredIn (p1 : Int32) (p2 : Int32) (m0 : Mem) : Option ((Int32 × Mem) ⊕ (Nat × Mem)) :=
  bnd (f_X6_has 1 p1 m0) fun x2 => (if x2 = 0 then some (.inr (3, m0)) else bnd (f_X7_within p2 0 500 m0) fun x5 => (if x5 = 0 then some (.inr (1, m0)) else bnd (f_X7_imagineLater p2 m0) fun m8 => gIn p1 10 <| nm (m8.1 (20 + 5) p1.toNatClampNeg) fun x10 => some (.inl (x10, m8))))
set_option maxRecDepth 100000 in
set_option maxHeartbeats 4000000 in
theorem mx_X7_tiredIn {p1 : Int32} {p2 : Int32} {m0 : Mem} {oo : (Int32 × Mem) ⊕ (Nat × Mem)} (h : e_X7_tiredIn p1 p2 m0 = some oo) : ConX yX7_tiredIn cX7_tiredIn 3 (some Jvm.ClassFile.FieldType.int) 6 140 (fun G => [.ref (ga G 0), .int p1, .int p2]) m0 (ocI oo) := by
  refine conx_of (by decide) (fun G => Nat.le_of_ble_eq_true rfl) (fun X F FX => ?_)
  show WA X 0 0 0 [(0, .ref (ga X.G 0)), (1, .int p1), (2, .int p2)] [] m0 (EQX X (ocI oo))
  rw [e_X7_tiredIn] at h
  refine a_aload_n (pc := 0) F dX7_tiredIn_0 0 rfl ?_
  refine a_getr (k := 0) (r := 1) (pc := 1) F dX7_tiredIn_1 fl_RX7_10 kl_0 ks_0 rfl ?_
  refine a_getr (k := 1) (r := (1 + 1)) (pc := 4) F dX7_tiredIn_4 fl_RX7_64 (klC_0 isC_1) (ksC_0 isC_1) rfl ?_
  refine a_iload_n (pc := 7) F dX7_tiredIn_7 1 rfl ?_
  replace h := bnd_some h
  obtain ⟨x2, hc1, h⟩ := h
  refine a_callV (pc := 8) (k := (1 + 1)) (As := [.int p1]) (st := []) F dX7_tiredIn_8 (m_X6_has isC_1 hc1) cv_RX7_105 (klC_1 isC_1) (ksC_1 isC_1) ⟨_, _, rfl⟩ rfl rfl rfl (Nat.le_of_ble_eq_true rfl) ⟨Nat.le_of_ble_eq_true rfl, Nat.le_of_ble_eq_true rfl⟩ ?_ rfl rfl
  clear hc1
  refine a_if_ne (tgt := 24) (pc := 11) F dX7_tiredIn_11 (by decide) (fun q3 => ?_) (fun q3 => ?_)
  · replace h := ite_f q3 h
    clear q3
    refine a_iload_n (pc := 24) F dX7_tiredIn_24 2 rfl ?_
    refine a_iconst (v := 0) (pc := 25) F dX7_tiredIn_25 (by decide) ?_
    refine a_sipush (v := 500) (pc := 26) F dX7_tiredIn_26 (by decide) ?_
    replace h := bnd_some h
    obtain ⟨x5, hc4, h⟩ := h
    refine a_callS (pc := 29) (As := [.int p2, .int 0, .int 500]) (st := []) F dX7_tiredIn_29 (m_X7_within hc4) cs_RX7_47 rfl rfl rfl (Nat.le_of_ble_eq_true rfl) ⟨Nat.le_of_ble_eq_true rfl, Nat.le_of_ble_eq_true rfl⟩ ?_ rfl rfl
    clear hc4
    refine a_if_ne (tgt := 45) (pc := 32) F dX7_tiredIn_32 (by decide) (fun q6 => ?_) (fun q6 => ?_)
    · replace h := ite_f q6 h
      clear q6
      refine a_aload_n (pc := 45) F dX7_tiredIn_45 0 rfl ?_
      refine a_iload_n (pc := 46) F dX7_tiredIn_46 2 rfl ?_
      replace h := bnd_some h
      obtain ⟨m8, hc7, h⟩ := h
      refine a_callV (pc := 47) (k := 0) (As := [.int p2]) (st := []) F dX7_tiredIn_47 (m_X7_imagineLater hc7) cv_RX7_257 kl_0 ks_0 ⟨_, _, rfl⟩ rfl rfl rfl (Nat.le_of_ble_eq_true rfl) ⟨Nat.le_of_ble_eq_true rfl, Nat.le_of_ble_eq_true rfl⟩ ?_ rfl rfl
      clear hc7
      refine a_aload_n (pc := 50) F dX7_tiredIn_50 0 rfl ?_
      refine a_getr (k := 0) (r := 20) (pc := 51) F dX7_tiredIn_51 fl_RX7_16 kl_0 ks_0 rfl ?_
      refine a_getr (k := 20) (r := (20 + 1)) (pc := 54) F dX7_tiredIn_54 fl_RX7_64 (klC_0 isC_20) (ksC_0 isC_20) rfl ?_
      refine a_getr (k := (20 + 1)) (r := (20 + 5)) (pc := 57) F dX7_tiredIn_57 fl_RX7_260 (klC_1 isC_20) (ksC_1 isC_20) rfl ?_
      refine a_iload_n (pc := 60) F dX7_tiredIn_60 1 rfl ?_
      replace h := gIn_some h
      obtain ⟨g9, h⟩ := h
      refine a_ial (k := (20 + 5)) (pc := 61) F dX7_tiredIn_61 (klC_5 isC_20) (ksC_5 isC_20) g9 ?_
      refine a_nmi fun x10 ex10 => ?_
      replace h := nm_at ex10 h
      clear ex10
      cases h
      exact x_iret (pc := 62) F dX7_tiredIn_62 ⟨_, rfl, rfl⟩ rfl
    · replace h := ite_t (Decidable.not_not.mp q6) h
      clear q6
      cases h
      exact x_throw (pc := 35) F FX tw_1 sl_189 dX7_tiredIn_35 dX7_tiredIn_38 dX7_tiredIn_39 dX7_tiredIn_41 dX7_tiredIn_44 (by decide) (Nat.le_of_ble_eq_true rfl) rfl
  · replace h := ite_t (Decidable.not_not.mp q3) h
    clear q3
    cases h
    exact x_throw (pc := 14) F FX tw_3 sl_111 dX7_tiredIn_14 dX7_tiredIn_17 dX7_tiredIn_18 dX7_tiredIn_20 dX7_tiredIn_23 (by decide) (Nat.le_of_ble_eq_true rfl) rfl
def e_X7_ifVacated (p1 : Int32) (p2 : Int32) (m0 : Mem) : Option ((Int32 × Mem) ⊕ (Nat × Mem)) :=
  bnd (f_X3_has 1 p1 m0) fun x2 => (if x2 = 0 then some (.inr (3, m0)) else bnd (f_X7_within p2 0 2000 m0) fun x5 => (if x5 = 0 then some (.inr (1, m0)) else bnd (f_X2_payIfVacated 1 p1 p2 m0) fun x8 => some (.inl (x8, m0))))
set_option maxRecDepth 100000 in
set_option maxHeartbeats 4000000 in
theorem mx_X7_ifVacated {p1 : Int32} {p2 : Int32} {m0 : Mem} {oo : (Int32 × Mem) ⊕ (Nat × Mem)} (h : e_X7_ifVacated p1 p2 m0 = some oo) : ConX yX7_ifVacated cX7_ifVacated 3 (some Jvm.ClassFile.FieldType.int) 6 94 (fun G => [.ref (ga G 0), .int p1, .int p2]) m0 (ocI oo) := by
  refine conx_of (by decide) (fun G => Nat.le_of_ble_eq_true rfl) (fun X F FX => ?_)
  show WA X 0 0 0 [(0, .ref (ga X.G 0)), (1, .int p1), (2, .int p2)] [] m0 (EQX X (ocI oo))
  rw [e_X7_ifVacated] at h
  refine a_aload_n (pc := 0) F dX7_ifVacated_0 0 rfl ?_
  refine a_getr (k := 0) (r := 1) (pc := 1) F dX7_ifVacated_1 fl_RX7_10 kl_0 ks_0 rfl ?_
  refine a_getr (k := 1) (r := (1 + 8)) (pc := 4) F dX7_ifVacated_4 fl_RX7_89 (klC_0 isC_1) (ksC_0 isC_1) rfl ?_
  refine a_iload_n (pc := 7) F dX7_ifVacated_7 1 rfl ?_
  replace h := bnd_some h
  obtain ⟨x2, hc1, h⟩ := h
  refine a_callV (pc := 8) (k := (1 + 8)) (As := [.int p1]) (st := []) F dX7_ifVacated_8 (m_X3_has isC_1 hc1) cv_RX7_133 (klC_8 isC_1) (ksC_8 isC_1) ⟨_, _, rfl⟩ rfl rfl rfl (Nat.le_of_ble_eq_true rfl) ⟨Nat.le_of_ble_eq_true rfl, Nat.le_of_ble_eq_true rfl⟩ ?_ rfl rfl
  clear hc1
  refine a_if_ne (tgt := 24) (pc := 11) F dX7_ifVacated_11 (by decide) (fun q3 => ?_) (fun q3 => ?_)
  · replace h := ite_f q3 h
    clear q3
    refine a_iload_n (pc := 24) F dX7_ifVacated_24 2 rfl ?_
    refine a_iconst (v := 0) (pc := 25) F dX7_ifVacated_25 (by decide) ?_
    refine a_sipush (v := 2000) (pc := 26) F dX7_ifVacated_26 (by decide) ?_
    replace h := bnd_some h
    obtain ⟨x5, hc4, h⟩ := h
    refine a_callS (pc := 29) (As := [.int p2, .int 0, .int 2000]) (st := []) F dX7_ifVacated_29 (m_X7_within hc4) cs_RX7_47 rfl rfl rfl (Nat.le_of_ble_eq_true rfl) ⟨Nat.le_of_ble_eq_true rfl, Nat.le_of_ble_eq_true rfl⟩ ?_ rfl rfl
    clear hc4
    refine a_if_ne (tgt := 45) (pc := 32) F dX7_ifVacated_32 (by decide) (fun q6 => ?_) (fun q6 => ?_)
    · replace h := ite_f q6 h
      clear q6
      refine a_aload_n (pc := 45) F dX7_ifVacated_45 0 rfl ?_
      refine a_getr (k := 0) (r := 1) (pc := 46) F dX7_ifVacated_46 fl_RX7_10 kl_0 ks_0 rfl ?_
      refine a_iload_n (pc := 49) F dX7_ifVacated_49 1 rfl ?_
      refine a_iload_n (pc := 50) F dX7_ifVacated_50 2 rfl ?_
      replace h := bnd_some h
      obtain ⟨x8, hc7, h⟩ := h
      refine a_callV (pc := 51) (k := 1) (As := [.int p1, .int p2]) (st := []) F dX7_ifVacated_51 (m_X2_payIfVacated isC_1 hc7) cv_RX7_263 (klC_0 isC_1) (ksC_0 isC_1) ⟨_, _, rfl⟩ rfl rfl rfl (Nat.le_of_ble_eq_true rfl) ⟨Nat.le_of_ble_eq_true rfl, Nat.le_of_ble_eq_true rfl⟩ ?_ rfl rfl
      clear hc7
      cases h
      exact x_iret (pc := 54) F dX7_ifVacated_54 ⟨_, rfl, rfl⟩ rfl
    · replace h := ite_t (Decidable.not_not.mp q6) h
      clear q6
      cases h
      exact x_throw (pc := 35) F FX tw_1 sl_189 dX7_ifVacated_35 dX7_ifVacated_38 dX7_ifVacated_39 dX7_ifVacated_41 dX7_ifVacated_44 (by decide) (Nat.le_of_ble_eq_true rfl) rfl
  · replace h := ite_t (Decidable.not_not.mp q3) h
    clear q3
    cases h
    exact x_throw (pc := 14) F FX tw_3 sl_157 dX7_ifVacated_14 dX7_ifVacated_17 dX7_ifVacated_18 dX7_ifVacated_20 dX7_ifVacated_23 (by decide) (Nat.le_of_ble_eq_true rfl) rfl
def e_X7_missing (p1 : Int32) (m0 : Mem) : Option ((Int32 × Mem) ⊕ (Nat × Mem)) :=
  bnd (f_X7_within p1 0 2 m0) fun x2 => (if x2 = 0 then some (.inr (1, m0)) else bnd (f_X6_languagesWithoutChain 1 p1 m0) fun x5 => some (.inl (x5, m0)))
set_option maxRecDepth 100000 in
set_option maxHeartbeats 4000000 in
theorem mx_X7_missing {p1 : Int32} {m0 : Mem} {oo : (Int32 × Mem) ⊕ (Nat × Mem)} (h : e_X7_missing p1 m0 = some oo) : ConX yX7_missing cX7_missing 2 (some Jvm.ClassFile.FieldType.int) 6 82 (fun G => [.ref (ga G 0), .int p1]) m0 (ocI oo) := by
  refine conx_of (by decide) (fun G => Nat.le_of_ble_eq_true rfl) (fun X F FX => ?_)
  show WA X 0 0 0 [(0, .ref (ga X.G 0)), (1, .int p1)] [] m0 (EQX X (ocI oo))
  rw [e_X7_missing] at h
  refine a_iload_n (pc := 0) F dX7_missing_0 1 rfl ?_
  refine a_iconst (v := 0) (pc := 1) F dX7_missing_1 (by decide) ?_
  refine a_iconst (v := 2) (pc := 2) F dX7_missing_2 (by decide) ?_
  replace h := bnd_some h
  obtain ⟨x2, hc1, h⟩ := h
  refine a_callS (pc := 3) (As := [.int p1, .int 0, .int 2]) (st := []) F dX7_missing_3 (m_X7_within hc1) cs_RX7_47 rfl rfl rfl (Nat.le_of_ble_eq_true rfl) ⟨Nat.le_of_ble_eq_true rfl, Nat.le_of_ble_eq_true rfl⟩ ?_ rfl rfl
  clear hc1
  refine a_if_ne (tgt := 20) (pc := 6) F dX7_missing_6 (by decide) (fun q3 => ?_) (fun q3 => ?_)
  · replace h := ite_f q3 h
    clear q3
    refine a_aload_n (pc := 20) F dX7_missing_20 0 rfl ?_
    refine a_getr (k := 0) (r := 1) (pc := 21) F dX7_missing_21 fl_RX7_10 kl_0 ks_0 rfl ?_
    refine a_getr (k := 1) (r := (1 + 1)) (pc := 24) F dX7_missing_24 fl_RX7_64 (klC_0 isC_1) (ksC_0 isC_1) rfl ?_
    refine a_iload_n (pc := 27) F dX7_missing_27 1 rfl ?_
    replace h := bnd_some h
    obtain ⟨x5, hc4, h⟩ := h
    refine a_callV (pc := 28) (k := (1 + 1)) (As := [.int p1]) (st := []) F dX7_missing_28 (m_X6_languagesWithoutChain isC_1 hc4) cv_RX7_282 (klC_1 isC_1) (ksC_1 isC_1) ⟨_, _, rfl⟩ rfl rfl rfl (Nat.le_of_ble_eq_true rfl) ⟨Nat.le_of_ble_eq_true rfl, Nat.le_of_ble_eq_true rfl⟩ ?_ rfl rfl
    clear hc4
    cases h
    exact x_iret (pc := 31) F dX7_missing_31 ⟨_, rfl, rfl⟩ rfl
  · replace h := ite_t (Decidable.not_not.mp q3) h
    clear q3
    cases h
    exact x_throwW (pc := 9) F FX tw_1 sl_280 dX7_missing_9 dX7_missing_12 dX7_missing_13 dX7_missing_16 dX7_missing_19 (by decide) (Nat.le_of_ble_eq_true rfl) rfl
