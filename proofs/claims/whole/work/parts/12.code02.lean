def f_X8_addHearing (p1 : Int32) (p2 : Int32) (p3 : Int32) (p4 : Int32) (m0 : Mem) : Option (Int32 × Mem) :=
  bnd (f_X8_within p1 0 2 m0) fun x2 => bnd ((if x2 = 0 then some 0 else bnd (f_X8_within p2 1 9 m0) fun x6 => (if x6 = 0 then some 0 else bnd (f_X8_within p3 1 2000 m0) fun x9 => (if x9 = 0 then some 0 else bnd (f_X8_within p4 10 240 m0) fun x12 => (if x12 = 0 then some 0 else some 1))))) (fun (x14 : Int32) => bnd ((if x14 = 0 then some 1 else (if (m0.1 163 8) = 30 then some 2 else some 0))) (fun (x18 : Int32) => nm (si m0 162 5 x18) fun m19 => (if (m19.1 162 5) ≤ 0 then bnd (f_X8_save m19) fun m22 => bnd2 (f_X8_putHearing p1 p2 p3 p4 m22) fun x24 m25 => some (x24, m25) else some (0, m19))))
set_option maxRecDepth 100000 in
set_option maxHeartbeats 4000000 in
theorem m_X8_addHearing {p1 : Int32} {p2 : Int32} {p3 : Int32} {p4 : Int32} {m0 : Mem} {rr : Int32} {mm : Mem} (h : f_X8_addHearing p1 p2 p3 p4 m0 = some (rr, mm)) : Con yX8_addHearing cX8_addHearing 6 (some Jvm.ClassFile.FieldType.int) 2 49 (fun G => [.ref (ga G 162), .int p1, .int p2, .int p3, .int p4]) m0 (some (.int rr)) mm := by
  refine con_of (by decide) (fun G => Nat.le_of_ble_eq_true rfl) (fun X F => ?_)
  show WA X 0 0 0 [(0, .ref (ga X.G 162)), (1, .int p1), (2, .int p2), (3, .int p3), (4, .int p4)] [] m0 (EQ X (some (.int rr)) mm)
  rw [f_X8_addHearing] at h
  refine a_iload_n (pc := 0) F dX8_addHearing_0 1 rfl ?_
  refine a_iconst (v := 0) (pc := 1) F dX8_addHearing_1 (by decide) ?_
  refine a_iconst (v := 2) (pc := 2) F dX8_addHearing_2 (by decide) ?_
  replace h := bnd_some h
  obtain ⟨x2, hc1, h⟩ := h
  refine a_callS (pc := 3) (As := [.int p1, .int 0, .int 2]) (st := []) F dX8_addHearing_3 (m_X8_within hc1) cs_RX8_38 rfl rfl rfl (Nat.le_of_ble_eq_true rfl) ⟨Nat.le_of_ble_eq_true rfl, Nat.le_of_ble_eq_true rfl⟩ ?_ rfl rfl
  clear hc1
  replace h := bnd_some h
  obtain ⟨x14, hR3, h⟩ := h
  have hJ3 : WA X 0 0 48 [(0, .ref (ga X.G 162)), (1, .int p1), (2, .int p2), (3, .int p3), (4, .int p4)] [.int x14] m0 (EQ X (some (.int rr)) mm) := by
    refine a_istore (lv' := [(5, .int x14), (0, .ref (ga X.G 162)), (1, .int p1), (2, .int p2), (3, .int p3), (4, .int p4)]) (pc := 48) F dX8_addHearing_48 (by decide) rfl ?_
    refine a_aload_n (pc := 50) F dX8_addHearing_50 1 rfl ?_
    refine a_iload (pc := 51) F dX8_addHearing_51 0 rfl ?_
    replace h := bnd_some h
    obtain ⟨x18, hR15, h⟩ := h
    have hJ15 : WA X 0 0 77 [(0, .ref (ga X.G 162)), (1, .int p1), (2, .int p2), (3, .int p3), (4, .int p4)] [.int x18, .ref (ga X.G 162)] m0 (EQ X (some (.int rr)) mm) := by
      refine a_puti (k := 162) (pc := 77) F dX8_addHearing_77 fp_RX8_31 kl_162 ks_162 rfl ?_
      refine a_nmm fun m19 em19 => ?_
      replace h := nm_at em19 h
      clear em19
      refine a_aload_n (pc := 80) F dX8_addHearing_80 0 rfl ?_
      refine a_geti (k := 162) (pc := 81) F dX8_addHearing_81 fl_RX8_31 kl_162 ks_162 rfl ?_
      refine a_if_le (tgt := 89) (pc := 84) F dX8_addHearing_84 (by decide) (fun q20 => ?_) (fun q20 => ?_)
      · replace h := ite_t q20 h
        clear q20
        refine a_aload_n (pc := 89) F dX8_addHearing_89 0 rfl ?_
        replace h := bnd_some h
        obtain ⟨m22, hc21, h⟩ := h
        refine a_callV (pc := 90) (k := 162) (As := []) (st := []) F dX8_addHearing_90 (m_X8_save hc21) cv_RX8_71 kl_162 ks_162 ⟨_, _, rfl⟩ rfl rfl rfl (Nat.le_of_ble_eq_true rfl) ⟨Nat.le_of_ble_eq_true rfl, Nat.le_of_ble_eq_true rfl⟩ ?_ rfl rfl
        clear hc21
        refine a_aload_n (pc := 93) F dX8_addHearing_93 0 rfl ?_
        refine a_iload_n (pc := 94) F dX8_addHearing_94 1 rfl ?_
        refine a_iload_n (pc := 95) F dX8_addHearing_95 2 rfl ?_
        refine a_iload_n (pc := 96) F dX8_addHearing_96 3 rfl ?_
        refine a_iload (pc := 97) F dX8_addHearing_97 4 rfl ?_
        replace h := bnd2_some h
        obtain ⟨x24, m25, hc23, h⟩ := h
        refine a_callV (pc := 99) (k := 162) (As := [.int p1, .int p2, .int p3, .int p4]) (st := []) F dX8_addHearing_99 (m_X8_putHearing hc23) cv_RX8_78 kl_162 ks_162 ⟨_, _, rfl⟩ rfl rfl rfl (Nat.le_of_ble_eq_true rfl) ⟨Nat.le_of_ble_eq_true rfl, Nat.le_of_ble_eq_true rfl⟩ ?_ rfl rfl
        clear hc23
        cases h
        exact a_iret (pc := 102) F dX8_addHearing_102 ⟨_, rfl, rfl⟩
      · replace h := ite_f q20 h
        clear q20
        refine a_iconst (v := 0) (pc := 87) F dX8_addHearing_87 (by decide) ?_
        cases h
        exact a_iret (pc := 88) F dX8_addHearing_88 ⟨_, rfl, rfl⟩
    clear h
    have h := hR15
    clear hR15
    refine a_if_ne (tgt := 60) (pc := 53) F dX8_addHearing_53 (by decide) (fun q16 => ?_) (fun q16 => ?_)
    · replace h := ite_f q16 h
      clear q16
      refine a_aload_n (pc := 60) F dX8_addHearing_60 1 rfl ?_
      refine a_getr (k := 162) (r := 163) (pc := 61) F dX8_addHearing_61 fl_RX8_7 kl_162 ks_162 rfl ?_
      refine a_bipush (v := 8) (pc := 64) F dX8_addHearing_64 (by decide) ?_
      refine a_ialc (k := 163) (pc := 66) F dX8_addHearing_66 kl_163 ks_163 rfl rfl ?_
      refine a_bipush (v := 30) (pc := 67) F dX8_addHearing_67 (by decide) ?_
      refine a_icmp_ne (tgt := 76) (pc := 69) F dX8_addHearing_69 (by decide) (fun q17 => ?_) (fun q17 => ?_)
      · replace h := ite_f q17 h
        clear q17
        refine a_iconst (v := 0) (pc := 76) F dX8_addHearing_76 (by decide) ?_
        refine a_lv F [1, 2, 3, 4, 5] rfl ?_
        cases h
        exact hJ15
      · replace h := ite_t (Decidable.not_not.mp q17) h
        clear q17
        refine a_iconst (v := 2) (pc := 72) F dX8_addHearing_72 (by decide) ?_
        refine a_goto (tgt := 77) (pc := 73) F dX8_addHearing_73 (by decide) ?_
        refine a_lv F [1, 2, 3, 4, 5] rfl ?_
        cases h
        exact hJ15
    · replace h := ite_t (Decidable.not_not.mp q16) h
      clear q16
      refine a_iconst (v := 1) (pc := 56) F dX8_addHearing_56 (by decide) ?_
      refine a_goto (tgt := 77) (pc := 57) F dX8_addHearing_57 (by decide) ?_
      refine a_lv F [1, 2, 3, 4, 5] rfl ?_
      cases h
      exact hJ15
  clear h
  have h := hR3
  clear hR3
  refine a_if_eq (tgt := 47) (pc := 6) F dX8_addHearing_6 (by decide) (fun q4 => ?_) (fun q4 => ?_)
  · replace h := ite_t q4 h
    clear q4
    refine a_iconst (v := 0) (pc := 47) F dX8_addHearing_47 (by decide) ?_
    cases h
    exact hJ3
  · replace h := ite_f q4 h
    clear q4
    refine a_iload_n (pc := 9) F dX8_addHearing_9 2 rfl ?_
    refine a_iconst (v := 1) (pc := 10) F dX8_addHearing_10 (by decide) ?_
    refine a_bipush (v := 9) (pc := 11) F dX8_addHearing_11 (by decide) ?_
    replace h := bnd_some h
    obtain ⟨x6, hc5, h⟩ := h
    refine a_callS (pc := 13) (As := [.int p2, .int 1, .int 9]) (st := []) F dX8_addHearing_13 (m_X8_within hc5) cs_RX8_38 rfl rfl rfl (Nat.le_of_ble_eq_true rfl) ⟨Nat.le_of_ble_eq_true rfl, Nat.le_of_ble_eq_true rfl⟩ ?_ rfl rfl
    clear hc5
    refine a_if_eq (tgt := 47) (pc := 16) F dX8_addHearing_16 (by decide) (fun q7 => ?_) (fun q7 => ?_)
    · replace h := ite_t q7 h
      clear q7
      refine a_iconst (v := 0) (pc := 47) F dX8_addHearing_47 (by decide) ?_
      cases h
      exact hJ3
    · replace h := ite_f q7 h
      clear q7
      refine a_iload_n (pc := 19) F dX8_addHearing_19 3 rfl ?_
      refine a_iconst (v := 1) (pc := 20) F dX8_addHearing_20 (by decide) ?_
      refine a_sipush (v := 2000) (pc := 21) F dX8_addHearing_21 (by decide) ?_
      replace h := bnd_some h
      obtain ⟨x9, hc8, h⟩ := h
      refine a_callS (pc := 24) (As := [.int p3, .int 1, .int 2000]) (st := []) F dX8_addHearing_24 (m_X8_within hc8) cs_RX8_38 rfl rfl rfl (Nat.le_of_ble_eq_true rfl) ⟨Nat.le_of_ble_eq_true rfl, Nat.le_of_ble_eq_true rfl⟩ ?_ rfl rfl
      clear hc8
      refine a_if_eq (tgt := 47) (pc := 27) F dX8_addHearing_27 (by decide) (fun q10 => ?_) (fun q10 => ?_)
      · replace h := ite_t q10 h
        clear q10
        refine a_iconst (v := 0) (pc := 47) F dX8_addHearing_47 (by decide) ?_
        cases h
        exact hJ3
      · replace h := ite_f q10 h
        clear q10
        refine a_iload (pc := 30) F dX8_addHearing_30 4 rfl ?_
        refine a_bipush (v := 10) (pc := 32) F dX8_addHearing_32 (by decide) ?_
        refine a_sipush (v := 240) (pc := 34) F dX8_addHearing_34 (by decide) ?_
        replace h := bnd_some h
        obtain ⟨x12, hc11, h⟩ := h
        refine a_callS (pc := 37) (As := [.int p4, .int 10, .int 240]) (st := []) F dX8_addHearing_37 (m_X8_within hc11) cs_RX8_38 rfl rfl rfl (Nat.le_of_ble_eq_true rfl) ⟨Nat.le_of_ble_eq_true rfl, Nat.le_of_ble_eq_true rfl⟩ ?_ rfl rfl
        clear hc11
        refine a_if_eq (tgt := 47) (pc := 40) F dX8_addHearing_40 (by decide) (fun q13 => ?_) (fun q13 => ?_)
        · replace h := ite_t q13 h
          clear q13
          refine a_iconst (v := 0) (pc := 47) F dX8_addHearing_47 (by decide) ?_
          cases h
          exact hJ3
        · replace h := ite_f q13 h
          clear q13
          refine a_iconst (v := 1) (pc := 43) F dX8_addHearing_43 (by decide) ?_
          refine a_goto (tgt := 48) (pc := 44) F dX8_addHearing_44 (by decide) ?_
          cases h
          exact hJ3
def f_X8_certify (p1 : Int32) (p2 : Int32) (m0 : Mem) : Option (Int32 × Mem) :=
  bnd (f_X8_isPerson p1 m0) fun x2 => bnd ((if x2 = 0 then some 1 else bnd (f_X8_within p2 0 7 m0) fun x6 => (if x6 = 0 then some 2 else some 0))) (fun (x8 : Int32) => nm (si m0 162 5 x8) fun m9 => (if (m9.1 162 5) ≤ 0 then bnd (f_X8_save m9) fun m12 => gIn (23 + p1) 373 <| nm (m12.1 163 (23 + p1).toNatClampNeg) fun x14 => gIn (23 + p1) 373 <| nm (si m12 163 (23 + p1).toNatClampNeg p2) fun m16 => some (x14, m16) else some (0, m9)))
set_option maxRecDepth 100000 in
set_option maxHeartbeats 4000000 in
theorem m_X8_certify {p1 : Int32} {p2 : Int32} {m0 : Mem} {rr : Int32} {mm : Mem} (h : f_X8_certify p1 p2 m0 = some (rr, mm)) : Con yX8_certify cX8_certify 4 (some Jvm.ClassFile.FieldType.int) 2 43 (fun G => [.ref (ga G 162), .int p1, .int p2]) m0 (some (.int rr)) mm := by
  refine con_of (by decide) (fun G => Nat.le_of_ble_eq_true rfl) (fun X F => ?_)
  show WA X 0 0 0 [(0, .ref (ga X.G 162)), (1, .int p1), (2, .int p2)] [] m0 (EQ X (some (.int rr)) mm)
  rw [f_X8_certify] at h
  refine a_aload_n (pc := 0) F dX8_certify_0 0 rfl ?_
  refine a_aload_n (pc := 1) F dX8_certify_1 0 rfl ?_
  refine a_iload_n (pc := 2) F dX8_certify_2 1 rfl ?_
  replace h := bnd_some h
  obtain ⟨x2, hc1, h⟩ := h
  refine a_callV (pc := 3) (k := 162) (As := [.int p1]) (st := [.ref (ga X.G 162)]) F dX8_certify_3 (m_X8_isPerson hc1) cv_RX8_82 kl_162 ks_162 ⟨_, _, rfl⟩ rfl rfl rfl (Nat.le_of_ble_eq_true rfl) ⟨Nat.le_of_ble_eq_true rfl, Nat.le_of_ble_eq_true rfl⟩ ?_ rfl rfl
  clear hc1
  replace h := bnd_some h
  obtain ⟨x8, hR3, h⟩ := h
  have hJ3 : WA X 0 0 28 [(0, .ref (ga X.G 162)), (1, .int p1), (2, .int p2)] [.int x8, .ref (ga X.G 162)] m0 (EQ X (some (.int rr)) mm) := by
    refine a_puti (k := 162) (pc := 28) F dX8_certify_28 fp_RX8_31 kl_162 ks_162 rfl ?_
    refine a_nmm fun m9 em9 => ?_
    replace h := nm_at em9 h
    clear em9
    refine a_aload_n (pc := 31) F dX8_certify_31 0 rfl ?_
    refine a_geti (k := 162) (pc := 32) F dX8_certify_32 fl_RX8_31 kl_162 ks_162 rfl ?_
    refine a_if_le (tgt := 40) (pc := 35) F dX8_certify_35 (by decide) (fun q10 => ?_) (fun q10 => ?_)
    · replace h := ite_t q10 h
      clear q10
      refine a_aload_n (pc := 40) F dX8_certify_40 0 rfl ?_
      replace h := bnd_some h
      obtain ⟨m12, hc11, h⟩ := h
      refine a_callV (pc := 41) (k := 162) (As := []) (st := []) F dX8_certify_41 (m_X8_save hc11) cv_RX8_71 kl_162 ks_162 ⟨_, _, rfl⟩ rfl rfl rfl (Nat.le_of_ble_eq_true rfl) ⟨Nat.le_of_ble_eq_true rfl, Nat.le_of_ble_eq_true rfl⟩ ?_ rfl rfl
      clear hc11
      refine a_aload_n (pc := 44) F dX8_certify_44 0 rfl ?_
      refine a_getr (k := 162) (r := 163) (pc := 45) F dX8_certify_45 fl_RX8_7 kl_162 ks_162 rfl ?_
      refine a_bipush (v := 23) (pc := 48) F dX8_certify_48 (by decide) ?_
      refine a_iload_n (pc := 50) F dX8_certify_50 1 rfl ?_
      refine a_iadd (pc := 51) F dX8_certify_51 ?_
      replace h := gIn_some h
      obtain ⟨g13, h⟩ := h
      refine a_ial (k := 163) (pc := 52) F dX8_certify_52 kl_163 ks_163 g13 ?_
      refine a_nmi fun x14 ex14 => ?_
      replace h := nm_at ex14 h
      clear ex14
      refine a_istore_n (lv' := [(3, .int x14), (0, .ref (ga X.G 162)), (1, .int p1), (2, .int p2)]) (pc := 53) F dX8_certify_53 (by decide) rfl ?_
      refine a_aload_n (pc := 54) F dX8_certify_54 1 rfl ?_
      refine a_getr (k := 162) (r := 163) (pc := 55) F dX8_certify_55 fl_RX8_7 kl_162 ks_162 rfl ?_
      refine a_bipush (v := 23) (pc := 58) F dX8_certify_58 (by decide) ?_
      refine a_iload_n (pc := 60) F dX8_certify_60 2 rfl ?_
      refine a_iadd (pc := 61) F dX8_certify_61 ?_
      refine a_iload_n (pc := 62) F dX8_certify_62 3 rfl ?_
      replace h := gIn_some h
      obtain ⟨g15, h⟩ := h
      refine a_ias (k := 163) (pc := 63) F dX8_certify_63 kl_163 ks_163 g15 ?_
      refine a_nmm fun m16 em16 => ?_
      replace h := nm_at em16 h
      clear em16
      refine a_iload_n (pc := 64) F dX8_certify_64 0 rfl ?_
      cases h
      exact a_iret (pc := 65) F dX8_certify_65 ⟨_, rfl, rfl⟩
    · replace h := ite_f q10 h
      clear q10
      refine a_iconst (v := 0) (pc := 38) F dX8_certify_38 (by decide) ?_
      cases h
      exact a_iret (pc := 39) F dX8_certify_39 ⟨_, rfl, rfl⟩
  clear h
  have h := hR3
  clear hR3
  refine a_if_ne (tgt := 13) (pc := 6) F dX8_certify_6 (by decide) (fun q4 => ?_) (fun q4 => ?_)
  · replace h := ite_f q4 h
    clear q4
    refine a_iload_n (pc := 13) F dX8_certify_13 2 rfl ?_
    refine a_iconst (v := 0) (pc := 14) F dX8_certify_14 (by decide) ?_
    refine a_bipush (v := 7) (pc := 15) F dX8_certify_15 (by decide) ?_
    replace h := bnd_some h
    obtain ⟨x6, hc5, h⟩ := h
    refine a_callS (pc := 17) (As := [.int p2, .int 0, .int 7]) (st := [.ref (ga X.G 162)]) F dX8_certify_17 (m_X8_within hc5) cs_RX8_38 rfl rfl rfl (Nat.le_of_ble_eq_true rfl) ⟨Nat.le_of_ble_eq_true rfl, Nat.le_of_ble_eq_true rfl⟩ ?_ rfl rfl
    clear hc5
    refine a_if_eq (tgt := 27) (pc := 20) F dX8_certify_20 (by decide) (fun q7 => ?_) (fun q7 => ?_)
    · replace h := ite_t q7 h
      clear q7
      refine a_iconst (v := 2) (pc := 27) F dX8_certify_27 (by decide) ?_
      cases h
      exact hJ3
    · replace h := ite_f q7 h
      clear q7
      refine a_iconst (v := 0) (pc := 23) F dX8_certify_23 (by decide) ?_
      refine a_goto (tgt := 28) (pc := 24) F dX8_certify_24 (by decide) ?_
      cases h
      exact hJ3
  · replace h := ite_t (Decidable.not_not.mp q4) h
    clear q4
    refine a_iconst (v := 1) (pc := 9) F dX8_certify_9 (by decide) ?_
    refine a_goto (tgt := 28) (pc := 10) F dX8_certify_10 (by decide) ?_
    cases h
    exact hJ3
def f_X8_isSetting (p1 : Int32) (m0 : Mem) : Option Int32 :=
  bnd (f_X8_within p1 0 6 m0) fun x2 => gBo x2 <| some x2
set_option maxRecDepth 100000 in
set_option maxHeartbeats 4000000 in
theorem m_X8_isSetting {p1 : Int32} {m0 : Mem} {rr : Int32} (h : f_X8_isSetting p1 m0 = some rr) : Con yX8_isSetting cX8_isSetting 1 (some Jvm.ClassFile.FieldType.boolean) 1 22 (fun G => [.int p1]) m0 (some (.int rr)) m0 := by
  refine con_of (by decide) (fun G => Nat.le_of_ble_eq_true rfl) (fun X F => ?_)
  show WA X 0 0 0 [(0, .int p1)] [] m0 (EQ X (some (.int rr)) m0)
  rw [f_X8_isSetting] at h
  refine a_iload_n (pc := 0) F dX8_isSetting_0 0 rfl ?_
  refine a_iconst (v := 0) (pc := 1) F dX8_isSetting_1 (by decide) ?_
  refine a_bipush (v := 6) (pc := 2) F dX8_isSetting_2 (by decide) ?_
  replace h := bnd_some h
  obtain ⟨x2, hc1, h⟩ := h
  refine a_callS (pc := 4) (As := [.int p1, .int 0, .int 6]) (st := []) F dX8_isSetting_4 (m_X8_within hc1) cs_RX8_38 rfl rfl rfl (Nat.le_of_ble_eq_true rfl) ⟨Nat.le_of_ble_eq_true rfl, Nat.le_of_ble_eq_true rfl⟩ ?_ rfl rfl
  clear hc1
  replace h := gBo_some h
  obtain ⟨g3, h⟩ := h
  cases h
  exact a_iret (pc := 7) F dX8_isSetting_7 ⟨_, rfl, narrow_bo g3⟩
def f_X8_isValue (p1 : Int32) (p2 : Int32) (m0 : Mem) : Option Int32 :=
  (if p1 = 3 then bnd (f_X8_within p2 0 1000 m0) fun x3 => gBo x3 <| some x3 else (if p1 = 4 then bnd (f_X8_within p2 0 2000 m0) fun x7 => gBo x7 <| some x7 else (if p1 = 5 then bnd (f_X8_within p2 0 5000 m0) fun x11 => gBo x11 <| some x11 else (if p1 = 6 then bnd (f_X8_within p2 0 100 m0) fun x15 => gBo x15 <| some x15 else bnd (f_X8_within p2 0 20 m0) fun x18 => gBo x18 <| some x18))))
set_option maxRecDepth 100000 in
set_option maxHeartbeats 4000000 in
theorem m_X8_isValue {p1 : Int32} {p2 : Int32} {m0 : Mem} {rr : Int32} (h : f_X8_isValue p1 p2 m0 = some rr) : Con yX8_isValue cX8_isValue 2 (some Jvm.ClassFile.FieldType.boolean) 1 22 (fun G => [.int p1, .int p2]) m0 (some (.int rr)) m0 := by
  refine con_of (by decide) (fun G => Nat.le_of_ble_eq_true rfl) (fun X F => ?_)
  show WA X 0 0 0 [(0, .int p1), (1, .int p2)] [] m0 (EQ X (some (.int rr)) m0)
  rw [f_X8_isValue] at h
  refine a_iload_n (pc := 0) F dX8_isValue_0 0 rfl ?_
  by_cases q1 : p1 = 3
  · replace h := ite_t q1 h
    refine a_swin (pc := 1) (tgt := 32) F dX8_isValue_1 (by rw [q1]; decide) (by rw [q1]; decide) (by rw [q1]; rfl) (by decide) ?_
    clear q1
    refine a_iload_n (pc := 32) F dX8_isValue_32 1 rfl ?_
    refine a_iconst (v := 0) (pc := 33) F dX8_isValue_33 (by decide) ?_
    refine a_sipush (v := 1000) (pc := 34) F dX8_isValue_34 (by decide) ?_
    replace h := bnd_some h
    obtain ⟨x3, hc2, h⟩ := h
    refine a_callS (pc := 37) (As := [.int p2, .int 0, .int 1000]) (st := []) F dX8_isValue_37 (m_X8_within hc2) cs_RX8_38 rfl rfl rfl (Nat.le_of_ble_eq_true rfl) ⟨Nat.le_of_ble_eq_true rfl, Nat.le_of_ble_eq_true rfl⟩ ?_ rfl rfl
    clear hc2
    replace h := gBo_some h
    obtain ⟨g4, h⟩ := h
    cases h
    exact a_iret (pc := 40) F dX8_isValue_40 ⟨_, rfl, narrow_bo g4⟩
  replace h := ite_f q1 h
  by_cases q5 : p1 = 4
  · replace h := ite_t q5 h
    refine a_swin (pc := 1) (tgt := 41) F dX8_isValue_1 (by rw [q5]; decide) (by rw [q5]; decide) (by rw [q5]; rfl) (by decide) ?_
    clear q5
    refine a_iload_n (pc := 41) F dX8_isValue_41 1 rfl ?_
    refine a_iconst (v := 0) (pc := 42) F dX8_isValue_42 (by decide) ?_
    refine a_sipush (v := 2000) (pc := 43) F dX8_isValue_43 (by decide) ?_
    replace h := bnd_some h
    obtain ⟨x7, hc6, h⟩ := h
    refine a_callS (pc := 46) (As := [.int p2, .int 0, .int 2000]) (st := []) F dX8_isValue_46 (m_X8_within hc6) cs_RX8_38 rfl rfl rfl (Nat.le_of_ble_eq_true rfl) ⟨Nat.le_of_ble_eq_true rfl, Nat.le_of_ble_eq_true rfl⟩ ?_ rfl rfl
    clear hc6
    replace h := gBo_some h
    obtain ⟨g8, h⟩ := h
    cases h
    exact a_iret (pc := 49) F dX8_isValue_49 ⟨_, rfl, narrow_bo g8⟩
  replace h := ite_f q5 h
  by_cases q9 : p1 = 5
  · replace h := ite_t q9 h
    refine a_swin (pc := 1) (tgt := 50) F dX8_isValue_1 (by rw [q9]; decide) (by rw [q9]; decide) (by rw [q9]; rfl) (by decide) ?_
    clear q9
    refine a_iload_n (pc := 50) F dX8_isValue_50 1 rfl ?_
    refine a_iconst (v := 0) (pc := 51) F dX8_isValue_51 (by decide) ?_
    refine a_sipush (v := 5000) (pc := 52) F dX8_isValue_52 (by decide) ?_
    replace h := bnd_some h
    obtain ⟨x11, hc10, h⟩ := h
    refine a_callS (pc := 55) (As := [.int p2, .int 0, .int 5000]) (st := []) F dX8_isValue_55 (m_X8_within hc10) cs_RX8_38 rfl rfl rfl (Nat.le_of_ble_eq_true rfl) ⟨Nat.le_of_ble_eq_true rfl, Nat.le_of_ble_eq_true rfl⟩ ?_ rfl rfl
    clear hc10
    replace h := gBo_some h
    obtain ⟨g12, h⟩ := h
    cases h
    exact a_iret (pc := 58) F dX8_isValue_58 ⟨_, rfl, narrow_bo g12⟩
  replace h := ite_f q9 h
  by_cases q13 : p1 = 6
  · replace h := ite_t q13 h
    refine a_swin (pc := 1) (tgt := 59) F dX8_isValue_1 (by rw [q13]; decide) (by rw [q13]; decide) (by rw [q13]; rfl) (by decide) ?_
    clear q13
    refine a_iload_n (pc := 59) F dX8_isValue_59 1 rfl ?_
    refine a_iconst (v := 0) (pc := 60) F dX8_isValue_60 (by decide) ?_
    refine a_bipush (v := 100) (pc := 61) F dX8_isValue_61 (by decide) ?_
    replace h := bnd_some h
    obtain ⟨x15, hc14, h⟩ := h
    refine a_callS (pc := 63) (As := [.int p2, .int 0, .int 100]) (st := []) F dX8_isValue_63 (m_X8_within hc14) cs_RX8_38 rfl rfl rfl (Nat.le_of_ble_eq_true rfl) ⟨Nat.le_of_ble_eq_true rfl, Nat.le_of_ble_eq_true rfl⟩ ?_ rfl rfl
    clear hc14
    replace h := gBo_some h
    obtain ⟨g16, h⟩ := h
    cases h
    exact a_iret (pc := 66) F dX8_isValue_66 ⟨_, rfl, narrow_bo g16⟩
  replace h := ite_f q13 h
  refine a_swout (pc := 1) (tgt := 67) F dX8_isValue_1 (by have nq1 := lv_neT (a := 3) q1 (by decide); have nq5 := lv_neT (a := 4) q5 (by decide); have nq9 := lv_neT (a := 5) q9 (by decide); have nq13 := lv_neT (a := 6) q13 (by decide); omega) (by decide) ?_
  clear q1
  clear q5
  clear q9
  clear q13
  refine a_iload_n (pc := 67) F dX8_isValue_67 1 rfl ?_
  refine a_iconst (v := 0) (pc := 68) F dX8_isValue_68 (by decide) ?_
  refine a_bipush (v := 20) (pc := 69) F dX8_isValue_69 (by decide) ?_
  replace h := bnd_some h
  obtain ⟨x18, hc17, h⟩ := h
  refine a_callS (pc := 71) (As := [.int p2, .int 0, .int 20]) (st := []) F dX8_isValue_71 (m_X8_within hc17) cs_RX8_38 rfl rfl rfl (Nat.le_of_ble_eq_true rfl) ⟨Nat.le_of_ble_eq_true rfl, Nat.le_of_ble_eq_true rfl⟩ ?_ rfl rfl
  clear hc17
  replace h := gBo_some h
  obtain ⟨g19, h⟩ := h
  cases h
  exact a_iret (pc := 74) F dX8_isValue_74 ⟨_, rfl, narrow_bo g19⟩
def f_X8_set (p1 : Int32) (p2 : Int32) (m0 : Mem) : Option (Int32 × Mem) :=
  bnd (f_X8_isSetting p1 m0) fun x2 => bnd ((if x2 = 0 then some 1 else bnd (f_X8_isValue p1 p2 m0) fun x6 => (if x6 = 0 then some 2 else some 0))) (fun (x8 : Int32) => nm (si m0 162 5 x8) fun m9 => (if (m9.1 162 5) ≤ 0 then bnd (f_X8_save m9) fun m12 => gIn (0 + p1) 373 <| nm (m12.1 163 (0 + p1).toNatClampNeg) fun x14 => gIn (0 + p1) 373 <| nm (si m12 163 (0 + p1).toNatClampNeg p2) fun m16 => some (x14, m16) else some (0, m9)))
set_option maxRecDepth 100000 in
set_option maxHeartbeats 4000000 in
theorem m_X8_set {p1 : Int32} {p2 : Int32} {m0 : Mem} {rr : Int32} {mm : Mem} (h : f_X8_set p1 p2 m0 = some (rr, mm)) : Con yX8_set cX8_set 4 (some Jvm.ClassFile.FieldType.int) 2 43 (fun G => [.ref (ga G 162), .int p1, .int p2]) m0 (some (.int rr)) mm := by
  refine con_of (by decide) (fun G => Nat.le_of_ble_eq_true rfl) (fun X F => ?_)
  show WA X 0 0 0 [(0, .ref (ga X.G 162)), (1, .int p1), (2, .int p2)] [] m0 (EQ X (some (.int rr)) mm)
  rw [f_X8_set] at h
  refine a_aload_n (pc := 0) F dX8_set_0 0 rfl ?_
  refine a_iload_n (pc := 1) F dX8_set_1 1 rfl ?_
  replace h := bnd_some h
  obtain ⟨x2, hc1, h⟩ := h
  refine a_callS (pc := 2) (As := [.int p1]) (st := [.ref (ga X.G 162)]) F dX8_set_2 (m_X8_isSetting hc1) cs_RX8_85 rfl rfl rfl (Nat.le_of_ble_eq_true rfl) ⟨Nat.le_of_ble_eq_true rfl, Nat.le_of_ble_eq_true rfl⟩ ?_ rfl rfl
  clear hc1
  replace h := bnd_some h
  obtain ⟨x8, hR3, h⟩ := h
  have hJ3 : WA X 0 0 25 [(0, .ref (ga X.G 162)), (1, .int p1), (2, .int p2)] [.int x8, .ref (ga X.G 162)] m0 (EQ X (some (.int rr)) mm) := by
    refine a_puti (k := 162) (pc := 25) F dX8_set_25 fp_RX8_31 kl_162 ks_162 rfl ?_
    refine a_nmm fun m9 em9 => ?_
    replace h := nm_at em9 h
    clear em9
    refine a_aload_n (pc := 28) F dX8_set_28 0 rfl ?_
    refine a_geti (k := 162) (pc := 29) F dX8_set_29 fl_RX8_31 kl_162 ks_162 rfl ?_
    refine a_if_le (tgt := 37) (pc := 32) F dX8_set_32 (by decide) (fun q10 => ?_) (fun q10 => ?_)
    · replace h := ite_t q10 h
      clear q10
      refine a_aload_n (pc := 37) F dX8_set_37 0 rfl ?_
      replace h := bnd_some h
      obtain ⟨m12, hc11, h⟩ := h
      refine a_callV (pc := 38) (k := 162) (As := []) (st := []) F dX8_set_38 (m_X8_save hc11) cv_RX8_71 kl_162 ks_162 ⟨_, _, rfl⟩ rfl rfl rfl (Nat.le_of_ble_eq_true rfl) ⟨Nat.le_of_ble_eq_true rfl, Nat.le_of_ble_eq_true rfl⟩ ?_ rfl rfl
      clear hc11
      refine a_aload_n (pc := 41) F dX8_set_41 0 rfl ?_
      refine a_getr (k := 162) (r := 163) (pc := 42) F dX8_set_42 fl_RX8_7 kl_162 ks_162 rfl ?_
      refine a_iconst (v := 0) (pc := 45) F dX8_set_45 (by decide) ?_
      refine a_iload_n (pc := 46) F dX8_set_46 1 rfl ?_
      refine a_iadd (pc := 47) F dX8_set_47 ?_
      replace h := gIn_some h
      obtain ⟨g13, h⟩ := h
      refine a_ial (k := 163) (pc := 48) F dX8_set_48 kl_163 ks_163 g13 ?_
      refine a_nmi fun x14 ex14 => ?_
      replace h := nm_at ex14 h
      clear ex14
      refine a_istore_n (lv' := [(3, .int x14), (0, .ref (ga X.G 162)), (1, .int p1), (2, .int p2)]) (pc := 49) F dX8_set_49 (by decide) rfl ?_
      refine a_aload_n (pc := 50) F dX8_set_50 1 rfl ?_
      refine a_getr (k := 162) (r := 163) (pc := 51) F dX8_set_51 fl_RX8_7 kl_162 ks_162 rfl ?_
      refine a_iconst (v := 0) (pc := 54) F dX8_set_54 (by decide) ?_
      refine a_iload_n (pc := 55) F dX8_set_55 2 rfl ?_
      refine a_iadd (pc := 56) F dX8_set_56 ?_
      refine a_iload_n (pc := 57) F dX8_set_57 3 rfl ?_
      replace h := gIn_some h
      obtain ⟨g15, h⟩ := h
      refine a_ias (k := 163) (pc := 58) F dX8_set_58 kl_163 ks_163 g15 ?_
      refine a_nmm fun m16 em16 => ?_
      replace h := nm_at em16 h
      clear em16
      refine a_iload_n (pc := 59) F dX8_set_59 0 rfl ?_
      cases h
      exact a_iret (pc := 60) F dX8_set_60 ⟨_, rfl, rfl⟩
    · replace h := ite_f q10 h
      clear q10
      refine a_iconst (v := 0) (pc := 35) F dX8_set_35 (by decide) ?_
      cases h
      exact a_iret (pc := 36) F dX8_set_36 ⟨_, rfl, rfl⟩
  clear h
  have h := hR3
  clear hR3
  refine a_if_ne (tgt := 12) (pc := 5) F dX8_set_5 (by decide) (fun q4 => ?_) (fun q4 => ?_)
  · replace h := ite_f q4 h
    clear q4
    refine a_iload_n (pc := 12) F dX8_set_12 1 rfl ?_
    refine a_iload_n (pc := 13) F dX8_set_13 2 rfl ?_
    replace h := bnd_some h
    obtain ⟨x6, hc5, h⟩ := h
    refine a_callS (pc := 14) (As := [.int p1, .int p2]) (st := [.ref (ga X.G 162)]) F dX8_set_14 (m_X8_isValue hc5) cs_RX8_88 rfl rfl rfl (Nat.le_of_ble_eq_true rfl) ⟨Nat.le_of_ble_eq_true rfl, Nat.le_of_ble_eq_true rfl⟩ ?_ rfl rfl
    clear hc5
    refine a_if_eq (tgt := 24) (pc := 17) F dX8_set_17 (by decide) (fun q7 => ?_) (fun q7 => ?_)
    · replace h := ite_t q7 h
      clear q7
      refine a_iconst (v := 2) (pc := 24) F dX8_set_24 (by decide) ?_
      cases h
      exact hJ3
    · replace h := ite_f q7 h
      clear q7
      refine a_iconst (v := 0) (pc := 20) F dX8_set_20 (by decide) ?_
      refine a_goto (tgt := 25) (pc := 21) F dX8_set_21 (by decide) ?_
      cases h
      exact hJ3
  · replace h := ite_t (Decidable.not_not.mp q4) h
    clear q4
    refine a_iconst (v := 1) (pc := 8) F dX8_set_8 (by decide) ?_
    refine a_goto (tgt := 25) (pc := 9) F dX8_set_9 (by decide) ?_
    cases h
    exact hJ3
def f_X8_lay (p1 : Int32) (p2 : Int32) (p3 : Int32) (m0 : Mem) : Option Mem :=
  nm (si m0 166 0 p1) fun m1 => nm (si m1 166 1 p2) fun m2 => nm (si m2 166 2 p3) fun m3 => (if p2 = (-1) then nm (si m3 162 7 1) fun m8 => some m8 else (if p3 = (-1) then nm (si m3 162 7 2) fun m7 => some m7 else nm (si m3 162 7 3) fun m6 => some m6))
set_option maxRecDepth 100000 in
set_option maxHeartbeats 4000000 in
theorem m_X8_lay {p1 : Int32} {p2 : Int32} {p3 : Int32} {m0 : Mem} {mm : Mem} (h : f_X8_lay p1 p2 p3 m0 = some mm) : Con yX8_lay cX8_lay 4 none 0 0 (fun G => [.ref (ga G 162), .int p1, .int p2, .int p3]) m0 none mm := by
  refine con_of (by decide) (fun G => Nat.le_of_ble_eq_true rfl) (fun X F => ?_)
  show WA X 0 0 0 [(0, .ref (ga X.G 162)), (1, .int p1), (2, .int p2), (3, .int p3)] [] m0 (EQ X none mm)
  rw [f_X8_lay] at h
  refine a_aload_n (pc := 0) F dX8_lay_0 0 rfl ?_
  refine a_getr (k := 162) (r := 166) (pc := 1) F dX8_lay_1 fl_RX8_19 kl_162 ks_162 rfl ?_
  refine a_iconst (v := 0) (pc := 4) F dX8_lay_4 (by decide) ?_
  refine a_iload_n (pc := 5) F dX8_lay_5 1 rfl ?_
  refine a_iasc (k := 166) (pc := 6) F dX8_lay_6 kl_166 ks_166 rfl rfl ?_
  refine a_nmm fun m1 em1 => ?_
  replace h := nm_at em1 h
  clear em1
  refine a_aload_n (pc := 7) F dX8_lay_7 0 rfl ?_
  refine a_getr (k := 162) (r := 166) (pc := 8) F dX8_lay_8 fl_RX8_19 kl_162 ks_162 rfl ?_
  refine a_iconst (v := 1) (pc := 11) F dX8_lay_11 (by decide) ?_
  refine a_iload_n (pc := 12) F dX8_lay_12 2 rfl ?_
  refine a_iasc (k := 166) (pc := 13) F dX8_lay_13 kl_166 ks_166 rfl rfl ?_
  refine a_nmm fun m2 em2 => ?_
  replace h := nm_at em2 h
  clear em2
  refine a_aload_n (pc := 14) F dX8_lay_14 0 rfl ?_
  refine a_getr (k := 162) (r := 166) (pc := 15) F dX8_lay_15 fl_RX8_19 kl_162 ks_162 rfl ?_
  refine a_iconst (v := 2) (pc := 18) F dX8_lay_18 (by decide) ?_
  refine a_iload_n (pc := 19) F dX8_lay_19 3 rfl ?_
  refine a_iasc (k := 166) (pc := 20) F dX8_lay_20 kl_166 ks_166 rfl rfl ?_
  refine a_nmm fun m3 em3 => ?_
  replace h := nm_at em3 h
  clear em3
  refine a_aload_n (pc := 21) F dX8_lay_21 0 rfl ?_
  refine a_iload_n (pc := 22) F dX8_lay_22 2 rfl ?_
  refine a_iconst (v := (-1)) (pc := 23) F dX8_lay_23 (by decide) ?_
  refine a_icmp_ne (tgt := 31) (pc := 24) F dX8_lay_24 (by decide) (fun q4 => ?_) (fun q4 => ?_)
  · replace h := ite_f q4 h
    clear q4
    refine a_iload_n (pc := 31) F dX8_lay_31 3 rfl ?_
    refine a_iconst (v := (-1)) (pc := 32) F dX8_lay_32 (by decide) ?_
    refine a_icmp_ne (tgt := 40) (pc := 33) F dX8_lay_33 (by decide) (fun q5 => ?_) (fun q5 => ?_)
    · replace h := ite_f q5 h
      clear q5
      refine a_iconst (v := 3) (pc := 40) F dX8_lay_40 (by decide) ?_
      refine a_puti (k := 162) (pc := 41) F dX8_lay_41 fp_RX8_91 kl_162 ks_162 rfl ?_
      refine a_nmm fun m6 em6 => ?_
      replace h := nm_at em6 h
      clear em6
      cases h
      exact a_vret (pc := 44) F dX8_lay_44 rfl
    · replace h := ite_t (Decidable.not_not.mp q5) h
      clear q5
      refine a_iconst (v := 2) (pc := 36) F dX8_lay_36 (by decide) ?_
      refine a_goto (tgt := 41) (pc := 37) F dX8_lay_37 (by decide) ?_
      refine a_puti (k := 162) (pc := 41) F dX8_lay_41 fp_RX8_91 kl_162 ks_162 rfl ?_
      refine a_nmm fun m7 em7 => ?_
      replace h := nm_at em7 h
      clear em7
      cases h
      exact a_vret (pc := 44) F dX8_lay_44 rfl
  · replace h := ite_t (Decidable.not_not.mp q4) h
    clear q4
    refine a_iconst (v := 1) (pc := 27) F dX8_lay_27 (by decide) ?_
    refine a_goto (tgt := 41) (pc := 28) F dX8_lay_28 (by decide) ?_
    refine a_puti (k := 162) (pc := 41) F dX8_lay_41 fp_RX8_91 kl_162 ks_162 rfl ?_
    refine a_nmm fun m8 em8 => ?_
    replace h := nm_at em8 h
    clear em8
    cases h
    exact a_vret (pc := 44) F dX8_lay_44 rfl
def f_X8_isChain_L9 (m0 : Mem) : (Int32 × Int32 × Int32) → Option ((Int32 × Int32 × Int32) ⊕ (Int32 × Int32))
  | (x2, x3, x4) => (if (m0.1 162 7) ≤ x4 then some (.inr (x2, x3)) else bnd ((if x3 = 0 then some 0 else gIn x4 3 <| nm (m0.1 166 x4.toNatClampNeg) fun x9 => gIn (13 + x9) 373 <| nm (m0.1 163 (13 + x9).toNatClampNeg) fun x11 => (if (x11 &&& x2) = 0 then some 0 else some 1))) (fun (x13 : Int32) => gIn x4 3 <| nm (m0.1 166 x4.toNatClampNeg) fun x15 => gIn (13 + x15) 373 <| nm (m0.1 163 (13 + x15).toNatClampNeg) fun x17 => nm (x4 + 1) fun x18 => some (.inl (x17, x13, x18))))
def f_X8_isChain (p1 : Int32) (m0 : Mem) : Option Int32 :=
  bnd (lp (f_X8_isChain_L9 m0) 1000000 (1 <<< (p1 &&& 31), 1, 0)) (fun (x19, x20) => (if x20 = 0 then some 0 else (if (x19 &&& 1) = 1 then some 1 else some 0)))
set_option maxRecDepth 100000 in
set_option maxHeartbeats 4000000 in
theorem m_X8_isChain {p1 : Int32} {m0 : Mem} {rr : Int32} (h : f_X8_isChain p1 m0 = some rr) : Con yX8_isChain cX8_isChain 5 (some Jvm.ClassFile.FieldType.boolean) 0 0 (fun G => [.ref (ga G 162), .int p1]) m0 (some (.int rr)) m0 := by
  refine con_of (by decide) (fun G => Nat.le_of_ble_eq_true rfl) (fun X F => ?_)
  show WA X 0 0 0 [(0, .ref (ga X.G 162)), (1, .int p1)] [] m0 (EQ X (some (.int rr)) m0)
  rw [f_X8_isChain] at h
  refine a_iconst (v := 1) (pc := 0) F dX8_isChain_0 (by decide) ?_
  refine a_iload_n (pc := 1) F dX8_isChain_1 1 rfl ?_
  refine a_ishl (pc := 2) F dX8_isChain_2 ?_
  refine a_istore_n (lv' := [(2, .int (1 <<< (p1 &&& 31))), (0, .ref (ga X.G 162)), (1, .int p1)]) (pc := 3) F dX8_isChain_3 (by decide) rfl ?_
  refine a_iconst (v := 1) (pc := 4) F dX8_isChain_4 (by decide) ?_
  refine a_istore_n (lv' := [(3, .int 1), (2, .int (1 <<< (p1 &&& 31))), (0, .ref (ga X.G 162)), (1, .int p1)]) (pc := 5) F dX8_isChain_5 (by decide) rfl ?_
  refine a_iconst (v := 0) (pc := 6) F dX8_isChain_6 (by decide) ?_
  refine a_istore (lv' := [(4, .int 0), (3, .int 1), (2, .int (1 <<< (p1 &&& 31))), (0, .ref (ga X.G 162)), (1, .int p1)]) (pc := 7) F dX8_isChain_7 (by decide) rfl ?_
  refine a_lv F [3, 2, 1, 0] rfl ?_
  replace h := bnd_some h
  obtain ⟨⟨x19, x20⟩, hL1, h⟩ := h
  have hE1 : WA X 0 0 70 [(2, .int x19), (3, .int x20)] [] m0 (EQ X (some (.int rr)) m0) := by
    refine a_iload_n (pc := 70) F dX8_isChain_70 1 rfl ?_
    refine a_if_eq (tgt := 85) (pc := 71) F dX8_isChain_71 (by decide) (fun q21 => ?_) (fun q21 => ?_)
    · replace h := ite_t q21 h
      clear q21
      refine a_iconst (v := 0) (pc := 85) F dX8_isChain_85 (by decide) ?_
      cases h
      exact a_iret (pc := 86) F dX8_isChain_86 ⟨_, rfl, rfl⟩
    · replace h := ite_f q21 h
      clear q21
      refine a_iload_n (pc := 74) F dX8_isChain_74 0 rfl ?_
      refine a_iconst (v := 1) (pc := 75) F dX8_isChain_75 (by decide) ?_
      refine a_iand (pc := 76) F dX8_isChain_76 ?_
      refine a_iconst (v := 1) (pc := 77) F dX8_isChain_77 (by decide) ?_
      refine a_icmp_ne (tgt := 85) (pc := 78) F dX8_isChain_78 (by decide) (fun q22 => ?_) (fun q22 => ?_)
      · replace h := ite_f q22 h
        clear q22
        refine a_iconst (v := 0) (pc := 85) F dX8_isChain_85 (by decide) ?_
        cases h
        exact a_iret (pc := 86) F dX8_isChain_86 ⟨_, rfl, rfl⟩
      · replace h := ite_t (Decidable.not_not.mp q22) h
        clear q22
        refine a_iconst (v := 1) (pc := 81) F dX8_isChain_81 (by decide) ?_
        refine a_goto (tgt := 86) (pc := 82) F dX8_isChain_82 (by decide) ?_
        cases h
        exact a_iret (pc := 86) F dX8_isChain_86 ⟨_, rfl, rfl⟩
  clear h
  refine lp_run (P := fun (s : (Int32 × Int32 × Int32)) => WA X 0 0 9 [(0, .ref (ga X.G 162)), (2, .int s.1), (3, .int s.2.1), (4, .int s.2.2)] [] m0 (EQ X (some (.int rr)) m0)) ?_ _ _ hL1
  clear hL1
  rintro ⟨x2, x3, x4⟩ xo h hP1 hT1
  show WA X 0 0 9 [(0, .ref (ga X.G 162)), (2, .int x2), (3, .int x3), (4, .int x4)] [] m0 (EQ X (some (.int rr)) m0)
  rw [f_X8_isChain_L9] at h
  refine a_iload (pc := 9) F dX8_isChain_9 3 rfl ?_
  refine a_aload_n (pc := 11) F dX8_isChain_11 0 rfl ?_
  refine a_geti (k := 162) (pc := 12) F dX8_isChain_12 fl_RX8_91 kl_162 ks_162 rfl ?_
  refine a_icmp_ge (tgt := 70) (pc := 15) F dX8_isChain_15 (by decide) (fun q5 => ?_) (fun q5 => ?_)
  · replace h := ite_t q5 h
    clear q5
    refine a_lv F [1, 2] rfl ?_
    cases hT1 _ (Option.some.inj h).symm
    exact hE1
  · replace h := ite_f q5 h
    clear q5
    refine a_iload_n (pc := 18) F dX8_isChain_18 2 rfl ?_
    replace h := bnd_some h
    obtain ⟨x13, hR6, h⟩ := h
    have hJ6 : WA X 0 0 47 [(0, .ref (ga X.G 162)), (4, .int x4)] [.int x13] m0 (EQ X (some (.int rr)) m0) := by
      refine a_istore_n (lv' := [(3, .int x13), (0, .ref (ga X.G 162)), (4, .int x4)]) (pc := 47) F dX8_isChain_47 (by decide) rfl ?_
      refine a_aload_n (pc := 48) F dX8_isChain_48 1 rfl ?_
      refine a_getr (k := 162) (r := 163) (pc := 49) F dX8_isChain_49 fl_RX8_7 kl_162 ks_162 rfl ?_
      refine a_bipush (v := 13) (pc := 52) F dX8_isChain_52 (by decide) ?_
      refine a_aload_n (pc := 54) F dX8_isChain_54 1 rfl ?_
      refine a_getr (k := 162) (r := 166) (pc := 55) F dX8_isChain_55 fl_RX8_19 kl_162 ks_162 rfl ?_
      refine a_iload (pc := 58) F dX8_isChain_58 2 rfl ?_
      replace h := gIn_some h
      obtain ⟨g14, h⟩ := h
      refine a_ial (k := 166) (pc := 60) F dX8_isChain_60 kl_166 ks_166 g14 ?_
      refine a_nmi fun x15 ex15 => ?_
      replace h := nm_at ex15 h
      clear ex15
      refine a_iadd (pc := 61) F dX8_isChain_61 ?_
      replace h := gIn_some h
      obtain ⟨g16, h⟩ := h
      refine a_ial (k := 163) (pc := 62) F dX8_isChain_62 kl_163 ks_163 g16 ?_
      refine a_nmi fun x17 ex17 => ?_
      replace h := nm_at ex17 h
      clear ex17
      refine a_istore_n (lv' := [(2, .int x17), (3, .int x13), (0, .ref (ga X.G 162)), (4, .int x4)]) (pc := 63) F dX8_isChain_63 (by decide) rfl ?_
      obtain ⟨x18, ex18⟩ : ∃ x18 : Int32, x18 = x4 + 1 := ⟨_, rfl⟩
      refine a_iinc (v := x18) (lv' := [(4, .int x18), (2, .int x17), (3, .int x13), (0, .ref (ga X.G 162))]) (pc := 64) F dX8_isChain_64 3 rfl (by rw [ex18]; rfl) (by decide) rfl ?_
      replace h := nm_at ex18 h
      clear ex18
      refine a_goto (tgt := 9) (pc := 67) F dX8_isChain_67 (by decide) ?_
      refine a_lv F [3, 1, 2, 0] rfl ?_
      exact hP1 _ (Option.some.inj h).symm
    clear h
    have h := hR6
    clear hR6
    refine a_if_eq (tgt := 46) (pc := 19) F dX8_isChain_19 (by decide) (fun q7 => ?_) (fun q7 => ?_)
    · replace h := ite_t q7 h
      clear q7
      refine a_iconst (v := 0) (pc := 46) F dX8_isChain_46 (by decide) ?_
      refine a_lv F [0, 3] rfl ?_
      cases h
      exact hJ6
    · replace h := ite_f q7 h
      clear q7
      refine a_aload_n (pc := 22) F dX8_isChain_22 0 rfl ?_
      refine a_getr (k := 162) (r := 163) (pc := 23) F dX8_isChain_23 fl_RX8_7 kl_162 ks_162 rfl ?_
      refine a_bipush (v := 13) (pc := 26) F dX8_isChain_26 (by decide) ?_
      refine a_aload_n (pc := 28) F dX8_isChain_28 0 rfl ?_
      refine a_getr (k := 162) (r := 166) (pc := 29) F dX8_isChain_29 fl_RX8_19 kl_162 ks_162 rfl ?_
      refine a_iload (pc := 32) F dX8_isChain_32 3 rfl ?_
      replace h := gIn_some h
      obtain ⟨g8, h⟩ := h
      refine a_ial (k := 166) (pc := 34) F dX8_isChain_34 kl_166 ks_166 g8 ?_
      refine a_nmi fun x9 ex9 => ?_
      replace h := nm_at ex9 h
      clear ex9
      refine a_iadd (pc := 35) F dX8_isChain_35 ?_
      replace h := gIn_some h
      obtain ⟨g10, h⟩ := h
      refine a_ial (k := 163) (pc := 36) F dX8_isChain_36 kl_163 ks_163 g10 ?_
      refine a_nmi fun x11 ex11 => ?_
      replace h := nm_at ex11 h
      clear ex11
      refine a_iload_n (pc := 37) F dX8_isChain_37 1 rfl ?_
      refine a_iand (pc := 38) F dX8_isChain_38 ?_
      refine a_if_eq (tgt := 46) (pc := 39) F dX8_isChain_39 (by decide) (fun q12 => ?_) (fun q12 => ?_)
      · replace h := ite_t q12 h
        clear q12
        refine a_iconst (v := 0) (pc := 46) F dX8_isChain_46 (by decide) ?_
        refine a_lv F [0, 3] rfl ?_
        cases h
        exact hJ6
      · replace h := ite_f q12 h
        clear q12
        refine a_iconst (v := 1) (pc := 42) F dX8_isChain_42 (by decide) ?_
        refine a_goto (tgt := 47) (pc := 43) F dX8_isChain_43 (by decide) ?_
        refine a_lv F [0, 3] rfl ?_
        cases h
        exact hJ6
def f_X8_areCertified_L4 (p1 : Int32) (m0 : Mem) : (Int32 × Int32) → Option ((Int32 × Int32) ⊕ Int32)
  | (x2, x3) => (if (m0.1 162 7) ≤ x3 then some (.inr x2) else (if x2 = 0 then nm (x3 + 1) fun x6 => some (.inl (0, x6)) else gIn x3 3 <| nm (m0.1 166 x3.toNatClampNeg) fun x8 => gIn (23 + x8) 373 <| nm (m0.1 163 (23 + x8).toNatClampNeg) fun x10 => nm ((x10 >>> (p1 &&& 31)) &&& 1) fun x11 => (if x11 = 1 then nm (x3 + 1) fun x14 => some (.inl (1, x14)) else nm (x3 + 1) fun x13 => some (.inl (0, x13)))))
def f_X8_areCertified (p1 : Int32) (m0 : Mem) : Option Int32 :=
  bnd (lp (f_X8_areCertified_L4 p1 m0) 1000000 (1, 0)) (fun x15 => gBo x15 <| some x15)
set_option maxRecDepth 100000 in
set_option maxHeartbeats 4000000 in
theorem m_X8_areCertified {p1 : Int32} {m0 : Mem} {rr : Int32} (h : f_X8_areCertified p1 m0 = some rr) : Con yX8_areCertified cX8_areCertified 4 (some Jvm.ClassFile.FieldType.boolean) 0 0 (fun G => [.ref (ga G 162), .int p1]) m0 (some (.int rr)) m0 := by
  refine con_of (by decide) (fun G => Nat.le_of_ble_eq_true rfl) (fun X F => ?_)
  show WA X 0 0 0 [(0, .ref (ga X.G 162)), (1, .int p1)] [] m0 (EQ X (some (.int rr)) m0)
  rw [f_X8_areCertified] at h
  refine a_iconst (v := 1) (pc := 0) F dX8_areCertified_0 (by decide) ?_
  refine a_istore_n (lv' := [(2, .int 1), (0, .ref (ga X.G 162)), (1, .int p1)]) (pc := 1) F dX8_areCertified_1 (by decide) rfl ?_
  refine a_iconst (v := 0) (pc := 2) F dX8_areCertified_2 (by decide) ?_
  refine a_istore_n (lv' := [(3, .int 0), (2, .int 1), (0, .ref (ga X.G 162)), (1, .int p1)]) (pc := 3) F dX8_areCertified_3 (by decide) rfl ?_
  refine a_lv F [2, 3, 1, 0] rfl ?_
  replace h := bnd_some h
  obtain ⟨x15, hL1, h⟩ := h
  have hE1 : WA X 0 0 50 [(2, .int x15)] [] m0 (EQ X (some (.int rr)) m0) := by
    refine a_iload_n (pc := 50) F dX8_areCertified_50 0 rfl ?_
    replace h := gBo_some h
    obtain ⟨g16, h⟩ := h
    cases h
    exact a_iret (pc := 51) F dX8_areCertified_51 ⟨_, rfl, narrow_bo g16⟩
  clear h
  refine lp_run (P := fun (s : (Int32 × Int32)) => WA X 0 0 4 [(0, .ref (ga X.G 162)), (1, .int p1), (2, .int s.1), (3, .int s.2)] [] m0 (EQ X (some (.int rr)) m0)) ?_ _ _ hL1
  clear hL1
  rintro ⟨x2, x3⟩ xo h hP1 hT1
  show WA X 0 0 4 [(0, .ref (ga X.G 162)), (1, .int p1), (2, .int x2), (3, .int x3)] [] m0 (EQ X (some (.int rr)) m0)
  rw [f_X8_areCertified_L4] at h
  refine a_iload_n (pc := 4) F dX8_areCertified_4 3 rfl ?_
  refine a_aload_n (pc := 5) F dX8_areCertified_5 0 rfl ?_
  refine a_geti (k := 162) (pc := 6) F dX8_areCertified_6 fl_RX8_91 kl_162 ks_162 rfl ?_
  refine a_icmp_ge (tgt := 50) (pc := 9) F dX8_areCertified_9 (by decide) (fun q4 => ?_) (fun q4 => ?_)
  · replace h := ite_t q4 h
    clear q4
    refine a_lv F [2] rfl ?_
    cases hT1 _ (Option.some.inj h).symm
    exact hE1
  · replace h := ite_f q4 h
    clear q4
    refine a_iload_n (pc := 12) F dX8_areCertified_12 2 rfl ?_
    refine a_if_eq (tgt := 42) (pc := 13) F dX8_areCertified_13 (by decide) (fun q5 => ?_) (fun q5 => ?_)
    · replace h := ite_t q5 h
      clear q5
      refine a_iconst (v := 0) (pc := 42) F dX8_areCertified_42 (by decide) ?_
      refine a_istore_n (lv' := [(2, .int 0), (0, .ref (ga X.G 162)), (1, .int p1), (3, .int x3)]) (pc := 43) F dX8_areCertified_43 (by decide) rfl ?_
      obtain ⟨x6, ex6⟩ : ∃ x6 : Int32, x6 = x3 + 1 := ⟨_, rfl⟩
      refine a_iinc (v := x6) (lv' := [(3, .int x6), (2, .int 0), (0, .ref (ga X.G 162)), (1, .int p1)]) (pc := 44) F dX8_areCertified_44 3 rfl (by rw [ex6]; rfl) (by decide) rfl ?_
      replace h := nm_at ex6 h
      clear ex6
      refine a_goto (tgt := 4) (pc := 47) F dX8_areCertified_47 (by decide) ?_
      refine a_lv F [2, 3, 1, 0] rfl ?_
      exact hP1 _ (Option.some.inj h).symm
    · replace h := ite_f q5 h
      clear q5
      refine a_aload_n (pc := 16) F dX8_areCertified_16 0 rfl ?_
      refine a_getr (k := 162) (r := 163) (pc := 17) F dX8_areCertified_17 fl_RX8_7 kl_162 ks_162 rfl ?_
      refine a_bipush (v := 23) (pc := 20) F dX8_areCertified_20 (by decide) ?_
      refine a_aload_n (pc := 22) F dX8_areCertified_22 0 rfl ?_
      refine a_getr (k := 162) (r := 166) (pc := 23) F dX8_areCertified_23 fl_RX8_19 kl_162 ks_162 rfl ?_
      refine a_iload_n (pc := 26) F dX8_areCertified_26 3 rfl ?_
      replace h := gIn_some h
      obtain ⟨g7, h⟩ := h
      refine a_ial (k := 166) (pc := 27) F dX8_areCertified_27 kl_166 ks_166 g7 ?_
      refine a_nmi fun x8 ex8 => ?_
      replace h := nm_at ex8 h
      clear ex8
      refine a_iadd (pc := 28) F dX8_areCertified_28 ?_
      replace h := gIn_some h
      obtain ⟨g9, h⟩ := h
      refine a_ial (k := 163) (pc := 29) F dX8_areCertified_29 kl_163 ks_163 g9 ?_
      refine a_nmi fun x10 ex10 => ?_
      replace h := nm_at ex10 h
      clear ex10
      refine a_iload_n (pc := 30) F dX8_areCertified_30 1 rfl ?_
      refine a_ishr (pc := 31) F dX8_areCertified_31 ?_
      refine a_iconst (v := 1) (pc := 32) F dX8_areCertified_32 (by decide) ?_
      refine a_iand (pc := 33) F dX8_areCertified_33 ?_
      refine a_nmi fun x11 ex11 => ?_
      replace h := nm_at ex11 h
      clear ex11
      refine a_iconst (v := 1) (pc := 34) F dX8_areCertified_34 (by decide) ?_
      refine a_icmp_ne (tgt := 42) (pc := 35) F dX8_areCertified_35 (by decide) (fun q12 => ?_) (fun q12 => ?_)
      · replace h := ite_f q12 h
        clear q12
        refine a_iconst (v := 0) (pc := 42) F dX8_areCertified_42 (by decide) ?_
        refine a_istore_n (lv' := [(2, .int 0), (0, .ref (ga X.G 162)), (1, .int p1), (3, .int x3)]) (pc := 43) F dX8_areCertified_43 (by decide) rfl ?_
        obtain ⟨x13, ex13⟩ : ∃ x13 : Int32, x13 = x3 + 1 := ⟨_, rfl⟩
        refine a_iinc (v := x13) (lv' := [(3, .int x13), (2, .int 0), (0, .ref (ga X.G 162)), (1, .int p1)]) (pc := 44) F dX8_areCertified_44 3 rfl (by rw [ex13]; rfl) (by decide) rfl ?_
        replace h := nm_at ex13 h
        clear ex13
        refine a_goto (tgt := 4) (pc := 47) F dX8_areCertified_47 (by decide) ?_
        refine a_lv F [2, 3, 1, 0] rfl ?_
        exact hP1 _ (Option.some.inj h).symm
      · replace h := ite_t (Decidable.not_not.mp q12) h
        clear q12
        refine a_iconst (v := 1) (pc := 38) F dX8_areCertified_38 (by decide) ?_
        refine a_goto (tgt := 43) (pc := 39) F dX8_areCertified_39 (by decide) ?_
        refine a_istore_n (lv' := [(2, .int 1), (0, .ref (ga X.G 162)), (1, .int p1), (3, .int x3)]) (pc := 43) F dX8_areCertified_43 (by decide) rfl ?_
        obtain ⟨x14, ex14⟩ : ∃ x14 : Int32, x14 = x3 + 1 := ⟨_, rfl⟩
        refine a_iinc (v := x14) (lv' := [(3, .int x14), (2, .int 1), (0, .ref (ga X.G 162)), (1, .int p1)]) (pc := 44) F dX8_areCertified_44 3 rfl (by rw [ex14]; rfl) (by decide) rfl ?_
        replace h := nm_at ex14 h
        clear ex14
        refine a_goto (tgt := 4) (pc := 47) F dX8_areCertified_47 (by decide) ?_
        refine a_lv F [2, 3, 1, 0] rfl ?_
        exact hP1 _ (Option.some.inj h).symm
def f_X8_areBusy_L4 (p1 : Int32) (m0 : Mem) : (Int32 × Int32) → Option ((Int32 × Int32) ⊕ Int32)
  | (x2, x3) => (if (m0.1 162 7) ≤ x3 then some (.inr x2) else (if x2 = 0 then gIn x3 3 <| nm (m0.1 166 x3.toNatClampNeg) fun x8 => bnd (f_X8_isBusy x8 p1 m0) fun x10 => (if x10 = 0 then nm (x3 + 1) fun x12 => some (.inl (0, x12)) else nm (x3 + 1) fun x13 => some (.inl (1, x13))) else nm (x3 + 1) fun x6 => some (.inl (1, x6))))
def f_X8_areBusy (p1 : Int32) (m0 : Mem) : Option Int32 :=
  bnd (lp (f_X8_areBusy_L4 p1 m0) 1000000 (0, 0)) (fun x14 => gBo x14 <| some x14)
set_option maxRecDepth 100000 in
set_option maxHeartbeats 4000000 in
theorem m_X8_areBusy {p1 : Int32} {m0 : Mem} {rr : Int32} (h : f_X8_areBusy p1 m0 = some rr) : Con yX8_areBusy cX8_areBusy 4 (some Jvm.ClassFile.FieldType.boolean) 4 89 (fun G => [.ref (ga G 162), .int p1]) m0 (some (.int rr)) m0 := by
  refine con_of (by decide) (fun G => Nat.le_of_ble_eq_true rfl) (fun X F => ?_)
  show WA X 0 0 0 [(0, .ref (ga X.G 162)), (1, .int p1)] [] m0 (EQ X (some (.int rr)) m0)
  rw [f_X8_areBusy] at h
  refine a_iconst (v := 0) (pc := 0) F dX8_areBusy_0 (by decide) ?_
  refine a_istore_n (lv' := [(2, .int 0), (0, .ref (ga X.G 162)), (1, .int p1)]) (pc := 1) F dX8_areBusy_1 (by decide) rfl ?_
  refine a_iconst (v := 0) (pc := 2) F dX8_areBusy_2 (by decide) ?_
  refine a_istore_n (lv' := [(3, .int 0), (2, .int 0), (0, .ref (ga X.G 162)), (1, .int p1)]) (pc := 3) F dX8_areBusy_3 (by decide) rfl ?_
  refine a_lv F [2, 3, 1, 0] rfl ?_
  replace h := bnd_some h
  obtain ⟨x14, hL1, h⟩ := h
  have hE1 : WA X 0 0 42 [(2, .int x14)] [] m0 (EQ X (some (.int rr)) m0) := by
    refine a_iload_n (pc := 42) F dX8_areBusy_42 0 rfl ?_
    replace h := gBo_some h
    obtain ⟨g15, h⟩ := h
    cases h
    exact a_iret (pc := 43) F dX8_areBusy_43 ⟨_, rfl, narrow_bo g15⟩
  clear h
  refine lp_run (P := fun (s : (Int32 × Int32)) => WA X 0 0 4 [(0, .ref (ga X.G 162)), (1, .int p1), (2, .int s.1), (3, .int s.2)] [] m0 (EQ X (some (.int rr)) m0)) ?_ _ _ hL1
  clear hL1
  rintro ⟨x2, x3⟩ xo h hP1 hT1
  show WA X 0 0 4 [(0, .ref (ga X.G 162)), (1, .int p1), (2, .int x2), (3, .int x3)] [] m0 (EQ X (some (.int rr)) m0)
  rw [f_X8_areBusy_L4] at h
  refine a_iload_n (pc := 4) F dX8_areBusy_4 3 rfl ?_
  refine a_aload_n (pc := 5) F dX8_areBusy_5 0 rfl ?_
  refine a_geti (k := 162) (pc := 6) F dX8_areBusy_6 fl_RX8_91 kl_162 ks_162 rfl ?_
  refine a_icmp_ge (tgt := 42) (pc := 9) F dX8_areBusy_9 (by decide) (fun q4 => ?_) (fun q4 => ?_)
  · replace h := ite_t q4 h
    clear q4
    refine a_lv F [2] rfl ?_
    cases hT1 _ (Option.some.inj h).symm
    exact hE1
  · replace h := ite_f q4 h
    clear q4
    refine a_iload_n (pc := 12) F dX8_areBusy_12 2 rfl ?_
    refine a_if_ne (tgt := 30) (pc := 13) F dX8_areBusy_13 (by decide) (fun q5 => ?_) (fun q5 => ?_)
    · replace h := ite_f q5 h
      clear q5
      refine a_iconst (v := 1) (pc := 30) F dX8_areBusy_30 (by decide) ?_
      refine a_goto (tgt := 35) (pc := 31) F dX8_areBusy_31 (by decide) ?_
      refine a_istore_n (lv' := [(2, .int 1), (0, .ref (ga X.G 162)), (1, .int p1), (3, .int x3)]) (pc := 35) F dX8_areBusy_35 (by decide) rfl ?_
      obtain ⟨x6, ex6⟩ : ∃ x6 : Int32, x6 = x3 + 1 := ⟨_, rfl⟩
      refine a_iinc (v := x6) (lv' := [(3, .int x6), (2, .int 1), (0, .ref (ga X.G 162)), (1, .int p1)]) (pc := 36) F dX8_areBusy_36 3 rfl (by rw [ex6]; rfl) (by decide) rfl ?_
      replace h := nm_at ex6 h
      clear ex6
      refine a_goto (tgt := 4) (pc := 39) F dX8_areBusy_39 (by decide) ?_
      refine a_lv F [2, 3, 1, 0] rfl ?_
      exact hP1 _ (Option.some.inj h).symm
    · replace h := ite_t (Decidable.not_not.mp q5) h
      clear q5
      refine a_aload_n (pc := 16) F dX8_areBusy_16 0 rfl ?_
      refine a_aload_n (pc := 17) F dX8_areBusy_17 0 rfl ?_
      refine a_getr (k := 162) (r := 166) (pc := 18) F dX8_areBusy_18 fl_RX8_19 kl_162 ks_162 rfl ?_
      refine a_iload_n (pc := 21) F dX8_areBusy_21 3 rfl ?_
      replace h := gIn_some h
      obtain ⟨g7, h⟩ := h
      refine a_ial (k := 166) (pc := 22) F dX8_areBusy_22 kl_166 ks_166 g7 ?_
      refine a_nmi fun x8 ex8 => ?_
      replace h := nm_at ex8 h
      clear ex8
      refine a_iload_n (pc := 23) F dX8_areBusy_23 1 rfl ?_
      replace h := bnd_some h
      obtain ⟨x10, hc9, h⟩ := h
      refine a_callV (pc := 24) (k := 162) (As := [.int x8, .int p1]) (st := []) F dX8_areBusy_24 (m_X8_isBusy hc9) cv_RX8_94 kl_162 ks_162 ⟨_, _, rfl⟩ rfl rfl rfl (Nat.le_of_ble_eq_true rfl) ⟨Nat.le_of_ble_eq_true rfl, Nat.le_of_ble_eq_true rfl⟩ ?_ rfl rfl
      clear hc9
      refine a_if_eq (tgt := 34) (pc := 27) F dX8_areBusy_27 (by decide) (fun q11 => ?_) (fun q11 => ?_)
      · replace h := ite_t q11 h
        clear q11
        refine a_iconst (v := 0) (pc := 34) F dX8_areBusy_34 (by decide) ?_
        refine a_istore_n (lv' := [(2, .int 0), (0, .ref (ga X.G 162)), (1, .int p1), (3, .int x3)]) (pc := 35) F dX8_areBusy_35 (by decide) rfl ?_
        obtain ⟨x12, ex12⟩ : ∃ x12 : Int32, x12 = x3 + 1 := ⟨_, rfl⟩
        refine a_iinc (v := x12) (lv' := [(3, .int x12), (2, .int 0), (0, .ref (ga X.G 162)), (1, .int p1)]) (pc := 36) F dX8_areBusy_36 3 rfl (by rw [ex12]; rfl) (by decide) rfl ?_
        replace h := nm_at ex12 h
        clear ex12
        refine a_goto (tgt := 4) (pc := 39) F dX8_areBusy_39 (by decide) ?_
        refine a_lv F [2, 3, 1, 0] rfl ?_
        exact hP1 _ (Option.some.inj h).symm
      · replace h := ite_f q11 h
        clear q11
        refine a_iconst (v := 1) (pc := 30) F dX8_areBusy_30 (by decide) ?_
        refine a_goto (tgt := 35) (pc := 31) F dX8_areBusy_31 (by decide) ?_
        refine a_istore_n (lv' := [(2, .int 1), (0, .ref (ga X.G 162)), (1, .int p1), (3, .int x3)]) (pc := 35) F dX8_areBusy_35 (by decide) rfl ?_
        obtain ⟨x13, ex13⟩ : ∃ x13 : Int32, x13 = x3 + 1 := ⟨_, rfl⟩
        refine a_iinc (v := x13) (lv' := [(3, .int x13), (2, .int 1), (0, .ref (ga X.G 162)), (1, .int p1)]) (pc := 36) F dX8_areBusy_36 3 rfl (by rw [ex13]; rfl) (by decide) rfl ?_
        replace h := nm_at ex13 h
        clear ex13
        refine a_goto (tgt := 4) (pc := 39) F dX8_areBusy_39 (by decide) ?_
        refine a_lv F [2, 3, 1, 0] rfl ?_
        exact hP1 _ (Option.some.inj h).symm
def f_X8_reason (p1 : Int32) (m0 : Mem) : Option Int32 :=
  bnd (f_X8_isListed p1 m0) fun x2 => (if x2 = 0 then some 1 else bnd (f_X8_hasStarted p1 m0) fun x5 => (if x5 = 0 then bnd (f_X8_of p1 1 m0) fun x8 => bnd (f_X8_isChain x8 m0) fun x10 => (if x10 = 0 then some 3 else bnd (f_X8_of p1 0 m0) fun x13 => bnd (f_X8_areCertified x13 m0) fun x15 => (if x15 = 0 then some 4 else bnd (f_X8_areBusy p1 m0) fun x18 => (if x18 = 0 then some 0 else some 5))) else some 2))
set_option maxRecDepth 100000 in
set_option maxHeartbeats 4000000 in
theorem m_X8_reason {p1 : Int32} {m0 : Mem} {rr : Int32} (h : f_X8_reason p1 m0 = some rr) : Con yX8_reason cX8_reason 2 (some Jvm.ClassFile.FieldType.int) 5 112 (fun G => [.ref (ga G 162), .int p1]) m0 (some (.int rr)) m0 := by
  refine con_of (by decide) (fun G => Nat.le_of_ble_eq_true rfl) (fun X F => ?_)
  show WA X 0 0 0 [(0, .ref (ga X.G 162)), (1, .int p1)] [] m0 (EQ X (some (.int rr)) m0)
  rw [f_X8_reason] at h
  refine a_aload_n (pc := 0) F dX8_reason_0 0 rfl ?_
  refine a_iload_n (pc := 1) F dX8_reason_1 1 rfl ?_
  replace h := bnd_some h
  obtain ⟨x2, hc1, h⟩ := h
  refine a_callV (pc := 2) (k := 162) (As := [.int p1]) (st := []) F dX8_reason_2 (m_X8_isListed hc1) cv_RX8_50 kl_162 ks_162 ⟨_, _, rfl⟩ rfl rfl rfl (Nat.le_of_ble_eq_true rfl) ⟨Nat.le_of_ble_eq_true rfl, Nat.le_of_ble_eq_true rfl⟩ ?_ rfl rfl
  clear hc1
  refine a_if_ne (tgt := 10) (pc := 5) F dX8_reason_5 (by decide) (fun q3 => ?_) (fun q3 => ?_)
  · replace h := ite_f q3 h
    clear q3
    refine a_aload_n (pc := 10) F dX8_reason_10 0 rfl ?_
    refine a_iload_n (pc := 11) F dX8_reason_11 1 rfl ?_
    replace h := bnd_some h
    obtain ⟨x5, hc4, h⟩ := h
    refine a_callV (pc := 12) (k := 162) (As := [.int p1]) (st := []) F dX8_reason_12 (m_X8_hasStarted hc4) cv_RX8_97 kl_162 ks_162 ⟨_, _, rfl⟩ rfl rfl rfl (Nat.le_of_ble_eq_true rfl) ⟨Nat.le_of_ble_eq_true rfl, Nat.le_of_ble_eq_true rfl⟩ ?_ rfl rfl
    clear hc4
    refine a_if_eq (tgt := 20) (pc := 15) F dX8_reason_15 (by decide) (fun q6 => ?_) (fun q6 => ?_)
    · replace h := ite_t q6 h
      clear q6
      refine a_aload_n (pc := 20) F dX8_reason_20 0 rfl ?_
      refine a_aload_n (pc := 21) F dX8_reason_21 0 rfl ?_
      refine a_iload_n (pc := 22) F dX8_reason_22 1 rfl ?_
      refine a_iconst (v := 1) (pc := 23) F dX8_reason_23 (by decide) ?_
      replace h := bnd_some h
      obtain ⟨x8, hc7, h⟩ := h
      refine a_callV (pc := 24) (k := 162) (As := [.int p1, .int 1]) (st := [.ref (ga X.G 162)]) F dX8_reason_24 (m_X8_of hc7) cv_RX8_42 kl_162 ks_162 ⟨_, _, rfl⟩ rfl rfl rfl (Nat.le_of_ble_eq_true rfl) ⟨Nat.le_of_ble_eq_true rfl, Nat.le_of_ble_eq_true rfl⟩ ?_ rfl rfl
      clear hc7
      replace h := bnd_some h
      obtain ⟨x10, hc9, h⟩ := h
      refine a_callV (pc := 27) (k := 162) (As := [.int x8]) (st := []) F dX8_reason_27 (m_X8_isChain hc9) cv_RX8_100 kl_162 ks_162 ⟨_, _, rfl⟩ rfl rfl rfl (Nat.le_of_ble_eq_true rfl) ⟨Nat.le_of_ble_eq_true rfl, Nat.le_of_ble_eq_true rfl⟩ ?_ rfl rfl
      clear hc9
      refine a_if_ne (tgt := 37) (pc := 30) F dX8_reason_30 (by decide) (fun q11 => ?_) (fun q11 => ?_)
      · replace h := ite_f q11 h
        clear q11
        refine a_aload_n (pc := 37) F dX8_reason_37 0 rfl ?_
        refine a_aload_n (pc := 38) F dX8_reason_38 0 rfl ?_
        refine a_iload_n (pc := 39) F dX8_reason_39 1 rfl ?_
        refine a_iconst (v := 0) (pc := 40) F dX8_reason_40 (by decide) ?_
        replace h := bnd_some h
        obtain ⟨x13, hc12, h⟩ := h
        refine a_callV (pc := 41) (k := 162) (As := [.int p1, .int 0]) (st := [.ref (ga X.G 162)]) F dX8_reason_41 (m_X8_of hc12) cv_RX8_42 kl_162 ks_162 ⟨_, _, rfl⟩ rfl rfl rfl (Nat.le_of_ble_eq_true rfl) ⟨Nat.le_of_ble_eq_true rfl, Nat.le_of_ble_eq_true rfl⟩ ?_ rfl rfl
        clear hc12
        replace h := bnd_some h
        obtain ⟨x15, hc14, h⟩ := h
        refine a_callV (pc := 44) (k := 162) (As := [.int x13]) (st := []) F dX8_reason_44 (m_X8_areCertified hc14) cv_RX8_103 kl_162 ks_162 ⟨_, _, rfl⟩ rfl rfl rfl (Nat.le_of_ble_eq_true rfl) ⟨Nat.le_of_ble_eq_true rfl, Nat.le_of_ble_eq_true rfl⟩ ?_ rfl rfl
        clear hc14
        refine a_if_ne (tgt := 54) (pc := 47) F dX8_reason_47 (by decide) (fun q16 => ?_) (fun q16 => ?_)
        · replace h := ite_f q16 h
          clear q16
          refine a_aload_n (pc := 54) F dX8_reason_54 0 rfl ?_
          refine a_iload_n (pc := 55) F dX8_reason_55 1 rfl ?_
          replace h := bnd_some h
          obtain ⟨x18, hc17, h⟩ := h
          refine a_callV (pc := 56) (k := 162) (As := [.int p1]) (st := []) F dX8_reason_56 (m_X8_areBusy hc17) cv_RX8_106 kl_162 ks_162 ⟨_, _, rfl⟩ rfl rfl rfl (Nat.le_of_ble_eq_true rfl) ⟨Nat.le_of_ble_eq_true rfl, Nat.le_of_ble_eq_true rfl⟩ ?_ rfl rfl
          clear hc17
          refine a_if_eq (tgt := 66) (pc := 59) F dX8_reason_59 (by decide) (fun q19 => ?_) (fun q19 => ?_)
          · replace h := ite_t q19 h
            clear q19
            refine a_iconst (v := 0) (pc := 66) F dX8_reason_66 (by decide) ?_
            cases h
            exact a_iret (pc := 67) F dX8_reason_67 ⟨_, rfl, rfl⟩
          · replace h := ite_f q19 h
            clear q19
            refine a_iconst (v := 5) (pc := 62) F dX8_reason_62 (by decide) ?_
            refine a_goto (tgt := 67) (pc := 63) F dX8_reason_63 (by decide) ?_
            cases h
            exact a_iret (pc := 67) F dX8_reason_67 ⟨_, rfl, rfl⟩
        · replace h := ite_t (Decidable.not_not.mp q16) h
          clear q16
          refine a_iconst (v := 4) (pc := 50) F dX8_reason_50 (by decide) ?_
          refine a_goto (tgt := 67) (pc := 51) F dX8_reason_51 (by decide) ?_
          cases h
          exact a_iret (pc := 67) F dX8_reason_67 ⟨_, rfl, rfl⟩
      · replace h := ite_t (Decidable.not_not.mp q11) h
        clear q11
        refine a_iconst (v := 3) (pc := 33) F dX8_reason_33 (by decide) ?_
        refine a_goto (tgt := 67) (pc := 34) F dX8_reason_34 (by decide) ?_
        cases h
        exact a_iret (pc := 67) F dX8_reason_67 ⟨_, rfl, rfl⟩
    · replace h := ite_f q6 h
      clear q6
      refine a_iconst (v := 2) (pc := 18) F dX8_reason_18 (by decide) ?_
      cases h
      exact a_iret (pc := 19) F dX8_reason_19 ⟨_, rfl, rfl⟩
  · replace h := ite_t (Decidable.not_not.mp q3) h
    clear q3
    refine a_iconst (v := 1) (pc := 8) F dX8_reason_8 (by decide) ?_
    cases h
    exact a_iret (pc := 9) F dX8_reason_9 ⟨_, rfl, rfl⟩
def f_X8_refusedChain (p1 : Int32) (p2 : Int32) (p3 : Int32) (p4 : Int32) (m0 : Mem) : Option (Int32 × Mem) :=
  bnd (f_X8_isHearing p1 m0) fun x2 => bnd ((if x2 = 0 then some 0 else bnd (f_X8_isPerson p2 m0) fun x6 => (if x6 = 0 then some 0 else (if p3 = (-1) then (if p4 = (-1) then some 1 else bnd (f_X8_isPerson p4 m0) fun x11 => (if x11 = 0 then some 0 else some 1)) else bnd (f_X8_isPerson p3 m0) fun x14 => (if x14 = 0 then some 0 else (if p4 = (-1) then some 1 else bnd (f_X8_isPerson p4 m0) fun x18 => (if x18 = 0 then some 0 else some 1))))))) (fun (x20 : Int32) => jn ((if x20 = 0 then some (.inr (1, m0)) else (if p3 = (-1) then (if p4 = (-1) then (if p2 = p3 then some (.inl 0) else (if p4 = (-1) then some (.inl 1) else (if p4 = p2 then some (.inl 0) else (if p4 = p3 then some (.inl 0) else some (.inl 1))))) else some (.inl 0)) else (if p2 = p3 then some (.inl 0) else (if p4 = (-1) then some (.inl 1) else (if p4 = p2 then some (.inl 0) else (if p4 = p3 then some (.inl 0) else some (.inl 1)))))))) (fun (x33 : Int32) => bnd (f_X8_lay p2 p3 p4 m0) fun m35 => (if x33 = 0 then some (2, m35) else some (0, m35))))
set_option maxRecDepth 100000 in
set_option maxHeartbeats 4000000 in
theorem m_X8_refusedChain {p1 : Int32} {p2 : Int32} {p3 : Int32} {p4 : Int32} {m0 : Mem} {rr : Int32} {mm : Mem} (h : f_X8_refusedChain p1 p2 p3 p4 m0 = some (rr, mm)) : Con yX8_refusedChain cX8_refusedChain 7 (some Jvm.ClassFile.FieldType.int) 2 43 (fun G => [.ref (ga G 162), .int p1, .int p2, .int p3, .int p4]) m0 (some (.int rr)) mm := by
  refine con_of (by decide) (fun G => Nat.le_of_ble_eq_true rfl) (fun X F => ?_)
  show WA X 0 0 0 [(0, .ref (ga X.G 162)), (1, .int p1), (2, .int p2), (3, .int p3), (4, .int p4)] [] m0 (EQ X (some (.int rr)) mm)
  rw [f_X8_refusedChain] at h
  refine a_aload_n (pc := 0) F dX8_refusedChain_0 0 rfl ?_
  refine a_iload_n (pc := 1) F dX8_refusedChain_1 1 rfl ?_
  replace h := bnd_some h
  obtain ⟨x2, hc1, h⟩ := h
  refine a_callV (pc := 2) (k := 162) (As := [.int p1]) (st := []) F dX8_refusedChain_2 (m_X8_isHearing hc1) cv_RX8_109 kl_162 ks_162 ⟨_, _, rfl⟩ rfl rfl rfl (Nat.le_of_ble_eq_true rfl) ⟨Nat.le_of_ble_eq_true rfl, Nat.le_of_ble_eq_true rfl⟩ ?_ rfl rfl
  clear hc1
  replace h := bnd_some h
  obtain ⟨x20, hR3, h⟩ := h
  have hJ3 : WA X 0 0 49 [(0, .ref (ga X.G 162)), (2, .int p2), (3, .int p3), (4, .int p4)] [.int x20] m0 (EQ X (some (.int rr)) mm) := by
    refine a_istore (lv' := [(5, .int x20), (0, .ref (ga X.G 162)), (2, .int p2), (3, .int p3), (4, .int p4)]) (pc := 49) F dX8_refusedChain_49 (by decide) rfl ?_
    refine a_iload (pc := 51) F dX8_refusedChain_51 0 rfl ?_
    replace h := jn_some h
    obtain ⟨o21, hR21, hK21, hB21⟩ := h
    have hJ21 : ∀ (x33 : Int32), o21 = .inl x33 → WA X 0 0 97 [(0, .ref (ga X.G 162)), (2, .int p2), (3, .int p3), (4, .int p4)] [.int x33] m0 (EQ X (some (.int rr)) mm) := by
      intro x33 eo
      have h := hK21 _ eo
      clear hK21 eo
      refine a_istore (lv' := [(6, .int x33), (0, .ref (ga X.G 162)), (2, .int p2), (3, .int p3), (4, .int p4)]) (pc := 97) F dX8_refusedChain_97 (by decide) rfl ?_
      refine a_aload_n (pc := 99) F dX8_refusedChain_99 1 rfl ?_
      refine a_iload_n (pc := 100) F dX8_refusedChain_100 2 rfl ?_
      refine a_iload_n (pc := 101) F dX8_refusedChain_101 3 rfl ?_
      refine a_iload (pc := 102) F dX8_refusedChain_102 4 rfl ?_
      replace h := bnd_some h
      obtain ⟨m35, hc34, h⟩ := h
      refine a_callV (pc := 104) (k := 162) (As := [.int p2, .int p3, .int p4]) (st := []) F dX8_refusedChain_104 (m_X8_lay hc34) cv_RX8_112 kl_162 ks_162 ⟨_, _, rfl⟩ rfl rfl rfl (Nat.le_of_ble_eq_true rfl) ⟨Nat.le_of_ble_eq_true rfl, Nat.le_of_ble_eq_true rfl⟩ ?_ rfl rfl
      clear hc34
      refine a_iload (pc := 107) F dX8_refusedChain_107 0 rfl ?_
      refine a_if_eq (tgt := 116) (pc := 109) F dX8_refusedChain_109 (by decide) (fun q36 => ?_) (fun q36 => ?_)
      · replace h := ite_t q36 h
        clear q36
        refine a_iconst (v := 2) (pc := 116) F dX8_refusedChain_116 (by decide) ?_
        cases h
        exact a_iret (pc := 117) F dX8_refusedChain_117 ⟨_, rfl, rfl⟩
      · replace h := ite_f q36 h
        clear q36
        refine a_iconst (v := 0) (pc := 112) F dX8_refusedChain_112 (by decide) ?_
        refine a_goto (tgt := 117) (pc := 113) F dX8_refusedChain_113 (by decide) ?_
        cases h
        exact a_iret (pc := 117) F dX8_refusedChain_117 ⟨_, rfl, rfl⟩
    clear hK21
    have h := hR21
    clear hR21
    refine a_if_ne (tgt := 58) (pc := 53) F dX8_refusedChain_53 (by decide) (fun q22 => ?_) (fun q22 => ?_)
    · replace h := ite_f q22 h
      clear q22
      refine a_iload_n (pc := 58) F dX8_refusedChain_58 3 rfl ?_
      refine a_iconst (v := (-1)) (pc := 59) F dX8_refusedChain_59 (by decide) ?_
      refine a_icmp_ne (tgt := 69) (pc := 60) F dX8_refusedChain_60 (by decide) (fun q23 => ?_) (fun q23 => ?_)
      · replace h := ite_f q23 h
        clear q23
        refine a_iload_n (pc := 69) F dX8_refusedChain_69 2 rfl ?_
        refine a_iload_n (pc := 70) F dX8_refusedChain_70 3 rfl ?_
        refine a_icmp_eq (tgt := 96) (pc := 71) F dX8_refusedChain_71 (by decide) (fun q24 => ?_) (fun q24 => ?_)
        · replace h := ite_t q24 h
          clear q24
          refine a_iconst (v := 0) (pc := 96) F dX8_refusedChain_96 (by decide) ?_
          refine a_lv F [1, 2, 3, 4] rfl ?_
          exact hJ21 _ (Option.some.inj h).symm
        · replace h := ite_f q24 h
          clear q24
          refine a_iload (pc := 74) F dX8_refusedChain_74 4 rfl ?_
          refine a_iconst (v := (-1)) (pc := 76) F dX8_refusedChain_76 (by decide) ?_
          refine a_icmp_eq (tgt := 92) (pc := 77) F dX8_refusedChain_77 (by decide) (fun q25 => ?_) (fun q25 => ?_)
          · replace h := ite_t q25 h
            clear q25
            refine a_iconst (v := 1) (pc := 92) F dX8_refusedChain_92 (by decide) ?_
            refine a_goto (tgt := 97) (pc := 93) F dX8_refusedChain_93 (by decide) ?_
            refine a_lv F [1, 2, 3, 4] rfl ?_
            exact hJ21 _ (Option.some.inj h).symm
          · replace h := ite_f q25 h
            clear q25
            refine a_iload (pc := 80) F dX8_refusedChain_80 4 rfl ?_
            refine a_iload_n (pc := 82) F dX8_refusedChain_82 2 rfl ?_
            refine a_icmp_eq (tgt := 96) (pc := 83) F dX8_refusedChain_83 (by decide) (fun q26 => ?_) (fun q26 => ?_)
            · replace h := ite_t q26 h
              clear q26
              refine a_iconst (v := 0) (pc := 96) F dX8_refusedChain_96 (by decide) ?_
              refine a_lv F [1, 2, 3, 4] rfl ?_
              exact hJ21 _ (Option.some.inj h).symm
            · replace h := ite_f q26 h
              clear q26
              refine a_iload (pc := 86) F dX8_refusedChain_86 4 rfl ?_
              refine a_iload_n (pc := 88) F dX8_refusedChain_88 3 rfl ?_
              refine a_icmp_eq (tgt := 96) (pc := 89) F dX8_refusedChain_89 (by decide) (fun q27 => ?_) (fun q27 => ?_)
              · replace h := ite_t q27 h
                clear q27
                refine a_iconst (v := 0) (pc := 96) F dX8_refusedChain_96 (by decide) ?_
                refine a_lv F [1, 2, 3, 4] rfl ?_
                exact hJ21 _ (Option.some.inj h).symm
              · replace h := ite_f q27 h
                clear q27
                refine a_iconst (v := 1) (pc := 92) F dX8_refusedChain_92 (by decide) ?_
                refine a_goto (tgt := 97) (pc := 93) F dX8_refusedChain_93 (by decide) ?_
                refine a_lv F [1, 2, 3, 4] rfl ?_
                exact hJ21 _ (Option.some.inj h).symm
      · replace h := ite_t (Decidable.not_not.mp q23) h
        clear q23
        refine a_iload (pc := 63) F dX8_refusedChain_63 4 rfl ?_
        refine a_iconst (v := (-1)) (pc := 65) F dX8_refusedChain_65 (by decide) ?_
        refine a_icmp_ne (tgt := 96) (pc := 66) F dX8_refusedChain_66 (by decide) (fun q28 => ?_) (fun q28 => ?_)
        · replace h := ite_f q28 h
          clear q28
          refine a_iconst (v := 0) (pc := 96) F dX8_refusedChain_96 (by decide) ?_
          refine a_lv F [1, 2, 3, 4] rfl ?_
          exact hJ21 _ (Option.some.inj h).symm
        · replace h := ite_t (Decidable.not_not.mp q28) h
          clear q28
          refine a_iload_n (pc := 69) F dX8_refusedChain_69 2 rfl ?_
          refine a_iload_n (pc := 70) F dX8_refusedChain_70 3 rfl ?_
          refine a_icmp_eq (tgt := 96) (pc := 71) F dX8_refusedChain_71 (by decide) (fun q29 => ?_) (fun q29 => ?_)
          · replace h := ite_t q29 h
            clear q29
            refine a_iconst (v := 0) (pc := 96) F dX8_refusedChain_96 (by decide) ?_
            refine a_lv F [1, 2, 3, 4] rfl ?_
            exact hJ21 _ (Option.some.inj h).symm
          · replace h := ite_f q29 h
            clear q29
            refine a_iload (pc := 74) F dX8_refusedChain_74 4 rfl ?_
            refine a_iconst (v := (-1)) (pc := 76) F dX8_refusedChain_76 (by decide) ?_
            refine a_icmp_eq (tgt := 92) (pc := 77) F dX8_refusedChain_77 (by decide) (fun q30 => ?_) (fun q30 => ?_)
            · replace h := ite_t q30 h
              clear q30
              refine a_iconst (v := 1) (pc := 92) F dX8_refusedChain_92 (by decide) ?_
              refine a_goto (tgt := 97) (pc := 93) F dX8_refusedChain_93 (by decide) ?_
              refine a_lv F [1, 2, 3, 4] rfl ?_
              exact hJ21 _ (Option.some.inj h).symm
            · replace h := ite_f q30 h
              clear q30
              refine a_iload (pc := 80) F dX8_refusedChain_80 4 rfl ?_
              refine a_iload_n (pc := 82) F dX8_refusedChain_82 2 rfl ?_
              refine a_icmp_eq (tgt := 96) (pc := 83) F dX8_refusedChain_83 (by decide) (fun q31 => ?_) (fun q31 => ?_)
              · replace h := ite_t q31 h
                clear q31
                refine a_iconst (v := 0) (pc := 96) F dX8_refusedChain_96 (by decide) ?_
                refine a_lv F [1, 2, 3, 4] rfl ?_
                exact hJ21 _ (Option.some.inj h).symm
              · replace h := ite_f q31 h
                clear q31
                refine a_iload (pc := 86) F dX8_refusedChain_86 4 rfl ?_
                refine a_iload_n (pc := 88) F dX8_refusedChain_88 3 rfl ?_
                refine a_icmp_eq (tgt := 96) (pc := 89) F dX8_refusedChain_89 (by decide) (fun q32 => ?_) (fun q32 => ?_)
                · replace h := ite_t q32 h
                  clear q32
                  refine a_iconst (v := 0) (pc := 96) F dX8_refusedChain_96 (by decide) ?_
                  refine a_lv F [1, 2, 3, 4] rfl ?_
                  exact hJ21 _ (Option.some.inj h).symm
                · replace h := ite_f q32 h
                  clear q32
                  refine a_iconst (v := 1) (pc := 92) F dX8_refusedChain_92 (by decide) ?_
                  refine a_goto (tgt := 97) (pc := 93) F dX8_refusedChain_93 (by decide) ?_
                  refine a_lv F [1, 2, 3, 4] rfl ?_
                  exact hJ21 _ (Option.some.inj h).symm
    · replace h := ite_t (Decidable.not_not.mp q22) h
      clear q22
      refine a_iconst (v := 1) (pc := 56) F dX8_refusedChain_56 (by decide) ?_
      replace h := hB21 _ (Option.some.inj h).symm
      cases h
      exact a_iret (pc := 57) F dX8_refusedChain_57 ⟨_, rfl, rfl⟩
  clear h
  have h := hR3
  clear hR3
  refine a_if_eq (tgt := 48) (pc := 5) F dX8_refusedChain_5 (by decide) (fun q4 => ?_) (fun q4 => ?_)
  · replace h := ite_t q4 h
    clear q4
    refine a_iconst (v := 0) (pc := 48) F dX8_refusedChain_48 (by decide) ?_
    refine a_lv F [0, 2, 3, 4] rfl ?_
    cases h
    exact hJ3
  · replace h := ite_f q4 h
    clear q4
    refine a_aload_n (pc := 8) F dX8_refusedChain_8 0 rfl ?_
    refine a_iload_n (pc := 9) F dX8_refusedChain_9 2 rfl ?_
    replace h := bnd_some h
    obtain ⟨x6, hc5, h⟩ := h
    refine a_callV (pc := 10) (k := 162) (As := [.int p2]) (st := []) F dX8_refusedChain_10 (m_X8_isPerson hc5) cv_RX8_82 kl_162 ks_162 ⟨_, _, rfl⟩ rfl rfl rfl (Nat.le_of_ble_eq_true rfl) ⟨Nat.le_of_ble_eq_true rfl, Nat.le_of_ble_eq_true rfl⟩ ?_ rfl rfl
    clear hc5
    refine a_if_eq (tgt := 48) (pc := 13) F dX8_refusedChain_13 (by decide) (fun q7 => ?_) (fun q7 => ?_)
    · replace h := ite_t q7 h
      clear q7
      refine a_iconst (v := 0) (pc := 48) F dX8_refusedChain_48 (by decide) ?_
      refine a_lv F [0, 2, 3, 4] rfl ?_
      cases h
      exact hJ3
    · replace h := ite_f q7 h
      clear q7
      refine a_iload_n (pc := 16) F dX8_refusedChain_16 3 rfl ?_
      refine a_iconst (v := (-1)) (pc := 17) F dX8_refusedChain_17 (by decide) ?_
      refine a_icmp_eq (tgt := 29) (pc := 18) F dX8_refusedChain_18 (by decide) (fun q8 => ?_) (fun q8 => ?_)
      · replace h := ite_t q8 h
        clear q8
        refine a_iload (pc := 29) F dX8_refusedChain_29 4 rfl ?_
        refine a_iconst (v := (-1)) (pc := 31) F dX8_refusedChain_31 (by decide) ?_
        refine a_icmp_eq (tgt := 44) (pc := 32) F dX8_refusedChain_32 (by decide) (fun q9 => ?_) (fun q9 => ?_)
        · replace h := ite_t q9 h
          clear q9
          refine a_iconst (v := 1) (pc := 44) F dX8_refusedChain_44 (by decide) ?_
          refine a_goto (tgt := 49) (pc := 45) F dX8_refusedChain_45 (by decide) ?_
          refine a_lv F [0, 2, 3, 4] rfl ?_
          cases h
          exact hJ3
        · replace h := ite_f q9 h
          clear q9
          refine a_aload_n (pc := 35) F dX8_refusedChain_35 0 rfl ?_
          refine a_iload (pc := 36) F dX8_refusedChain_36 4 rfl ?_
          replace h := bnd_some h
          obtain ⟨x11, hc10, h⟩ := h
          refine a_callV (pc := 38) (k := 162) (As := [.int p4]) (st := []) F dX8_refusedChain_38 (m_X8_isPerson hc10) cv_RX8_82 kl_162 ks_162 ⟨_, _, rfl⟩ rfl rfl rfl (Nat.le_of_ble_eq_true rfl) ⟨Nat.le_of_ble_eq_true rfl, Nat.le_of_ble_eq_true rfl⟩ ?_ rfl rfl
          clear hc10
          refine a_if_eq (tgt := 48) (pc := 41) F dX8_refusedChain_41 (by decide) (fun q12 => ?_) (fun q12 => ?_)
          · replace h := ite_t q12 h
            clear q12
            refine a_iconst (v := 0) (pc := 48) F dX8_refusedChain_48 (by decide) ?_
            refine a_lv F [0, 2, 3, 4] rfl ?_
            cases h
            exact hJ3
          · replace h := ite_f q12 h
            clear q12
            refine a_iconst (v := 1) (pc := 44) F dX8_refusedChain_44 (by decide) ?_
            refine a_goto (tgt := 49) (pc := 45) F dX8_refusedChain_45 (by decide) ?_
            refine a_lv F [0, 2, 3, 4] rfl ?_
            cases h
            exact hJ3
      · replace h := ite_f q8 h
        clear q8
        refine a_aload_n (pc := 21) F dX8_refusedChain_21 0 rfl ?_
        refine a_iload_n (pc := 22) F dX8_refusedChain_22 3 rfl ?_
        replace h := bnd_some h
        obtain ⟨x14, hc13, h⟩ := h
        refine a_callV (pc := 23) (k := 162) (As := [.int p3]) (st := []) F dX8_refusedChain_23 (m_X8_isPerson hc13) cv_RX8_82 kl_162 ks_162 ⟨_, _, rfl⟩ rfl rfl rfl (Nat.le_of_ble_eq_true rfl) ⟨Nat.le_of_ble_eq_true rfl, Nat.le_of_ble_eq_true rfl⟩ ?_ rfl rfl
        clear hc13
        refine a_if_eq (tgt := 48) (pc := 26) F dX8_refusedChain_26 (by decide) (fun q15 => ?_) (fun q15 => ?_)
        · replace h := ite_t q15 h
          clear q15
          refine a_iconst (v := 0) (pc := 48) F dX8_refusedChain_48 (by decide) ?_
          refine a_lv F [0, 2, 3, 4] rfl ?_
          cases h
          exact hJ3
        · replace h := ite_f q15 h
          clear q15
          refine a_iload (pc := 29) F dX8_refusedChain_29 4 rfl ?_
          refine a_iconst (v := (-1)) (pc := 31) F dX8_refusedChain_31 (by decide) ?_
          refine a_icmp_eq (tgt := 44) (pc := 32) F dX8_refusedChain_32 (by decide) (fun q16 => ?_) (fun q16 => ?_)
          · replace h := ite_t q16 h
            clear q16
            refine a_iconst (v := 1) (pc := 44) F dX8_refusedChain_44 (by decide) ?_
            refine a_goto (tgt := 49) (pc := 45) F dX8_refusedChain_45 (by decide) ?_
            refine a_lv F [0, 2, 3, 4] rfl ?_
            cases h
            exact hJ3
          · replace h := ite_f q16 h
            clear q16
            refine a_aload_n (pc := 35) F dX8_refusedChain_35 0 rfl ?_
            refine a_iload (pc := 36) F dX8_refusedChain_36 4 rfl ?_
            replace h := bnd_some h
            obtain ⟨x18, hc17, h⟩ := h
            refine a_callV (pc := 38) (k := 162) (As := [.int p4]) (st := []) F dX8_refusedChain_38 (m_X8_isPerson hc17) cv_RX8_82 kl_162 ks_162 ⟨_, _, rfl⟩ rfl rfl rfl (Nat.le_of_ble_eq_true rfl) ⟨Nat.le_of_ble_eq_true rfl, Nat.le_of_ble_eq_true rfl⟩ ?_ rfl rfl
            clear hc17
            refine a_if_eq (tgt := 48) (pc := 41) F dX8_refusedChain_41 (by decide) (fun q19 => ?_) (fun q19 => ?_)
            · replace h := ite_t q19 h
              clear q19
              refine a_iconst (v := 0) (pc := 48) F dX8_refusedChain_48 (by decide) ?_
              refine a_lv F [0, 2, 3, 4] rfl ?_
              cases h
              exact hJ3
            · replace h := ite_f q19 h
              clear q19
              refine a_iconst (v := 1) (pc := 44) F dX8_refusedChain_44 (by decide) ?_
              refine a_goto (tgt := 49) (pc := 45) F dX8_refusedChain_45 (by decide) ?_
              refine a_lv F [0, 2, 3, 4] rfl ?_
              cases h
              exact hJ3
def f_X8_assignTried_L12 (p1 : Int32) : (Int32 × Mem) → Option ((Int32 × Mem) ⊕ Mem)
  | (x4, m5) => (if 3 ≤ x4 then some (.inr m5) else bnd ((if (m5.1 162 7) ≤ x4 then some (-1) else gIn x4 3 <| nm (m5.1 166 x4.toNatClampNeg) fun x10 => some x10)) (fun (x11 : Int32) => bnd (f_X8_put p1 (6 + x4) x11 m5) fun m13 => nm (x4 + 1) fun x14 => some (.inl (x14, m13))))
def f_X8_assignTried (p1 : Int32) (m0 : Mem) : Option Mem :=
  bnd (f_X8_put p1 5 (m0.1 162 7) m0) fun m2 => bnd (lp (f_X8_assignTried_L12 p1) 1000000 (0, m2)) (fun m15 => some m15)
set_option maxRecDepth 100000 in
set_option maxHeartbeats 4000000 in
theorem m_X8_assignTried {p1 : Int32} {m0 : Mem} {mm : Mem} (h : f_X8_assignTried p1 m0 = some mm) : Con yX8_assignTried cX8_assignTried 3 none 1 23 (fun G => [.ref (ga G 162), .int p1]) m0 none mm := by
  refine con_of (by decide) (fun G => Nat.le_of_ble_eq_true rfl) (fun X F => ?_)
  show WA X 0 0 0 [(0, .ref (ga X.G 162)), (1, .int p1)] [] m0 (EQ X none mm)
  rw [f_X8_assignTried] at h
  refine a_aload_n (pc := 0) F dX8_assignTried_0 0 rfl ?_
  refine a_iload_n (pc := 1) F dX8_assignTried_1 1 rfl ?_
  refine a_iconst (v := 5) (pc := 2) F dX8_assignTried_2 (by decide) ?_
  refine a_aload_n (pc := 3) F dX8_assignTried_3 0 rfl ?_
  refine a_geti (k := 162) (pc := 4) F dX8_assignTried_4 fl_RX8_91 kl_162 ks_162 rfl ?_
  replace h := bnd_some h
  obtain ⟨m2, hc1, h⟩ := h
  refine a_callV (pc := 7) (k := 162) (As := [.int p1, .int 5, .int (m0.1 162 7)]) (st := []) F dX8_assignTried_7 (m_X8_put hc1) cv_RX8_74 kl_162 ks_162 ⟨_, _, rfl⟩ rfl rfl rfl (Nat.le_of_ble_eq_true rfl) ⟨Nat.le_of_ble_eq_true rfl, Nat.le_of_ble_eq_true rfl⟩ ?_ rfl rfl
  clear hc1
  refine a_iconst (v := 0) (pc := 10) F dX8_assignTried_10 (by decide) ?_
  refine a_istore_n (lv' := [(2, .int 0), (0, .ref (ga X.G 162)), (1, .int p1)]) (pc := 11) F dX8_assignTried_11 (by decide) rfl ?_
  refine a_lv F [1, 2, 0] rfl ?_
  replace h := bnd_some h
  obtain ⟨m15, hL3, h⟩ := h
  have hE3 : WA X 0 0 50 [] [] m15 (EQ X none mm) := by
    cases h
    exact a_vret (pc := 50) F dX8_assignTried_50 rfl
  clear h
  refine lp_run (P := fun (s : (Int32 × Mem)) => WA X 0 0 12 [(0, .ref (ga X.G 162)), (1, .int p1), (2, .int s.1)] [] s.2 (EQ X none mm)) ?_ _ _ hL3
  clear hL3
  rintro ⟨x4, m5⟩ xo h hP3 hT3
  show WA X 0 0 12 [(0, .ref (ga X.G 162)), (1, .int p1), (2, .int x4)] [] m5 (EQ X none mm)
  rw [f_X8_assignTried_L12] at h
  refine a_iload_n (pc := 12) F dX8_assignTried_12 2 rfl ?_
  refine a_iconst (v := 3) (pc := 13) F dX8_assignTried_13 (by decide) ?_
  refine a_icmp_ge (tgt := 50) (pc := 14) F dX8_assignTried_14 (by decide) (fun q6 => ?_) (fun q6 => ?_)
  · replace h := ite_t q6 h
    clear q6
    refine a_lv F [] rfl ?_
    cases hT3 _ (Option.some.inj h).symm
    exact hE3
  · replace h := ite_f q6 h
    clear q6
    refine a_aload_n (pc := 17) F dX8_assignTried_17 0 rfl ?_
    refine a_iload_n (pc := 18) F dX8_assignTried_18 1 rfl ?_
    refine a_bipush (v := 6) (pc := 19) F dX8_assignTried_19 (by decide) ?_
    refine a_iload_n (pc := 21) F dX8_assignTried_21 2 rfl ?_
    refine a_iadd (pc := 22) F dX8_assignTried_22 ?_
    refine a_iload_n (pc := 23) F dX8_assignTried_23 2 rfl ?_
    refine a_aload_n (pc := 24) F dX8_assignTried_24 0 rfl ?_
    refine a_geti (k := 162) (pc := 25) F dX8_assignTried_25 fl_RX8_91 kl_162 ks_162 rfl ?_
    replace h := bnd_some h
    obtain ⟨x11, hR7, h⟩ := h
    have hJ7 : WA X 0 0 41 [(0, .ref (ga X.G 162)), (1, .int p1), (2, .int x4)] [.int x11, .int (6 + x4), .int p1, .ref (ga X.G 162)] m5 (EQ X none mm) := by
      replace h := bnd_some h
      obtain ⟨m13, hc12, h⟩ := h
      refine a_callV (pc := 41) (k := 162) (As := [.int p1, .int (6 + x4), .int x11]) (st := []) F dX8_assignTried_41 (m_X8_put hc12) cv_RX8_74 kl_162 ks_162 ⟨_, _, rfl⟩ rfl rfl rfl (Nat.le_of_ble_eq_true rfl) ⟨Nat.le_of_ble_eq_true rfl, Nat.le_of_ble_eq_true rfl⟩ ?_ rfl rfl
      clear hc12
      obtain ⟨x14, ex14⟩ : ∃ x14 : Int32, x14 = x4 + 1 := ⟨_, rfl⟩
      refine a_iinc (v := x14) (lv' := [(2, .int x14), (0, .ref (ga X.G 162)), (1, .int p1)]) (pc := 44) F dX8_assignTried_44 2 rfl (by rw [ex14]; rfl) (by decide) rfl ?_
      replace h := nm_at ex14 h
      clear ex14
      refine a_goto (tgt := 12) (pc := 47) F dX8_assignTried_47 (by decide) ?_
      refine a_lv F [1, 2, 0] rfl ?_
      exact hP3 _ (Option.some.inj h).symm
    clear h
    have h := hR7
    clear hR7
    refine a_icmp_ge (tgt := 40) (pc := 28) F dX8_assignTried_28 (by decide) (fun q8 => ?_) (fun q8 => ?_)
    · replace h := ite_t q8 h
      clear q8
      refine a_iconst (v := (-1)) (pc := 40) F dX8_assignTried_40 (by decide) ?_
      cases h
      exact hJ7
    · replace h := ite_f q8 h
      clear q8
      refine a_aload_n (pc := 31) F dX8_assignTried_31 0 rfl ?_
      refine a_getr (k := 162) (r := 166) (pc := 32) F dX8_assignTried_32 fl_RX8_19 kl_162 ks_162 rfl ?_
      refine a_iload_n (pc := 35) F dX8_assignTried_35 2 rfl ?_
      replace h := gIn_some h
      obtain ⟨g9, h⟩ := h
      refine a_ial (k := 166) (pc := 36) F dX8_assignTried_36 kl_166 ks_166 g9 ?_
      refine a_nmi fun x10 ex10 => ?_
      replace h := nm_at ex10 h
      clear ex10
      refine a_goto (tgt := 41) (pc := 37) F dX8_assignTried_37 (by decide) ?_
      cases h
      exact hJ7
def f_X8_assign (p1 : Int32) (p2 : Int32) (p3 : Int32) (p4 : Int32) (m0 : Mem) : Option (Int32 × Mem) :=
  bnd2 (f_X8_refusedChain p1 p2 p3 p4 m0) fun x2 m3 => nm (si m3 162 5 x2) fun m4 => bnd ((if (m4.1 162 5) = 0 then bnd (f_X8_reason p1 m4) fun x8 => (if x8 = 0 then nm (si m4 162 5 0) fun m11 => some m11 else nm (si m4 162 5 3) fun m10 => some m10) else some m4)) (fun (m12 : Mem) => (if (m12.1 162 5) ≤ 0 then bnd (f_X8_save m12) fun m15 => bnd (f_X8_assignTried p1 m15) fun m17 => bnd (f_X8_payFor p1 2 m17) fun x19 => some (x19, m17) else some (0, m12)))
set_option maxRecDepth 100000 in
set_option maxHeartbeats 4000000 in
theorem m_X8_assign {p1 : Int32} {p2 : Int32} {p3 : Int32} {p4 : Int32} {m0 : Mem} {rr : Int32} {mm : Mem} (h : f_X8_assign p1 p2 p3 p4 m0 = some (rr, mm)) : Con yX8_assign cX8_assign 5 (some Jvm.ClassFile.FieldType.int) 6 133 (fun G => [.ref (ga G 162), .int p1, .int p2, .int p3, .int p4]) m0 (some (.int rr)) mm := by
  refine con_of (by decide) (fun G => Nat.le_of_ble_eq_true rfl) (fun X F => ?_)
  show WA X 0 0 0 [(0, .ref (ga X.G 162)), (1, .int p1), (2, .int p2), (3, .int p3), (4, .int p4)] [] m0 (EQ X (some (.int rr)) mm)
  rw [f_X8_assign] at h
  refine a_aload_n (pc := 0) F dX8_assign_0 0 rfl ?_
  refine a_aload_n (pc := 1) F dX8_assign_1 0 rfl ?_
  refine a_iload_n (pc := 2) F dX8_assign_2 1 rfl ?_
  refine a_iload_n (pc := 3) F dX8_assign_3 2 rfl ?_
  refine a_iload_n (pc := 4) F dX8_assign_4 3 rfl ?_
  refine a_iload (pc := 5) F dX8_assign_5 4 rfl ?_
  replace h := bnd2_some h
  obtain ⟨x2, m3, hc1, h⟩ := h
  refine a_callV (pc := 7) (k := 162) (As := [.int p1, .int p2, .int p3, .int p4]) (st := [.ref (ga X.G 162)]) F dX8_assign_7 (m_X8_refusedChain hc1) cv_RX8_115 kl_162 ks_162 ⟨_, _, rfl⟩ rfl rfl rfl (Nat.le_of_ble_eq_true rfl) ⟨Nat.le_of_ble_eq_true rfl, Nat.le_of_ble_eq_true rfl⟩ ?_ rfl rfl
  clear hc1
  refine a_puti (k := 162) (pc := 10) F dX8_assign_10 fp_RX8_31 kl_162 ks_162 rfl ?_
  refine a_nmm fun m4 em4 => ?_
  replace h := nm_at em4 h
  clear em4
  refine a_aload_n (pc := 13) F dX8_assign_13 0 rfl ?_
  refine a_geti (k := 162) (pc := 14) F dX8_assign_14 fl_RX8_31 kl_162 ks_162 rfl ?_
  replace h := bnd_some h
  obtain ⟨m12, hR5, h⟩ := h
  have hJ5 : WA X 0 0 37 [(0, .ref (ga X.G 162)), (1, .int p1)] [] m12 (EQ X (some (.int rr)) mm) := by
    refine a_aload_n (pc := 37) F dX8_assign_37 0 rfl ?_
    refine a_geti (k := 162) (pc := 38) F dX8_assign_38 fl_RX8_31 kl_162 ks_162 rfl ?_
    refine a_if_le (tgt := 46) (pc := 41) F dX8_assign_41 (by decide) (fun q13 => ?_) (fun q13 => ?_)
    · replace h := ite_t q13 h
      clear q13
      refine a_aload_n (pc := 46) F dX8_assign_46 0 rfl ?_
      replace h := bnd_some h
      obtain ⟨m15, hc14, h⟩ := h
      refine a_callV (pc := 47) (k := 162) (As := []) (st := []) F dX8_assign_47 (m_X8_save hc14) cv_RX8_71 kl_162 ks_162 ⟨_, _, rfl⟩ rfl rfl rfl (Nat.le_of_ble_eq_true rfl) ⟨Nat.le_of_ble_eq_true rfl, Nat.le_of_ble_eq_true rfl⟩ ?_ rfl rfl
      clear hc14
      refine a_aload_n (pc := 50) F dX8_assign_50 0 rfl ?_
      refine a_iload_n (pc := 51) F dX8_assign_51 1 rfl ?_
      replace h := bnd_some h
      obtain ⟨m17, hc16, h⟩ := h
      refine a_callV (pc := 52) (k := 162) (As := [.int p1]) (st := []) F dX8_assign_52 (m_X8_assignTried hc16) cv_RX8_121 kl_162 ks_162 ⟨_, _, rfl⟩ rfl rfl rfl (Nat.le_of_ble_eq_true rfl) ⟨Nat.le_of_ble_eq_true rfl, Nat.le_of_ble_eq_true rfl⟩ ?_ rfl rfl
      clear hc16
      refine a_aload_n (pc := 55) F dX8_assign_55 0 rfl ?_
      refine a_iload_n (pc := 56) F dX8_assign_56 1 rfl ?_
      refine a_iconst (v := 2) (pc := 57) F dX8_assign_57 (by decide) ?_
      replace h := bnd_some h
      obtain ⟨x19, hc18, h⟩ := h
      refine a_callV (pc := 58) (k := 162) (As := [.int p1, .int 2]) (st := []) F dX8_assign_58 (m_X8_payFor hc18) cv_RX8_65 kl_162 ks_162 ⟨_, _, rfl⟩ rfl rfl rfl (Nat.le_of_ble_eq_true rfl) ⟨Nat.le_of_ble_eq_true rfl, Nat.le_of_ble_eq_true rfl⟩ ?_ rfl rfl
      clear hc18
      cases h
      exact a_iret (pc := 61) F dX8_assign_61 ⟨_, rfl, rfl⟩
    · replace h := ite_f q13 h
      clear q13
      refine a_iconst (v := 0) (pc := 44) F dX8_assign_44 (by decide) ?_
      cases h
      exact a_iret (pc := 45) F dX8_assign_45 ⟨_, rfl, rfl⟩
  clear h
  have h := hR5
  clear hR5
  refine a_if_ne (tgt := 37) (pc := 17) F dX8_assign_17 (by decide) (fun q6 => ?_) (fun q6 => ?_)
  · replace h := ite_f q6 h
    clear q6
    refine a_lv F [0, 1] rfl ?_
    cases h
    exact hJ5
  · replace h := ite_t (Decidable.not_not.mp q6) h
    clear q6
    refine a_aload_n (pc := 20) F dX8_assign_20 0 rfl ?_
    refine a_aload_n (pc := 21) F dX8_assign_21 0 rfl ?_
    refine a_iload_n (pc := 22) F dX8_assign_22 1 rfl ?_
    replace h := bnd_some h
    obtain ⟨x8, hc7, h⟩ := h
    refine a_callV (pc := 23) (k := 162) (As := [.int p1]) (st := [.ref (ga X.G 162)]) F dX8_assign_23 (m_X8_reason hc7) cv_RX8_118 kl_162 ks_162 ⟨_, _, rfl⟩ rfl rfl rfl (Nat.le_of_ble_eq_true rfl) ⟨Nat.le_of_ble_eq_true rfl, Nat.le_of_ble_eq_true rfl⟩ ?_ rfl rfl
    clear hc7
    refine a_if_ne (tgt := 33) (pc := 26) F dX8_assign_26 (by decide) (fun q9 => ?_) (fun q9 => ?_)
    · replace h := ite_f q9 h
      clear q9
      refine a_iconst (v := 3) (pc := 33) F dX8_assign_33 (by decide) ?_
      refine a_puti (k := 162) (pc := 34) F dX8_assign_34 fp_RX8_31 kl_162 ks_162 rfl ?_
      refine a_nmm fun m10 em10 => ?_
      replace h := nm_at em10 h
      clear em10
      refine a_lv F [0, 1] rfl ?_
      cases h
      exact hJ5
    · replace h := ite_t (Decidable.not_not.mp q9) h
      clear q9
      refine a_iconst (v := 0) (pc := 29) F dX8_assign_29 (by decide) ?_
      refine a_goto (tgt := 34) (pc := 30) F dX8_assign_30 (by decide) ?_
      refine a_puti (k := 162) (pc := 34) F dX8_assign_34 fp_RX8_31 kl_162 ks_162 rfl ?_
      refine a_nmm fun m11 em11 => ?_
      replace h := nm_at em11 h
      clear em11
      refine a_lv F [0, 1] rfl ?_
      cases h
      exact hJ5
def f_X8_isOpen (p1 : Int32) (m0 : Mem) : Option Int32 :=
  bnd (f_X8_isListed p1 m0) fun x2 => (if x2 = 0 then some 0 else bnd (f_X8_hasStarted p1 m0) fun x5 => (if x5 = 0 then some 1 else some 0))
set_option maxRecDepth 100000 in
set_option maxHeartbeats 4000000 in
theorem m_X8_isOpen {p1 : Int32} {m0 : Mem} {rr : Int32} (h : f_X8_isOpen p1 m0 = some rr) : Con yX8_isOpen cX8_isOpen 2 (some Jvm.ClassFile.FieldType.boolean) 2 43 (fun G => [.ref (ga G 162), .int p1]) m0 (some (.int rr)) m0 := by
  refine con_of (by decide) (fun G => Nat.le_of_ble_eq_true rfl) (fun X F => ?_)
  show WA X 0 0 0 [(0, .ref (ga X.G 162)), (1, .int p1)] [] m0 (EQ X (some (.int rr)) m0)
  rw [f_X8_isOpen] at h
  refine a_aload_n (pc := 0) F dX8_isOpen_0 0 rfl ?_
  refine a_iload_n (pc := 1) F dX8_isOpen_1 1 rfl ?_
  replace h := bnd_some h
  obtain ⟨x2, hc1, h⟩ := h
  refine a_callV (pc := 2) (k := 162) (As := [.int p1]) (st := []) F dX8_isOpen_2 (m_X8_isListed hc1) cv_RX8_50 kl_162 ks_162 ⟨_, _, rfl⟩ rfl rfl rfl (Nat.le_of_ble_eq_true rfl) ⟨Nat.le_of_ble_eq_true rfl, Nat.le_of_ble_eq_true rfl⟩ ?_ rfl rfl
  clear hc1
  refine a_if_eq (tgt := 20) (pc := 5) F dX8_isOpen_5 (by decide) (fun q3 => ?_) (fun q3 => ?_)
  · replace h := ite_t q3 h
    clear q3
    refine a_iconst (v := 0) (pc := 20) F dX8_isOpen_20 (by decide) ?_
    cases h
    exact a_iret (pc := 21) F dX8_isOpen_21 ⟨_, rfl, rfl⟩
  · replace h := ite_f q3 h
    clear q3
    refine a_aload_n (pc := 8) F dX8_isOpen_8 0 rfl ?_
    refine a_iload_n (pc := 9) F dX8_isOpen_9 1 rfl ?_
    replace h := bnd_some h
    obtain ⟨x5, hc4, h⟩ := h
    refine a_callV (pc := 10) (k := 162) (As := [.int p1]) (st := []) F dX8_isOpen_10 (m_X8_hasStarted hc4) cv_RX8_97 kl_162 ks_162 ⟨_, _, rfl⟩ rfl rfl rfl (Nat.le_of_ble_eq_true rfl) ⟨Nat.le_of_ble_eq_true rfl, Nat.le_of_ble_eq_true rfl⟩ ?_ rfl rfl
    clear hc4
    refine a_if_ne (tgt := 20) (pc := 13) F dX8_isOpen_13 (by decide) (fun q6 => ?_) (fun q6 => ?_)
    · replace h := ite_f q6 h
      clear q6
      refine a_iconst (v := 0) (pc := 20) F dX8_isOpen_20 (by decide) ?_
      cases h
      exact a_iret (pc := 21) F dX8_isOpen_21 ⟨_, rfl, rfl⟩
    · replace h := ite_t (Decidable.not_not.mp q6) h
      clear q6
      refine a_iconst (v := 1) (pc := 16) F dX8_isOpen_16 (by decide) ?_
      refine a_goto (tgt := 21) (pc := 17) F dX8_isOpen_17 (by decide) ?_
      cases h
      exact a_iret (pc := 21) F dX8_isOpen_21 ⟨_, rfl, rfl⟩
def f_X8_release (p1 : Int32) (m0 : Mem) : Option (Int32 × Mem) :=
  bnd (f_X8_isHearing p1 m0) fun x2 => bnd ((if x2 = 0 then some 1 else bnd (f_X8_isOpen p1 m0) fun x6 => (if x6 = 0 then some 2 else some 0))) (fun (x8 : Int32) => nm (si m0 162 5 x8) fun m9 => (if (m9.1 162 5) ≤ 0 then bnd (f_X8_save m9) fun m12 => bnd (f_X8_of p1 5 m12) fun x14 => nm (si m12 162 7 0) fun m15 => bnd (f_X8_assignTried p1 m15) fun m17 => some (x14, m17) else some (0, m9)))
set_option maxRecDepth 100000 in
set_option maxHeartbeats 4000000 in
theorem m_X8_release {p1 : Int32} {m0 : Mem} {rr : Int32} {mm : Mem} (h : f_X8_release p1 m0 = some (rr, mm)) : Con yX8_release cX8_release 3 (some Jvm.ClassFile.FieldType.int) 3 64 (fun G => [.ref (ga G 162), .int p1]) m0 (some (.int rr)) mm := by
  refine con_of (by decide) (fun G => Nat.le_of_ble_eq_true rfl) (fun X F => ?_)
  show WA X 0 0 0 [(0, .ref (ga X.G 162)), (1, .int p1)] [] m0 (EQ X (some (.int rr)) mm)
  rw [f_X8_release] at h
  refine a_aload_n (pc := 0) F dX8_release_0 0 rfl ?_
  refine a_aload_n (pc := 1) F dX8_release_1 0 rfl ?_
  refine a_iload_n (pc := 2) F dX8_release_2 1 rfl ?_
  replace h := bnd_some h
  obtain ⟨x2, hc1, h⟩ := h
  refine a_callV (pc := 3) (k := 162) (As := [.int p1]) (st := [.ref (ga X.G 162)]) F dX8_release_3 (m_X8_isHearing hc1) cv_RX8_109 kl_162 ks_162 ⟨_, _, rfl⟩ rfl rfl rfl (Nat.le_of_ble_eq_true rfl) ⟨Nat.le_of_ble_eq_true rfl, Nat.le_of_ble_eq_true rfl⟩ ?_ rfl rfl
  clear hc1
  replace h := bnd_some h
  obtain ⟨x8, hR3, h⟩ := h
  have hJ3 : WA X 0 0 26 [(0, .ref (ga X.G 162)), (1, .int p1)] [.int x8, .ref (ga X.G 162)] m0 (EQ X (some (.int rr)) mm) := by
    refine a_puti (k := 162) (pc := 26) F dX8_release_26 fp_RX8_31 kl_162 ks_162 rfl ?_
    refine a_nmm fun m9 em9 => ?_
    replace h := nm_at em9 h
    clear em9
    refine a_aload_n (pc := 29) F dX8_release_29 0 rfl ?_
    refine a_geti (k := 162) (pc := 30) F dX8_release_30 fl_RX8_31 kl_162 ks_162 rfl ?_
    refine a_if_le (tgt := 38) (pc := 33) F dX8_release_33 (by decide) (fun q10 => ?_) (fun q10 => ?_)
    · replace h := ite_t q10 h
      clear q10
      refine a_aload_n (pc := 38) F dX8_release_38 0 rfl ?_
      replace h := bnd_some h
      obtain ⟨m12, hc11, h⟩ := h
      refine a_callV (pc := 39) (k := 162) (As := []) (st := []) F dX8_release_39 (m_X8_save hc11) cv_RX8_71 kl_162 ks_162 ⟨_, _, rfl⟩ rfl rfl rfl (Nat.le_of_ble_eq_true rfl) ⟨Nat.le_of_ble_eq_true rfl, Nat.le_of_ble_eq_true rfl⟩ ?_ rfl rfl
      clear hc11
      refine a_aload_n (pc := 42) F dX8_release_42 0 rfl ?_
      refine a_iload_n (pc := 43) F dX8_release_43 1 rfl ?_
      refine a_iconst (v := 5) (pc := 44) F dX8_release_44 (by decide) ?_
      replace h := bnd_some h
      obtain ⟨x14, hc13, h⟩ := h
      refine a_callV (pc := 45) (k := 162) (As := [.int p1, .int 5]) (st := []) F dX8_release_45 (m_X8_of hc13) cv_RX8_42 kl_162 ks_162 ⟨_, _, rfl⟩ rfl rfl rfl (Nat.le_of_ble_eq_true rfl) ⟨Nat.le_of_ble_eq_true rfl, Nat.le_of_ble_eq_true rfl⟩ ?_ rfl rfl
      clear hc13
      refine a_istore_n (lv' := [(2, .int x14), (0, .ref (ga X.G 162)), (1, .int p1)]) (pc := 48) F dX8_release_48 (by decide) rfl ?_
      refine a_aload_n (pc := 49) F dX8_release_49 1 rfl ?_
      refine a_iconst (v := 0) (pc := 50) F dX8_release_50 (by decide) ?_
      refine a_puti (k := 162) (pc := 51) F dX8_release_51 fp_RX8_91 kl_162 ks_162 rfl ?_
      refine a_nmm fun m15 em15 => ?_
      replace h := nm_at em15 h
      clear em15
      refine a_aload_n (pc := 54) F dX8_release_54 1 rfl ?_
      refine a_iload_n (pc := 55) F dX8_release_55 2 rfl ?_
      replace h := bnd_some h
      obtain ⟨m17, hc16, h⟩ := h
      refine a_callV (pc := 56) (k := 162) (As := [.int p1]) (st := []) F dX8_release_56 (m_X8_assignTried hc16) cv_RX8_121 kl_162 ks_162 ⟨_, _, rfl⟩ rfl rfl rfl (Nat.le_of_ble_eq_true rfl) ⟨Nat.le_of_ble_eq_true rfl, Nat.le_of_ble_eq_true rfl⟩ ?_ rfl rfl
      clear hc16
      refine a_iload_n (pc := 59) F dX8_release_59 0 rfl ?_
      cases h
      exact a_iret (pc := 60) F dX8_release_60 ⟨_, rfl, rfl⟩
    · replace h := ite_f q10 h
      clear q10
      refine a_iconst (v := 0) (pc := 36) F dX8_release_36 (by decide) ?_
      cases h
      exact a_iret (pc := 37) F dX8_release_37 ⟨_, rfl, rfl⟩
  clear h
  have h := hR3
  clear hR3
  refine a_if_ne (tgt := 13) (pc := 6) F dX8_release_6 (by decide) (fun q4 => ?_) (fun q4 => ?_)
  · replace h := ite_f q4 h
    clear q4
    refine a_aload_n (pc := 13) F dX8_release_13 0 rfl ?_
    refine a_iload_n (pc := 14) F dX8_release_14 1 rfl ?_
    replace h := bnd_some h
    obtain ⟨x6, hc5, h⟩ := h
    refine a_callV (pc := 15) (k := 162) (As := [.int p1]) (st := [.ref (ga X.G 162)]) F dX8_release_15 (m_X8_isOpen hc5) cv_RX8_125 kl_162 ks_162 ⟨_, _, rfl⟩ rfl rfl rfl (Nat.le_of_ble_eq_true rfl) ⟨Nat.le_of_ble_eq_true rfl, Nat.le_of_ble_eq_true rfl⟩ ?_ rfl rfl
    clear hc5
    refine a_if_eq (tgt := 25) (pc := 18) F dX8_release_18 (by decide) (fun q7 => ?_) (fun q7 => ?_)
    · replace h := ite_t q7 h
      clear q7
      refine a_iconst (v := 2) (pc := 25) F dX8_release_25 (by decide) ?_
      cases h
      exact hJ3
    · replace h := ite_f q7 h
      clear q7
      refine a_iconst (v := 0) (pc := 21) F dX8_release_21 (by decide) ?_
      refine a_goto (tgt := 26) (pc := 22) F dX8_release_22 (by decide) ?_
      cases h
      exact hJ3
  · replace h := ite_t (Decidable.not_not.mp q4) h
    clear q4
    refine a_iconst (v := 1) (pc := 9) F dX8_release_9 (by decide) ?_
    refine a_goto (tgt := 26) (pc := 10) F dX8_release_10 (by decide) ?_
    cases h
    exact hJ3
