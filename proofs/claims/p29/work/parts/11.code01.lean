def f_X7_within (p1 : Int32) (p2 : Int32) (p3 : Int32) (m0 : Mem) : Option Int32 :=
  (if p1 < p2 then some 0 else (if p3 < p1 then some 0 else some 1))
set_option maxRecDepth 100000 in
set_option maxHeartbeats 4000000 in
theorem m_X7_within {p1 : Int32} {p2 : Int32} {p3 : Int32} {m0 : Mem} {rr : Int32} (h : f_X7_within p1 p2 p3 m0 = some rr) : Con yX7_within cX7_within 3 (some Jvm.ClassFile.FieldType.boolean) 0 0 (fun G => [.int p1, .int p2, .int p3]) m0 (some (.int rr)) m0 := by
  refine con_of (by decide) (fun G => Nat.le_of_ble_eq_true rfl) (fun X F => ?_)
  show WA X 0 0 0 [(0, .int p1), (1, .int p2), (2, .int p3)] [] m0 (EQ X (some (.int rr)) m0)
  rw [f_X7_within] at h
  refine a_iload_n (pc := 0) F dX7_within_0 0 rfl ?_
  refine a_iload_n (pc := 1) F dX7_within_1 1 rfl ?_
  refine a_icmp_lt (tgt := 14) (pc := 2) F dX7_within_2 (by decide) (fun q1 => ?_) (fun q1 => ?_)
  · replace h := ite_t q1 h
    clear q1
    refine a_iconst (v := 0) (pc := 14) F dX7_within_14 (by decide) ?_
    cases h
    exact a_iret (pc := 15) F dX7_within_15 ⟨_, rfl, rfl⟩
  · replace h := ite_f q1 h
    clear q1
    refine a_iload_n (pc := 5) F dX7_within_5 0 rfl ?_
    refine a_iload_n (pc := 6) F dX7_within_6 2 rfl ?_
    refine a_icmp_gt (tgt := 14) (pc := 7) F dX7_within_7 (by decide) (fun q2 => ?_) (fun q2 => ?_)
    · replace h := ite_t q2 h
      clear q2
      refine a_iconst (v := 0) (pc := 14) F dX7_within_14 (by decide) ?_
      cases h
      exact a_iret (pc := 15) F dX7_within_15 ⟨_, rfl, rfl⟩
    · replace h := ite_f q2 h
      clear q2
      refine a_iconst (v := 1) (pc := 10) F dX7_within_10 (by decide) ?_
      refine a_goto (tgt := 15) (pc := 11) F dX7_within_11 (by decide) ?_
      cases h
      exact a_iret (pc := 15) F dX7_within_15 ⟨_, rfl, rfl⟩
def f_J6_bitCount_0f7a4 (p1 : Int32) (m0 : Mem) : Option Int32 :=
  nm ((p1.toUInt32 >>> ((1 : Int32).toUInt32 &&& Int32.toUInt32 31)).toInt32) fun x1 => nm (p1 - (x1 &&& 1431655765)) fun x2 => nm ((x2.toUInt32 >>> ((2 : Int32).toUInt32 &&& Int32.toUInt32 31)).toInt32) fun x3 => nm ((x2 &&& 858993459) + (x3 &&& 858993459)) fun x4 => nm ((x4.toUInt32 >>> ((4 : Int32).toUInt32 &&& Int32.toUInt32 31)).toInt32) fun x5 => nm ((x4 + x5) &&& 252645135) fun x6 => nm ((x6.toUInt32 >>> ((8 : Int32).toUInt32 &&& Int32.toUInt32 31)).toInt32) fun x7 => nm (((x6 + x7).toUInt32 >>> ((16 : Int32).toUInt32 &&& Int32.toUInt32 31)).toInt32) fun x8 => nm (((x6 + x7) + x8) &&& 63) fun x9 => some x9
set_option maxRecDepth 100000 in
set_option maxHeartbeats 4000000 in
theorem m_J6_bitCount_0f7a4 {p1 : Int32} {m0 : Mem} {rr : Int32} (h : f_J6_bitCount_0f7a4 p1 m0 = some rr) : Con yJ6_bitCount_0f7a4 cJ6_bitCount_0f7a4 1 (some Jvm.ClassFile.FieldType.int) 0 0 (fun G => [.int p1]) m0 (some (.int rr)) m0 := by
  refine con_of (by decide) (fun G => Nat.le_of_ble_eq_true rfl) (fun X F => ?_)
  show WA X 0 0 0 [(0, .int p1)] [] m0 (EQ X (some (.int rr)) m0)
  rw [f_J6_bitCount_0f7a4] at h
  refine a_iload_n (pc := 0) F dJ6_bitCount_0f7a4_0 0 rfl ?_
  refine a_iload_n (pc := 1) F dJ6_bitCount_0f7a4_1 0 rfl ?_
  refine a_iconst (v := 1) (pc := 2) F dJ6_bitCount_0f7a4_2 (by decide) ?_
  refine a_iushr (pc := 3) F dJ6_bitCount_0f7a4_3 ?_
  refine a_nmi fun x1 ex1 => ?_
  replace h := nm_at ex1 h
  clear ex1
  refine a_ldcw (v := 1431655765) (pc := 4) F dJ6_bitCount_0f7a4_4 cw_RJ6_265 ?_
  refine a_iand (pc := 7) F dJ6_bitCount_0f7a4_7 ?_
  refine a_isub (pc := 8) F dJ6_bitCount_0f7a4_8 ?_
  refine a_nmi fun x2 ex2 => ?_
  replace h := nm_at ex2 h
  clear ex2
  refine a_istore_n (lv' := [(0, .int x2)]) (pc := 9) F dJ6_bitCount_0f7a4_9 (by decide) rfl ?_
  refine a_iload_n (pc := 10) F dJ6_bitCount_0f7a4_10 0 rfl ?_
  refine a_ldcw (v := 858993459) (pc := 11) F dJ6_bitCount_0f7a4_11 cw_RJ6_266 ?_
  refine a_iand (pc := 14) F dJ6_bitCount_0f7a4_14 ?_
  refine a_iload_n (pc := 15) F dJ6_bitCount_0f7a4_15 0 rfl ?_
  refine a_iconst (v := 2) (pc := 16) F dJ6_bitCount_0f7a4_16 (by decide) ?_
  refine a_iushr (pc := 17) F dJ6_bitCount_0f7a4_17 ?_
  refine a_nmi fun x3 ex3 => ?_
  replace h := nm_at ex3 h
  clear ex3
  refine a_ldcw (v := 858993459) (pc := 18) F dJ6_bitCount_0f7a4_18 cw_RJ6_266 ?_
  refine a_iand (pc := 21) F dJ6_bitCount_0f7a4_21 ?_
  refine a_iadd (pc := 22) F dJ6_bitCount_0f7a4_22 ?_
  refine a_nmi fun x4 ex4 => ?_
  replace h := nm_at ex4 h
  clear ex4
  refine a_istore_n (lv' := [(0, .int x4)]) (pc := 23) F dJ6_bitCount_0f7a4_23 (by decide) rfl ?_
  refine a_iload_n (pc := 24) F dJ6_bitCount_0f7a4_24 0 rfl ?_
  refine a_iload_n (pc := 25) F dJ6_bitCount_0f7a4_25 0 rfl ?_
  refine a_iconst (v := 4) (pc := 26) F dJ6_bitCount_0f7a4_26 (by decide) ?_
  refine a_iushr (pc := 27) F dJ6_bitCount_0f7a4_27 ?_
  refine a_nmi fun x5 ex5 => ?_
  replace h := nm_at ex5 h
  clear ex5
  refine a_iadd (pc := 28) F dJ6_bitCount_0f7a4_28 ?_
  refine a_ldcw (v := 252645135) (pc := 29) F dJ6_bitCount_0f7a4_29 cw_RJ6_267 ?_
  refine a_iand (pc := 32) F dJ6_bitCount_0f7a4_32 ?_
  refine a_nmi fun x6 ex6 => ?_
  replace h := nm_at ex6 h
  clear ex6
  refine a_istore_n (lv' := [(0, .int x6)]) (pc := 33) F dJ6_bitCount_0f7a4_33 (by decide) rfl ?_
  refine a_iload_n (pc := 34) F dJ6_bitCount_0f7a4_34 0 rfl ?_
  refine a_iload_n (pc := 35) F dJ6_bitCount_0f7a4_35 0 rfl ?_
  refine a_bipush (v := 8) (pc := 36) F dJ6_bitCount_0f7a4_36 (by decide) ?_
  refine a_iushr (pc := 38) F dJ6_bitCount_0f7a4_38 ?_
  refine a_nmi fun x7 ex7 => ?_
  replace h := nm_at ex7 h
  clear ex7
  refine a_iadd (pc := 39) F dJ6_bitCount_0f7a4_39 ?_
  refine a_istore_n (lv' := [(0, .int (x6 + x7))]) (pc := 40) F dJ6_bitCount_0f7a4_40 (by decide) rfl ?_
  refine a_iload_n (pc := 41) F dJ6_bitCount_0f7a4_41 0 rfl ?_
  refine a_iload_n (pc := 42) F dJ6_bitCount_0f7a4_42 0 rfl ?_
  refine a_bipush (v := 16) (pc := 43) F dJ6_bitCount_0f7a4_43 (by decide) ?_
  refine a_iushr (pc := 45) F dJ6_bitCount_0f7a4_45 ?_
  refine a_nmi fun x8 ex8 => ?_
  replace h := nm_at ex8 h
  clear ex8
  refine a_iadd (pc := 46) F dJ6_bitCount_0f7a4_46 ?_
  refine a_istore_n (lv' := [(0, .int ((x6 + x7) + x8))]) (pc := 47) F dJ6_bitCount_0f7a4_47 (by decide) rfl ?_
  refine a_iload_n (pc := 48) F dJ6_bitCount_0f7a4_48 0 rfl ?_
  refine a_bipush (v := 63) (pc := 49) F dJ6_bitCount_0f7a4_49 (by decide) ?_
  refine a_iand (pc := 51) F dJ6_bitCount_0f7a4_51 ?_
  refine a_nmi fun x9 ex9 => ?_
  replace h := nm_at ex9 h
  clear ex9
  cases h
  exact a_iret (pc := 52) F dJ6_bitCount_0f7a4_52 ⟨_, rfl, rfl⟩
def f_X6_copyFrom (c : Nat) (d : Nat) (m0 : Mem) : Option Mem :=
  nm (si m0 (c + 1) 0 (m0.1 (d + 1) 0)) fun m1 => nm (sa m1 (c + 2) (va_cpy (m1.1 (d + 2)) (m1.1 (c + 2)) 0 0 10)) fun m2 => nm (sa m2 (c + 3) (va_cpy (m2.1 (d + 3)) (m2.1 (c + 3)) 0 0 10)) fun m3 => nm (sa m3 (c + 4) (va_cpy (m3.1 (d + 4)) (m3.1 (c + 4)) 0 0 10)) fun m4 => nm (sa m4 (c + 5) (va_cpy (m4.1 (d + 5)) (m4.1 (c + 5)) 0 0 10)) fun m5 => nm (sa m5 (c + 6) (va_cpy (m5.1 (d + 6)) (m5.1 (c + 6)) 0 0 10)) fun m6 => nm (sa m6 (c + 7) (va_cpy (m6.1 (d + 7)) (m6.1 (c + 7)) 0 0 10)) fun m7 => some m7
set_option maxRecDepth 100000 in
set_option maxHeartbeats 4000000 in
theorem m_X6_copyFrom {c : Nat} {d : Nat} (hc : isC c) (hd : isC d) {m0 : Mem} {mm : Mem} (h : f_X6_copyFrom c d m0 = some mm) : Con yX6_copyFrom cX6_copyFrom 2 none 1 40 (fun G => [.ref (ga G (c + 1)), .ref (ga G (d + 1))]) m0 none mm := by
  refine con_of (by decide) (fun G => Nat.le_of_ble_eq_true rfl) (fun X F => ?_)
  show WA X 0 0 0 [(0, .ref (ga X.G (c + 1))), (1, .ref (ga X.G (d + 1)))] [] m0 (EQ X none mm)
  rw [f_X6_copyFrom] at h
  refine a_aload_n (pc := 0) F dX6_copyFrom_0 0 rfl ?_
  refine a_aload_n (pc := 1) F dX6_copyFrom_1 1 rfl ?_
  refine a_geti (k := (d + 1)) (pc := 2) F dX6_copyFrom_2 fl_RX6_30 (klC_1 hd) (ksC_1 hd) rfl ?_
  refine a_puti (k := (c + 1)) (pc := 5) F dX6_copyFrom_5 fp_RX6_30 (klC_1 hc) (ksC_1 hc) rfl ?_
  refine a_nmm fun m1 em1 => ?_
  replace h := nm_at em1 h
  clear em1
  refine a_aload_n (pc := 8) F dX6_copyFrom_8 1 rfl ?_
  refine a_getr (k := (d + 1)) (r := (d + 2)) (pc := 9) F dX6_copyFrom_9 fl_RX6_9 (klC_1 hd) (ksC_1 hd) rfl ?_
  refine a_iconst (v := 0) (pc := 12) F dX6_copyFrom_12 (by decide) ?_
  refine a_aload_n (pc := 13) F dX6_copyFrom_13 0 rfl ?_
  refine a_getr (k := (c + 1)) (r := (c + 2)) (pc := 14) F dX6_copyFrom_14 fl_RX6_9 (klC_1 hc) (ksC_1 hc) rfl ?_
  refine a_iconst (v := 0) (pc := 17) F dX6_copyFrom_17 (by decide) ?_
  refine a_bipush (v := 10) (pc := 18) F dX6_copyFrom_18 (by decide) ?_
  refine a_copyc (k0 := (d + 2)) (k1 := (c + 2)) (z := 10) (pc := 20) F dX6_copyFrom_20 cw_RX6_34 (klC_2 hd) (ksC_2 hd) (klC_2 hc) (ksC_2 hc) (by decide) rfl (by decide) (by decide) (by decide) (Nat.le_of_ble_eq_true rfl) ?_
  refine a_nmm fun m2 em2 => ?_
  replace h := nm_at em2 h
  clear em2
  refine a_aload_n (pc := 23) F dX6_copyFrom_23 1 rfl ?_
  refine a_getr (k := (d + 1)) (r := (d + 3)) (pc := 24) F dX6_copyFrom_24 fl_RX6_15 (klC_1 hd) (ksC_1 hd) rfl ?_
  refine a_iconst (v := 0) (pc := 27) F dX6_copyFrom_27 (by decide) ?_
  refine a_aload_n (pc := 28) F dX6_copyFrom_28 0 rfl ?_
  refine a_getr (k := (c + 1)) (r := (c + 3)) (pc := 29) F dX6_copyFrom_29 fl_RX6_15 (klC_1 hc) (ksC_1 hc) rfl ?_
  refine a_iconst (v := 0) (pc := 32) F dX6_copyFrom_32 (by decide) ?_
  refine a_bipush (v := 10) (pc := 33) F dX6_copyFrom_33 (by decide) ?_
  refine a_copyc (k0 := (d + 3)) (k1 := (c + 3)) (z := 10) (pc := 35) F dX6_copyFrom_35 cw_RX6_34 (klC_3 hd) (ksC_3 hd) (klC_3 hc) (ksC_3 hc) (by decide) rfl (by decide) (by decide) (by decide) (Nat.le_of_ble_eq_true rfl) ?_
  refine a_nmm fun m3 em3 => ?_
  replace h := nm_at em3 h
  clear em3
  refine a_aload_n (pc := 38) F dX6_copyFrom_38 1 rfl ?_
  refine a_getr (k := (d + 1)) (r := (d + 4)) (pc := 39) F dX6_copyFrom_39 fl_RX6_18 (klC_1 hd) (ksC_1 hd) rfl ?_
  refine a_iconst (v := 0) (pc := 42) F dX6_copyFrom_42 (by decide) ?_
  refine a_aload_n (pc := 43) F dX6_copyFrom_43 0 rfl ?_
  refine a_getr (k := (c + 1)) (r := (c + 4)) (pc := 44) F dX6_copyFrom_44 fl_RX6_18 (klC_1 hc) (ksC_1 hc) rfl ?_
  refine a_iconst (v := 0) (pc := 47) F dX6_copyFrom_47 (by decide) ?_
  refine a_bipush (v := 10) (pc := 48) F dX6_copyFrom_48 (by decide) ?_
  refine a_copyc (k0 := (d + 4)) (k1 := (c + 4)) (z := 10) (pc := 50) F dX6_copyFrom_50 cw_RX6_34 (klC_4 hd) (ksC_4 hd) (klC_4 hc) (ksC_4 hc) (by decide) rfl (by decide) (by decide) (by decide) (Nat.le_of_ble_eq_true rfl) ?_
  refine a_nmm fun m4 em4 => ?_
  replace h := nm_at em4 h
  clear em4
  refine a_aload_n (pc := 53) F dX6_copyFrom_53 1 rfl ?_
  refine a_getr (k := (d + 1)) (r := (d + 5)) (pc := 54) F dX6_copyFrom_54 fl_RX6_21 (klC_1 hd) (ksC_1 hd) rfl ?_
  refine a_iconst (v := 0) (pc := 57) F dX6_copyFrom_57 (by decide) ?_
  refine a_aload_n (pc := 58) F dX6_copyFrom_58 0 rfl ?_
  refine a_getr (k := (c + 1)) (r := (c + 5)) (pc := 59) F dX6_copyFrom_59 fl_RX6_21 (klC_1 hc) (ksC_1 hc) rfl ?_
  refine a_iconst (v := 0) (pc := 62) F dX6_copyFrom_62 (by decide) ?_
  refine a_bipush (v := 10) (pc := 63) F dX6_copyFrom_63 (by decide) ?_
  refine a_copyc (k0 := (d + 5)) (k1 := (c + 5)) (z := 10) (pc := 65) F dX6_copyFrom_65 cw_RX6_34 (klC_5 hd) (ksC_5 hd) (klC_5 hc) (ksC_5 hc) (by decide) rfl (by decide) (by decide) (by decide) (Nat.le_of_ble_eq_true rfl) ?_
  refine a_nmm fun m5 em5 => ?_
  replace h := nm_at em5 h
  clear em5
  refine a_aload_n (pc := 68) F dX6_copyFrom_68 1 rfl ?_
  refine a_getr (k := (d + 1)) (r := (d + 6)) (pc := 69) F dX6_copyFrom_69 fl_RX6_24 (klC_1 hd) (ksC_1 hd) rfl ?_
  refine a_iconst (v := 0) (pc := 72) F dX6_copyFrom_72 (by decide) ?_
  refine a_aload_n (pc := 73) F dX6_copyFrom_73 0 rfl ?_
  refine a_getr (k := (c + 1)) (r := (c + 6)) (pc := 74) F dX6_copyFrom_74 fl_RX6_24 (klC_1 hc) (ksC_1 hc) rfl ?_
  refine a_iconst (v := 0) (pc := 77) F dX6_copyFrom_77 (by decide) ?_
  refine a_bipush (v := 10) (pc := 78) F dX6_copyFrom_78 (by decide) ?_
  refine a_copyc (k0 := (d + 6)) (k1 := (c + 6)) (z := 10) (pc := 80) F dX6_copyFrom_80 cw_RX6_34 (klC_6 hd) (ksC_6 hd) (klC_6 hc) (ksC_6 hc) (by decide) rfl (by decide) (by decide) (by decide) (Nat.le_of_ble_eq_true rfl) ?_
  refine a_nmm fun m6 em6 => ?_
  replace h := nm_at em6 h
  clear em6
  refine a_aload_n (pc := 83) F dX6_copyFrom_83 1 rfl ?_
  refine a_getr (k := (d + 1)) (r := (d + 7)) (pc := 84) F dX6_copyFrom_84 fl_RX6_27 (klC_1 hd) (ksC_1 hd) rfl ?_
  refine a_iconst (v := 0) (pc := 87) F dX6_copyFrom_87 (by decide) ?_
  refine a_aload_n (pc := 88) F dX6_copyFrom_88 0 rfl ?_
  refine a_getr (k := (c + 1)) (r := (c + 7)) (pc := 89) F dX6_copyFrom_89 fl_RX6_27 (klC_1 hc) (ksC_1 hc) rfl ?_
  refine a_iconst (v := 0) (pc := 92) F dX6_copyFrom_92 (by decide) ?_
  refine a_bipush (v := 10) (pc := 93) F dX6_copyFrom_93 (by decide) ?_
  refine a_copyc (k0 := (d + 7)) (k1 := (c + 7)) (z := 10) (pc := 95) F dX6_copyFrom_95 cw_RX6_34 (klC_7 hd) (ksC_7 hd) (klC_7 hc) (ksC_7 hc) (by decide) rfl (by decide) (by decide) (by decide) (Nat.le_of_ble_eq_true rfl) ?_
  refine a_nmm fun m7 em7 => ?_
  replace h := nm_at em7 h
  clear em7
  cases h
  exact a_vret (pc := 98) F dX6_copyFrom_98 rfl
def f_X3_copyFrom (c : Nat) (d : Nat) (m0 : Mem) : Option Mem :=
  nm (si m0 (c + 8) 0 (m0.1 (d + 8) 0)) fun m1 => nm (sa m1 (c + 9) (va_cpy (m1.1 (d + 9)) (m1.1 (c + 9)) 0 0 30)) fun m2 => nm (sa m2 (c + 10) (va_cpy (m2.1 (d + 10)) (m2.1 (c + 10)) 0 0 30)) fun m3 => nm (sa m3 (c + 11) (va_cpy (m3.1 (d + 11)) (m3.1 (c + 11)) 0 0 30)) fun m4 => nm (sa m4 (c + 12) (va_cpy (m4.1 (d + 12)) (m4.1 (c + 12)) 0 0 30)) fun m5 => nm (sa m5 (c + 13) (va_cpy (m5.1 (d + 13)) (m5.1 (c + 13)) 0 0 30)) fun m6 => nm (sa m6 (c + 14) (va_cpy (m6.1 (d + 14)) (m6.1 (c + 14)) 0 0 30)) fun m7 => nm (sa m7 (c + 15) (va_cpy (m7.1 (d + 15)) (m7.1 (c + 15)) 0 0 30)) fun m8 => nm (sa m8 (c + 16) (va_cpy (m8.1 (d + 16)) (m8.1 (c + 16)) 0 0 30)) fun m9 => nm (sa m9 (c + 17) (va_cpy (m9.1 (d + 17)) (m9.1 (c + 17)) 0 0 90)) fun m10 => some m10
set_option maxRecDepth 100000 in
set_option maxHeartbeats 4000000 in
theorem m_X3_copyFrom {c : Nat} {d : Nat} (hc : isC c) (hd : isC d) {m0 : Mem} {mm : Mem} (h : f_X3_copyFrom c d m0 = some mm) : Con yX3_copyFrom cX3_copyFrom 2 none 1 40 (fun G => [.ref (ga G (c + 8)), .ref (ga G (d + 8))]) m0 none mm := by
  refine con_of (by decide) (fun G => Nat.le_of_ble_eq_true rfl) (fun X F => ?_)
  show WA X 0 0 0 [(0, .ref (ga X.G (c + 8))), (1, .ref (ga X.G (d + 8)))] [] m0 (EQ X none mm)
  rw [f_X3_copyFrom] at h
  refine a_aload_n (pc := 0) F dX3_copyFrom_0 0 rfl ?_
  refine a_aload_n (pc := 1) F dX3_copyFrom_1 1 rfl ?_
  refine a_geti (k := (d + 8)) (pc := 2) F dX3_copyFrom_2 fl_RX3_39 (klC_8 hd) (ksC_8 hd) rfl ?_
  refine a_puti (k := (c + 8)) (pc := 5) F dX3_copyFrom_5 fp_RX3_39 (klC_8 hc) (ksC_8 hc) rfl ?_
  refine a_nmm fun m1 em1 => ?_
  replace h := nm_at em1 h
  clear em1
  refine a_aload_n (pc := 8) F dX3_copyFrom_8 1 rfl ?_
  refine a_getr (k := (d + 8)) (r := (d + 9)) (pc := 9) F dX3_copyFrom_9 fl_RX3_9 (klC_8 hd) (ksC_8 hd) rfl ?_
  refine a_iconst (v := 0) (pc := 12) F dX3_copyFrom_12 (by decide) ?_
  refine a_aload_n (pc := 13) F dX3_copyFrom_13 0 rfl ?_
  refine a_getr (k := (c + 8)) (r := (c + 9)) (pc := 14) F dX3_copyFrom_14 fl_RX3_9 (klC_8 hc) (ksC_8 hc) rfl ?_
  refine a_iconst (v := 0) (pc := 17) F dX3_copyFrom_17 (by decide) ?_
  refine a_bipush (v := 30) (pc := 18) F dX3_copyFrom_18 (by decide) ?_
  refine a_copyc (k0 := (d + 9)) (k1 := (c + 9)) (z := 30) (pc := 20) F dX3_copyFrom_20 cw_RX3_43 (klC_9 hd) (ksC_9 hd) (klC_9 hc) (ksC_9 hc) (by decide) rfl (by decide) (by decide) (by decide) (Nat.le_of_ble_eq_true rfl) ?_
  refine a_nmm fun m2 em2 => ?_
  replace h := nm_at em2 h
  clear em2
  refine a_aload_n (pc := 23) F dX3_copyFrom_23 1 rfl ?_
  refine a_getr (k := (d + 8)) (r := (d + 10)) (pc := 24) F dX3_copyFrom_24 fl_RX3_15 (klC_8 hd) (ksC_8 hd) rfl ?_
  refine a_iconst (v := 0) (pc := 27) F dX3_copyFrom_27 (by decide) ?_
  refine a_aload_n (pc := 28) F dX3_copyFrom_28 0 rfl ?_
  refine a_getr (k := (c + 8)) (r := (c + 10)) (pc := 29) F dX3_copyFrom_29 fl_RX3_15 (klC_8 hc) (ksC_8 hc) rfl ?_
  refine a_iconst (v := 0) (pc := 32) F dX3_copyFrom_32 (by decide) ?_
  refine a_bipush (v := 30) (pc := 33) F dX3_copyFrom_33 (by decide) ?_
  refine a_copyc (k0 := (d + 10)) (k1 := (c + 10)) (z := 30) (pc := 35) F dX3_copyFrom_35 cw_RX3_43 (klC_10 hd) (ksC_10 hd) (klC_10 hc) (ksC_10 hc) (by decide) rfl (by decide) (by decide) (by decide) (Nat.le_of_ble_eq_true rfl) ?_
  refine a_nmm fun m3 em3 => ?_
  replace h := nm_at em3 h
  clear em3
  refine a_aload_n (pc := 38) F dX3_copyFrom_38 1 rfl ?_
  refine a_getr (k := (d + 8)) (r := (d + 11)) (pc := 39) F dX3_copyFrom_39 fl_RX3_18 (klC_8 hd) (ksC_8 hd) rfl ?_
  refine a_iconst (v := 0) (pc := 42) F dX3_copyFrom_42 (by decide) ?_
  refine a_aload_n (pc := 43) F dX3_copyFrom_43 0 rfl ?_
  refine a_getr (k := (c + 8)) (r := (c + 11)) (pc := 44) F dX3_copyFrom_44 fl_RX3_18 (klC_8 hc) (ksC_8 hc) rfl ?_
  refine a_iconst (v := 0) (pc := 47) F dX3_copyFrom_47 (by decide) ?_
  refine a_bipush (v := 30) (pc := 48) F dX3_copyFrom_48 (by decide) ?_
  refine a_copyc (k0 := (d + 11)) (k1 := (c + 11)) (z := 30) (pc := 50) F dX3_copyFrom_50 cw_RX3_43 (klC_11 hd) (ksC_11 hd) (klC_11 hc) (ksC_11 hc) (by decide) rfl (by decide) (by decide) (by decide) (Nat.le_of_ble_eq_true rfl) ?_
  refine a_nmm fun m4 em4 => ?_
  replace h := nm_at em4 h
  clear em4
  refine a_aload_n (pc := 53) F dX3_copyFrom_53 1 rfl ?_
  refine a_getr (k := (d + 8)) (r := (d + 12)) (pc := 54) F dX3_copyFrom_54 fl_RX3_21 (klC_8 hd) (ksC_8 hd) rfl ?_
  refine a_iconst (v := 0) (pc := 57) F dX3_copyFrom_57 (by decide) ?_
  refine a_aload_n (pc := 58) F dX3_copyFrom_58 0 rfl ?_
  refine a_getr (k := (c + 8)) (r := (c + 12)) (pc := 59) F dX3_copyFrom_59 fl_RX3_21 (klC_8 hc) (ksC_8 hc) rfl ?_
  refine a_iconst (v := 0) (pc := 62) F dX3_copyFrom_62 (by decide) ?_
  refine a_bipush (v := 30) (pc := 63) F dX3_copyFrom_63 (by decide) ?_
  refine a_copyc (k0 := (d + 12)) (k1 := (c + 12)) (z := 30) (pc := 65) F dX3_copyFrom_65 cw_RX3_43 (klC_12 hd) (ksC_12 hd) (klC_12 hc) (ksC_12 hc) (by decide) rfl (by decide) (by decide) (by decide) (Nat.le_of_ble_eq_true rfl) ?_
  refine a_nmm fun m5 em5 => ?_
  replace h := nm_at em5 h
  clear em5
  refine a_aload_n (pc := 68) F dX3_copyFrom_68 1 rfl ?_
  refine a_getr (k := (d + 8)) (r := (d + 13)) (pc := 69) F dX3_copyFrom_69 fl_RX3_24 (klC_8 hd) (ksC_8 hd) rfl ?_
  refine a_iconst (v := 0) (pc := 72) F dX3_copyFrom_72 (by decide) ?_
  refine a_aload_n (pc := 73) F dX3_copyFrom_73 0 rfl ?_
  refine a_getr (k := (c + 8)) (r := (c + 13)) (pc := 74) F dX3_copyFrom_74 fl_RX3_24 (klC_8 hc) (ksC_8 hc) rfl ?_
  refine a_iconst (v := 0) (pc := 77) F dX3_copyFrom_77 (by decide) ?_
  refine a_bipush (v := 30) (pc := 78) F dX3_copyFrom_78 (by decide) ?_
  refine a_copyc (k0 := (d + 13)) (k1 := (c + 13)) (z := 30) (pc := 80) F dX3_copyFrom_80 cw_RX3_43 (klC_13 hd) (ksC_13 hd) (klC_13 hc) (ksC_13 hc) (by decide) rfl (by decide) (by decide) (by decide) (Nat.le_of_ble_eq_true rfl) ?_
  refine a_nmm fun m6 em6 => ?_
  replace h := nm_at em6 h
  clear em6
  refine a_aload_n (pc := 83) F dX3_copyFrom_83 1 rfl ?_
  refine a_getr (k := (d + 8)) (r := (d + 14)) (pc := 84) F dX3_copyFrom_84 fl_RX3_27 (klC_8 hd) (ksC_8 hd) rfl ?_
  refine a_iconst (v := 0) (pc := 87) F dX3_copyFrom_87 (by decide) ?_
  refine a_aload_n (pc := 88) F dX3_copyFrom_88 0 rfl ?_
  refine a_getr (k := (c + 8)) (r := (c + 14)) (pc := 89) F dX3_copyFrom_89 fl_RX3_27 (klC_8 hc) (ksC_8 hc) rfl ?_
  refine a_iconst (v := 0) (pc := 92) F dX3_copyFrom_92 (by decide) ?_
  refine a_bipush (v := 30) (pc := 93) F dX3_copyFrom_93 (by decide) ?_
  refine a_copyc (k0 := (d + 14)) (k1 := (c + 14)) (z := 30) (pc := 95) F dX3_copyFrom_95 cw_RX3_43 (klC_14 hd) (ksC_14 hd) (klC_14 hc) (ksC_14 hc) (by decide) rfl (by decide) (by decide) (by decide) (Nat.le_of_ble_eq_true rfl) ?_
  refine a_nmm fun m7 em7 => ?_
  replace h := nm_at em7 h
  clear em7
  refine a_aload_n (pc := 98) F dX3_copyFrom_98 1 rfl ?_
  refine a_getr (k := (d + 8)) (r := (d + 15)) (pc := 99) F dX3_copyFrom_99 fl_RX3_30 (klC_8 hd) (ksC_8 hd) rfl ?_
  refine a_iconst (v := 0) (pc := 102) F dX3_copyFrom_102 (by decide) ?_
  refine a_aload_n (pc := 103) F dX3_copyFrom_103 0 rfl ?_
  refine a_getr (k := (c + 8)) (r := (c + 15)) (pc := 104) F dX3_copyFrom_104 fl_RX3_30 (klC_8 hc) (ksC_8 hc) rfl ?_
  refine a_iconst (v := 0) (pc := 107) F dX3_copyFrom_107 (by decide) ?_
  refine a_bipush (v := 30) (pc := 108) F dX3_copyFrom_108 (by decide) ?_
  refine a_copyc (k0 := (d + 15)) (k1 := (c + 15)) (z := 30) (pc := 110) F dX3_copyFrom_110 cw_RX3_43 (klC_15 hd) (ksC_15 hd) (klC_15 hc) (ksC_15 hc) (by decide) rfl (by decide) (by decide) (by decide) (Nat.le_of_ble_eq_true rfl) ?_
  refine a_nmm fun m8 em8 => ?_
  replace h := nm_at em8 h
  clear em8
  refine a_aload_n (pc := 113) F dX3_copyFrom_113 1 rfl ?_
  refine a_getr (k := (d + 8)) (r := (d + 16)) (pc := 114) F dX3_copyFrom_114 fl_RX3_33 (klC_8 hd) (ksC_8 hd) rfl ?_
  refine a_iconst (v := 0) (pc := 117) F dX3_copyFrom_117 (by decide) ?_
  refine a_aload_n (pc := 118) F dX3_copyFrom_118 0 rfl ?_
  refine a_getr (k := (c + 8)) (r := (c + 16)) (pc := 119) F dX3_copyFrom_119 fl_RX3_33 (klC_8 hc) (ksC_8 hc) rfl ?_
  refine a_iconst (v := 0) (pc := 122) F dX3_copyFrom_122 (by decide) ?_
  refine a_bipush (v := 30) (pc := 123) F dX3_copyFrom_123 (by decide) ?_
  refine a_copyc (k0 := (d + 16)) (k1 := (c + 16)) (z := 30) (pc := 125) F dX3_copyFrom_125 cw_RX3_43 (klC_16 hd) (ksC_16 hd) (klC_16 hc) (ksC_16 hc) (by decide) rfl (by decide) (by decide) (by decide) (Nat.le_of_ble_eq_true rfl) ?_
  refine a_nmm fun m9 em9 => ?_
  replace h := nm_at em9 h
  clear em9
  refine a_aload_n (pc := 128) F dX3_copyFrom_128 1 rfl ?_
  refine a_getr (k := (d + 8)) (r := (d + 17)) (pc := 129) F dX3_copyFrom_129 fl_RX3_36 (klC_8 hd) (ksC_8 hd) rfl ?_
  refine a_iconst (v := 0) (pc := 132) F dX3_copyFrom_132 (by decide) ?_
  refine a_aload_n (pc := 133) F dX3_copyFrom_133 0 rfl ?_
  refine a_getr (k := (c + 8)) (r := (c + 17)) (pc := 134) F dX3_copyFrom_134 fl_RX3_36 (klC_8 hc) (ksC_8 hc) rfl ?_
  refine a_iconst (v := 0) (pc := 137) F dX3_copyFrom_137 (by decide) ?_
  refine a_bipush (v := 90) (pc := 138) F dX3_copyFrom_138 (by decide) ?_
  refine a_copyc (k0 := (d + 17)) (k1 := (c + 17)) (z := 90) (pc := 140) F dX3_copyFrom_140 cw_RX3_43 (klC_17 hd) (ksC_17 hd) (klC_17 hc) (ksC_17 hc) (by decide) rfl (by decide) (by decide) (by decide) (Nat.le_of_ble_eq_true rfl) ?_
  refine a_nmm fun m10 em10 => ?_
  replace h := nm_at em10 h
  clear em10
  cases h
  exact a_vret (pc := 143) F dX3_copyFrom_143 rfl
def f_X2_copyFrom (c : Nat) (d : Nat) (m0 : Mem) : Option Mem :=
  bnd (f_X6_copyFrom c d m0) fun m2 => bnd (f_X3_copyFrom c d m2) fun m4 => nm (sa m4 (c + 18) (va_cpy (m4.1 (d + 18)) (m4.1 (c + 18)) 0 0 7)) fun m5 => nm (si m5 c 3 (m5.1 d 3)) fun m6 => nm (si m6 c 4 (m6.1 d 4)) fun m7 => nm (si m7 c 5 (m7.1 d 5)) fun m8 => nm (si m8 c 6 (m8.1 d 6)) fun m9 => some m9
set_option maxRecDepth 100000 in
set_option maxHeartbeats 4000000 in
theorem m_X2_copyFrom {c : Nat} {d : Nat} (hc : isC c) (hd : isC d) {m0 : Mem} {mm : Mem} (h : f_X2_copyFrom c d m0 = some mm) : Con yX2_copyFrom cX2_copyFrom 2 none 2 61 (fun G => [.ref (ga G c), .ref (ga G d)]) m0 none mm := by
  refine con_of (by decide) (fun G => Nat.le_of_ble_eq_true rfl) (fun X F => ?_)
  show WA X 0 0 0 [(0, .ref (ga X.G c)), (1, .ref (ga X.G d))] [] m0 (EQ X none mm)
  rw [f_X2_copyFrom] at h
  refine a_aload_n (pc := 0) F dX2_copyFrom_0 0 rfl ?_
  refine a_getr (k := c) (r := (c + 1)) (pc := 1) F dX2_copyFrom_1 fl_RX2_12 (klC_0 hc) (ksC_0 hc) rfl ?_
  refine a_aload_n (pc := 4) F dX2_copyFrom_4 1 rfl ?_
  refine a_getr (k := d) (r := (d + 1)) (pc := 5) F dX2_copyFrom_5 fl_RX2_12 (klC_0 hd) (ksC_0 hd) rfl ?_
  replace h := bnd_some h
  obtain ⟨m2, hc1, h⟩ := h
  refine a_callV (pc := 8) (k := (c + 1)) (As := [.ref (ga X.G (d + 1))]) (st := []) F dX2_copyFrom_8 (m_X6_copyFrom hc hd hc1) cv_RX2_37 (klC_1 hc) (ksC_1 hc) ⟨_, _, rfl⟩ rfl rfl rfl (Nat.le_of_ble_eq_true rfl) ⟨Nat.le_of_ble_eq_true rfl, Nat.le_of_ble_eq_true rfl⟩ ?_ rfl rfl
  clear hc1
  refine a_aload_n (pc := 11) F dX2_copyFrom_11 0 rfl ?_
  refine a_getr (k := c) (r := (c + 8)) (pc := 12) F dX2_copyFrom_12 fl_RX2_21 (klC_0 hc) (ksC_0 hc) rfl ?_
  refine a_aload_n (pc := 15) F dX2_copyFrom_15 1 rfl ?_
  refine a_getr (k := d) (r := (d + 8)) (pc := 16) F dX2_copyFrom_16 fl_RX2_21 (klC_0 hd) (ksC_0 hd) rfl ?_
  replace h := bnd_some h
  obtain ⟨m4, hc3, h⟩ := h
  refine a_callV (pc := 19) (k := (c + 8)) (As := [.ref (ga X.G (d + 8))]) (st := []) F dX2_copyFrom_19 (m_X3_copyFrom hc hd hc3) cv_RX2_41 (klC_8 hc) (ksC_8 hc) ⟨_, _, rfl⟩ rfl rfl rfl (Nat.le_of_ble_eq_true rfl) ⟨Nat.le_of_ble_eq_true rfl, Nat.le_of_ble_eq_true rfl⟩ ?_ rfl rfl
  clear hc3
  refine a_aload_n (pc := 22) F dX2_copyFrom_22 1 rfl ?_
  refine a_getr (k := d) (r := (d + 18)) (pc := 23) F dX2_copyFrom_23 fl_RX2_34 (klC_0 hd) (ksC_0 hd) rfl ?_
  refine a_iconst (v := 0) (pc := 26) F dX2_copyFrom_26 (by decide) ?_
  refine a_aload_n (pc := 27) F dX2_copyFrom_27 0 rfl ?_
  refine a_getr (k := c) (r := (c + 18)) (pc := 28) F dX2_copyFrom_28 fl_RX2_34 (klC_0 hc) (ksC_0 hc) rfl ?_
  refine a_iconst (v := 0) (pc := 31) F dX2_copyFrom_31 (by decide) ?_
  refine a_aload_n (pc := 32) F dX2_copyFrom_32 0 rfl ?_
  refine a_getr (k := c) (r := (c + 18)) (pc := 33) F dX2_copyFrom_33 fl_RX2_34 (klC_0 hc) (ksC_0 hc) rfl ?_
  refine a_alen (k := (c + 18)) (n := 7) (pc := 36) F dX2_copyFrom_36 (klC_18 hc) (ksC_18 hc) ?_
  refine a_copyc (k0 := (d + 18)) (k1 := (c + 18)) (z := 7) (pc := 37) F dX2_copyFrom_37 cw_RX2_44 (klC_18 hd) (ksC_18 hd) (klC_18 hc) (ksC_18 hc) (by decide) rfl (by decide) (by decide) (by decide) (Nat.le_of_ble_eq_true rfl) ?_
  refine a_nmm fun m5 em5 => ?_
  replace h := nm_at em5 h
  clear em5
  refine a_aload_n (pc := 40) F dX2_copyFrom_40 0 rfl ?_
  refine a_aload_n (pc := 41) F dX2_copyFrom_41 1 rfl ?_
  refine a_geti (k := d) (pc := 42) F dX2_copyFrom_42 fl_RX2_50 (klC_0 hd) (ksC_0 hd) rfl ?_
  refine a_puti (k := c) (pc := 45) F dX2_copyFrom_45 fp_RX2_50 (klC_0 hc) (ksC_0 hc) rfl ?_
  refine a_nmm fun m6 em6 => ?_
  replace h := nm_at em6 h
  clear em6
  refine a_aload_n (pc := 48) F dX2_copyFrom_48 0 rfl ?_
  refine a_aload_n (pc := 49) F dX2_copyFrom_49 1 rfl ?_
  refine a_geti (k := d) (pc := 50) F dX2_copyFrom_50 fl_RX2_54 (klC_0 hd) (ksC_0 hd) rfl ?_
  refine a_puti (k := c) (pc := 53) F dX2_copyFrom_53 fp_RX2_54 (klC_0 hc) (ksC_0 hc) rfl ?_
  refine a_nmm fun m7 em7 => ?_
  replace h := nm_at em7 h
  clear em7
  refine a_aload_n (pc := 56) F dX2_copyFrom_56 0 rfl ?_
  refine a_aload_n (pc := 57) F dX2_copyFrom_57 1 rfl ?_
  refine a_geti (k := d) (pc := 58) F dX2_copyFrom_58 fl_RX2_57 (klC_0 hd) (ksC_0 hd) rfl ?_
  refine a_puti (k := c) (pc := 61) F dX2_copyFrom_61 fp_RX2_57 (klC_0 hc) (ksC_0 hc) rfl ?_
  refine a_nmm fun m8 em8 => ?_
  replace h := nm_at em8 h
  clear em8
  refine a_aload_n (pc := 64) F dX2_copyFrom_64 0 rfl ?_
  refine a_aload_n (pc := 65) F dX2_copyFrom_65 1 rfl ?_
  refine a_geti (k := d) (pc := 66) F dX2_copyFrom_66 fl_RX2_60 (klC_0 hd) (ksC_0 hd) rfl ?_
  refine a_puti (k := c) (pc := 69) F dX2_copyFrom_69 fp_RX2_60 (klC_0 hc) (ksC_0 hc) rfl ?_
  refine a_nmm fun m9 em9 => ?_
  replace h := nm_at em9 h
  clear em9
  cases h
  exact a_vret (pc := 72) F dX2_copyFrom_72 rfl
def f_X4_save (c : Nat) (m0 : Mem) : Option Mem :=
  nm ((m0.1 39 1) + (m0.1 39 0)) fun x1 => gIn (x1 - x1 / 6 * 6) 6 <| bnd (f_X2_copyFrom (savedOff (x1 - x1 / 6 * 6).toNatClampNeg) c m0) fun m4 => (if 6 ≤ (m4.1 39 0) then nm (((m4.1 39 1) + 1) - ((m4.1 39 1) + 1) / 6 * 6) fun x6 => nm (si m4 39 1 x6) fun m7 => some m7 else nm (si m4 39 0 ((m4.1 39 0) + 1)) fun m8 => some m8)
set_option maxRecDepth 100000 in
set_option maxHeartbeats 4000000 in
theorem m_X4_save {c : Nat} (hc : isC c) {m0 : Mem} {mm : Mem} (h : f_X4_save c m0 = some mm) : Con yX4_save cX4_save 3 none 3 82 (fun G => [.ref (ga G 39), .ref (ga G c)]) m0 none mm := by
  refine con_of (by decide) (fun G => Nat.le_of_ble_eq_true rfl) (fun X F => ?_)
  show WA X 0 0 0 [(0, .ref (ga X.G 39)), (1, .ref (ga X.G c))] [] m0 (EQ X none mm)
  rw [f_X4_save] at h
  refine a_aload_n (pc := 0) F dX4_save_0 0 rfl ?_
  refine a_getr (k := 39) (r := 40) (pc := 1) F dX4_save_1 fl_RX4_11 kl_39 ks_39 rfl ?_
  refine a_aload_n (pc := 4) F dX4_save_4 0 rfl ?_
  refine a_geti (k := 39) (pc := 5) F dX4_save_5 fl_RX4_18 kl_39 ks_39 rfl ?_
  refine a_aload_n (pc := 8) F dX4_save_8 0 rfl ?_
  refine a_geti (k := 39) (pc := 9) F dX4_save_9 fl_RX4_22 kl_39 ks_39 rfl ?_
  refine a_iadd (pc := 12) F dX4_save_12 ?_
  refine a_nmi fun x1 ex1 => ?_
  replace h := nm_at ex1 h
  clear ex1
  refine a_bipush (v := 6) (pc := 13) F dX4_save_13 (by decide) ?_
  refine a_irem (pc := 15) F dX4_save_15 (by decide) ?_
  replace h := gIn_some h
  obtain ⟨g2, h⟩ := h
  refine a_aal (k := 40) (pc := 16) F dX4_save_16 kl_40 ks_40 g2 ?_
  refine a_astore_n (lv' := [(2, .ref (ga X.G (savedOff (x1 - x1 / 6 * 6).toNatClampNeg))), (0, .ref (ga X.G 39)), (1, .ref (ga X.G c))]) (pc := 17) F dX4_save_17 (by decide) rfl ?_
  refine a_aload_n (pc := 18) F dX4_save_18 0 rfl ?_
  refine a_ifnonnull (tgt := 23) (pc := 19) F dX4_save_19 (by decide) ?_
  refine a_aload_n (pc := 23) F dX4_save_23 0 rfl ?_
  refine a_aload_n (pc := 24) F dX4_save_24 2 rfl ?_
  replace h := bnd_some h
  obtain ⟨m4, hc3, h⟩ := h
  refine a_callV (pc := 25) (k := (savedOff (x1 - x1 / 6 * 6).toNatClampNeg)) (As := [.ref (ga X.G c)]) (st := []) F dX4_save_25 (m_X2_copyFrom (isC_saved g2) hc hc3) cv_RX4_25 (klC_0 (isC_saved g2)) (ksC_0 (isC_saved g2)) ⟨_, _, rfl⟩ rfl rfl rfl (Nat.le_of_ble_eq_true rfl) ⟨Nat.le_of_ble_eq_true rfl, Nat.le_of_ble_eq_true rfl⟩ ?_ rfl rfl
  clear hc3
  refine a_aload_n (pc := 28) F dX4_save_28 1 rfl ?_
  refine a_geti (k := 39) (pc := 29) F dX4_save_29 fl_RX4_22 kl_39 ks_39 rfl ?_
  refine a_bipush (v := 6) (pc := 32) F dX4_save_32 (by decide) ?_
  refine a_icmp_ge (tgt := 50) (pc := 34) F dX4_save_34 (by decide) (fun q5 => ?_) (fun q5 => ?_)
  · replace h := ite_t q5 h
    clear q5
    refine a_aload_n (pc := 50) F dX4_save_50 1 rfl ?_
    refine a_aload_n (pc := 51) F dX4_save_51 1 rfl ?_
    refine a_geti (k := 39) (pc := 52) F dX4_save_52 fl_RX4_18 kl_39 ks_39 rfl ?_
    refine a_iconst (v := 1) (pc := 55) F dX4_save_55 (by decide) ?_
    refine a_iadd (pc := 56) F dX4_save_56 ?_
    refine a_bipush (v := 6) (pc := 57) F dX4_save_57 (by decide) ?_
    refine a_irem (pc := 59) F dX4_save_59 (by decide) ?_
    refine a_nmi fun x6 ex6 => ?_
    replace h := nm_at ex6 h
    clear ex6
    refine a_puti (k := 39) (pc := 60) F dX4_save_60 fp_RX4_18 kl_39 ks_39 rfl ?_
    refine a_nmm fun m7 em7 => ?_
    replace h := nm_at em7 h
    clear em7
    cases h
    exact a_vret (pc := 63) F dX4_save_63 rfl
  · replace h := ite_f q5 h
    clear q5
    refine a_aload_n (pc := 37) F dX4_save_37 1 rfl ?_
    refine a_dup (pc := 38) F dX4_save_38 rfl ?_
    refine a_geti (k := 39) (pc := 39) F dX4_save_39 fl_RX4_22 kl_39 ks_39 rfl ?_
    refine a_iconst (v := 1) (pc := 42) F dX4_save_42 (by decide) ?_
    refine a_iadd (pc := 43) F dX4_save_43 ?_
    refine a_puti (k := 39) (pc := 44) F dX4_save_44 fp_RX4_22 kl_39 ks_39 rfl ?_
    refine a_nmm fun m8 em8 => ?_
    replace h := nm_at em8 h
    clear em8
    refine a_goto (tgt := 63) (pc := 47) F dX4_save_47 (by decide) ?_
    cases h
    exact a_vret (pc := 63) F dX4_save_63 rfl
def f_X6_hire (c : Nat) (p1 : Int32) (p2 : Int32) (p3 : Int32) (m0 : Mem) : Option (Int32 × Mem) :=
  (if (m0.1 (c + 1) 0) < 10 then gIn (m0.1 (c + 1) 0) 10 <| nm (si m0 (c + 2) (m0.1 (c + 1) 0).toNatClampNeg p1) fun m3 => gIn (m3.1 (c + 1) 0) 10 <| nm (si m3 (c + 3) (m3.1 (c + 1) 0).toNatClampNeg p2) fun m5 => gIn (m5.1 (c + 1) 0) 10 <| nm (si m5 (c + 4) (m5.1 (c + 1) 0).toNatClampNeg p3) fun m7 => gIn (m7.1 (c + 1) 0) 10 <| nm (si m7 (c + 5) (m7.1 (c + 1) 0).toNatClampNeg 0) fun m9 => gIn (m9.1 (c + 1) 0) 10 <| nm (si m9 (c + 6) (m9.1 (c + 1) 0).toNatClampNeg 0) fun m11 => gIn (m11.1 (c + 1) 0) 10 <| nm (si m11 (c + 7) (m11.1 (c + 1) 0).toNatClampNeg 0) fun m13 => nm (si m13 (c + 1) 0 ((m13.1 (c + 1) 0) + 1)) fun m14 => some ((m14.1 (c + 1) 0) - 1, m14) else some ((-1), m0))
set_option maxRecDepth 100000 in
set_option maxHeartbeats 4000000 in
theorem m_X6_hire {c : Nat} {p1 : Int32} {p2 : Int32} {p3 : Int32} (hc : isC c) {m0 : Mem} {rr : Int32} {mm : Mem} (h : f_X6_hire c p1 p2 p3 m0 = some (rr, mm)) : Con yX6_hire cX6_hire 4 (some Jvm.ClassFile.FieldType.int) 0 0 (fun G => [.ref (ga G (c + 1)), .int p1, .int p2, .int p3]) m0 (some (.int rr)) mm := by
  refine con_of (by decide) (fun G => Nat.le_of_ble_eq_true rfl) (fun X F => ?_)
  show WA X 0 0 0 [(0, .ref (ga X.G (c + 1))), (1, .int p1), (2, .int p2), (3, .int p3)] [] m0 (EQ X (some (.int rr)) mm)
  rw [f_X6_hire] at h
  refine a_aload_n (pc := 0) F dX6_hire_0 0 rfl ?_
  refine a_geti (k := (c + 1)) (pc := 1) F dX6_hire_1 fl_RX6_30 (klC_1 hc) (ksC_1 hc) rfl ?_
  refine a_bipush (v := 10) (pc := 4) F dX6_hire_4 (by decide) ?_
  refine a_icmp_lt (tgt := 11) (pc := 6) F dX6_hire_6 (by decide) (fun q1 => ?_) (fun q1 => ?_)
  · replace h := ite_t q1 h
    clear q1
    refine a_aload_n (pc := 11) F dX6_hire_11 0 rfl ?_
    refine a_getr (k := (c + 1)) (r := (c + 2)) (pc := 12) F dX6_hire_12 fl_RX6_9 (klC_1 hc) (ksC_1 hc) rfl ?_
    refine a_aload_n (pc := 15) F dX6_hire_15 0 rfl ?_
    refine a_geti (k := (c + 1)) (pc := 16) F dX6_hire_16 fl_RX6_30 (klC_1 hc) (ksC_1 hc) rfl ?_
    refine a_iload_n (pc := 19) F dX6_hire_19 1 rfl ?_
    replace h := gIn_some h
    obtain ⟨g2, h⟩ := h
    refine a_ias (k := (c + 2)) (pc := 20) F dX6_hire_20 (klC_2 hc) (ksC_2 hc) g2 ?_
    refine a_nmm fun m3 em3 => ?_
    replace h := nm_at em3 h
    clear em3
    refine a_aload_n (pc := 21) F dX6_hire_21 0 rfl ?_
    refine a_getr (k := (c + 1)) (r := (c + 3)) (pc := 22) F dX6_hire_22 fl_RX6_15 (klC_1 hc) (ksC_1 hc) rfl ?_
    refine a_aload_n (pc := 25) F dX6_hire_25 0 rfl ?_
    refine a_geti (k := (c + 1)) (pc := 26) F dX6_hire_26 fl_RX6_30 (klC_1 hc) (ksC_1 hc) rfl ?_
    refine a_iload_n (pc := 29) F dX6_hire_29 2 rfl ?_
    replace h := gIn_some h
    obtain ⟨g4, h⟩ := h
    refine a_ias (k := (c + 3)) (pc := 30) F dX6_hire_30 (klC_3 hc) (ksC_3 hc) g4 ?_
    refine a_nmm fun m5 em5 => ?_
    replace h := nm_at em5 h
    clear em5
    refine a_aload_n (pc := 31) F dX6_hire_31 0 rfl ?_
    refine a_getr (k := (c + 1)) (r := (c + 4)) (pc := 32) F dX6_hire_32 fl_RX6_18 (klC_1 hc) (ksC_1 hc) rfl ?_
    refine a_aload_n (pc := 35) F dX6_hire_35 0 rfl ?_
    refine a_geti (k := (c + 1)) (pc := 36) F dX6_hire_36 fl_RX6_30 (klC_1 hc) (ksC_1 hc) rfl ?_
    refine a_iload_n (pc := 39) F dX6_hire_39 3 rfl ?_
    replace h := gIn_some h
    obtain ⟨g6, h⟩ := h
    refine a_ias (k := (c + 4)) (pc := 40) F dX6_hire_40 (klC_4 hc) (ksC_4 hc) g6 ?_
    refine a_nmm fun m7 em7 => ?_
    replace h := nm_at em7 h
    clear em7
    refine a_aload_n (pc := 41) F dX6_hire_41 0 rfl ?_
    refine a_getr (k := (c + 1)) (r := (c + 5)) (pc := 42) F dX6_hire_42 fl_RX6_21 (klC_1 hc) (ksC_1 hc) rfl ?_
    refine a_aload_n (pc := 45) F dX6_hire_45 0 rfl ?_
    refine a_geti (k := (c + 1)) (pc := 46) F dX6_hire_46 fl_RX6_30 (klC_1 hc) (ksC_1 hc) rfl ?_
    refine a_iconst (v := 0) (pc := 49) F dX6_hire_49 (by decide) ?_
    replace h := gIn_some h
    obtain ⟨g8, h⟩ := h
    refine a_ias (k := (c + 5)) (pc := 50) F dX6_hire_50 (klC_5 hc) (ksC_5 hc) g8 ?_
    refine a_nmm fun m9 em9 => ?_
    replace h := nm_at em9 h
    clear em9
    refine a_aload_n (pc := 51) F dX6_hire_51 0 rfl ?_
    refine a_getr (k := (c + 1)) (r := (c + 6)) (pc := 52) F dX6_hire_52 fl_RX6_24 (klC_1 hc) (ksC_1 hc) rfl ?_
    refine a_aload_n (pc := 55) F dX6_hire_55 0 rfl ?_
    refine a_geti (k := (c + 1)) (pc := 56) F dX6_hire_56 fl_RX6_30 (klC_1 hc) (ksC_1 hc) rfl ?_
    refine a_iconst (v := 0) (pc := 59) F dX6_hire_59 (by decide) ?_
    replace h := gIn_some h
    obtain ⟨g10, h⟩ := h
    refine a_ias (k := (c + 6)) (pc := 60) F dX6_hire_60 (klC_6 hc) (ksC_6 hc) g10 ?_
    refine a_nmm fun m11 em11 => ?_
    replace h := nm_at em11 h
    clear em11
    refine a_aload_n (pc := 61) F dX6_hire_61 0 rfl ?_
    refine a_getr (k := (c + 1)) (r := (c + 7)) (pc := 62) F dX6_hire_62 fl_RX6_27 (klC_1 hc) (ksC_1 hc) rfl ?_
    refine a_aload_n (pc := 65) F dX6_hire_65 0 rfl ?_
    refine a_geti (k := (c + 1)) (pc := 66) F dX6_hire_66 fl_RX6_30 (klC_1 hc) (ksC_1 hc) rfl ?_
    refine a_iconst (v := 0) (pc := 69) F dX6_hire_69 (by decide) ?_
    replace h := gIn_some h
    obtain ⟨g12, h⟩ := h
    refine a_ias (k := (c + 7)) (pc := 70) F dX6_hire_70 (klC_7 hc) (ksC_7 hc) g12 ?_
    refine a_nmm fun m13 em13 => ?_
    replace h := nm_at em13 h
    clear em13
    refine a_aload_n (pc := 71) F dX6_hire_71 0 rfl ?_
    refine a_dup (pc := 72) F dX6_hire_72 rfl ?_
    refine a_geti (k := (c + 1)) (pc := 73) F dX6_hire_73 fl_RX6_30 (klC_1 hc) (ksC_1 hc) rfl ?_
    refine a_iconst (v := 1) (pc := 76) F dX6_hire_76 (by decide) ?_
    refine a_iadd (pc := 77) F dX6_hire_77 ?_
    refine a_puti (k := (c + 1)) (pc := 78) F dX6_hire_78 fp_RX6_30 (klC_1 hc) (ksC_1 hc) rfl ?_
    refine a_nmm fun m14 em14 => ?_
    replace h := nm_at em14 h
    clear em14
    refine a_aload_n (pc := 81) F dX6_hire_81 0 rfl ?_
    refine a_geti (k := (c + 1)) (pc := 82) F dX6_hire_82 fl_RX6_30 (klC_1 hc) (ksC_1 hc) rfl ?_
    refine a_iconst (v := 1) (pc := 85) F dX6_hire_85 (by decide) ?_
    refine a_isub (pc := 86) F dX6_hire_86 ?_
    cases h
    exact a_iret (pc := 87) F dX6_hire_87 ⟨_, rfl, rfl⟩
  · replace h := ite_f q1 h
    clear q1
    refine a_iconst (v := (-1)) (pc := 9) F dX6_hire_9 (by decide) ?_
    cases h
    exact a_iret (pc := 10) F dX6_hire_10 ⟨_, rfl, rfl⟩
def f_X7_addInterpreter (p1 : Int32) (p2 : Int32) (p3 : Int32) (m0 : Mem) : Option (Int32 × Mem) :=
  bnd (f_X7_within p1 1 1023 m0) fun x2 => jn ((if x2 = 0 then some (.inl m0) else bnd (f_J6_bitCount_0f7a4 p1 m0) fun x6 => (if x6 < 2 then some (.inl m0) else bnd (f_X7_within p2 0 7 m0) fun x9 => (if x9 = 0 then some (.inl m0) else bnd (f_X7_within p3 1 100 m0) fun x12 => (if x12 = 0 then some (.inl m0) else (if (m0.1 (1 + 1) 0) < 10 then bnd (f_X4_save 1 m0) fun m16 => bnd2 (f_X6_hire 1 p1 p2 p3 m16) fun x18 m19 => some (.inr (x18, m19)) else none)))))) (fun (m20 : Mem) => none)
set_option maxRecDepth 100000 in
set_option maxHeartbeats 4000000 in
theorem m_X7_addInterpreter {p1 : Int32} {p2 : Int32} {p3 : Int32} {m0 : Mem} {rr : Int32} {mm : Mem} (h : f_X7_addInterpreter p1 p2 p3 m0 = some (rr, mm)) : Con yX7_addInterpreter cX7_addInterpreter 4 (some Jvm.ClassFile.FieldType.int) 4 104 (fun G => [.ref (ga G 0), .int p1, .int p2, .int p3]) m0 (some (.int rr)) mm := by
  refine con_of (by decide) (fun G => Nat.le_of_ble_eq_true rfl) (fun X F => ?_)
  show WA X 0 0 0 [(0, .ref (ga X.G 0)), (1, .int p1), (2, .int p2), (3, .int p3)] [] m0 (EQ X (some (.int rr)) mm)
  rw [f_X7_addInterpreter] at h
  refine a_iload_n (pc := 0) F dX7_addInterpreter_0 1 rfl ?_
  refine a_iconst (v := 1) (pc := 1) F dX7_addInterpreter_1 (by decide) ?_
  refine a_sipush (v := 1023) (pc := 2) F dX7_addInterpreter_2 (by decide) ?_
  replace h := bnd_some h
  obtain ⟨x2, hc1, h⟩ := h
  refine a_callS (pc := 5) (As := [.int p1, .int 1, .int 1023]) (st := []) F dX7_addInterpreter_5 (m_X7_within hc1) cs_RX7_47 rfl rfl rfl (Nat.le_of_ble_eq_true rfl) ⟨Nat.le_of_ble_eq_true rfl, Nat.le_of_ble_eq_true rfl⟩ ?_ rfl rfl
  clear hc1
  replace h := jn_some h
  obtain ⟨o3, hR3, hK3, hB3⟩ := h
  have hJ3 : ∀ (m20 : Mem), o3 = .inl m20 → WA X 0 0 39 [] [] m20 (EQ X (some (.int rr)) mm) := by
    intro m20 eo
    have h := hK3 _ eo
    clear hK3 eo
    cases h
  clear hK3
  have h := hR3
  clear hR3
  refine a_if_eq (tgt := 39) (pc := 8) F dX7_addInterpreter_8 (by decide) (fun q4 => ?_) (fun q4 => ?_)
  · replace h := ite_t q4 h
    clear q4
    refine a_lv F [] rfl ?_
    exact hJ3 _ (Option.some.inj h).symm
  · replace h := ite_f q4 h
    clear q4
    refine a_iload_n (pc := 11) F dX7_addInterpreter_11 1 rfl ?_
    replace h := bnd_some h
    obtain ⟨x6, hc5, h⟩ := h
    refine a_callS (pc := 12) (As := [.int p1]) (st := []) F dX7_addInterpreter_12 (m_J6_bitCount_0f7a4 hc5) cs_RX7_51 rfl rfl rfl (Nat.le_of_ble_eq_true rfl) ⟨Nat.le_of_ble_eq_true rfl, Nat.le_of_ble_eq_true rfl⟩ ?_ rfl rfl
    clear hc5
    refine a_iconst (v := 2) (pc := 15) F dX7_addInterpreter_15 (by decide) ?_
    refine a_icmp_lt (tgt := 39) (pc := 16) F dX7_addInterpreter_16 (by decide) (fun q7 => ?_) (fun q7 => ?_)
    · replace h := ite_t q7 h
      clear q7
      refine a_lv F [] rfl ?_
      exact hJ3 _ (Option.some.inj h).symm
    · replace h := ite_f q7 h
      clear q7
      refine a_iload_n (pc := 19) F dX7_addInterpreter_19 2 rfl ?_
      refine a_iconst (v := 0) (pc := 20) F dX7_addInterpreter_20 (by decide) ?_
      refine a_bipush (v := 7) (pc := 21) F dX7_addInterpreter_21 (by decide) ?_
      replace h := bnd_some h
      obtain ⟨x9, hc8, h⟩ := h
      refine a_callS (pc := 23) (As := [.int p2, .int 0, .int 7]) (st := []) F dX7_addInterpreter_23 (m_X7_within hc8) cs_RX7_47 rfl rfl rfl (Nat.le_of_ble_eq_true rfl) ⟨Nat.le_of_ble_eq_true rfl, Nat.le_of_ble_eq_true rfl⟩ ?_ rfl rfl
      clear hc8
      refine a_if_eq (tgt := 39) (pc := 26) F dX7_addInterpreter_26 (by decide) (fun q10 => ?_) (fun q10 => ?_)
      · replace h := ite_t q10 h
        clear q10
        refine a_lv F [] rfl ?_
        exact hJ3 _ (Option.some.inj h).symm
      · replace h := ite_f q10 h
        clear q10
        refine a_iload_n (pc := 29) F dX7_addInterpreter_29 3 rfl ?_
        refine a_iconst (v := 1) (pc := 30) F dX7_addInterpreter_30 (by decide) ?_
        refine a_bipush (v := 100) (pc := 31) F dX7_addInterpreter_31 (by decide) ?_
        replace h := bnd_some h
        obtain ⟨x12, hc11, h⟩ := h
        refine a_callS (pc := 33) (As := [.int p3, .int 1, .int 100]) (st := []) F dX7_addInterpreter_33 (m_X7_within hc11) cs_RX7_47 rfl rfl rfl (Nat.le_of_ble_eq_true rfl) ⟨Nat.le_of_ble_eq_true rfl, Nat.le_of_ble_eq_true rfl⟩ ?_ rfl rfl
        clear hc11
        refine a_if_ne (tgt := 49) (pc := 36) F dX7_addInterpreter_36 (by decide) (fun q13 => ?_) (fun q13 => ?_)
        · replace h := ite_f q13 h
          clear q13
          refine a_aload_n (pc := 49) F dX7_addInterpreter_49 0 rfl ?_
          refine a_getr (k := 0) (r := 1) (pc := 50) F dX7_addInterpreter_50 fl_RX7_10 kl_0 ks_0 rfl ?_
          refine a_getr (k := 1) (r := (1 + 1)) (pc := 53) F dX7_addInterpreter_53 fl_RX7_64 (klC_0 isC_1) (ksC_0 isC_1) rfl ?_
          refine a_geti (k := (1 + 1)) (pc := 56) F dX7_addInterpreter_56 fl_RX7_68 (klC_1 isC_1) (ksC_1 isC_1) rfl ?_
          refine a_bipush (v := 10) (pc := 59) F dX7_addInterpreter_59 (by decide) ?_
          refine a_icmp_lt (tgt := 74) (pc := 61) F dX7_addInterpreter_61 (by decide) (fun q14 => ?_) (fun q14 => ?_)
          · replace h := ite_t q14 h
            clear q14
            refine a_aload_n (pc := 74) F dX7_addInterpreter_74 0 rfl ?_
            refine a_getr (k := 0) (r := 39) (pc := 75) F dX7_addInterpreter_75 fl_RX7_22 kl_0 ks_0 rfl ?_
            refine a_aload_n (pc := 78) F dX7_addInterpreter_78 0 rfl ?_
            refine a_getr (k := 0) (r := 1) (pc := 79) F dX7_addInterpreter_79 fl_RX7_10 kl_0 ks_0 rfl ?_
            replace h := bnd_some h
            obtain ⟨m16, hc15, h⟩ := h
            refine a_callV (pc := 82) (k := 39) (As := [.ref (ga X.G 1)]) (st := []) F dX7_addInterpreter_82 (m_X4_save isC_1 hc15) cv_RX7_79 kl_39 ks_39 ⟨_, _, rfl⟩ rfl rfl rfl (Nat.le_of_ble_eq_true rfl) ⟨Nat.le_of_ble_eq_true rfl, Nat.le_of_ble_eq_true rfl⟩ ?_ rfl rfl
            clear hc15
            refine a_aload_n (pc := 85) F dX7_addInterpreter_85 0 rfl ?_
            refine a_getr (k := 0) (r := 1) (pc := 86) F dX7_addInterpreter_86 fl_RX7_10 kl_0 ks_0 rfl ?_
            refine a_getr (k := 1) (r := (1 + 1)) (pc := 89) F dX7_addInterpreter_89 fl_RX7_64 (klC_0 isC_1) (ksC_0 isC_1) rfl ?_
            refine a_iload_n (pc := 92) F dX7_addInterpreter_92 1 rfl ?_
            refine a_iload_n (pc := 93) F dX7_addInterpreter_93 2 rfl ?_
            refine a_iload_n (pc := 94) F dX7_addInterpreter_94 3 rfl ?_
            replace h := bnd2_some h
            obtain ⟨x18, m19, hc17, h⟩ := h
            refine a_callV (pc := 95) (k := (1 + 1)) (As := [.int p1, .int p2, .int p3]) (st := []) F dX7_addInterpreter_95 (m_X6_hire isC_1 hc17) cv_RX7_83 (klC_1 isC_1) (ksC_1 isC_1) ⟨_, _, rfl⟩ rfl rfl rfl (Nat.le_of_ble_eq_true rfl) ⟨Nat.le_of_ble_eq_true rfl, Nat.le_of_ble_eq_true rfl⟩ ?_ rfl rfl
            clear hc17
            replace h := hB3 _ (Option.some.inj h).symm
            cases h
            exact a_iret (pc := 98) F dX7_addInterpreter_98 ⟨_, rfl, rfl⟩
          · replace h := ite_f q14 h
            clear q14
            cases h
        · replace h := ite_t (Decidable.not_not.mp q13) h
          clear q13
          refine a_lv F [] rfl ?_
          exact hJ3 _ (Option.some.inj h).symm
def f_X3_has (c : Nat) (p1 : Int32) (m0 : Mem) : Option Int32 :=
  (if p1 < 0 then some 0 else (if (m0.1 (c + 8) 0) ≤ p1 then some 0 else some 1))
set_option maxRecDepth 100000 in
set_option maxHeartbeats 4000000 in
theorem m_X3_has {c : Nat} {p1 : Int32} (hc : isC c) {m0 : Mem} {rr : Int32} (h : f_X3_has c p1 m0 = some rr) : Con yX3_has cX3_has 2 (some Jvm.ClassFile.FieldType.boolean) 0 0 (fun G => [.ref (ga G (c + 8)), .int p1]) m0 (some (.int rr)) m0 := by
  refine con_of (by decide) (fun G => Nat.le_of_ble_eq_true rfl) (fun X F => ?_)
  show WA X 0 0 0 [(0, .ref (ga X.G (c + 8))), (1, .int p1)] [] m0 (EQ X (some (.int rr)) m0)
  rw [f_X3_has] at h
  refine a_iload_n (pc := 0) F dX3_has_0 1 rfl ?_
  refine a_if_lt (tgt := 16) (pc := 1) F dX3_has_1 (by decide) (fun q1 => ?_) (fun q1 => ?_)
  · replace h := ite_t q1 h
    clear q1
    refine a_iconst (v := 0) (pc := 16) F dX3_has_16 (by decide) ?_
    cases h
    exact a_iret (pc := 17) F dX3_has_17 ⟨_, rfl, rfl⟩
  · replace h := ite_f q1 h
    clear q1
    refine a_iload_n (pc := 4) F dX3_has_4 1 rfl ?_
    refine a_aload_n (pc := 5) F dX3_has_5 0 rfl ?_
    refine a_geti (k := (c + 8)) (pc := 6) F dX3_has_6 fl_RX3_39 (klC_8 hc) (ksC_8 hc) rfl ?_
    refine a_icmp_ge (tgt := 16) (pc := 9) F dX3_has_9 (by decide) (fun q2 => ?_) (fun q2 => ?_)
    · replace h := ite_t q2 h
      clear q2
      refine a_iconst (v := 0) (pc := 16) F dX3_has_16 (by decide) ?_
      cases h
      exact a_iret (pc := 17) F dX3_has_17 ⟨_, rfl, rfl⟩
    · replace h := ite_f q2 h
      clear q2
      refine a_iconst (v := 1) (pc := 12) F dX3_has_12 (by decide) ?_
      refine a_goto (tgt := 17) (pc := 13) F dX3_has_13 (by decide) ?_
      cases h
      exact a_iret (pc := 17) F dX3_has_17 ⟨_, rfl, rfl⟩
def f_X7_bitOf (p1 : Int32) (m0 : Mem) : Option Int32 :=
  (if 0 ≤ p1 then some (1 <<< (p1 &&& 31)) else some 0)
set_option maxRecDepth 100000 in
set_option maxHeartbeats 4000000 in
theorem m_X7_bitOf {p1 : Int32} {m0 : Mem} {rr : Int32} (h : f_X7_bitOf p1 m0 = some rr) : Con yX7_bitOf cX7_bitOf 1 (some Jvm.ClassFile.FieldType.int) 0 0 (fun G => [.int p1]) m0 (some (.int rr)) m0 := by
  refine con_of (by decide) (fun G => Nat.le_of_ble_eq_true rfl) (fun X F => ?_)
  show WA X 0 0 0 [(0, .int p1)] [] m0 (EQ X (some (.int rr)) m0)
  rw [f_X7_bitOf] at h
  refine a_iload_n (pc := 0) F dX7_bitOf_0 0 rfl ?_
  refine a_if_ge (tgt := 8) (pc := 1) F dX7_bitOf_1 (by decide) (fun q1 => ?_) (fun q1 => ?_)
  · replace h := ite_t q1 h
    clear q1
    refine a_iconst (v := 1) (pc := 8) F dX7_bitOf_8 (by decide) ?_
    refine a_iload_n (pc := 9) F dX7_bitOf_9 0 rfl ?_
    refine a_ishl (pc := 10) F dX7_bitOf_10 ?_
    cases h
    exact a_iret (pc := 11) F dX7_bitOf_11 ⟨_, rfl, rfl⟩
  · replace h := ite_f q1 h
    clear q1
    refine a_iconst (v := 0) (pc := 4) F dX7_bitOf_4 (by decide) ?_
    refine a_goto (tgt := 11) (pc := 5) F dX7_bitOf_5 (by decide) ?_
    cases h
    exact a_iret (pc := 11) F dX7_bitOf_11 ⟨_, rfl, rfl⟩
def f_X7_maskOf (p1 : Int32) (p2 : Int32) (p3 : Int32) (m0 : Mem) : Option Int32 :=
  bnd (f_X7_bitOf p1 m0) fun x2 => bnd (f_X7_bitOf p2 m0) fun x4 => bnd (f_X7_bitOf p3 m0) fun x6 => some ((x2 ||| x4) ||| x6)
set_option maxRecDepth 100000 in
set_option maxHeartbeats 4000000 in
theorem m_X7_maskOf {p1 : Int32} {p2 : Int32} {p3 : Int32} {m0 : Mem} {rr : Int32} (h : f_X7_maskOf p1 p2 p3 m0 = some rr) : Con yX7_maskOf cX7_maskOf 3 (some Jvm.ClassFile.FieldType.int) 1 20 (fun G => [.int p1, .int p2, .int p3]) m0 (some (.int rr)) m0 := by
  refine con_of (by decide) (fun G => Nat.le_of_ble_eq_true rfl) (fun X F => ?_)
  show WA X 0 0 0 [(0, .int p1), (1, .int p2), (2, .int p3)] [] m0 (EQ X (some (.int rr)) m0)
  rw [f_X7_maskOf] at h
  refine a_iload_n (pc := 0) F dX7_maskOf_0 0 rfl ?_
  replace h := bnd_some h
  obtain ⟨x2, hc1, h⟩ := h
  refine a_callS (pc := 1) (As := [.int p1]) (st := []) F dX7_maskOf_1 (m_X7_bitOf hc1) cs_RX7_326 rfl rfl rfl (Nat.le_of_ble_eq_true rfl) ⟨Nat.le_of_ble_eq_true rfl, Nat.le_of_ble_eq_true rfl⟩ ?_ rfl rfl
  clear hc1
  refine a_iload_n (pc := 4) F dX7_maskOf_4 1 rfl ?_
  replace h := bnd_some h
  obtain ⟨x4, hc3, h⟩ := h
  refine a_callS (pc := 5) (As := [.int p2]) (st := [.int x2]) F dX7_maskOf_5 (m_X7_bitOf hc3) cs_RX7_326 rfl rfl rfl (Nat.le_of_ble_eq_true rfl) ⟨Nat.le_of_ble_eq_true rfl, Nat.le_of_ble_eq_true rfl⟩ ?_ rfl rfl
  clear hc3
  refine a_ior (pc := 8) F dX7_maskOf_8 ?_
  refine a_iload_n (pc := 9) F dX7_maskOf_9 2 rfl ?_
  replace h := bnd_some h
  obtain ⟨x6, hc5, h⟩ := h
  refine a_callS (pc := 10) (As := [.int p3]) (st := [.int (x2 ||| x4)]) F dX7_maskOf_10 (m_X7_bitOf hc5) cs_RX7_326 rfl rfl rfl (Nat.le_of_ble_eq_true rfl) ⟨Nat.le_of_ble_eq_true rfl, Nat.le_of_ble_eq_true rfl⟩ ?_ rfl rfl
  clear hc5
  refine a_ior (pc := 13) F dX7_maskOf_13 ?_
  cases h
  exact a_iret (pc := 14) F dX7_maskOf_14 ⟨_, rfl, rfl⟩
def f_X3_giveChain (c : Nat) (p1 : Int32) (p2 : Int32) (p3 : Int32) (p4 : Int32) (m0 : Mem) : Option Mem :=
  bnd (f_X3_has c p1 m0) fun x2 => (if x2 = 0 then some m0 else gIn (p1 * 3) 90 <| nm (si m0 (c + 17) (p1 * 3).toNatClampNeg p2) fun m5 => gIn ((p1 * 3) + 1) 90 <| nm (si m5 (c + 17) ((p1 * 3) + 1).toNatClampNeg p3) fun m7 => gIn ((p1 * 3) + 2) 90 <| nm (si m7 (c + 17) ((p1 * 3) + 2).toNatClampNeg p4) fun m9 => bnd (f_X7_maskOf p2 p3 p4 m9) fun x11 => gIn p1 30 <| nm (si m9 (c + 16) p1.toNatClampNeg x11) fun m13 => gIn p1 30 <| nm (m13.1 (c + 16) p1.toNatClampNeg) fun x15 => bnd (f_J6_bitCount_0f7a4 x15 m13) fun x17 => gIn p1 30 <| nm (si m13 (c + 14) p1.toNatClampNeg x17) fun m19 => some m19)
set_option maxRecDepth 100000 in
set_option maxHeartbeats 4000000 in
theorem m_X3_giveChain {c : Nat} {p1 : Int32} {p2 : Int32} {p3 : Int32} {p4 : Int32} (hc : isC c) {m0 : Mem} {mm : Mem} (h : f_X3_giveChain c p1 p2 p3 p4 m0 = some mm) : Con yX3_giveChain cX3_giveChain 5 none 2 42 (fun G => [.ref (ga G (c + 8)), .int p1, .int p2, .int p3, .int p4]) m0 none mm := by
  refine con_of (by decide) (fun G => Nat.le_of_ble_eq_true rfl) (fun X F => ?_)
  show WA X 0 0 0 [(0, .ref (ga X.G (c + 8))), (1, .int p1), (2, .int p2), (3, .int p3), (4, .int p4)] [] m0 (EQ X none mm)
  rw [f_X3_giveChain] at h
  refine a_aload_n (pc := 0) F dX3_giveChain_0 0 rfl ?_
  refine a_iload_n (pc := 1) F dX3_giveChain_1 1 rfl ?_
  replace h := bnd_some h
  obtain ⟨x2, hc1, h⟩ := h
  refine a_callV (pc := 2) (k := (c + 8)) (As := [.int p1]) (st := []) F dX3_giveChain_2 (m_X3_has hc hc1) cv_RX3_57 (klC_8 hc) (ksC_8 hc) ⟨_, _, rfl⟩ rfl rfl rfl (Nat.le_of_ble_eq_true rfl) ⟨Nat.le_of_ble_eq_true rfl, Nat.le_of_ble_eq_true rfl⟩ ?_ rfl rfl
  clear hc1
  refine a_if_ne (tgt := 9) (pc := 5) F dX3_giveChain_5 (by decide) (fun q3 => ?_) (fun q3 => ?_)
  · replace h := ite_f q3 h
    clear q3
    refine a_aload_n (pc := 9) F dX3_giveChain_9 0 rfl ?_
    refine a_getr (k := (c + 8)) (r := (c + 17)) (pc := 10) F dX3_giveChain_10 fl_RX3_36 (klC_8 hc) (ksC_8 hc) rfl ?_
    refine a_iload_n (pc := 13) F dX3_giveChain_13 1 rfl ?_
    refine a_iconst (v := 3) (pc := 14) F dX3_giveChain_14 (by decide) ?_
    refine a_imul (pc := 15) F dX3_giveChain_15 ?_
    refine a_iload_n (pc := 16) F dX3_giveChain_16 2 rfl ?_
    replace h := gIn_some h
    obtain ⟨g4, h⟩ := h
    refine a_ias (k := (c + 17)) (pc := 17) F dX3_giveChain_17 (klC_17 hc) (ksC_17 hc) g4 ?_
    refine a_nmm fun m5 em5 => ?_
    replace h := nm_at em5 h
    clear em5
    refine a_aload_n (pc := 18) F dX3_giveChain_18 0 rfl ?_
    refine a_getr (k := (c + 8)) (r := (c + 17)) (pc := 19) F dX3_giveChain_19 fl_RX3_36 (klC_8 hc) (ksC_8 hc) rfl ?_
    refine a_iload_n (pc := 22) F dX3_giveChain_22 1 rfl ?_
    refine a_iconst (v := 3) (pc := 23) F dX3_giveChain_23 (by decide) ?_
    refine a_imul (pc := 24) F dX3_giveChain_24 ?_
    refine a_iconst (v := 1) (pc := 25) F dX3_giveChain_25 (by decide) ?_
    refine a_iadd (pc := 26) F dX3_giveChain_26 ?_
    refine a_iload_n (pc := 27) F dX3_giveChain_27 3 rfl ?_
    replace h := gIn_some h
    obtain ⟨g6, h⟩ := h
    refine a_ias (k := (c + 17)) (pc := 28) F dX3_giveChain_28 (klC_17 hc) (ksC_17 hc) g6 ?_
    refine a_nmm fun m7 em7 => ?_
    replace h := nm_at em7 h
    clear em7
    refine a_aload_n (pc := 29) F dX3_giveChain_29 0 rfl ?_
    refine a_getr (k := (c + 8)) (r := (c + 17)) (pc := 30) F dX3_giveChain_30 fl_RX3_36 (klC_8 hc) (ksC_8 hc) rfl ?_
    refine a_iload_n (pc := 33) F dX3_giveChain_33 1 rfl ?_
    refine a_iconst (v := 3) (pc := 34) F dX3_giveChain_34 (by decide) ?_
    refine a_imul (pc := 35) F dX3_giveChain_35 ?_
    refine a_iconst (v := 2) (pc := 36) F dX3_giveChain_36 (by decide) ?_
    refine a_iadd (pc := 37) F dX3_giveChain_37 ?_
    refine a_iload (pc := 38) F dX3_giveChain_38 4 rfl ?_
    replace h := gIn_some h
    obtain ⟨g8, h⟩ := h
    refine a_ias (k := (c + 17)) (pc := 40) F dX3_giveChain_40 (klC_17 hc) (ksC_17 hc) g8 ?_
    refine a_nmm fun m9 em9 => ?_
    replace h := nm_at em9 h
    clear em9
    refine a_aload_n (pc := 41) F dX3_giveChain_41 0 rfl ?_
    refine a_getr (k := (c + 8)) (r := (c + 16)) (pc := 42) F dX3_giveChain_42 fl_RX3_33 (klC_8 hc) (ksC_8 hc) rfl ?_
    refine a_iload_n (pc := 45) F dX3_giveChain_45 1 rfl ?_
    refine a_iload_n (pc := 46) F dX3_giveChain_46 2 rfl ?_
    refine a_iload_n (pc := 47) F dX3_giveChain_47 3 rfl ?_
    refine a_iload (pc := 48) F dX3_giveChain_48 4 rfl ?_
    replace h := bnd_some h
    obtain ⟨x11, hc10, h⟩ := h
    refine a_callSN (pc := 50) (As := [.int p2, .int p3, .int p4]) (st := [.int p1, .ref (ga X.G (c + 16))]) F dX3_giveChain_50 (m_X7_maskOf hc10) cn_RX3_61 rfl rfl rfl (Nat.le_of_ble_eq_true rfl) ⟨Nat.le_of_ble_eq_true rfl, Nat.le_of_ble_eq_true rfl⟩ ?_ rfl rfl
    clear hc10
    replace h := gIn_some h
    obtain ⟨g12, h⟩ := h
    refine a_ias (k := (c + 16)) (pc := 53) F dX3_giveChain_53 (klC_16 hc) (ksC_16 hc) g12 ?_
    refine a_nmm fun m13 em13 => ?_
    replace h := nm_at em13 h
    clear em13
    refine a_aload_n (pc := 54) F dX3_giveChain_54 0 rfl ?_
    refine a_getr (k := (c + 8)) (r := (c + 14)) (pc := 55) F dX3_giveChain_55 fl_RX3_27 (klC_8 hc) (ksC_8 hc) rfl ?_
    refine a_iload_n (pc := 58) F dX3_giveChain_58 1 rfl ?_
    refine a_aload_n (pc := 59) F dX3_giveChain_59 0 rfl ?_
    refine a_getr (k := (c + 8)) (r := (c + 16)) (pc := 60) F dX3_giveChain_60 fl_RX3_33 (klC_8 hc) (ksC_8 hc) rfl ?_
    refine a_iload_n (pc := 63) F dX3_giveChain_63 1 rfl ?_
    replace h := gIn_some h
    obtain ⟨g14, h⟩ := h
    refine a_ial (k := (c + 16)) (pc := 64) F dX3_giveChain_64 (klC_16 hc) (ksC_16 hc) g14 ?_
    refine a_nmi fun x15 ex15 => ?_
    replace h := nm_at ex15 h
    clear ex15
    replace h := bnd_some h
    obtain ⟨x17, hc16, h⟩ := h
    refine a_callS (pc := 65) (As := [.int x15]) (st := [.int p1, .ref (ga X.G (c + 14))]) F dX3_giveChain_65 (m_J6_bitCount_0f7a4 hc16) cs_RX3_65 rfl rfl rfl (Nat.le_of_ble_eq_true rfl) ⟨Nat.le_of_ble_eq_true rfl, Nat.le_of_ble_eq_true rfl⟩ ?_ rfl rfl
    clear hc16
    replace h := gIn_some h
    obtain ⟨g18, h⟩ := h
    refine a_ias (k := (c + 14)) (pc := 68) F dX3_giveChain_68 (klC_14 hc) (ksC_14 hc) g18 ?_
    refine a_nmm fun m19 em19 => ?_
    replace h := nm_at em19 h
    clear em19
    cases h
    exact a_vret (pc := 69) F dX3_giveChain_69 rfl
  · replace h := ite_t (Decidable.not_not.mp q3) h
    clear q3
    cases h
    exact a_vret (pc := 8) F dX3_giveChain_8 rfl
def f_X3_enter (c : Nat) (p1 : Int32) (p2 : Int32) (p3 : Int32) (p4 : Int32) (m0 : Mem) : Option (Int32 × Mem) :=
  (if (m0.1 (c + 8) 0) < 30 then gIn (m0.1 (c + 8) 0) 30 <| nm (si m0 (c + 9) (m0.1 (c + 8) 0).toNatClampNeg p1) fun m3 => gIn (m3.1 (c + 8) 0) 30 <| nm (si m3 (c + 10) (m3.1 (c + 8) 0).toNatClampNeg p2) fun m5 => gIn (m5.1 (c + 8) 0) 30 <| nm (si m5 (c + 11) (m5.1 (c + 8) 0).toNatClampNeg p3) fun m7 => gIn (m7.1 (c + 8) 0) 30 <| nm (si m7 (c + 12) (m7.1 (c + 8) 0).toNatClampNeg p4) fun m9 => gIn (m9.1 (c + 8) 0) 30 <| nm (si m9 (c + 13) (m9.1 (c + 8) 0).toNatClampNeg 0) fun m11 => gIn (m11.1 (c + 8) 0) 30 <| nm (si m11 (c + 15) (m11.1 (c + 8) 0).toNatClampNeg 0) fun m13 => nm (si m13 (c + 8) 0 ((m13.1 (c + 8) 0) + 1)) fun m14 => bnd (f_X3_giveChain c ((m14.1 (c + 8) 0) - 1) (-1) (-1) (-1) m14) fun m16 => some ((m16.1 (c + 8) 0) - 1, m16) else some ((-1), m0))
set_option maxRecDepth 100000 in
set_option maxHeartbeats 4000000 in
theorem m_X3_enter {c : Nat} {p1 : Int32} {p2 : Int32} {p3 : Int32} {p4 : Int32} (hc : isC c) {m0 : Mem} {rr : Int32} {mm : Mem} (h : f_X3_enter c p1 p2 p3 p4 m0 = some (rr, mm)) : Con yX3_enter cX3_enter 5 (some Jvm.ClassFile.FieldType.int) 3 66 (fun G => [.ref (ga G (c + 8)), .int p1, .int p2, .int p3, .int p4]) m0 (some (.int rr)) mm := by
  refine con_of (by decide) (fun G => Nat.le_of_ble_eq_true rfl) (fun X F => ?_)
  show WA X 0 0 0 [(0, .ref (ga X.G (c + 8))), (1, .int p1), (2, .int p2), (3, .int p3), (4, .int p4)] [] m0 (EQ X (some (.int rr)) mm)
  rw [f_X3_enter] at h
  refine a_aload_n (pc := 0) F dX3_enter_0 0 rfl ?_
  refine a_geti (k := (c + 8)) (pc := 1) F dX3_enter_1 fl_RX3_39 (klC_8 hc) (ksC_8 hc) rfl ?_
  refine a_bipush (v := 30) (pc := 4) F dX3_enter_4 (by decide) ?_
  refine a_icmp_lt (tgt := 11) (pc := 6) F dX3_enter_6 (by decide) (fun q1 => ?_) (fun q1 => ?_)
  · replace h := ite_t q1 h
    clear q1
    refine a_aload_n (pc := 11) F dX3_enter_11 0 rfl ?_
    refine a_getr (k := (c + 8)) (r := (c + 9)) (pc := 12) F dX3_enter_12 fl_RX3_9 (klC_8 hc) (ksC_8 hc) rfl ?_
    refine a_aload_n (pc := 15) F dX3_enter_15 0 rfl ?_
    refine a_geti (k := (c + 8)) (pc := 16) F dX3_enter_16 fl_RX3_39 (klC_8 hc) (ksC_8 hc) rfl ?_
    refine a_iload_n (pc := 19) F dX3_enter_19 1 rfl ?_
    replace h := gIn_some h
    obtain ⟨g2, h⟩ := h
    refine a_ias (k := (c + 9)) (pc := 20) F dX3_enter_20 (klC_9 hc) (ksC_9 hc) g2 ?_
    refine a_nmm fun m3 em3 => ?_
    replace h := nm_at em3 h
    clear em3
    refine a_aload_n (pc := 21) F dX3_enter_21 0 rfl ?_
    refine a_getr (k := (c + 8)) (r := (c + 10)) (pc := 22) F dX3_enter_22 fl_RX3_15 (klC_8 hc) (ksC_8 hc) rfl ?_
    refine a_aload_n (pc := 25) F dX3_enter_25 0 rfl ?_
    refine a_geti (k := (c + 8)) (pc := 26) F dX3_enter_26 fl_RX3_39 (klC_8 hc) (ksC_8 hc) rfl ?_
    refine a_iload_n (pc := 29) F dX3_enter_29 2 rfl ?_
    replace h := gIn_some h
    obtain ⟨g4, h⟩ := h
    refine a_ias (k := (c + 10)) (pc := 30) F dX3_enter_30 (klC_10 hc) (ksC_10 hc) g4 ?_
    refine a_nmm fun m5 em5 => ?_
    replace h := nm_at em5 h
    clear em5
    refine a_aload_n (pc := 31) F dX3_enter_31 0 rfl ?_
    refine a_getr (k := (c + 8)) (r := (c + 11)) (pc := 32) F dX3_enter_32 fl_RX3_18 (klC_8 hc) (ksC_8 hc) rfl ?_
    refine a_aload_n (pc := 35) F dX3_enter_35 0 rfl ?_
    refine a_geti (k := (c + 8)) (pc := 36) F dX3_enter_36 fl_RX3_39 (klC_8 hc) (ksC_8 hc) rfl ?_
    refine a_iload_n (pc := 39) F dX3_enter_39 3 rfl ?_
    replace h := gIn_some h
    obtain ⟨g6, h⟩ := h
    refine a_ias (k := (c + 11)) (pc := 40) F dX3_enter_40 (klC_11 hc) (ksC_11 hc) g6 ?_
    refine a_nmm fun m7 em7 => ?_
    replace h := nm_at em7 h
    clear em7
    refine a_aload_n (pc := 41) F dX3_enter_41 0 rfl ?_
    refine a_getr (k := (c + 8)) (r := (c + 12)) (pc := 42) F dX3_enter_42 fl_RX3_21 (klC_8 hc) (ksC_8 hc) rfl ?_
    refine a_aload_n (pc := 45) F dX3_enter_45 0 rfl ?_
    refine a_geti (k := (c + 8)) (pc := 46) F dX3_enter_46 fl_RX3_39 (klC_8 hc) (ksC_8 hc) rfl ?_
    refine a_iload (pc := 49) F dX3_enter_49 4 rfl ?_
    replace h := gIn_some h
    obtain ⟨g8, h⟩ := h
    refine a_ias (k := (c + 12)) (pc := 51) F dX3_enter_51 (klC_12 hc) (ksC_12 hc) g8 ?_
    refine a_nmm fun m9 em9 => ?_
    replace h := nm_at em9 h
    clear em9
    refine a_aload_n (pc := 52) F dX3_enter_52 0 rfl ?_
    refine a_getr (k := (c + 8)) (r := (c + 13)) (pc := 53) F dX3_enter_53 fl_RX3_24 (klC_8 hc) (ksC_8 hc) rfl ?_
    refine a_aload_n (pc := 56) F dX3_enter_56 0 rfl ?_
    refine a_geti (k := (c + 8)) (pc := 57) F dX3_enter_57 fl_RX3_39 (klC_8 hc) (ksC_8 hc) rfl ?_
    refine a_iconst (v := 0) (pc := 60) F dX3_enter_60 (by decide) ?_
    replace h := gIn_some h
    obtain ⟨g10, h⟩ := h
    refine a_ias (k := (c + 13)) (pc := 61) F dX3_enter_61 (klC_13 hc) (ksC_13 hc) g10 ?_
    refine a_nmm fun m11 em11 => ?_
    replace h := nm_at em11 h
    clear em11
    refine a_aload_n (pc := 62) F dX3_enter_62 0 rfl ?_
    refine a_getr (k := (c + 8)) (r := (c + 15)) (pc := 63) F dX3_enter_63 fl_RX3_30 (klC_8 hc) (ksC_8 hc) rfl ?_
    refine a_aload_n (pc := 66) F dX3_enter_66 0 rfl ?_
    refine a_geti (k := (c + 8)) (pc := 67) F dX3_enter_67 fl_RX3_39 (klC_8 hc) (ksC_8 hc) rfl ?_
    refine a_iconst (v := 0) (pc := 70) F dX3_enter_70 (by decide) ?_
    replace h := gIn_some h
    obtain ⟨g12, h⟩ := h
    refine a_ias (k := (c + 15)) (pc := 71) F dX3_enter_71 (klC_15 hc) (ksC_15 hc) g12 ?_
    refine a_nmm fun m13 em13 => ?_
    replace h := nm_at em13 h
    clear em13
    refine a_aload_n (pc := 72) F dX3_enter_72 0 rfl ?_
    refine a_dup (pc := 73) F dX3_enter_73 rfl ?_
    refine a_geti (k := (c + 8)) (pc := 74) F dX3_enter_74 fl_RX3_39 (klC_8 hc) (ksC_8 hc) rfl ?_
    refine a_iconst (v := 1) (pc := 77) F dX3_enter_77 (by decide) ?_
    refine a_iadd (pc := 78) F dX3_enter_78 ?_
    refine a_puti (k := (c + 8)) (pc := 79) F dX3_enter_79 fp_RX3_39 (klC_8 hc) (ksC_8 hc) rfl ?_
    refine a_nmm fun m14 em14 => ?_
    replace h := nm_at em14 h
    clear em14
    refine a_aload_n (pc := 82) F dX3_enter_82 0 rfl ?_
    refine a_aload_n (pc := 83) F dX3_enter_83 0 rfl ?_
    refine a_geti (k := (c + 8)) (pc := 84) F dX3_enter_84 fl_RX3_39 (klC_8 hc) (ksC_8 hc) rfl ?_
    refine a_iconst (v := 1) (pc := 87) F dX3_enter_87 (by decide) ?_
    refine a_isub (pc := 88) F dX3_enter_88 ?_
    refine a_iconst (v := (-1)) (pc := 89) F dX3_enter_89 (by decide) ?_
    refine a_iconst (v := (-1)) (pc := 90) F dX3_enter_90 (by decide) ?_
    refine a_iconst (v := (-1)) (pc := 91) F dX3_enter_91 (by decide) ?_
    replace h := bnd_some h
    obtain ⟨m16, hc15, h⟩ := h
    refine a_callV (pc := 92) (k := (c + 8)) (As := [.int ((m14.1 (c + 8) 0) - 1), .int (-1), .int (-1), .int (-1)]) (st := []) F dX3_enter_92 (m_X3_giveChain hc hc15) cv_RX3_49 (klC_8 hc) (ksC_8 hc) ⟨_, _, rfl⟩ rfl rfl rfl (Nat.le_of_ble_eq_true rfl) ⟨Nat.le_of_ble_eq_true rfl, Nat.le_of_ble_eq_true rfl⟩ ?_ rfl rfl
    clear hc15
    refine a_aload_n (pc := 95) F dX3_enter_95 0 rfl ?_
    refine a_geti (k := (c + 8)) (pc := 96) F dX3_enter_96 fl_RX3_39 (klC_8 hc) (ksC_8 hc) rfl ?_
    refine a_iconst (v := 1) (pc := 99) F dX3_enter_99 (by decide) ?_
    refine a_isub (pc := 100) F dX3_enter_100 ?_
    cases h
    exact a_iret (pc := 101) F dX3_enter_101 ⟨_, rfl, rfl⟩
  · replace h := ite_f q1 h
    clear q1
    refine a_iconst (v := (-1)) (pc := 9) F dX3_enter_9 (by decide) ?_
    cases h
    exact a_iret (pc := 10) F dX3_enter_10 ⟨_, rfl, rfl⟩
def f_X7_addHearing (p1 : Int32) (p2 : Int32) (p3 : Int32) (p4 : Int32) (m0 : Mem) : Option (Int32 × Mem) :=
  bnd (f_X7_within p1 0 2 m0) fun x2 => jn ((if x2 = 0 then some (.inl m0) else bnd (f_X7_within p2 1 9 m0) fun x6 => (if x6 = 0 then some (.inl m0) else bnd (f_X7_within p3 1 2000 m0) fun x9 => (if x9 = 0 then some (.inl m0) else bnd (f_X7_within p4 10 240 m0) fun x12 => (if x12 = 0 then some (.inl m0) else (if (m0.1 (1 + 8) 0) < 30 then bnd (f_X4_save 1 m0) fun m16 => bnd2 (f_X3_enter 1 p1 p2 ((m16.1 1 3) + p3) p4 m16) fun x18 m19 => some (.inr (x18, m19)) else none)))))) (fun (m20 : Mem) => none)
set_option maxRecDepth 100000 in
set_option maxHeartbeats 4000000 in
theorem m_X7_addHearing {p1 : Int32} {p2 : Int32} {p3 : Int32} {p4 : Int32} {m0 : Mem} {rr : Int32} {mm : Mem} (h : f_X7_addHearing p1 p2 p3 p4 m0 = some (rr, mm)) : Con yX7_addHearing cX7_addHearing 5 (some Jvm.ClassFile.FieldType.int) 4 104 (fun G => [.ref (ga G 0), .int p1, .int p2, .int p3, .int p4]) m0 (some (.int rr)) mm := by
  refine con_of (by decide) (fun G => Nat.le_of_ble_eq_true rfl) (fun X F => ?_)
  show WA X 0 0 0 [(0, .ref (ga X.G 0)), (1, .int p1), (2, .int p2), (3, .int p3), (4, .int p4)] [] m0 (EQ X (some (.int rr)) mm)
  rw [f_X7_addHearing] at h
  refine a_iload_n (pc := 0) F dX7_addHearing_0 1 rfl ?_
  refine a_iconst (v := 0) (pc := 1) F dX7_addHearing_1 (by decide) ?_
  refine a_iconst (v := 2) (pc := 2) F dX7_addHearing_2 (by decide) ?_
  replace h := bnd_some h
  obtain ⟨x2, hc1, h⟩ := h
  refine a_callS (pc := 3) (As := [.int p1, .int 0, .int 2]) (st := []) F dX7_addHearing_3 (m_X7_within hc1) cs_RX7_47 rfl rfl rfl (Nat.le_of_ble_eq_true rfl) ⟨Nat.le_of_ble_eq_true rfl, Nat.le_of_ble_eq_true rfl⟩ ?_ rfl rfl
  clear hc1
  replace h := jn_some h
  obtain ⟨o3, hR3, hK3, hB3⟩ := h
  have hJ3 : ∀ (m20 : Mem), o3 = .inl m20 → WA X 0 0 43 [] [] m20 (EQ X (some (.int rr)) mm) := by
    intro m20 eo
    have h := hK3 _ eo
    clear hK3 eo
    cases h
  clear hK3
  have h := hR3
  clear hR3
  refine a_if_eq (tgt := 43) (pc := 6) F dX7_addHearing_6 (by decide) (fun q4 => ?_) (fun q4 => ?_)
  · replace h := ite_t q4 h
    clear q4
    refine a_lv F [] rfl ?_
    exact hJ3 _ (Option.some.inj h).symm
  · replace h := ite_f q4 h
    clear q4
    refine a_iload_n (pc := 9) F dX7_addHearing_9 2 rfl ?_
    refine a_iconst (v := 1) (pc := 10) F dX7_addHearing_10 (by decide) ?_
    refine a_bipush (v := 9) (pc := 11) F dX7_addHearing_11 (by decide) ?_
    replace h := bnd_some h
    obtain ⟨x6, hc5, h⟩ := h
    refine a_callS (pc := 13) (As := [.int p2, .int 1, .int 9]) (st := []) F dX7_addHearing_13 (m_X7_within hc5) cs_RX7_47 rfl rfl rfl (Nat.le_of_ble_eq_true rfl) ⟨Nat.le_of_ble_eq_true rfl, Nat.le_of_ble_eq_true rfl⟩ ?_ rfl rfl
    clear hc5
    refine a_if_eq (tgt := 43) (pc := 16) F dX7_addHearing_16 (by decide) (fun q7 => ?_) (fun q7 => ?_)
    · replace h := ite_t q7 h
      clear q7
      refine a_lv F [] rfl ?_
      exact hJ3 _ (Option.some.inj h).symm
    · replace h := ite_f q7 h
      clear q7
      refine a_iload_n (pc := 19) F dX7_addHearing_19 3 rfl ?_
      refine a_iconst (v := 1) (pc := 20) F dX7_addHearing_20 (by decide) ?_
      refine a_sipush (v := 2000) (pc := 21) F dX7_addHearing_21 (by decide) ?_
      replace h := bnd_some h
      obtain ⟨x9, hc8, h⟩ := h
      refine a_callS (pc := 24) (As := [.int p3, .int 1, .int 2000]) (st := []) F dX7_addHearing_24 (m_X7_within hc8) cs_RX7_47 rfl rfl rfl (Nat.le_of_ble_eq_true rfl) ⟨Nat.le_of_ble_eq_true rfl, Nat.le_of_ble_eq_true rfl⟩ ?_ rfl rfl
      clear hc8
      refine a_if_eq (tgt := 43) (pc := 27) F dX7_addHearing_27 (by decide) (fun q10 => ?_) (fun q10 => ?_)
      · replace h := ite_t q10 h
        clear q10
        refine a_lv F [] rfl ?_
        exact hJ3 _ (Option.some.inj h).symm
      · replace h := ite_f q10 h
        clear q10
        refine a_iload (pc := 30) F dX7_addHearing_30 4 rfl ?_
        refine a_bipush (v := 10) (pc := 32) F dX7_addHearing_32 (by decide) ?_
        refine a_sipush (v := 240) (pc := 34) F dX7_addHearing_34 (by decide) ?_
        replace h := bnd_some h
        obtain ⟨x12, hc11, h⟩ := h
        refine a_callS (pc := 37) (As := [.int p4, .int 10, .int 240]) (st := []) F dX7_addHearing_37 (m_X7_within hc11) cs_RX7_47 rfl rfl rfl (Nat.le_of_ble_eq_true rfl) ⟨Nat.le_of_ble_eq_true rfl, Nat.le_of_ble_eq_true rfl⟩ ?_ rfl rfl
        clear hc11
        refine a_if_ne (tgt := 53) (pc := 40) F dX7_addHearing_40 (by decide) (fun q13 => ?_) (fun q13 => ?_)
        · replace h := ite_f q13 h
          clear q13
          refine a_aload_n (pc := 53) F dX7_addHearing_53 0 rfl ?_
          refine a_getr (k := 0) (r := 1) (pc := 54) F dX7_addHearing_54 fl_RX7_10 kl_0 ks_0 rfl ?_
          refine a_getr (k := 1) (r := (1 + 8)) (pc := 57) F dX7_addHearing_57 fl_RX7_89 (klC_0 isC_1) (ksC_0 isC_1) rfl ?_
          refine a_geti (k := (1 + 8)) (pc := 60) F dX7_addHearing_60 fl_RX7_93 (klC_8 isC_1) (ksC_8 isC_1) rfl ?_
          refine a_bipush (v := 30) (pc := 63) F dX7_addHearing_63 (by decide) ?_
          refine a_icmp_lt (tgt := 78) (pc := 65) F dX7_addHearing_65 (by decide) (fun q14 => ?_) (fun q14 => ?_)
          · replace h := ite_t q14 h
            clear q14
            refine a_aload_n (pc := 78) F dX7_addHearing_78 0 rfl ?_
            refine a_getr (k := 0) (r := 39) (pc := 79) F dX7_addHearing_79 fl_RX7_22 kl_0 ks_0 rfl ?_
            refine a_aload_n (pc := 82) F dX7_addHearing_82 0 rfl ?_
            refine a_getr (k := 0) (r := 1) (pc := 83) F dX7_addHearing_83 fl_RX7_10 kl_0 ks_0 rfl ?_
            replace h := bnd_some h
            obtain ⟨m16, hc15, h⟩ := h
            refine a_callV (pc := 86) (k := 39) (As := [.ref (ga X.G 1)]) (st := []) F dX7_addHearing_86 (m_X4_save isC_1 hc15) cv_RX7_79 kl_39 ks_39 ⟨_, _, rfl⟩ rfl rfl rfl (Nat.le_of_ble_eq_true rfl) ⟨Nat.le_of_ble_eq_true rfl, Nat.le_of_ble_eq_true rfl⟩ ?_ rfl rfl
            clear hc15
            refine a_aload_n (pc := 89) F dX7_addHearing_89 0 rfl ?_
            refine a_getr (k := 0) (r := 1) (pc := 90) F dX7_addHearing_90 fl_RX7_10 kl_0 ks_0 rfl ?_
            refine a_getr (k := 1) (r := (1 + 8)) (pc := 93) F dX7_addHearing_93 fl_RX7_89 (klC_0 isC_1) (ksC_0 isC_1) rfl ?_
            refine a_iload_n (pc := 96) F dX7_addHearing_96 1 rfl ?_
            refine a_iload_n (pc := 97) F dX7_addHearing_97 2 rfl ?_
            refine a_aload_n (pc := 98) F dX7_addHearing_98 0 rfl ?_
            refine a_getr (k := 0) (r := 1) (pc := 99) F dX7_addHearing_99 fl_RX7_10 kl_0 ks_0 rfl ?_
            refine a_geti (k := 1) (pc := 102) F dX7_addHearing_102 fl_RX7_98 (klC_0 isC_1) (ksC_0 isC_1) rfl ?_
            refine a_iload_n (pc := 105) F dX7_addHearing_105 3 rfl ?_
            refine a_iadd (pc := 106) F dX7_addHearing_106 ?_
            refine a_iload (pc := 107) F dX7_addHearing_107 4 rfl ?_
            replace h := bnd2_some h
            obtain ⟨x18, m19, hc17, h⟩ := h
            refine a_callV (pc := 109) (k := (1 + 8)) (As := [.int p1, .int p2, .int ((m16.1 1 3) + p3), .int p4]) (st := []) F dX7_addHearing_109 (m_X3_enter isC_1 hc17) cv_RX7_101 (klC_8 isC_1) (ksC_8 isC_1) ⟨_, _, rfl⟩ rfl rfl rfl (Nat.le_of_ble_eq_true rfl) ⟨Nat.le_of_ble_eq_true rfl, Nat.le_of_ble_eq_true rfl⟩ ?_ rfl rfl
            clear hc17
            replace h := hB3 _ (Option.some.inj h).symm
            cases h
            exact a_iret (pc := 112) F dX7_addHearing_112 ⟨_, rfl, rfl⟩
          · replace h := ite_f q14 h
            clear q14
            cases h
        · replace h := ite_t (Decidable.not_not.mp q13) h
          clear q13
          refine a_lv F [] rfl ?_
          exact hJ3 _ (Option.some.inj h).symm
def f_X6_has (c : Nat) (p1 : Int32) (m0 : Mem) : Option Int32 :=
  (if p1 < 0 then some 0 else (if (m0.1 (c + 1) 0) ≤ p1 then some 0 else some 1))
set_option maxRecDepth 100000 in
set_option maxHeartbeats 4000000 in
theorem m_X6_has {c : Nat} {p1 : Int32} (hc : isC c) {m0 : Mem} {rr : Int32} (h : f_X6_has c p1 m0 = some rr) : Con yX6_has cX6_has 2 (some Jvm.ClassFile.FieldType.boolean) 0 0 (fun G => [.ref (ga G (c + 1)), .int p1]) m0 (some (.int rr)) m0 := by
  refine con_of (by decide) (fun G => Nat.le_of_ble_eq_true rfl) (fun X F => ?_)
  show WA X 0 0 0 [(0, .ref (ga X.G (c + 1))), (1, .int p1)] [] m0 (EQ X (some (.int rr)) m0)
  rw [f_X6_has] at h
  refine a_iload_n (pc := 0) F dX6_has_0 1 rfl ?_
  refine a_if_lt (tgt := 16) (pc := 1) F dX6_has_1 (by decide) (fun q1 => ?_) (fun q1 => ?_)
  · replace h := ite_t q1 h
    clear q1
    refine a_iconst (v := 0) (pc := 16) F dX6_has_16 (by decide) ?_
    cases h
    exact a_iret (pc := 17) F dX6_has_17 ⟨_, rfl, rfl⟩
  · replace h := ite_f q1 h
    clear q1
    refine a_iload_n (pc := 4) F dX6_has_4 1 rfl ?_
    refine a_aload_n (pc := 5) F dX6_has_5 0 rfl ?_
    refine a_geti (k := (c + 1)) (pc := 6) F dX6_has_6 fl_RX6_30 (klC_1 hc) (ksC_1 hc) rfl ?_
    refine a_icmp_ge (tgt := 16) (pc := 9) F dX6_has_9 (by decide) (fun q2 => ?_) (fun q2 => ?_)
    · replace h := ite_t q2 h
      clear q2
      refine a_iconst (v := 0) (pc := 16) F dX6_has_16 (by decide) ?_
      cases h
      exact a_iret (pc := 17) F dX6_has_17 ⟨_, rfl, rfl⟩
    · replace h := ite_f q2 h
      clear q2
      refine a_iconst (v := 1) (pc := 12) F dX6_has_12 (by decide) ?_
      refine a_goto (tgt := 17) (pc := 13) F dX6_has_13 (by decide) ?_
      cases h
      exact a_iret (pc := 17) F dX6_has_17 ⟨_, rfl, rfl⟩
def f_X7_certify (p1 : Int32) (p2 : Int32) (m0 : Mem) : Option (Int32 × Mem) :=
  bnd (f_X6_has 1 p1 m0) fun x2 => (if x2 = 0 then none else bnd (f_X7_within p2 0 7 m0) fun x5 => (if x5 = 0 then none else bnd (f_X4_save 1 m0) fun m8 => gIn p1 10 <| nm (m8.1 (1 + 3) p1.toNatClampNeg) fun x10 => gIn p1 10 <| nm (si m8 (1 + 3) p1.toNatClampNeg p2) fun m12 => some (x10, m12)))
set_option maxRecDepth 100000 in
set_option maxHeartbeats 4000000 in
theorem m_X7_certify {p1 : Int32} {p2 : Int32} {m0 : Mem} {rr : Int32} {mm : Mem} (h : f_X7_certify p1 p2 m0 = some (rr, mm)) : Con yX7_certify cX7_certify 4 (some Jvm.ClassFile.FieldType.int) 4 104 (fun G => [.ref (ga G 0), .int p1, .int p2]) m0 (some (.int rr)) mm := by
  refine con_of (by decide) (fun G => Nat.le_of_ble_eq_true rfl) (fun X F => ?_)
  show WA X 0 0 0 [(0, .ref (ga X.G 0)), (1, .int p1), (2, .int p2)] [] m0 (EQ X (some (.int rr)) mm)
  rw [f_X7_certify] at h
  refine a_aload_n (pc := 0) F dX7_certify_0 0 rfl ?_
  refine a_getr (k := 0) (r := 1) (pc := 1) F dX7_certify_1 fl_RX7_10 kl_0 ks_0 rfl ?_
  refine a_getr (k := 1) (r := (1 + 1)) (pc := 4) F dX7_certify_4 fl_RX7_64 (klC_0 isC_1) (ksC_0 isC_1) rfl ?_
  refine a_iload_n (pc := 7) F dX7_certify_7 1 rfl ?_
  replace h := bnd_some h
  obtain ⟨x2, hc1, h⟩ := h
  refine a_callV (pc := 8) (k := (1 + 1)) (As := [.int p1]) (st := []) F dX7_certify_8 (m_X6_has isC_1 hc1) cv_RX7_105 (klC_1 isC_1) (ksC_1 isC_1) ⟨_, _, rfl⟩ rfl rfl rfl (Nat.le_of_ble_eq_true rfl) ⟨Nat.le_of_ble_eq_true rfl, Nat.le_of_ble_eq_true rfl⟩ ?_ rfl rfl
  clear hc1
  refine a_if_ne (tgt := 24) (pc := 11) F dX7_certify_11 (by decide) (fun q3 => ?_) (fun q3 => ?_)
  · replace h := ite_f q3 h
    clear q3
    refine a_iload_n (pc := 24) F dX7_certify_24 2 rfl ?_
    refine a_iconst (v := 0) (pc := 25) F dX7_certify_25 (by decide) ?_
    refine a_bipush (v := 7) (pc := 26) F dX7_certify_26 (by decide) ?_
    replace h := bnd_some h
    obtain ⟨x5, hc4, h⟩ := h
    refine a_callS (pc := 28) (As := [.int p2, .int 0, .int 7]) (st := []) F dX7_certify_28 (m_X7_within hc4) cs_RX7_47 rfl rfl rfl (Nat.le_of_ble_eq_true rfl) ⟨Nat.le_of_ble_eq_true rfl, Nat.le_of_ble_eq_true rfl⟩ ?_ rfl rfl
    clear hc4
    refine a_if_ne (tgt := 44) (pc := 31) F dX7_certify_31 (by decide) (fun q6 => ?_) (fun q6 => ?_)
    · replace h := ite_f q6 h
      clear q6
      refine a_aload_n (pc := 44) F dX7_certify_44 0 rfl ?_
      refine a_getr (k := 0) (r := 39) (pc := 45) F dX7_certify_45 fl_RX7_22 kl_0 ks_0 rfl ?_
      refine a_aload_n (pc := 48) F dX7_certify_48 0 rfl ?_
      refine a_getr (k := 0) (r := 1) (pc := 49) F dX7_certify_49 fl_RX7_10 kl_0 ks_0 rfl ?_
      replace h := bnd_some h
      obtain ⟨m8, hc7, h⟩ := h
      refine a_callV (pc := 52) (k := 39) (As := [.ref (ga X.G 1)]) (st := []) F dX7_certify_52 (m_X4_save isC_1 hc7) cv_RX7_79 kl_39 ks_39 ⟨_, _, rfl⟩ rfl rfl rfl (Nat.le_of_ble_eq_true rfl) ⟨Nat.le_of_ble_eq_true rfl, Nat.le_of_ble_eq_true rfl⟩ ?_ rfl rfl
      clear hc7
      refine a_aload_n (pc := 55) F dX7_certify_55 0 rfl ?_
      refine a_getr (k := 0) (r := 1) (pc := 56) F dX7_certify_56 fl_RX7_10 kl_0 ks_0 rfl ?_
      refine a_getr (k := 1) (r := (1 + 1)) (pc := 59) F dX7_certify_59 fl_RX7_64 (klC_0 isC_1) (ksC_0 isC_1) rfl ?_
      refine a_getr (k := (1 + 1)) (r := (1 + 3)) (pc := 62) F dX7_certify_62 fl_RX7_116 (klC_1 isC_1) (ksC_1 isC_1) rfl ?_
      refine a_iload_n (pc := 65) F dX7_certify_65 1 rfl ?_
      replace h := gIn_some h
      obtain ⟨g9, h⟩ := h
      refine a_ial (k := (1 + 3)) (pc := 66) F dX7_certify_66 (klC_3 isC_1) (ksC_3 isC_1) g9 ?_
      refine a_nmi fun x10 ex10 => ?_
      replace h := nm_at ex10 h
      clear ex10
      refine a_istore_n (lv' := [(3, .int x10), (0, .ref (ga X.G 0)), (1, .int p1), (2, .int p2)]) (pc := 67) F dX7_certify_67 (by decide) rfl ?_
      refine a_aload_n (pc := 68) F dX7_certify_68 1 rfl ?_
      refine a_getr (k := 0) (r := 1) (pc := 69) F dX7_certify_69 fl_RX7_10 kl_0 ks_0 rfl ?_
      refine a_getr (k := 1) (r := (1 + 1)) (pc := 72) F dX7_certify_72 fl_RX7_64 (klC_0 isC_1) (ksC_0 isC_1) rfl ?_
      refine a_getr (k := (1 + 1)) (r := (1 + 3)) (pc := 75) F dX7_certify_75 fl_RX7_116 (klC_1 isC_1) (ksC_1 isC_1) rfl ?_
      refine a_iload_n (pc := 78) F dX7_certify_78 2 rfl ?_
      refine a_iload_n (pc := 79) F dX7_certify_79 3 rfl ?_
      replace h := gIn_some h
      obtain ⟨g11, h⟩ := h
      refine a_ias (k := (1 + 3)) (pc := 80) F dX7_certify_80 (klC_3 isC_1) (ksC_3 isC_1) g11 ?_
      refine a_nmm fun m12 em12 => ?_
      replace h := nm_at em12 h
      clear em12
      refine a_iload_n (pc := 81) F dX7_certify_81 0 rfl ?_
      cases h
      exact a_iret (pc := 82) F dX7_certify_82 ⟨_, rfl, rfl⟩
    · replace h := ite_t (Decidable.not_not.mp q6) h
      clear q6
      cases h
  · replace h := ite_t (Decidable.not_not.mp q3) h
    clear q3
    cases h
def f_X7_isSetting (p1 : Int32) (m0 : Mem) : Option Int32 :=
  (if p1 < 0 then some 0 else (if 7 ≤ p1 then some 0 else some 1))
set_option maxRecDepth 100000 in
set_option maxHeartbeats 4000000 in
theorem m_X7_isSetting {p1 : Int32} {m0 : Mem} {rr : Int32} (h : f_X7_isSetting p1 m0 = some rr) : Con yX7_isSetting cX7_isSetting 1 (some Jvm.ClassFile.FieldType.boolean) 0 0 (fun G => [.int p1]) m0 (some (.int rr)) m0 := by
  refine con_of (by decide) (fun G => Nat.le_of_ble_eq_true rfl) (fun X F => ?_)
  show WA X 0 0 0 [(0, .int p1)] [] m0 (EQ X (some (.int rr)) m0)
  rw [f_X7_isSetting] at h
  refine a_iload_n (pc := 0) F dX7_isSetting_0 0 rfl ?_
  refine a_if_lt (tgt := 16) (pc := 1) F dX7_isSetting_1 (by decide) (fun q1 => ?_) (fun q1 => ?_)
  · replace h := ite_t q1 h
    clear q1
    refine a_iconst (v := 0) (pc := 16) F dX7_isSetting_16 (by decide) ?_
    cases h
    exact a_iret (pc := 17) F dX7_isSetting_17 ⟨_, rfl, rfl⟩
  · replace h := ite_f q1 h
    clear q1
    refine a_iload_n (pc := 4) F dX7_isSetting_4 0 rfl ?_
    refine a_gets1 (pc := 5) F dX7_isSetting_5 cw_RX7_323 ?_
    refine a_len1 (pc := 8) F dX7_isSetting_8 ?_
    refine a_icmp_ge (tgt := 16) (pc := 9) F dX7_isSetting_9 (by decide) (fun q2 => ?_) (fun q2 => ?_)
    · replace h := ite_t q2 h
      clear q2
      refine a_iconst (v := 0) (pc := 16) F dX7_isSetting_16 (by decide) ?_
      cases h
      exact a_iret (pc := 17) F dX7_isSetting_17 ⟨_, rfl, rfl⟩
    · replace h := ite_f q2 h
      clear q2
      refine a_iconst (v := 1) (pc := 12) F dX7_isSetting_12 (by decide) ?_
      refine a_goto (tgt := 17) (pc := 13) F dX7_isSetting_13 (by decide) ?_
      cases h
      exact a_iret (pc := 17) F dX7_isSetting_17 ⟨_, rfl, rfl⟩
def f_X7_set (p1 : Int32) (p2 : Int32) (m0 : Mem) : Option (Int32 × Mem) :=
  bnd (f_X7_isSetting p1 m0) fun x2 => (if x2 = 0 then none else gIn p1 7 <| bnd (f_X7_within p2 0 (fs2 p1.toNatClampNeg) m0) fun x6 => (if x6 = 0 then none else bnd (f_X4_save 1 m0) fun m9 => gIn p1 7 <| nm (m9.1 (1 + 18) p1.toNatClampNeg) fun x11 => gIn p1 7 <| nm (si m9 (1 + 18) p1.toNatClampNeg p2) fun m13 => some (x11, m13)))
set_option maxRecDepth 100000 in
set_option maxHeartbeats 4000000 in
theorem m_X7_set {p1 : Int32} {p2 : Int32} {m0 : Mem} {rr : Int32} {mm : Mem} (h : f_X7_set p1 p2 m0 = some (rr, mm)) : Con yX7_set cX7_set 4 (some Jvm.ClassFile.FieldType.int) 4 104 (fun G => [.ref (ga G 0), .int p1, .int p2]) m0 (some (.int rr)) mm := by
  refine con_of (by decide) (fun G => Nat.le_of_ble_eq_true rfl) (fun X F => ?_)
  show WA X 0 0 0 [(0, .ref (ga X.G 0)), (1, .int p1), (2, .int p2)] [] m0 (EQ X (some (.int rr)) mm)
  rw [f_X7_set] at h
  refine a_iload_n (pc := 0) F dX7_set_0 1 rfl ?_
  replace h := bnd_some h
  obtain ⟨x2, hc1, h⟩ := h
  refine a_callS (pc := 1) (As := [.int p1]) (st := []) F dX7_set_1 (m_X7_isSetting hc1) cs_RX7_120 rfl rfl rfl (Nat.le_of_ble_eq_true rfl) ⟨Nat.le_of_ble_eq_true rfl, Nat.le_of_ble_eq_true rfl⟩ ?_ rfl rfl
  clear hc1
  refine a_if_ne (tgt := 17) (pc := 4) F dX7_set_4 (by decide) (fun q3 => ?_) (fun q3 => ?_)
  · replace h := ite_f q3 h
    clear q3
    refine a_iload_n (pc := 17) F dX7_set_17 2 rfl ?_
    refine a_iconst (v := 0) (pc := 18) F dX7_set_18 (by decide) ?_
    refine a_gets2 (pc := 19) F dX7_set_19 cw_RX7_125 ?_
    refine a_iload_n (pc := 22) F dX7_set_22 1 rfl ?_
    replace h := gIn_some h
    obtain ⟨g4, h⟩ := h
    refine a_ial2 (pc := 23) F dX7_set_23 g4 ?_
    replace h := bnd_some h
    obtain ⟨x6, hc5, h⟩ := h
    refine a_callS (pc := 24) (As := [.int p2, .int 0, .int (fs2 p1.toNatClampNeg)]) (st := []) F dX7_set_24 (m_X7_within hc5) cs_RX7_47 rfl rfl rfl (Nat.le_of_ble_eq_true rfl) ⟨Nat.le_of_ble_eq_true rfl, Nat.le_of_ble_eq_true rfl⟩ ?_ rfl rfl
    clear hc5
    refine a_if_ne (tgt := 40) (pc := 27) F dX7_set_27 (by decide) (fun q7 => ?_) (fun q7 => ?_)
    · replace h := ite_f q7 h
      clear q7
      refine a_aload_n (pc := 40) F dX7_set_40 0 rfl ?_
      refine a_getr (k := 0) (r := 39) (pc := 41) F dX7_set_41 fl_RX7_22 kl_0 ks_0 rfl ?_
      refine a_aload_n (pc := 44) F dX7_set_44 0 rfl ?_
      refine a_getr (k := 0) (r := 1) (pc := 45) F dX7_set_45 fl_RX7_10 kl_0 ks_0 rfl ?_
      replace h := bnd_some h
      obtain ⟨m9, hc8, h⟩ := h
      refine a_callV (pc := 48) (k := 39) (As := [.ref (ga X.G 1)]) (st := []) F dX7_set_48 (m_X4_save isC_1 hc8) cv_RX7_79 kl_39 ks_39 ⟨_, _, rfl⟩ rfl rfl rfl (Nat.le_of_ble_eq_true rfl) ⟨Nat.le_of_ble_eq_true rfl, Nat.le_of_ble_eq_true rfl⟩ ?_ rfl rfl
      clear hc8
      refine a_aload_n (pc := 51) F dX7_set_51 0 rfl ?_
      refine a_getr (k := 0) (r := 1) (pc := 52) F dX7_set_52 fl_RX7_10 kl_0 ks_0 rfl ?_
      refine a_getr (k := 1) (r := (1 + 18)) (pc := 55) F dX7_set_55 fl_RX7_130 (klC_0 isC_1) (ksC_0 isC_1) rfl ?_
      refine a_iload_n (pc := 58) F dX7_set_58 1 rfl ?_
      replace h := gIn_some h
      obtain ⟨g10, h⟩ := h
      refine a_ial (k := (1 + 18)) (pc := 59) F dX7_set_59 (klC_18 isC_1) (ksC_18 isC_1) g10 ?_
      refine a_nmi fun x11 ex11 => ?_
      replace h := nm_at ex11 h
      clear ex11
      refine a_istore_n (lv' := [(3, .int x11), (0, .ref (ga X.G 0)), (1, .int p1), (2, .int p2)]) (pc := 60) F dX7_set_60 (by decide) rfl ?_
      refine a_aload_n (pc := 61) F dX7_set_61 1 rfl ?_
      refine a_getr (k := 0) (r := 1) (pc := 62) F dX7_set_62 fl_RX7_10 kl_0 ks_0 rfl ?_
      refine a_getr (k := 1) (r := (1 + 18)) (pc := 65) F dX7_set_65 fl_RX7_130 (klC_0 isC_1) (ksC_0 isC_1) rfl ?_
      refine a_iload_n (pc := 68) F dX7_set_68 2 rfl ?_
      refine a_iload_n (pc := 69) F dX7_set_69 3 rfl ?_
      replace h := gIn_some h
      obtain ⟨g12, h⟩ := h
      refine a_ias (k := (1 + 18)) (pc := 70) F dX7_set_70 (klC_18 isC_1) (ksC_18 isC_1) g12 ?_
      refine a_nmm fun m13 em13 => ?_
      replace h := nm_at em13 h
      clear em13
      refine a_iload_n (pc := 71) F dX7_set_71 0 rfl ?_
      cases h
      exact a_iret (pc := 72) F dX7_set_72 ⟨_, rfl, rfl⟩
    · replace h := ite_t (Decidable.not_not.mp q7) h
      clear q7
      cases h
  · replace h := ite_t (Decidable.not_not.mp q3) h
    clear q3
    cases h
def f_X7_nameInterpreters (p1 : Int32) (p2 : Int32) (p3 : Int32) (m0 : Mem) : Option Int32 :=
  bnd (f_X6_has 1 p1 m0) fun x2 => (if x2 = 0 then some 0 else (if p2 = (-1) then (if p3 = (-1) then some 1 else bnd (f_X6_has 1 p3 m0) fun x7 => (if x7 = 0 then some 0 else some 1)) else bnd (f_X6_has 1 p2 m0) fun x10 => (if x10 = 0 then some 0 else (if p3 = (-1) then some 1 else bnd (f_X6_has 1 p3 m0) fun x14 => (if x14 = 0 then some 0 else some 1)))))
set_option maxRecDepth 100000 in
set_option maxHeartbeats 4000000 in
theorem m_X7_nameInterpreters {p1 : Int32} {p2 : Int32} {p3 : Int32} {m0 : Mem} {rr : Int32} (h : f_X7_nameInterpreters p1 p2 p3 m0 = some rr) : Con yX7_nameInterpreters cX7_nameInterpreters 4 (some Jvm.ClassFile.FieldType.boolean) 1 21 (fun G => [.ref (ga G 0), .int p1, .int p2, .int p3]) m0 (some (.int rr)) m0 := by
  refine con_of (by decide) (fun G => Nat.le_of_ble_eq_true rfl) (fun X F => ?_)
  show WA X 0 0 0 [(0, .ref (ga X.G 0)), (1, .int p1), (2, .int p2), (3, .int p3)] [] m0 (EQ X (some (.int rr)) m0)
  rw [f_X7_nameInterpreters] at h
  refine a_aload_n (pc := 0) F dX7_nameInterpreters_0 0 rfl ?_
  refine a_getr (k := 0) (r := 1) (pc := 1) F dX7_nameInterpreters_1 fl_RX7_10 kl_0 ks_0 rfl ?_
  refine a_getr (k := 1) (r := (1 + 1)) (pc := 4) F dX7_nameInterpreters_4 fl_RX7_64 (klC_0 isC_1) (ksC_0 isC_1) rfl ?_
  refine a_iload_n (pc := 7) F dX7_nameInterpreters_7 1 rfl ?_
  replace h := bnd_some h
  obtain ⟨x2, hc1, h⟩ := h
  refine a_callV (pc := 8) (k := (1 + 1)) (As := [.int p1]) (st := []) F dX7_nameInterpreters_8 (m_X6_has isC_1 hc1) cv_RX7_105 (klC_1 isC_1) (ksC_1 isC_1) ⟨_, _, rfl⟩ rfl rfl rfl (Nat.le_of_ble_eq_true rfl) ⟨Nat.le_of_ble_eq_true rfl, Nat.le_of_ble_eq_true rfl⟩ ?_ rfl rfl
  clear hc1
  refine a_if_eq (tgt := 56) (pc := 11) F dX7_nameInterpreters_11 (by decide) (fun q3 => ?_) (fun q3 => ?_)
  · replace h := ite_t q3 h
    clear q3
    refine a_iconst (v := 0) (pc := 56) F dX7_nameInterpreters_56 (by decide) ?_
    cases h
    exact a_iret (pc := 57) F dX7_nameInterpreters_57 ⟨_, rfl, rfl⟩
  · replace h := ite_f q3 h
    clear q3
    refine a_iload_n (pc := 14) F dX7_nameInterpreters_14 2 rfl ?_
    refine a_iconst (v := (-1)) (pc := 15) F dX7_nameInterpreters_15 (by decide) ?_
    refine a_icmp_eq (tgt := 33) (pc := 16) F dX7_nameInterpreters_16 (by decide) (fun q4 => ?_) (fun q4 => ?_)
    · replace h := ite_t q4 h
      clear q4
      refine a_iload_n (pc := 33) F dX7_nameInterpreters_33 3 rfl ?_
      refine a_iconst (v := (-1)) (pc := 34) F dX7_nameInterpreters_34 (by decide) ?_
      refine a_icmp_eq (tgt := 52) (pc := 35) F dX7_nameInterpreters_35 (by decide) (fun q5 => ?_) (fun q5 => ?_)
      · replace h := ite_t q5 h
        clear q5
        refine a_iconst (v := 1) (pc := 52) F dX7_nameInterpreters_52 (by decide) ?_
        refine a_goto (tgt := 57) (pc := 53) F dX7_nameInterpreters_53 (by decide) ?_
        cases h
        exact a_iret (pc := 57) F dX7_nameInterpreters_57 ⟨_, rfl, rfl⟩
      · replace h := ite_f q5 h
        clear q5
        refine a_aload_n (pc := 38) F dX7_nameInterpreters_38 0 rfl ?_
        refine a_getr (k := 0) (r := 1) (pc := 39) F dX7_nameInterpreters_39 fl_RX7_10 kl_0 ks_0 rfl ?_
        refine a_getr (k := 1) (r := (1 + 1)) (pc := 42) F dX7_nameInterpreters_42 fl_RX7_64 (klC_0 isC_1) (ksC_0 isC_1) rfl ?_
        refine a_iload_n (pc := 45) F dX7_nameInterpreters_45 3 rfl ?_
        replace h := bnd_some h
        obtain ⟨x7, hc6, h⟩ := h
        refine a_callV (pc := 46) (k := (1 + 1)) (As := [.int p3]) (st := []) F dX7_nameInterpreters_46 (m_X6_has isC_1 hc6) cv_RX7_105 (klC_1 isC_1) (ksC_1 isC_1) ⟨_, _, rfl⟩ rfl rfl rfl (Nat.le_of_ble_eq_true rfl) ⟨Nat.le_of_ble_eq_true rfl, Nat.le_of_ble_eq_true rfl⟩ ?_ rfl rfl
        clear hc6
        refine a_if_eq (tgt := 56) (pc := 49) F dX7_nameInterpreters_49 (by decide) (fun q8 => ?_) (fun q8 => ?_)
        · replace h := ite_t q8 h
          clear q8
          refine a_iconst (v := 0) (pc := 56) F dX7_nameInterpreters_56 (by decide) ?_
          cases h
          exact a_iret (pc := 57) F dX7_nameInterpreters_57 ⟨_, rfl, rfl⟩
        · replace h := ite_f q8 h
          clear q8
          refine a_iconst (v := 1) (pc := 52) F dX7_nameInterpreters_52 (by decide) ?_
          refine a_goto (tgt := 57) (pc := 53) F dX7_nameInterpreters_53 (by decide) ?_
          cases h
          exact a_iret (pc := 57) F dX7_nameInterpreters_57 ⟨_, rfl, rfl⟩
    · replace h := ite_f q4 h
      clear q4
      refine a_aload_n (pc := 19) F dX7_nameInterpreters_19 0 rfl ?_
      refine a_getr (k := 0) (r := 1) (pc := 20) F dX7_nameInterpreters_20 fl_RX7_10 kl_0 ks_0 rfl ?_
      refine a_getr (k := 1) (r := (1 + 1)) (pc := 23) F dX7_nameInterpreters_23 fl_RX7_64 (klC_0 isC_1) (ksC_0 isC_1) rfl ?_
      refine a_iload_n (pc := 26) F dX7_nameInterpreters_26 2 rfl ?_
      replace h := bnd_some h
      obtain ⟨x10, hc9, h⟩ := h
      refine a_callV (pc := 27) (k := (1 + 1)) (As := [.int p2]) (st := []) F dX7_nameInterpreters_27 (m_X6_has isC_1 hc9) cv_RX7_105 (klC_1 isC_1) (ksC_1 isC_1) ⟨_, _, rfl⟩ rfl rfl rfl (Nat.le_of_ble_eq_true rfl) ⟨Nat.le_of_ble_eq_true rfl, Nat.le_of_ble_eq_true rfl⟩ ?_ rfl rfl
      clear hc9
      refine a_if_eq (tgt := 56) (pc := 30) F dX7_nameInterpreters_30 (by decide) (fun q11 => ?_) (fun q11 => ?_)
      · replace h := ite_t q11 h
        clear q11
        refine a_iconst (v := 0) (pc := 56) F dX7_nameInterpreters_56 (by decide) ?_
        cases h
        exact a_iret (pc := 57) F dX7_nameInterpreters_57 ⟨_, rfl, rfl⟩
      · replace h := ite_f q11 h
        clear q11
        refine a_iload_n (pc := 33) F dX7_nameInterpreters_33 3 rfl ?_
        refine a_iconst (v := (-1)) (pc := 34) F dX7_nameInterpreters_34 (by decide) ?_
        refine a_icmp_eq (tgt := 52) (pc := 35) F dX7_nameInterpreters_35 (by decide) (fun q12 => ?_) (fun q12 => ?_)
        · replace h := ite_t q12 h
          clear q12
          refine a_iconst (v := 1) (pc := 52) F dX7_nameInterpreters_52 (by decide) ?_
          refine a_goto (tgt := 57) (pc := 53) F dX7_nameInterpreters_53 (by decide) ?_
          cases h
          exact a_iret (pc := 57) F dX7_nameInterpreters_57 ⟨_, rfl, rfl⟩
        · replace h := ite_f q12 h
          clear q12
          refine a_aload_n (pc := 38) F dX7_nameInterpreters_38 0 rfl ?_
          refine a_getr (k := 0) (r := 1) (pc := 39) F dX7_nameInterpreters_39 fl_RX7_10 kl_0 ks_0 rfl ?_
          refine a_getr (k := 1) (r := (1 + 1)) (pc := 42) F dX7_nameInterpreters_42 fl_RX7_64 (klC_0 isC_1) (ksC_0 isC_1) rfl ?_
          refine a_iload_n (pc := 45) F dX7_nameInterpreters_45 3 rfl ?_
          replace h := bnd_some h
          obtain ⟨x14, hc13, h⟩ := h
          refine a_callV (pc := 46) (k := (1 + 1)) (As := [.int p3]) (st := []) F dX7_nameInterpreters_46 (m_X6_has isC_1 hc13) cv_RX7_105 (klC_1 isC_1) (ksC_1 isC_1) ⟨_, _, rfl⟩ rfl rfl rfl (Nat.le_of_ble_eq_true rfl) ⟨Nat.le_of_ble_eq_true rfl, Nat.le_of_ble_eq_true rfl⟩ ?_ rfl rfl
          clear hc13
          refine a_if_eq (tgt := 56) (pc := 49) F dX7_nameInterpreters_49 (by decide) (fun q15 => ?_) (fun q15 => ?_)
          · replace h := ite_t q15 h
            clear q15
            refine a_iconst (v := 0) (pc := 56) F dX7_nameInterpreters_56 (by decide) ?_
            cases h
            exact a_iret (pc := 57) F dX7_nameInterpreters_57 ⟨_, rfl, rfl⟩
          · replace h := ite_f q15 h
            clear q15
            refine a_iconst (v := 1) (pc := 52) F dX7_nameInterpreters_52 (by decide) ?_
            refine a_goto (tgt := 57) (pc := 53) F dX7_nameInterpreters_53 (by decide) ?_
            cases h
            exact a_iret (pc := 57) F dX7_nameInterpreters_57 ⟨_, rfl, rfl⟩
