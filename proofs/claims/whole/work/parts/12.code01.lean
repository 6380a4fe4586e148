def f_X8_thrown (m0 : Mem) : Option Int32 :=
  some (m0.1 162 5)
set_option maxRecDepth 100000 in
set_option maxHeartbeats 4000000 in
theorem m_X8_thrown {m0 : Mem} {rr : Int32} (h : f_X8_thrown m0 = some rr) : Con yX8_thrown cX8_thrown 1 (some Jvm.ClassFile.FieldType.int) 0 0 (fun G => [.ref (ga G 162)]) m0 (some (.int rr)) m0 := by
  refine con_of (by decide) (fun G => Nat.le_of_ble_eq_true rfl) (fun X F => ?_)
  show WA X 0 0 0 [(0, .ref (ga X.G 162))] [] m0 (EQ X (some (.int rr)) m0)
  rw [f_X8_thrown] at h
  refine a_aload_n (pc := 0) F dX8_thrown_0 0 rfl ?_
  refine a_geti (k := 162) (pc := 1) F dX8_thrown_1 fl_RX8_31 kl_162 ks_162 rfl ?_
  cases h
  exact a_iret (pc := 4) F dX8_thrown_4 ⟨_, rfl, rfl⟩
def f_X8_within (p1 : Int32) (p2 : Int32) (p3 : Int32) (m0 : Mem) : Option Int32 :=
  (if p1 < p2 then some 0 else (if p3 < p1 then some 0 else some 1))
set_option maxRecDepth 100000 in
set_option maxHeartbeats 4000000 in
theorem m_X8_within {p1 : Int32} {p2 : Int32} {p3 : Int32} {m0 : Mem} {rr : Int32} (h : f_X8_within p1 p2 p3 m0 = some rr) : Con yX8_within cX8_within 3 (some Jvm.ClassFile.FieldType.boolean) 0 0 (fun G => [.int p1, .int p2, .int p3]) m0 (some (.int rr)) m0 := by
  refine con_of (by decide) (fun G => Nat.le_of_ble_eq_true rfl) (fun X F => ?_)
  show WA X 0 0 0 [(0, .int p1), (1, .int p2), (2, .int p3)] [] m0 (EQ X (some (.int rr)) m0)
  rw [f_X8_within] at h
  refine a_iload_n (pc := 0) F dX8_within_0 0 rfl ?_
  refine a_iload_n (pc := 1) F dX8_within_1 1 rfl ?_
  refine a_icmp_lt (tgt := 14) (pc := 2) F dX8_within_2 (by decide) (fun q1 => ?_) (fun q1 => ?_)
  · replace h := ite_t q1 h
    clear q1
    refine a_iconst (v := 0) (pc := 14) F dX8_within_14 (by decide) ?_
    cases h
    exact a_iret (pc := 15) F dX8_within_15 ⟨_, rfl, rfl⟩
  · replace h := ite_f q1 h
    clear q1
    refine a_iload_n (pc := 5) F dX8_within_5 0 rfl ?_
    refine a_iload_n (pc := 6) F dX8_within_6 2 rfl ?_
    refine a_icmp_gt (tgt := 14) (pc := 7) F dX8_within_7 (by decide) (fun q2 => ?_) (fun q2 => ?_)
    · replace h := ite_t q2 h
      clear q2
      refine a_iconst (v := 0) (pc := 14) F dX8_within_14 (by decide) ?_
      cases h
      exact a_iret (pc := 15) F dX8_within_15 ⟨_, rfl, rfl⟩
    · replace h := ite_f q2 h
      clear q2
      refine a_iconst (v := 1) (pc := 10) F dX8_within_10 (by decide) ?_
      refine a_goto (tgt := 15) (pc := 11) F dX8_within_11 (by decide) ?_
      cases h
      exact a_iret (pc := 15) F dX8_within_15 ⟨_, rfl, rfl⟩
def f_X8_save_L13 : (Int32 × Mem) → Option ((Int32 × Mem) ⊕ Mem)
  | (x4, m5) => (if 2238 ≤ x4 then some (.inr m5) else gIn x4 2238 <| nm (m5.1 164 x4.toNatClampNeg) fun x8 => gIn (x4 - 373) 2238 <| nm (si m5 164 (x4 - 373).toNatClampNeg x8) fun m10 => nm (x4 + 1) fun x11 => some (.inl (x11, m10)))
def f_X8_save_L54 : (Int32 × Mem) → Option ((Int32 × Mem) ⊕ Mem)
  | (x16, m17) => (if 373 ≤ x16 then some (.inr m17) else nm ((373 * (m17.1 162 1)) + x16) fun x19 => gIn x16 373 <| nm (m17.1 163 x16.toNatClampNeg) fun x21 => gIn x19 2238 <| nm (si m17 164 x19.toNatClampNeg x21) fun m23 => nm (x16 + 1) fun x24 => some (.inl (x24, m23)))
def f_X8_save (m0 : Mem) : Option Mem :=
  bnd ((if (m0.1 162 1) = 6 then bnd (lp (f_X8_save_L13) 1000000 (373, m0)) (fun m12 => nm (si m12 162 1 ((m12.1 162 1) - 1)) fun m13 => some m13) else some m0)) (fun (m14 : Mem) => bnd (lp (f_X8_save_L54) 1000000 (0, m14)) (fun m25 => nm (si m25 162 1 ((m25.1 162 1) + 1)) fun m26 => some m26))
set_option maxRecDepth 100000 in
set_option maxHeartbeats 4000000 in
theorem m_X8_save {m0 : Mem} {mm : Mem} (h : f_X8_save m0 = some mm) : Con yX8_save cX8_save 2 none 0 0 (fun G => [.ref (ga G 162)]) m0 none mm := by
  refine con_of (by decide) (fun G => Nat.le_of_ble_eq_true rfl) (fun X F => ?_)
  show WA X 0 0 0 [(0, .ref (ga X.G 162))] [] m0 (EQ X none mm)
  rw [f_X8_save] at h
  refine a_aload_n (pc := 0) F dX8_save_0 0 rfl ?_
  refine a_geti (k := 162) (pc := 1) F dX8_save_1 fl_RX8_35 kl_162 ks_162 rfl ?_
  refine a_bipush (v := 6) (pc := 4) F dX8_save_4 (by decide) ?_
  replace h := bnd_some h
  obtain ⟨m14, hR1, h⟩ := h
  have hJ1 : WA X 0 0 52 [(0, .ref (ga X.G 162))] [] m14 (EQ X none mm) := by
    refine a_iconst (v := 0) (pc := 52) F dX8_save_52 (by decide) ?_
    refine a_istore_n (lv' := [(1, .int 0), (0, .ref (ga X.G 162))]) (pc := 53) F dX8_save_53 (by decide) rfl ?_
    refine a_lv F [1, 0] rfl ?_
    replace h := bnd_some h
    obtain ⟨m25, hL15, h⟩ := h
    have hE15 : WA X 0 0 88 [(0, .ref (ga X.G 162))] [] m25 (EQ X none mm) := by
      refine a_aload_n (pc := 88) F dX8_save_88 0 rfl ?_
      refine a_dup (pc := 89) F dX8_save_89 rfl ?_
      refine a_geti (k := 162) (pc := 90) F dX8_save_90 fl_RX8_35 kl_162 ks_162 rfl ?_
      refine a_iconst (v := 1) (pc := 93) F dX8_save_93 (by decide) ?_
      refine a_iadd (pc := 94) F dX8_save_94 ?_
      refine a_puti (k := 162) (pc := 95) F dX8_save_95 fp_RX8_35 kl_162 ks_162 rfl ?_
      refine a_nmm fun m26 em26 => ?_
      replace h := nm_at em26 h
      clear em26
      cases h
      exact a_vret (pc := 98) F dX8_save_98 rfl
    clear h
    refine lp_run (P := fun (s : (Int32 × Mem)) => WA X 0 0 54 [(0, .ref (ga X.G 162)), (1, .int s.1)] [] s.2 (EQ X none mm)) ?_ _ _ hL15
    clear hL15
    rintro ⟨x16, m17⟩ xo h hP15 hT15
    show WA X 0 0 54 [(0, .ref (ga X.G 162)), (1, .int x16)] [] m17 (EQ X none mm)
    rw [f_X8_save_L54] at h
    refine a_iload_n (pc := 54) F dX8_save_54 1 rfl ?_
    refine a_sipush (v := 373) (pc := 55) F dX8_save_55 (by decide) ?_
    refine a_icmp_ge (tgt := 88) (pc := 58) F dX8_save_58 (by decide) (fun q18 => ?_) (fun q18 => ?_)
    · replace h := ite_t q18 h
      clear q18
      refine a_lv F [0] rfl ?_
      cases hT15 _ (Option.some.inj h).symm
      exact hE15
    · replace h := ite_f q18 h
      clear q18
      refine a_aload_n (pc := 61) F dX8_save_61 0 rfl ?_
      refine a_getr (k := 162) (r := 164) (pc := 62) F dX8_save_62 fl_RX8_13 kl_162 ks_162 rfl ?_
      refine a_sipush (v := 373) (pc := 65) F dX8_save_65 (by decide) ?_
      refine a_aload_n (pc := 68) F dX8_save_68 0 rfl ?_
      refine a_geti (k := 162) (pc := 69) F dX8_save_69 fl_RX8_35 kl_162 ks_162 rfl ?_
      refine a_imul (pc := 72) F dX8_save_72 ?_
      refine a_iload_n (pc := 73) F dX8_save_73 1 rfl ?_
      refine a_iadd (pc := 74) F dX8_save_74 ?_
      refine a_nmi fun x19 ex19 => ?_
      replace h := nm_at ex19 h
      clear ex19
      refine a_aload_n (pc := 75) F dX8_save_75 0 rfl ?_
      refine a_getr (k := 162) (r := 163) (pc := 76) F dX8_save_76 fl_RX8_7 kl_162 ks_162 rfl ?_
      refine a_iload_n (pc := 79) F dX8_save_79 1 rfl ?_
      replace h := gIn_some h
      obtain ⟨g20, h⟩ := h
      refine a_ial (k := 163) (pc := 80) F dX8_save_80 kl_163 ks_163 g20 ?_
      refine a_nmi fun x21 ex21 => ?_
      replace h := nm_at ex21 h
      clear ex21
      replace h := gIn_some h
      obtain ⟨g22, h⟩ := h
      refine a_ias (k := 164) (pc := 81) F dX8_save_81 kl_164 ks_164 g22 ?_
      refine a_nmm fun m23 em23 => ?_
      replace h := nm_at em23 h
      clear em23
      obtain ⟨x24, ex24⟩ : ∃ x24 : Int32, x24 = x16 + 1 := ⟨_, rfl⟩
      refine a_iinc (v := x24) (lv' := [(1, .int x24), (0, .ref (ga X.G 162))]) (pc := 82) F dX8_save_82 1 rfl (by rw [ex24]; rfl) (by decide) rfl ?_
      replace h := nm_at ex24 h
      clear ex24
      refine a_goto (tgt := 54) (pc := 85) F dX8_save_85 (by decide) ?_
      refine a_lv F [1, 0] rfl ?_
      exact hP15 _ (Option.some.inj h).symm
  clear h
  have h := hR1
  clear hR1
  refine a_icmp_ne (tgt := 52) (pc := 6) F dX8_save_6 (by decide) (fun q2 => ?_) (fun q2 => ?_)
  · replace h := ite_f q2 h
    clear q2
    cases h
    exact hJ1
  · replace h := ite_t (Decidable.not_not.mp q2) h
    clear q2
    refine a_sipush (v := 373) (pc := 9) F dX8_save_9 (by decide) ?_
    refine a_istore_n (lv' := [(1, .int 373), (0, .ref (ga X.G 162))]) (pc := 12) F dX8_save_12 (by decide) rfl ?_
    refine a_lv F [1, 0] rfl ?_
    replace h := bnd_some h
    obtain ⟨m12, hL3, h⟩ := h
    have hE3 : WA X 0 0 42 [(0, .ref (ga X.G 162))] [] m12 (EQ X none mm) := by
      refine a_aload_n (pc := 42) F dX8_save_42 0 rfl ?_
      refine a_dup (pc := 43) F dX8_save_43 rfl ?_
      refine a_geti (k := 162) (pc := 44) F dX8_save_44 fl_RX8_35 kl_162 ks_162 rfl ?_
      refine a_iconst (v := 1) (pc := 47) F dX8_save_47 (by decide) ?_
      refine a_isub (pc := 48) F dX8_save_48 ?_
      refine a_puti (k := 162) (pc := 49) F dX8_save_49 fp_RX8_35 kl_162 ks_162 rfl ?_
      refine a_nmm fun m13 em13 => ?_
      replace h := nm_at em13 h
      clear em13
      cases h
      exact hJ1
    clear h
    refine lp_run (P := fun (s : (Int32 × Mem)) => WA X 0 0 13 [(0, .ref (ga X.G 162)), (1, .int s.1)] [] s.2 (EQ X none mm)) ?_ _ _ hL3
    clear hL3
    rintro ⟨x4, m5⟩ xo h hP3 hT3
    show WA X 0 0 13 [(0, .ref (ga X.G 162)), (1, .int x4)] [] m5 (EQ X none mm)
    rw [f_X8_save_L13] at h
    refine a_iload_n (pc := 13) F dX8_save_13 1 rfl ?_
    refine a_sipush (v := 2238) (pc := 14) F dX8_save_14 (by decide) ?_
    refine a_icmp_ge (tgt := 42) (pc := 17) F dX8_save_17 (by decide) (fun q6 => ?_) (fun q6 => ?_)
    · replace h := ite_t q6 h
      clear q6
      refine a_lv F [0] rfl ?_
      cases hT3 _ (Option.some.inj h).symm
      exact hE3
    · replace h := ite_f q6 h
      clear q6
      refine a_aload_n (pc := 20) F dX8_save_20 0 rfl ?_
      refine a_getr (k := 162) (r := 164) (pc := 21) F dX8_save_21 fl_RX8_13 kl_162 ks_162 rfl ?_
      refine a_iload_n (pc := 24) F dX8_save_24 1 rfl ?_
      refine a_sipush (v := 373) (pc := 25) F dX8_save_25 (by decide) ?_
      refine a_isub (pc := 28) F dX8_save_28 ?_
      refine a_aload_n (pc := 29) F dX8_save_29 0 rfl ?_
      refine a_getr (k := 162) (r := 164) (pc := 30) F dX8_save_30 fl_RX8_13 kl_162 ks_162 rfl ?_
      refine a_iload_n (pc := 33) F dX8_save_33 1 rfl ?_
      replace h := gIn_some h
      obtain ⟨g7, h⟩ := h
      refine a_ial (k := 164) (pc := 34) F dX8_save_34 kl_164 ks_164 g7 ?_
      refine a_nmi fun x8 ex8 => ?_
      replace h := nm_at ex8 h
      clear ex8
      replace h := gIn_some h
      obtain ⟨g9, h⟩ := h
      refine a_ias (k := 164) (pc := 35) F dX8_save_35 kl_164 ks_164 g9 ?_
      refine a_nmm fun m10 em10 => ?_
      replace h := nm_at em10 h
      clear em10
      obtain ⟨x11, ex11⟩ : ∃ x11 : Int32, x11 = x4 + 1 := ⟨_, rfl⟩
      refine a_iinc (v := x11) (lv' := [(1, .int x11), (0, .ref (ga X.G 162))]) (pc := 36) F dX8_save_36 1 rfl (by rw [ex11]; rfl) (by decide) rfl ?_
      replace h := nm_at ex11 h
      clear ex11
      refine a_goto (tgt := 13) (pc := 39) F dX8_save_39 (by decide) ?_
      refine a_lv F [1, 0] rfl ?_
      exact hP3 _ (Option.some.inj h).symm
def f_X8_isPerson (p1 : Int32) (m0 : Mem) : Option Int32 :=
  bnd (f_X8_within p1 0 ((m0.1 163 7) - 1) m0) fun x2 => gBo x2 <| some x2
set_option maxRecDepth 100000 in
set_option maxHeartbeats 4000000 in
theorem m_X8_isPerson {p1 : Int32} {m0 : Mem} {rr : Int32} (h : f_X8_isPerson p1 m0 = some rr) : Con yX8_isPerson cX8_isPerson 2 (some Jvm.ClassFile.FieldType.boolean) 1 22 (fun G => [.ref (ga G 162), .int p1]) m0 (some (.int rr)) m0 := by
  refine con_of (by decide) (fun G => Nat.le_of_ble_eq_true rfl) (fun X F => ?_)
  show WA X 0 0 0 [(0, .ref (ga X.G 162)), (1, .int p1)] [] m0 (EQ X (some (.int rr)) m0)
  rw [f_X8_isPerson] at h
  refine a_iload_n (pc := 0) F dX8_isPerson_0 1 rfl ?_
  refine a_iconst (v := 0) (pc := 1) F dX8_isPerson_1 (by decide) ?_
  refine a_aload_n (pc := 2) F dX8_isPerson_2 0 rfl ?_
  refine a_getr (k := 162) (r := 163) (pc := 3) F dX8_isPerson_3 fl_RX8_7 kl_162 ks_162 rfl ?_
  refine a_bipush (v := 7) (pc := 6) F dX8_isPerson_6 (by decide) ?_
  refine a_ialc (k := 163) (pc := 8) F dX8_isPerson_8 kl_163 ks_163 rfl rfl ?_
  refine a_iconst (v := 1) (pc := 9) F dX8_isPerson_9 (by decide) ?_
  refine a_isub (pc := 10) F dX8_isPerson_10 ?_
  replace h := bnd_some h
  obtain ⟨x2, hc1, h⟩ := h
  refine a_callS (pc := 11) (As := [.int p1, .int 0, .int ((m0.1 163 7) - 1)]) (st := []) F dX8_isPerson_11 (m_X8_within hc1) cs_RX8_38 rfl rfl rfl (Nat.le_of_ble_eq_true rfl) ⟨Nat.le_of_ble_eq_true rfl, Nat.le_of_ble_eq_true rfl⟩ ?_ rfl rfl
  clear hc1
  replace h := gBo_some h
  obtain ⟨g3, h⟩ := h
  cases h
  exact a_iret (pc := 14) F dX8_isPerson_14 ⟨_, rfl, narrow_bo g3⟩
def f_X8_isHearing (p1 : Int32) (m0 : Mem) : Option Int32 :=
  bnd (f_X8_within p1 0 ((m0.1 163 8) - 1) m0) fun x2 => gBo x2 <| some x2
set_option maxRecDepth 100000 in
set_option maxHeartbeats 4000000 in
theorem m_X8_isHearing {p1 : Int32} {m0 : Mem} {rr : Int32} (h : f_X8_isHearing p1 m0 = some rr) : Con yX8_isHearing cX8_isHearing 2 (some Jvm.ClassFile.FieldType.boolean) 1 22 (fun G => [.ref (ga G 162), .int p1]) m0 (some (.int rr)) m0 := by
  refine con_of (by decide) (fun G => Nat.le_of_ble_eq_true rfl) (fun X F => ?_)
  show WA X 0 0 0 [(0, .ref (ga X.G 162)), (1, .int p1)] [] m0 (EQ X (some (.int rr)) m0)
  rw [f_X8_isHearing] at h
  refine a_iload_n (pc := 0) F dX8_isHearing_0 1 rfl ?_
  refine a_iconst (v := 0) (pc := 1) F dX8_isHearing_1 (by decide) ?_
  refine a_aload_n (pc := 2) F dX8_isHearing_2 0 rfl ?_
  refine a_getr (k := 162) (r := 163) (pc := 3) F dX8_isHearing_3 fl_RX8_7 kl_162 ks_162 rfl ?_
  refine a_bipush (v := 8) (pc := 6) F dX8_isHearing_6 (by decide) ?_
  refine a_ialc (k := 163) (pc := 8) F dX8_isHearing_8 kl_163 ks_163 rfl rfl ?_
  refine a_iconst (v := 1) (pc := 9) F dX8_isHearing_9 (by decide) ?_
  refine a_isub (pc := 10) F dX8_isHearing_10 ?_
  replace h := bnd_some h
  obtain ⟨x2, hc1, h⟩ := h
  refine a_callS (pc := 11) (As := [.int p1, .int 0, .int ((m0.1 163 8) - 1)]) (st := []) F dX8_isHearing_11 (m_X8_within hc1) cs_RX8_38 rfl rfl rfl (Nat.le_of_ble_eq_true rfl) ⟨Nat.le_of_ble_eq_true rfl, Nat.le_of_ble_eq_true rfl⟩ ?_ rfl rfl
  clear hc1
  replace h := gBo_some h
  obtain ⟨g3, h⟩ := h
  cases h
  exact a_iret (pc := 14) F dX8_isHearing_14 ⟨_, rfl, narrow_bo g3⟩
def f_X8_of (p1 : Int32) (p2 : Int32) (m0 : Mem) : Option Int32 :=
  gIn ((73 + (10 * p1)) + p2) 373 <| nm (m0.1 163 ((73 + (10 * p1)) + p2).toNatClampNeg) fun x2 => some x2
set_option maxRecDepth 100000 in
set_option maxHeartbeats 4000000 in
theorem m_X8_of {p1 : Int32} {p2 : Int32} {m0 : Mem} {rr : Int32} (h : f_X8_of p1 p2 m0 = some rr) : Con yX8_of cX8_of 3 (some Jvm.ClassFile.FieldType.int) 0 0 (fun G => [.ref (ga G 162), .int p1, .int p2]) m0 (some (.int rr)) m0 := by
  refine con_of (by decide) (fun G => Nat.le_of_ble_eq_true rfl) (fun X F => ?_)
  show WA X 0 0 0 [(0, .ref (ga X.G 162)), (1, .int p1), (2, .int p2)] [] m0 (EQ X (some (.int rr)) m0)
  rw [f_X8_of] at h
  refine a_aload_n (pc := 0) F dX8_of_0 0 rfl ?_
  refine a_getr (k := 162) (r := 163) (pc := 1) F dX8_of_1 fl_RX8_7 kl_162 ks_162 rfl ?_
  refine a_bipush (v := 73) (pc := 4) F dX8_of_4 (by decide) ?_
  refine a_bipush (v := 10) (pc := 6) F dX8_of_6 (by decide) ?_
  refine a_iload_n (pc := 8) F dX8_of_8 1 rfl ?_
  refine a_imul (pc := 9) F dX8_of_9 ?_
  refine a_iadd (pc := 10) F dX8_of_10 ?_
  refine a_iload_n (pc := 11) F dX8_of_11 2 rfl ?_
  refine a_iadd (pc := 12) F dX8_of_12 ?_
  replace h := gIn_some h
  obtain ⟨g1, h⟩ := h
  refine a_ial (k := 163) (pc := 13) F dX8_of_13 kl_163 ks_163 g1 ?_
  refine a_nmi fun x2 ex2 => ?_
  replace h := nm_at ex2 h
  clear ex2
  cases h
  exact a_iret (pc := 14) F dX8_of_14 ⟨_, rfl, rfl⟩
def f_X8_put (p1 : Int32) (p2 : Int32) (p3 : Int32) (m0 : Mem) : Option Mem :=
  gIn ((73 + (10 * p1)) + p2) 373 <| nm (si m0 163 ((73 + (10 * p1)) + p2).toNatClampNeg p3) fun m2 => some m2
set_option maxRecDepth 100000 in
set_option maxHeartbeats 4000000 in
theorem m_X8_put {p1 : Int32} {p2 : Int32} {p3 : Int32} {m0 : Mem} {mm : Mem} (h : f_X8_put p1 p2 p3 m0 = some mm) : Con yX8_put cX8_put 4 none 0 0 (fun G => [.ref (ga G 162), .int p1, .int p2, .int p3]) m0 none mm := by
  refine con_of (by decide) (fun G => Nat.le_of_ble_eq_true rfl) (fun X F => ?_)
  show WA X 0 0 0 [(0, .ref (ga X.G 162)), (1, .int p1), (2, .int p2), (3, .int p3)] [] m0 (EQ X none mm)
  rw [f_X8_put] at h
  refine a_aload_n (pc := 0) F dX8_put_0 0 rfl ?_
  refine a_getr (k := 162) (r := 163) (pc := 1) F dX8_put_1 fl_RX8_7 kl_162 ks_162 rfl ?_
  refine a_bipush (v := 73) (pc := 4) F dX8_put_4 (by decide) ?_
  refine a_bipush (v := 10) (pc := 6) F dX8_put_6 (by decide) ?_
  refine a_iload_n (pc := 8) F dX8_put_8 1 rfl ?_
  refine a_imul (pc := 9) F dX8_put_9 ?_
  refine a_iadd (pc := 10) F dX8_put_10 ?_
  refine a_iload_n (pc := 11) F dX8_put_11 2 rfl ?_
  refine a_iadd (pc := 12) F dX8_put_12 ?_
  refine a_iload_n (pc := 13) F dX8_put_13 3 rfl ?_
  replace h := gIn_some h
  obtain ⟨g1, h⟩ := h
  refine a_ias (k := 163) (pc := 14) F dX8_put_14 kl_163 ks_163 g1 ?_
  refine a_nmm fun m2 em2 => ?_
  replace h := nm_at em2 h
  clear em2
  cases h
  exact a_vret (pc := 15) F dX8_put_15 rfl
def f_X8_isListed (p1 : Int32) (m0 : Mem) : Option Int32 :=
  bnd (f_X8_of p1 4 m0) fun x2 => (if x2 = 0 then some 1 else some 0)
set_option maxRecDepth 100000 in
set_option maxHeartbeats 4000000 in
theorem m_X8_isListed {p1 : Int32} {m0 : Mem} {rr : Int32} (h : f_X8_isListed p1 m0 = some rr) : Con yX8_isListed cX8_isListed 2 (some Jvm.ClassFile.FieldType.boolean) 1 22 (fun G => [.ref (ga G 162), .int p1]) m0 (some (.int rr)) m0 := by
  refine con_of (by decide) (fun G => Nat.le_of_ble_eq_true rfl) (fun X F => ?_)
  show WA X 0 0 0 [(0, .ref (ga X.G 162)), (1, .int p1)] [] m0 (EQ X (some (.int rr)) m0)
  rw [f_X8_isListed] at h
  refine a_aload_n (pc := 0) F dX8_isListed_0 0 rfl ?_
  refine a_iload_n (pc := 1) F dX8_isListed_1 1 rfl ?_
  refine a_iconst (v := 4) (pc := 2) F dX8_isListed_2 (by decide) ?_
  replace h := bnd_some h
  obtain ⟨x2, hc1, h⟩ := h
  refine a_callV (pc := 3) (k := 162) (As := [.int p1, .int 4]) (st := []) F dX8_isListed_3 (m_X8_of hc1) cv_RX8_42 kl_162 ks_162 ⟨_, _, rfl⟩ rfl rfl rfl (Nat.le_of_ble_eq_true rfl) ⟨Nat.le_of_ble_eq_true rfl, Nat.le_of_ble_eq_true rfl⟩ ?_ rfl rfl
  clear hc1
  refine a_if_ne (tgt := 13) (pc := 6) F dX8_isListed_6 (by decide) (fun q3 => ?_) (fun q3 => ?_)
  · replace h := ite_f q3 h
    clear q3
    refine a_iconst (v := 0) (pc := 13) F dX8_isListed_13 (by decide) ?_
    cases h
    exact a_iret (pc := 14) F dX8_isListed_14 ⟨_, rfl, rfl⟩
  · replace h := ite_t (Decidable.not_not.mp q3) h
    clear q3
    refine a_iconst (v := 1) (pc := 9) F dX8_isListed_9 (by decide) ?_
    refine a_goto (tgt := 14) (pc := 10) F dX8_isListed_10 (by decide) ?_
    cases h
    exact a_iret (pc := 14) F dX8_isListed_14 ⟨_, rfl, rfl⟩
def f_X8_hasStarted (p1 : Int32) (m0 : Mem) : Option Int32 :=
  bnd (f_X8_of p1 2 m0) fun x2 => (if (m0.1 163 9) < x2 then some 0 else some 1)
set_option maxRecDepth 100000 in
set_option maxHeartbeats 4000000 in
theorem m_X8_hasStarted {p1 : Int32} {m0 : Mem} {rr : Int32} (h : f_X8_hasStarted p1 m0 = some rr) : Con yX8_hasStarted cX8_hasStarted 2 (some Jvm.ClassFile.FieldType.boolean) 1 22 (fun G => [.ref (ga G 162), .int p1]) m0 (some (.int rr)) m0 := by
  refine con_of (by decide) (fun G => Nat.le_of_ble_eq_true rfl) (fun X F => ?_)
  show WA X 0 0 0 [(0, .ref (ga X.G 162)), (1, .int p1)] [] m0 (EQ X (some (.int rr)) m0)
  rw [f_X8_hasStarted] at h
  refine a_aload_n (pc := 0) F dX8_hasStarted_0 0 rfl ?_
  refine a_iload_n (pc := 1) F dX8_hasStarted_1 1 rfl ?_
  refine a_iconst (v := 2) (pc := 2) F dX8_hasStarted_2 (by decide) ?_
  replace h := bnd_some h
  obtain ⟨x2, hc1, h⟩ := h
  refine a_callV (pc := 3) (k := 162) (As := [.int p1, .int 2]) (st := []) F dX8_hasStarted_3 (m_X8_of hc1) cv_RX8_42 kl_162 ks_162 ⟨_, _, rfl⟩ rfl rfl rfl (Nat.le_of_ble_eq_true rfl) ⟨Nat.le_of_ble_eq_true rfl, Nat.le_of_ble_eq_true rfl⟩ ?_ rfl rfl
  clear hc1
  refine a_aload_n (pc := 6) F dX8_hasStarted_6 0 rfl ?_
  refine a_getr (k := 162) (r := 163) (pc := 7) F dX8_hasStarted_7 fl_RX8_7 kl_162 ks_162 rfl ?_
  refine a_bipush (v := 9) (pc := 10) F dX8_hasStarted_10 (by decide) ?_
  refine a_ialc (k := 163) (pc := 12) F dX8_hasStarted_12 kl_163 ks_163 rfl rfl ?_
  refine a_icmp_gt (tgt := 20) (pc := 13) F dX8_hasStarted_13 (by decide) (fun q3 => ?_) (fun q3 => ?_)
  · replace h := ite_t q3 h
    clear q3
    refine a_iconst (v := 0) (pc := 20) F dX8_hasStarted_20 (by decide) ?_
    cases h
    exact a_iret (pc := 21) F dX8_hasStarted_21 ⟨_, rfl, rfl⟩
  · replace h := ite_f q3 h
    clear q3
    refine a_iconst (v := 1) (pc := 16) F dX8_hasStarted_16 (by decide) ?_
    refine a_goto (tgt := 21) (pc := 17) F dX8_hasStarted_17 (by decide) ?_
    cases h
    exact a_iret (pc := 21) F dX8_hasStarted_21 ⟨_, rfl, rfl⟩
def f_X8_endOf (p1 : Int32) (m0 : Mem) : Option Int32 :=
  bnd (f_X8_of p1 2 m0) fun x2 => bnd (f_X8_of p1 3 m0) fun x4 => some (x2 + x4)
set_option maxRecDepth 100000 in
set_option maxHeartbeats 4000000 in
theorem m_X8_endOf {p1 : Int32} {m0 : Mem} {rr : Int32} (h : f_X8_endOf p1 m0 = some rr) : Con yX8_endOf cX8_endOf 2 (some Jvm.ClassFile.FieldType.int) 1 22 (fun G => [.ref (ga G 162), .int p1]) m0 (some (.int rr)) m0 := by
  refine con_of (by decide) (fun G => Nat.le_of_ble_eq_true rfl) (fun X F => ?_)
  show WA X 0 0 0 [(0, .ref (ga X.G 162)), (1, .int p1)] [] m0 (EQ X (some (.int rr)) m0)
  rw [f_X8_endOf] at h
  refine a_aload_n (pc := 0) F dX8_endOf_0 0 rfl ?_
  refine a_iload_n (pc := 1) F dX8_endOf_1 1 rfl ?_
  refine a_iconst (v := 2) (pc := 2) F dX8_endOf_2 (by decide) ?_
  replace h := bnd_some h
  obtain ⟨x2, hc1, h⟩ := h
  refine a_callV (pc := 3) (k := 162) (As := [.int p1, .int 2]) (st := []) F dX8_endOf_3 (m_X8_of hc1) cv_RX8_42 kl_162 ks_162 ⟨_, _, rfl⟩ rfl rfl rfl (Nat.le_of_ble_eq_true rfl) ⟨Nat.le_of_ble_eq_true rfl, Nat.le_of_ble_eq_true rfl⟩ ?_ rfl rfl
  clear hc1
  refine a_aload_n (pc := 6) F dX8_endOf_6 0 rfl ?_
  refine a_iload_n (pc := 7) F dX8_endOf_7 1 rfl ?_
  refine a_iconst (v := 3) (pc := 8) F dX8_endOf_8 (by decide) ?_
  replace h := bnd_some h
  obtain ⟨x4, hc3, h⟩ := h
  refine a_callV (pc := 9) (k := 162) (As := [.int p1, .int 3]) (st := [.int x2]) F dX8_endOf_9 (m_X8_of hc3) cv_RX8_42 kl_162 ks_162 ⟨_, _, rfl⟩ rfl rfl rfl (Nat.le_of_ble_eq_true rfl) ⟨Nat.le_of_ble_eq_true rfl, Nat.le_of_ble_eq_true rfl⟩ ?_ rfl rfl
  clear hc3
  refine a_iadd (pc := 12) F dX8_endOf_12 ?_
  cases h
  exact a_iret (pc := 13) F dX8_endOf_13 ⟨_, rfl, rfl⟩
def f_X8_isIn_L5 (p1 : Int32) (p2 : Int32) (m0 : Mem) : (Int32 × Int32) → Option ((Int32 × Int32) ⊕ Int32)
  | (x2, x3) => bnd (f_X8_of p2 5 m0) fun x5 => (if x5 ≤ x3 then some (.inr x2) else (if x2 = 0 then bnd (f_X8_of p2 (6 + x3) m0) fun x10 => (if x10 = p1 then nm (x3 + 1) fun x13 => some (.inl (1, x13)) else nm (x3 + 1) fun x12 => some (.inl (0, x12))) else nm (x3 + 1) fun x8 => some (.inl (1, x8))))
def f_X8_isIn (p1 : Int32) (p2 : Int32) (m0 : Mem) : Option Int32 :=
  bnd (lp (f_X8_isIn_L5 p1 p2 m0) 1000000 (0, 0)) (fun x14 => gBo x14 <| some x14)
set_option maxRecDepth 100000 in
set_option maxHeartbeats 4000000 in
theorem m_X8_isIn {p1 : Int32} {p2 : Int32} {m0 : Mem} {rr : Int32} (h : f_X8_isIn p1 p2 m0 = some rr) : Con yX8_isIn cX8_isIn 5 (some Jvm.ClassFile.FieldType.boolean) 1 22 (fun G => [.ref (ga G 162), .int p1, .int p2]) m0 (some (.int rr)) m0 := by
  refine con_of (by decide) (fun G => Nat.le_of_ble_eq_true rfl) (fun X F => ?_)
  show WA X 0 0 0 [(0, .ref (ga X.G 162)), (1, .int p1), (2, .int p2)] [] m0 (EQ X (some (.int rr)) m0)
  rw [f_X8_isIn] at h
  refine a_iconst (v := 0) (pc := 0) F dX8_isIn_0 (by decide) ?_
  refine a_istore_n (lv' := [(3, .int 0), (0, .ref (ga X.G 162)), (1, .int p1), (2, .int p2)]) (pc := 1) F dX8_isIn_1 (by decide) rfl ?_
  refine a_iconst (v := 0) (pc := 2) F dX8_isIn_2 (by decide) ?_
  refine a_istore (lv' := [(4, .int 0), (3, .int 0), (0, .ref (ga X.G 162)), (1, .int p1), (2, .int p2)]) (pc := 3) F dX8_isIn_3 (by decide) rfl ?_
  refine a_lv F [2, 3, 4, 1, 0] rfl ?_
  replace h := bnd_some h
  obtain ⟨x14, hL1, h⟩ := h
  have hE1 : WA X 0 0 46 [(3, .int x14)] [] m0 (EQ X (some (.int rr)) m0) := by
    refine a_iload_n (pc := 46) F dX8_isIn_46 0 rfl ?_
    replace h := gBo_some h
    obtain ⟨g15, h⟩ := h
    cases h
    exact a_iret (pc := 47) F dX8_isIn_47 ⟨_, rfl, narrow_bo g15⟩
  clear h
  refine lp_run (P := fun (s : (Int32 × Int32)) => WA X 0 0 5 [(0, .ref (ga X.G 162)), (1, .int p1), (2, .int p2), (3, .int s.1), (4, .int s.2)] [] m0 (EQ X (some (.int rr)) m0)) ?_ _ _ hL1
  clear hL1
  rintro ⟨x2, x3⟩ xo h hP1 hT1
  show WA X 0 0 5 [(0, .ref (ga X.G 162)), (1, .int p1), (2, .int p2), (3, .int x2), (4, .int x3)] [] m0 (EQ X (some (.int rr)) m0)
  rw [f_X8_isIn_L5] at h
  refine a_iload (pc := 5) F dX8_isIn_5 4 rfl ?_
  refine a_aload_n (pc := 7) F dX8_isIn_7 0 rfl ?_
  refine a_iload_n (pc := 8) F dX8_isIn_8 2 rfl ?_
  refine a_iconst (v := 5) (pc := 9) F dX8_isIn_9 (by decide) ?_
  replace h := bnd_some h
  obtain ⟨x5, hc4, h⟩ := h
  refine a_callV (pc := 10) (k := 162) (As := [.int p2, .int 5]) (st := [.int x3]) F dX8_isIn_10 (m_X8_of hc4) cv_RX8_42 kl_162 ks_162 ⟨_, _, rfl⟩ rfl rfl rfl (Nat.le_of_ble_eq_true rfl) ⟨Nat.le_of_ble_eq_true rfl, Nat.le_of_ble_eq_true rfl⟩ ?_ rfl rfl
  clear hc4
  refine a_icmp_ge (tgt := 46) (pc := 13) F dX8_isIn_13 (by decide) (fun q6 => ?_) (fun q6 => ?_)
  · replace h := ite_t q6 h
    clear q6
    refine a_lv F [3] rfl ?_
    cases hT1 _ (Option.some.inj h).symm
    exact hE1
  · replace h := ite_f q6 h
    clear q6
    refine a_iload_n (pc := 16) F dX8_isIn_16 3 rfl ?_
    refine a_if_ne (tgt := 34) (pc := 17) F dX8_isIn_17 (by decide) (fun q7 => ?_) (fun q7 => ?_)
    · replace h := ite_f q7 h
      clear q7
      refine a_iconst (v := 1) (pc := 34) F dX8_isIn_34 (by decide) ?_
      refine a_goto (tgt := 39) (pc := 35) F dX8_isIn_35 (by decide) ?_
      refine a_istore_n (lv' := [(3, .int 1), (0, .ref (ga X.G 162)), (1, .int p1), (2, .int p2), (4, .int x3)]) (pc := 39) F dX8_isIn_39 (by decide) rfl ?_
      obtain ⟨x8, ex8⟩ : ∃ x8 : Int32, x8 = x3 + 1 := ⟨_, rfl⟩
      refine a_iinc (v := x8) (lv' := [(4, .int x8), (3, .int 1), (0, .ref (ga X.G 162)), (1, .int p1), (2, .int p2)]) (pc := 40) F dX8_isIn_40 4 rfl (by rw [ex8]; rfl) (by decide) rfl ?_
      replace h := nm_at ex8 h
      clear ex8
      refine a_goto (tgt := 5) (pc := 43) F dX8_isIn_43 (by decide) ?_
      refine a_lv F [2, 3, 4, 1, 0] rfl ?_
      exact hP1 _ (Option.some.inj h).symm
    · replace h := ite_t (Decidable.not_not.mp q7) h
      clear q7
      refine a_aload_n (pc := 20) F dX8_isIn_20 0 rfl ?_
      refine a_iload_n (pc := 21) F dX8_isIn_21 2 rfl ?_
      refine a_bipush (v := 6) (pc := 22) F dX8_isIn_22 (by decide) ?_
      refine a_iload (pc := 24) F dX8_isIn_24 4 rfl ?_
      refine a_iadd (pc := 26) F dX8_isIn_26 ?_
      replace h := bnd_some h
      obtain ⟨x10, hc9, h⟩ := h
      refine a_callV (pc := 27) (k := 162) (As := [.int p2, .int (6 + x3)]) (st := []) F dX8_isIn_27 (m_X8_of hc9) cv_RX8_42 kl_162 ks_162 ⟨_, _, rfl⟩ rfl rfl rfl (Nat.le_of_ble_eq_true rfl) ⟨Nat.le_of_ble_eq_true rfl, Nat.le_of_ble_eq_true rfl⟩ ?_ rfl rfl
      clear hc9
      refine a_iload_n (pc := 30) F dX8_isIn_30 1 rfl ?_
      refine a_icmp_ne (tgt := 38) (pc := 31) F dX8_isIn_31 (by decide) (fun q11 => ?_) (fun q11 => ?_)
      · replace h := ite_f q11 h
        clear q11
        refine a_iconst (v := 0) (pc := 38) F dX8_isIn_38 (by decide) ?_
        refine a_istore_n (lv' := [(3, .int 0), (0, .ref (ga X.G 162)), (1, .int p1), (2, .int p2), (4, .int x3)]) (pc := 39) F dX8_isIn_39 (by decide) rfl ?_
        obtain ⟨x12, ex12⟩ : ∃ x12 : Int32, x12 = x3 + 1 := ⟨_, rfl⟩
        refine a_iinc (v := x12) (lv' := [(4, .int x12), (3, .int 0), (0, .ref (ga X.G 162)), (1, .int p1), (2, .int p2)]) (pc := 40) F dX8_isIn_40 4 rfl (by rw [ex12]; rfl) (by decide) rfl ?_
        replace h := nm_at ex12 h
        clear ex12
        refine a_goto (tgt := 5) (pc := 43) F dX8_isIn_43 (by decide) ?_
        refine a_lv F [2, 3, 4, 1, 0] rfl ?_
        exact hP1 _ (Option.some.inj h).symm
      · replace h := ite_t (Decidable.not_not.mp q11) h
        clear q11
        refine a_iconst (v := 1) (pc := 34) F dX8_isIn_34 (by decide) ?_
        refine a_goto (tgt := 39) (pc := 35) F dX8_isIn_35 (by decide) ?_
        refine a_istore_n (lv' := [(3, .int 1), (0, .ref (ga X.G 162)), (1, .int p1), (2, .int p2), (4, .int x3)]) (pc := 39) F dX8_isIn_39 (by decide) rfl ?_
        obtain ⟨x13, ex13⟩ : ∃ x13 : Int32, x13 = x3 + 1 := ⟨_, rfl⟩
        refine a_iinc (v := x13) (lv' := [(4, .int x13), (3, .int 1), (0, .ref (ga X.G 162)), (1, .int p1), (2, .int p2)]) (pc := 40) F dX8_isIn_40 4 rfl (by rw [ex13]; rfl) (by decide) rfl ?_
        replace h := nm_at ex13 h
        clear ex13
        refine a_goto (tgt := 5) (pc := 43) F dX8_isIn_43 (by decide) ?_
        refine a_lv F [2, 3, 4, 1, 0] rfl ?_
        exact hP1 _ (Option.some.inj h).symm
def f_X8_clash (p1 : Int32) (p2 : Int32) (m0 : Mem) : Option Int32 :=
  bnd (f_X8_of p1 2 m0) fun x2 => bnd (f_X8_endOf p2 m0) fun x4 => (if x4 ≤ x2 then some 0 else bnd (f_X8_of p2 2 m0) fun x7 => bnd (f_X8_endOf p1 m0) fun x9 => (if x9 ≤ x7 then some 0 else some 1))
set_option maxRecDepth 100000 in
set_option maxHeartbeats 4000000 in
theorem m_X8_clash {p1 : Int32} {p2 : Int32} {m0 : Mem} {rr : Int32} (h : f_X8_clash p1 p2 m0 = some rr) : Con yX8_clash cX8_clash 3 (some Jvm.ClassFile.FieldType.boolean) 2 43 (fun G => [.ref (ga G 162), .int p1, .int p2]) m0 (some (.int rr)) m0 := by
  refine con_of (by decide) (fun G => Nat.le_of_ble_eq_true rfl) (fun X F => ?_)
  show WA X 0 0 0 [(0, .ref (ga X.G 162)), (1, .int p1), (2, .int p2)] [] m0 (EQ X (some (.int rr)) m0)
  rw [f_X8_clash] at h
  refine a_aload_n (pc := 0) F dX8_clash_0 0 rfl ?_
  refine a_iload_n (pc := 1) F dX8_clash_1 1 rfl ?_
  refine a_iconst (v := 2) (pc := 2) F dX8_clash_2 (by decide) ?_
  replace h := bnd_some h
  obtain ⟨x2, hc1, h⟩ := h
  refine a_callV (pc := 3) (k := 162) (As := [.int p1, .int 2]) (st := []) F dX8_clash_3 (m_X8_of hc1) cv_RX8_42 kl_162 ks_162 ⟨_, _, rfl⟩ rfl rfl rfl (Nat.le_of_ble_eq_true rfl) ⟨Nat.le_of_ble_eq_true rfl, Nat.le_of_ble_eq_true rfl⟩ ?_ rfl rfl
  clear hc1
  refine a_aload_n (pc := 6) F dX8_clash_6 0 rfl ?_
  refine a_iload_n (pc := 7) F dX8_clash_7 2 rfl ?_
  replace h := bnd_some h
  obtain ⟨x4, hc3, h⟩ := h
  refine a_callV (pc := 8) (k := 162) (As := [.int p2]) (st := [.int x2]) F dX8_clash_8 (m_X8_endOf hc3) cv_RX8_46 kl_162 ks_162 ⟨_, _, rfl⟩ rfl rfl rfl (Nat.le_of_ble_eq_true rfl) ⟨Nat.le_of_ble_eq_true rfl, Nat.le_of_ble_eq_true rfl⟩ ?_ rfl rfl
  clear hc3
  refine a_icmp_ge (tgt := 32) (pc := 11) F dX8_clash_11 (by decide) (fun q5 => ?_) (fun q5 => ?_)
  · replace h := ite_t q5 h
    clear q5
    refine a_iconst (v := 0) (pc := 32) F dX8_clash_32 (by decide) ?_
    cases h
    exact a_iret (pc := 33) F dX8_clash_33 ⟨_, rfl, rfl⟩
  · replace h := ite_f q5 h
    clear q5
    refine a_aload_n (pc := 14) F dX8_clash_14 0 rfl ?_
    refine a_iload_n (pc := 15) F dX8_clash_15 2 rfl ?_
    refine a_iconst (v := 2) (pc := 16) F dX8_clash_16 (by decide) ?_
    replace h := bnd_some h
    obtain ⟨x7, hc6, h⟩ := h
    refine a_callV (pc := 17) (k := 162) (As := [.int p2, .int 2]) (st := []) F dX8_clash_17 (m_X8_of hc6) cv_RX8_42 kl_162 ks_162 ⟨_, _, rfl⟩ rfl rfl rfl (Nat.le_of_ble_eq_true rfl) ⟨Nat.le_of_ble_eq_true rfl, Nat.le_of_ble_eq_true rfl⟩ ?_ rfl rfl
    clear hc6
    refine a_aload_n (pc := 20) F dX8_clash_20 0 rfl ?_
    refine a_iload_n (pc := 21) F dX8_clash_21 1 rfl ?_
    replace h := bnd_some h
    obtain ⟨x9, hc8, h⟩ := h
    refine a_callV (pc := 22) (k := 162) (As := [.int p1]) (st := [.int x7]) F dX8_clash_22 (m_X8_endOf hc8) cv_RX8_46 kl_162 ks_162 ⟨_, _, rfl⟩ rfl rfl rfl (Nat.le_of_ble_eq_true rfl) ⟨Nat.le_of_ble_eq_true rfl, Nat.le_of_ble_eq_true rfl⟩ ?_ rfl rfl
    clear hc8
    refine a_icmp_ge (tgt := 32) (pc := 25) F dX8_clash_25 (by decide) (fun q10 => ?_) (fun q10 => ?_)
    · replace h := ite_t q10 h
      clear q10
      refine a_iconst (v := 0) (pc := 32) F dX8_clash_32 (by decide) ?_
      cases h
      exact a_iret (pc := 33) F dX8_clash_33 ⟨_, rfl, rfl⟩
    · replace h := ite_f q10 h
      clear q10
      refine a_iconst (v := 1) (pc := 28) F dX8_clash_28 (by decide) ?_
      refine a_goto (tgt := 33) (pc := 29) F dX8_clash_29 (by decide) ?_
      cases h
      exact a_iret (pc := 33) F dX8_clash_33 ⟨_, rfl, rfl⟩
def f_X8_isBusy_L5 (p1 : Int32) (p2 : Int32) (m0 : Mem) : (Int32 × Int32) → Option ((Int32 × Int32) ⊕ Int32)
  | (x2, x3) => (if (m0.1 163 8) ≤ x3 then some (.inr x2) else (if x2 = 0 then (if x3 = p2 then nm (x3 + 1) fun x8 => some (.inl (0, x8)) else bnd (f_X8_isListed x3 m0) fun x10 => (if x10 = 0 then nm (x3 + 1) fun x12 => some (.inl (0, x12)) else bnd (f_X8_isIn p1 x3 m0) fun x14 => (if x14 = 0 then nm (x3 + 1) fun x16 => some (.inl (0, x16)) else bnd (f_X8_clash x3 p2 m0) fun x18 => (if x18 = 0 then nm (x3 + 1) fun x20 => some (.inl (0, x20)) else nm (x3 + 1) fun x21 => some (.inl (1, x21)))))) else nm (x3 + 1) fun x6 => some (.inl (1, x6))))
def f_X8_isBusy (p1 : Int32) (p2 : Int32) (m0 : Mem) : Option Int32 :=
  bnd (lp (f_X8_isBusy_L5 p1 p2 m0) 1000000 (0, 0)) (fun x22 => gBo x22 <| some x22)
set_option maxRecDepth 100000 in
set_option maxHeartbeats 4000000 in
theorem m_X8_isBusy {p1 : Int32} {p2 : Int32} {m0 : Mem} {rr : Int32} (h : f_X8_isBusy p1 p2 m0 = some rr) : Con yX8_isBusy cX8_isBusy 5 (some Jvm.ClassFile.FieldType.boolean) 3 65 (fun G => [.ref (ga G 162), .int p1, .int p2]) m0 (some (.int rr)) m0 := by
  refine con_of (by decide) (fun G => Nat.le_of_ble_eq_true rfl) (fun X F => ?_)
  show WA X 0 0 0 [(0, .ref (ga X.G 162)), (1, .int p1), (2, .int p2)] [] m0 (EQ X (some (.int rr)) m0)
  rw [f_X8_isBusy] at h
  refine a_iconst (v := 0) (pc := 0) F dX8_isBusy_0 (by decide) ?_
  refine a_istore_n (lv' := [(3, .int 0), (0, .ref (ga X.G 162)), (1, .int p1), (2, .int p2)]) (pc := 1) F dX8_isBusy_1 (by decide) rfl ?_
  refine a_iconst (v := 0) (pc := 2) F dX8_isBusy_2 (by decide) ?_
  refine a_istore (lv' := [(4, .int 0), (3, .int 0), (0, .ref (ga X.G 162)), (1, .int p1), (2, .int p2)]) (pc := 3) F dX8_isBusy_3 (by decide) rfl ?_
  refine a_lv F [2, 3, 4, 1, 0] rfl ?_
  replace h := bnd_some h
  obtain ⟨x22, hL1, h⟩ := h
  have hE1 : WA X 0 0 68 [(3, .int x22)] [] m0 (EQ X (some (.int rr)) m0) := by
    refine a_iload_n (pc := 68) F dX8_isBusy_68 0 rfl ?_
    replace h := gBo_some h
    obtain ⟨g23, h⟩ := h
    cases h
    exact a_iret (pc := 69) F dX8_isBusy_69 ⟨_, rfl, narrow_bo g23⟩
  clear h
  refine lp_run (P := fun (s : (Int32 × Int32)) => WA X 0 0 5 [(0, .ref (ga X.G 162)), (1, .int p1), (2, .int p2), (3, .int s.1), (4, .int s.2)] [] m0 (EQ X (some (.int rr)) m0)) ?_ _ _ hL1
  clear hL1
  rintro ⟨x2, x3⟩ xo h hP1 hT1
  show WA X 0 0 5 [(0, .ref (ga X.G 162)), (1, .int p1), (2, .int p2), (3, .int x2), (4, .int x3)] [] m0 (EQ X (some (.int rr)) m0)
  rw [f_X8_isBusy_L5] at h
  refine a_iload (pc := 5) F dX8_isBusy_5 4 rfl ?_
  refine a_aload_n (pc := 7) F dX8_isBusy_7 0 rfl ?_
  refine a_getr (k := 162) (r := 163) (pc := 8) F dX8_isBusy_8 fl_RX8_7 kl_162 ks_162 rfl ?_
  refine a_bipush (v := 8) (pc := 11) F dX8_isBusy_11 (by decide) ?_
  refine a_ialc (k := 163) (pc := 13) F dX8_isBusy_13 kl_163 ks_163 rfl rfl ?_
  refine a_icmp_ge (tgt := 68) (pc := 14) F dX8_isBusy_14 (by decide) (fun q4 => ?_) (fun q4 => ?_)
  · replace h := ite_t q4 h
    clear q4
    refine a_lv F [3] rfl ?_
    cases hT1 _ (Option.some.inj h).symm
    exact hE1
  · replace h := ite_f q4 h
    clear q4
    refine a_iload_n (pc := 17) F dX8_isBusy_17 3 rfl ?_
    refine a_if_ne (tgt := 56) (pc := 18) F dX8_isBusy_18 (by decide) (fun q5 => ?_) (fun q5 => ?_)
    · replace h := ite_f q5 h
      clear q5
      refine a_iconst (v := 1) (pc := 56) F dX8_isBusy_56 (by decide) ?_
      refine a_goto (tgt := 61) (pc := 57) F dX8_isBusy_57 (by decide) ?_
      refine a_istore_n (lv' := [(3, .int 1), (0, .ref (ga X.G 162)), (1, .int p1), (2, .int p2), (4, .int x3)]) (pc := 61) F dX8_isBusy_61 (by decide) rfl ?_
      obtain ⟨x6, ex6⟩ : ∃ x6 : Int32, x6 = x3 + 1 := ⟨_, rfl⟩
      refine a_iinc (v := x6) (lv' := [(4, .int x6), (3, .int 1), (0, .ref (ga X.G 162)), (1, .int p1), (2, .int p2)]) (pc := 62) F dX8_isBusy_62 4 rfl (by rw [ex6]; rfl) (by decide) rfl ?_
      replace h := nm_at ex6 h
      clear ex6
      refine a_goto (tgt := 5) (pc := 65) F dX8_isBusy_65 (by decide) ?_
      refine a_lv F [2, 3, 4, 1, 0] rfl ?_
      exact hP1 _ (Option.some.inj h).symm
    · replace h := ite_t (Decidable.not_not.mp q5) h
      clear q5
      refine a_iload (pc := 21) F dX8_isBusy_21 4 rfl ?_
      refine a_iload_n (pc := 23) F dX8_isBusy_23 2 rfl ?_
      refine a_icmp_eq (tgt := 60) (pc := 24) F dX8_isBusy_24 (by decide) (fun q7 => ?_) (fun q7 => ?_)
      · replace h := ite_t q7 h
        clear q7
        refine a_iconst (v := 0) (pc := 60) F dX8_isBusy_60 (by decide) ?_
        refine a_istore_n (lv' := [(3, .int 0), (0, .ref (ga X.G 162)), (1, .int p1), (2, .int p2), (4, .int x3)]) (pc := 61) F dX8_isBusy_61 (by decide) rfl ?_
        obtain ⟨x8, ex8⟩ : ∃ x8 : Int32, x8 = x3 + 1 := ⟨_, rfl⟩
        refine a_iinc (v := x8) (lv' := [(4, .int x8), (3, .int 0), (0, .ref (ga X.G 162)), (1, .int p1), (2, .int p2)]) (pc := 62) F dX8_isBusy_62 4 rfl (by rw [ex8]; rfl) (by decide) rfl ?_
        replace h := nm_at ex8 h
        clear ex8
        refine a_goto (tgt := 5) (pc := 65) F dX8_isBusy_65 (by decide) ?_
        refine a_lv F [2, 3, 4, 1, 0] rfl ?_
        exact hP1 _ (Option.some.inj h).symm
      · replace h := ite_f q7 h
        clear q7
        refine a_aload_n (pc := 27) F dX8_isBusy_27 0 rfl ?_
        refine a_iload (pc := 28) F dX8_isBusy_28 4 rfl ?_
        replace h := bnd_some h
        obtain ⟨x10, hc9, h⟩ := h
        refine a_callV (pc := 30) (k := 162) (As := [.int x3]) (st := []) F dX8_isBusy_30 (m_X8_isListed hc9) cv_RX8_50 kl_162 ks_162 ⟨_, _, rfl⟩ rfl rfl rfl (Nat.le_of_ble_eq_true rfl) ⟨Nat.le_of_ble_eq_true rfl, Nat.le_of_ble_eq_true rfl⟩ ?_ rfl rfl
        clear hc9
        refine a_if_eq (tgt := 60) (pc := 33) F dX8_isBusy_33 (by decide) (fun q11 => ?_) (fun q11 => ?_)
        · replace h := ite_t q11 h
          clear q11
          refine a_iconst (v := 0) (pc := 60) F dX8_isBusy_60 (by decide) ?_
          refine a_istore_n (lv' := [(3, .int 0), (0, .ref (ga X.G 162)), (1, .int p1), (2, .int p2), (4, .int x3)]) (pc := 61) F dX8_isBusy_61 (by decide) rfl ?_
          obtain ⟨x12, ex12⟩ : ∃ x12 : Int32, x12 = x3 + 1 := ⟨_, rfl⟩
          refine a_iinc (v := x12) (lv' := [(4, .int x12), (3, .int 0), (0, .ref (ga X.G 162)), (1, .int p1), (2, .int p2)]) (pc := 62) F dX8_isBusy_62 4 rfl (by rw [ex12]; rfl) (by decide) rfl ?_
          replace h := nm_at ex12 h
          clear ex12
          refine a_goto (tgt := 5) (pc := 65) F dX8_isBusy_65 (by decide) ?_
          refine a_lv F [2, 3, 4, 1, 0] rfl ?_
          exact hP1 _ (Option.some.inj h).symm
        · replace h := ite_f q11 h
          clear q11
          refine a_aload_n (pc := 36) F dX8_isBusy_36 0 rfl ?_
          refine a_iload_n (pc := 37) F dX8_isBusy_37 1 rfl ?_
          refine a_iload (pc := 38) F dX8_isBusy_38 4 rfl ?_
          replace h := bnd_some h
          obtain ⟨x14, hc13, h⟩ := h
          refine a_callV (pc := 40) (k := 162) (As := [.int p1, .int x3]) (st := []) F dX8_isBusy_40 (m_X8_isIn hc13) cv_RX8_54 kl_162 ks_162 ⟨_, _, rfl⟩ rfl rfl rfl (Nat.le_of_ble_eq_true rfl) ⟨Nat.le_of_ble_eq_true rfl, Nat.le_of_ble_eq_true rfl⟩ ?_ rfl rfl
          clear hc13
          refine a_if_eq (tgt := 60) (pc := 43) F dX8_isBusy_43 (by decide) (fun q15 => ?_) (fun q15 => ?_)
          · replace h := ite_t q15 h
            clear q15
            refine a_iconst (v := 0) (pc := 60) F dX8_isBusy_60 (by decide) ?_
            refine a_istore_n (lv' := [(3, .int 0), (0, .ref (ga X.G 162)), (1, .int p1), (2, .int p2), (4, .int x3)]) (pc := 61) F dX8_isBusy_61 (by decide) rfl ?_
            obtain ⟨x16, ex16⟩ : ∃ x16 : Int32, x16 = x3 + 1 := ⟨_, rfl⟩
            refine a_iinc (v := x16) (lv' := [(4, .int x16), (3, .int 0), (0, .ref (ga X.G 162)), (1, .int p1), (2, .int p2)]) (pc := 62) F dX8_isBusy_62 4 rfl (by rw [ex16]; rfl) (by decide) rfl ?_
            replace h := nm_at ex16 h
            clear ex16
            refine a_goto (tgt := 5) (pc := 65) F dX8_isBusy_65 (by decide) ?_
            refine a_lv F [2, 3, 4, 1, 0] rfl ?_
            exact hP1 _ (Option.some.inj h).symm
          · replace h := ite_f q15 h
            clear q15
            refine a_aload_n (pc := 46) F dX8_isBusy_46 0 rfl ?_
            refine a_iload (pc := 47) F dX8_isBusy_47 4 rfl ?_
            refine a_iload_n (pc := 49) F dX8_isBusy_49 2 rfl ?_
            replace h := bnd_some h
            obtain ⟨x18, hc17, h⟩ := h
            refine a_callV (pc := 50) (k := 162) (As := [.int x3, .int p2]) (st := []) F dX8_isBusy_50 (m_X8_clash hc17) cv_RX8_58 kl_162 ks_162 ⟨_, _, rfl⟩ rfl rfl rfl (Nat.le_of_ble_eq_true rfl) ⟨Nat.le_of_ble_eq_true rfl, Nat.le_of_ble_eq_true rfl⟩ ?_ rfl rfl
            clear hc17
            refine a_if_eq (tgt := 60) (pc := 53) F dX8_isBusy_53 (by decide) (fun q19 => ?_) (fun q19 => ?_)
            · replace h := ite_t q19 h
              clear q19
              refine a_iconst (v := 0) (pc := 60) F dX8_isBusy_60 (by decide) ?_
              refine a_istore_n (lv' := [(3, .int 0), (0, .ref (ga X.G 162)), (1, .int p1), (2, .int p2), (4, .int x3)]) (pc := 61) F dX8_isBusy_61 (by decide) rfl ?_
              obtain ⟨x20, ex20⟩ : ∃ x20 : Int32, x20 = x3 + 1 := ⟨_, rfl⟩
              refine a_iinc (v := x20) (lv' := [(4, .int x20), (3, .int 0), (0, .ref (ga X.G 162)), (1, .int p1), (2, .int p2)]) (pc := 62) F dX8_isBusy_62 4 rfl (by rw [ex20]; rfl) (by decide) rfl ?_
              replace h := nm_at ex20 h
              clear ex20
              refine a_goto (tgt := 5) (pc := 65) F dX8_isBusy_65 (by decide) ?_
              refine a_lv F [2, 3, 4, 1, 0] rfl ?_
              exact hP1 _ (Option.some.inj h).symm
            · replace h := ite_f q19 h
              clear q19
              refine a_iconst (v := 1) (pc := 56) F dX8_isBusy_56 (by decide) ?_
              refine a_goto (tgt := 61) (pc := 57) F dX8_isBusy_57 (by decide) ?_
              refine a_istore_n (lv' := [(3, .int 1), (0, .ref (ga X.G 162)), (1, .int p1), (2, .int p2), (4, .int x3)]) (pc := 61) F dX8_isBusy_61 (by decide) rfl ?_
              obtain ⟨x21, ex21⟩ : ∃ x21 : Int32, x21 = x3 + 1 := ⟨_, rfl⟩
              refine a_iinc (v := x21) (lv' := [(4, .int x21), (3, .int 1), (0, .ref (ga X.G 162)), (1, .int p1), (2, .int p2)]) (pc := 62) F dX8_isBusy_62 4 rfl (by rw [ex21]; rfl) (by decide) rfl ?_
              replace h := nm_at ex21 h
              clear ex21
              refine a_goto (tgt := 5) (pc := 65) F dX8_isBusy_65 (by decide) ?_
              refine a_lv F [2, 3, 4, 1, 0] rfl ?_
              exact hP1 _ (Option.some.inj h).symm
def f_X8_earns (p1 : Int32) (p2 : Int32) (p3 : Int32) (m0 : Mem) : Option Int32 :=
  gIn (33 + p1) 373 <| nm (m0.1 163 (33 + p1).toNatClampNeg) fun x2 => bnd (f_X8_of p2 3 m0) fun x4 => (if p3 ≤ 1 then some (((x2 * x4) + 9) / 10) else nm ((((x2 * x4) + 9) / 10) * (100 + (m0.1 163 6))) fun x6 => some (x6 / 100))
set_option maxRecDepth 100000 in
set_option maxHeartbeats 4000000 in
theorem m_X8_earns {p1 : Int32} {p2 : Int32} {p3 : Int32} {m0 : Mem} {rr : Int32} (h : f_X8_earns p1 p2 p3 m0 = some rr) : Con yX8_earns cX8_earns 5 (some Jvm.ClassFile.FieldType.int) 1 22 (fun G => [.ref (ga G 162), .int p1, .int p2, .int p3]) m0 (some (.int rr)) m0 := by
  refine con_of (by decide) (fun G => Nat.le_of_ble_eq_true rfl) (fun X F => ?_)
  show WA X 0 0 0 [(0, .ref (ga X.G 162)), (1, .int p1), (2, .int p2), (3, .int p3)] [] m0 (EQ X (some (.int rr)) m0)
  rw [f_X8_earns] at h
  refine a_aload_n (pc := 0) F dX8_earns_0 0 rfl ?_
  refine a_getr (k := 162) (r := 163) (pc := 1) F dX8_earns_1 fl_RX8_7 kl_162 ks_162 rfl ?_
  refine a_bipush (v := 33) (pc := 4) F dX8_earns_4 (by decide) ?_
  refine a_iload_n (pc := 6) F dX8_earns_6 1 rfl ?_
  refine a_iadd (pc := 7) F dX8_earns_7 ?_
  replace h := gIn_some h
  obtain ⟨g1, h⟩ := h
  refine a_ial (k := 163) (pc := 8) F dX8_earns_8 kl_163 ks_163 g1 ?_
  refine a_nmi fun x2 ex2 => ?_
  replace h := nm_at ex2 h
  clear ex2
  refine a_aload_n (pc := 9) F dX8_earns_9 0 rfl ?_
  refine a_iload_n (pc := 10) F dX8_earns_10 2 rfl ?_
  refine a_iconst (v := 3) (pc := 11) F dX8_earns_11 (by decide) ?_
  replace h := bnd_some h
  obtain ⟨x4, hc3, h⟩ := h
  refine a_callV (pc := 12) (k := 162) (As := [.int p2, .int 3]) (st := [.int x2]) F dX8_earns_12 (m_X8_of hc3) cv_RX8_42 kl_162 ks_162 ⟨_, _, rfl⟩ rfl rfl rfl (Nat.le_of_ble_eq_true rfl) ⟨Nat.le_of_ble_eq_true rfl, Nat.le_of_ble_eq_true rfl⟩ ?_ rfl rfl
  clear hc3
  refine a_imul (pc := 15) F dX8_earns_15 ?_
  refine a_bipush (v := 9) (pc := 16) F dX8_earns_16 (by decide) ?_
  refine a_iadd (pc := 18) F dX8_earns_18 ?_
  refine a_bipush (v := 10) (pc := 19) F dX8_earns_19 (by decide) ?_
  refine a_idiv (pc := 21) F dX8_earns_21 (by decide) ?_
  refine a_istore (lv' := [(4, .int (((x2 * x4) + 9) / 10)), (0, .ref (ga X.G 162)), (1, .int p1), (2, .int p2), (3, .int p3)]) (pc := 22) F dX8_earns_22 (by decide) rfl ?_
  refine a_iload_n (pc := 24) F dX8_earns_24 4 rfl ?_
  refine a_iconst (v := 1) (pc := 25) F dX8_earns_25 (by decide) ?_
  refine a_icmp_le (tgt := 48) (pc := 26) F dX8_earns_26 (by decide) (fun q5 => ?_) (fun q5 => ?_)
  · replace h := ite_t q5 h
    clear q5
    refine a_iload (pc := 48) F dX8_earns_48 0 rfl ?_
    cases h
    exact a_iret (pc := 50) F dX8_earns_50 ⟨_, rfl, rfl⟩
  · replace h := ite_f q5 h
    clear q5
    refine a_iload (pc := 29) F dX8_earns_29 0 rfl ?_
    refine a_bipush (v := 100) (pc := 31) F dX8_earns_31 (by decide) ?_
    refine a_aload_n (pc := 33) F dX8_earns_33 1 rfl ?_
    refine a_getr (k := 162) (r := 163) (pc := 34) F dX8_earns_34 fl_RX8_7 kl_162 ks_162 rfl ?_
    refine a_bipush (v := 6) (pc := 37) F dX8_earns_37 (by decide) ?_
    refine a_ialc (k := 163) (pc := 39) F dX8_earns_39 kl_163 ks_163 rfl rfl ?_
    refine a_iadd (pc := 40) F dX8_earns_40 ?_
    refine a_imul (pc := 41) F dX8_earns_41 ?_
    refine a_nmi fun x6 ex6 => ?_
    replace h := nm_at ex6 h
    clear ex6
    refine a_bipush (v := 100) (pc := 42) F dX8_earns_42 (by decide) ?_
    refine a_idiv (pc := 44) F dX8_earns_44 (by decide) ?_
    refine a_goto (tgt := 50) (pc := 45) F dX8_earns_45 (by decide) ?_
    cases h
    exact a_iret (pc := 50) F dX8_earns_50 ⟨_, rfl, rfl⟩
def f_X8_payFor_L13 (p1 : Int32) (p2 : Int32) (m0 : Mem) (x2 : Int32) : (Int32 × Int32) → Option ((Int32 × Int32) ⊕ Int32)
  | (x4, x5) => (if x2 ≤ x5 then some (.inr x4) else bnd (f_X8_of p1 (6 + x5) m0) fun x8 => bnd (f_X8_earns x8 p1 x2 m0) fun x10 => nm (x5 + 1) fun x11 => some (.inl (x4 + ((x10 * p2) / 2), x11)))
def f_X8_payFor (p1 : Int32) (p2 : Int32) (m0 : Mem) : Option Int32 :=
  bnd (f_X8_of p1 5 m0) fun x2 => bnd (lp (f_X8_payFor_L13 p1 p2 m0 x2) 1000000 (0, 0)) (fun x12 => some x12)
set_option maxRecDepth 100000 in
set_option maxHeartbeats 4000000 in
theorem m_X8_payFor {p1 : Int32} {p2 : Int32} {m0 : Mem} {rr : Int32} (h : f_X8_payFor p1 p2 m0 = some rr) : Con yX8_payFor cX8_payFor 6 (some Jvm.ClassFile.FieldType.int) 2 46 (fun G => [.ref (ga G 162), .int p1, .int p2]) m0 (some (.int rr)) m0 := by
  refine con_of (by decide) (fun G => Nat.le_of_ble_eq_true rfl) (fun X F => ?_)
  show WA X 0 0 0 [(0, .ref (ga X.G 162)), (1, .int p1), (2, .int p2)] [] m0 (EQ X (some (.int rr)) m0)
  rw [f_X8_payFor] at h
  refine a_iconst (v := 0) (pc := 0) F dX8_payFor_0 (by decide) ?_
  refine a_istore_n (lv' := [(3, .int 0), (0, .ref (ga X.G 162)), (1, .int p1), (2, .int p2)]) (pc := 1) F dX8_payFor_1 (by decide) rfl ?_
  refine a_aload_n (pc := 2) F dX8_payFor_2 1 rfl ?_
  refine a_iload_n (pc := 3) F dX8_payFor_3 2 rfl ?_
  refine a_iconst (v := 5) (pc := 4) F dX8_payFor_4 (by decide) ?_
  replace h := bnd_some h
  obtain ⟨x2, hc1, h⟩ := h
  refine a_callV (pc := 5) (k := 162) (As := [.int p1, .int 5]) (st := []) F dX8_payFor_5 (m_X8_of hc1) cv_RX8_42 kl_162 ks_162 ⟨_, _, rfl⟩ rfl rfl rfl (Nat.le_of_ble_eq_true rfl) ⟨Nat.le_of_ble_eq_true rfl, Nat.le_of_ble_eq_true rfl⟩ ?_ rfl rfl
  clear hc1
  refine a_istore (lv' := [(4, .int x2), (3, .int 0), (0, .ref (ga X.G 162)), (1, .int p1), (2, .int p2)]) (pc := 8) F dX8_payFor_8 (by decide) rfl ?_
  refine a_iconst (v := 0) (pc := 10) F dX8_payFor_10 (by decide) ?_
  refine a_istore (lv' := [(5, .int 0), (4, .int x2), (3, .int 0), (0, .ref (ga X.G 162)), (1, .int p1), (2, .int p2)]) (pc := 11) F dX8_payFor_11 (by decide) rfl ?_
  refine a_lv F [3, 4, 5, 2, 1, 0] rfl ?_
  replace h := bnd_some h
  obtain ⟨x12, hL3, h⟩ := h
  have hE3 : WA X 0 0 50 [(3, .int x12)] [] m0 (EQ X (some (.int rr)) m0) := by
    refine a_iload_n (pc := 50) F dX8_payFor_50 0 rfl ?_
    cases h
    exact a_iret (pc := 51) F dX8_payFor_51 ⟨_, rfl, rfl⟩
  clear h
  refine lp_run (P := fun (s : (Int32 × Int32)) => WA X 0 0 13 [(0, .ref (ga X.G 162)), (1, .int p1), (2, .int p2), (3, .int s.1), (4, .int x2), (5, .int s.2)] [] m0 (EQ X (some (.int rr)) m0)) ?_ _ _ hL3
  clear hL3
  rintro ⟨x4, x5⟩ xo h hP3 hT3
  show WA X 0 0 13 [(0, .ref (ga X.G 162)), (1, .int p1), (2, .int p2), (3, .int x4), (4, .int x2), (5, .int x5)] [] m0 (EQ X (some (.int rr)) m0)
  rw [f_X8_payFor_L13] at h
  refine a_iload (pc := 13) F dX8_payFor_13 5 rfl ?_
  refine a_iload (pc := 15) F dX8_payFor_15 4 rfl ?_
  refine a_icmp_ge (tgt := 50) (pc := 17) F dX8_payFor_17 (by decide) (fun q6 => ?_) (fun q6 => ?_)
  · replace h := ite_t q6 h
    clear q6
    refine a_lv F [3] rfl ?_
    cases hT3 _ (Option.some.inj h).symm
    exact hE3
  · replace h := ite_f q6 h
    clear q6
    refine a_iload_n (pc := 20) F dX8_payFor_20 3 rfl ?_
    refine a_aload_n (pc := 21) F dX8_payFor_21 0 rfl ?_
    refine a_aload_n (pc := 22) F dX8_payFor_22 0 rfl ?_
    refine a_iload_n (pc := 23) F dX8_payFor_23 1 rfl ?_
    refine a_bipush (v := 6) (pc := 24) F dX8_payFor_24 (by decide) ?_
    refine a_iload (pc := 26) F dX8_payFor_26 5 rfl ?_
    refine a_iadd (pc := 28) F dX8_payFor_28 ?_
    replace h := bnd_some h
    obtain ⟨x8, hc7, h⟩ := h
    refine a_callV (pc := 29) (k := 162) (As := [.int p1, .int (6 + x5)]) (st := [.ref (ga X.G 162), .int x4]) F dX8_payFor_29 (m_X8_of hc7) cv_RX8_42 kl_162 ks_162 ⟨_, _, rfl⟩ rfl rfl rfl (Nat.le_of_ble_eq_true rfl) ⟨Nat.le_of_ble_eq_true rfl, Nat.le_of_ble_eq_true rfl⟩ ?_ rfl rfl
    clear hc7
    refine a_iload_n (pc := 32) F dX8_payFor_32 1 rfl ?_
    refine a_iload (pc := 33) F dX8_payFor_33 4 rfl ?_
    replace h := bnd_some h
    obtain ⟨x10, hc9, h⟩ := h
    refine a_callV (pc := 35) (k := 162) (As := [.int x8, .int p1, .int x2]) (st := [.int x4]) F dX8_payFor_35 (m_X8_earns hc9) cv_RX8_61 kl_162 ks_162 ⟨_, _, rfl⟩ rfl rfl rfl (Nat.le_of_ble_eq_true rfl) ⟨Nat.le_of_ble_eq_true rfl, Nat.le_of_ble_eq_true rfl⟩ ?_ rfl rfl
    clear hc9
    refine a_iload_n (pc := 38) F dX8_payFor_38 2 rfl ?_
    refine a_imul (pc := 39) F dX8_payFor_39 ?_
    refine a_iconst (v := 2) (pc := 40) F dX8_payFor_40 (by decide) ?_
    refine a_idiv (pc := 41) F dX8_payFor_41 (by decide) ?_
    refine a_iadd (pc := 42) F dX8_payFor_42 ?_
    refine a_istore_n (lv' := [(3, .int (x4 + ((x10 * p2) / 2))), (0, .ref (ga X.G 162)), (1, .int p1), (2, .int p2), (4, .int x2), (5, .int x5)]) (pc := 43) F dX8_payFor_43 (by decide) rfl ?_
    obtain ⟨x11, ex11⟩ : ∃ x11 : Int32, x11 = x5 + 1 := ⟨_, rfl⟩
    refine a_iinc (v := x11) (lv' := [(5, .int x11), (3, .int (x4 + ((x10 * p2) / 2))), (0, .ref (ga X.G 162)), (1, .int p1), (2, .int p2), (4, .int x2)]) (pc := 44) F dX8_payFor_44 5 rfl (by rw [ex11]; rfl) (by decide) rfl ?_
    replace h := nm_at ex11 h
    clear ex11
    refine a_goto (tgt := 13) (pc := 47) F dX8_payFor_47 (by decide) ?_
    refine a_lv F [2, 3, 4, 1, 5, 0] rfl ?_
    exact hP3 _ (Option.some.inj h).symm
def f_X8_pay_L18 (p1 : Int32) (p2 : Int32) (x4 : Int32) : (Int32 × Mem) → Option ((Int32 × Mem) ⊕ Mem)
  | (x6, m7) => (if x4 ≤ x6 then some (.inr m7) else bnd (f_X8_of p1 (6 + x6) m7) fun x10 => gIn (53 + x10) 373 <| nm (m7.1 163 (53 + x10).toNatClampNeg) fun x12 => bnd (f_X8_earns x10 p1 x4 m7) fun x14 => gIn (53 + x10) 373 <| nm (si m7 163 (53 + x10).toNatClampNeg (x12 + ((x14 * p2) / 2))) fun m16 => nm (x6 + 1) fun x17 => some (.inl (x17, m16)))
def f_X8_pay (p1 : Int32) (p2 : Int32) (m0 : Mem) : Option (Int32 × Mem) :=
  bnd (f_X8_payFor p1 p2 m0) fun x2 => bnd (f_X8_of p1 5 m0) fun x4 => bnd (lp (f_X8_pay_L18 p1 p2 x4) 1000000 (0, m0)) (fun m18 => gIn ((73 + (10 * p1)) + 9) 373 <| nm (m18.1 163 ((73 + (10 * p1)) + 9).toNatClampNeg) fun x20 => gIn ((73 + (10 * p1)) + 9) 373 <| nm (si m18 163 ((73 + (10 * p1)) + 9).toNatClampNeg (x20 + x2)) fun m22 => nm (si m22 163 10 ((m22.1 163 10) + x2)) fun m23 => some (x2, m23))
set_option maxRecDepth 100000 in
set_option maxHeartbeats 4000000 in
theorem m_X8_pay {p1 : Int32} {p2 : Int32} {m0 : Mem} {rr : Int32} {mm : Mem} (h : f_X8_pay p1 p2 m0 = some (rr, mm)) : Con yX8_pay cX8_pay 7 (some Jvm.ClassFile.FieldType.int) 3 71 (fun G => [.ref (ga G 162), .int p1, .int p2]) m0 (some (.int rr)) mm := by
  refine con_of (by decide) (fun G => Nat.le_of_ble_eq_true rfl) (fun X F => ?_)
  show WA X 0 0 0 [(0, .ref (ga X.G 162)), (1, .int p1), (2, .int p2)] [] m0 (EQ X (some (.int rr)) mm)
  rw [f_X8_pay] at h
  refine a_aload_n (pc := 0) F dX8_pay_0 0 rfl ?_
  refine a_iload_n (pc := 1) F dX8_pay_1 1 rfl ?_
  refine a_iload_n (pc := 2) F dX8_pay_2 2 rfl ?_
  replace h := bnd_some h
  obtain ⟨x2, hc1, h⟩ := h
  refine a_callV (pc := 3) (k := 162) (As := [.int p1, .int p2]) (st := []) F dX8_pay_3 (m_X8_payFor hc1) cv_RX8_65 kl_162 ks_162 ⟨_, _, rfl⟩ rfl rfl rfl (Nat.le_of_ble_eq_true rfl) ⟨Nat.le_of_ble_eq_true rfl, Nat.le_of_ble_eq_true rfl⟩ ?_ rfl rfl
  clear hc1
  refine a_istore_n (lv' := [(3, .int x2), (0, .ref (ga X.G 162)), (1, .int p1), (2, .int p2)]) (pc := 6) F dX8_pay_6 (by decide) rfl ?_
  refine a_aload_n (pc := 7) F dX8_pay_7 1 rfl ?_
  refine a_iload_n (pc := 8) F dX8_pay_8 2 rfl ?_
  refine a_iconst (v := 5) (pc := 9) F dX8_pay_9 (by decide) ?_
  replace h := bnd_some h
  obtain ⟨x4, hc3, h⟩ := h
  refine a_callV (pc := 10) (k := 162) (As := [.int p1, .int 5]) (st := []) F dX8_pay_10 (m_X8_of hc3) cv_RX8_42 kl_162 ks_162 ⟨_, _, rfl⟩ rfl rfl rfl (Nat.le_of_ble_eq_true rfl) ⟨Nat.le_of_ble_eq_true rfl, Nat.le_of_ble_eq_true rfl⟩ ?_ rfl rfl
  clear hc3
  refine a_istore (lv' := [(4, .int x4), (3, .int x2), (0, .ref (ga X.G 162)), (1, .int p1), (2, .int p2)]) (pc := 13) F dX8_pay_13 (by decide) rfl ?_
  refine a_iconst (v := 0) (pc := 15) F dX8_pay_15 (by decide) ?_
  refine a_istore (lv' := [(5, .int 0), (4, .int x4), (3, .int x2), (0, .ref (ga X.G 162)), (1, .int p1), (2, .int p2)]) (pc := 16) F dX8_pay_16 (by decide) rfl ?_
  refine a_lv F [3, 4, 5, 2, 1, 0] rfl ?_
  replace h := bnd_some h
  obtain ⟨m18, hL5, h⟩ := h
  have hE5 : WA X 0 0 69 [(0, .ref (ga X.G 162)), (1, .int p1), (3, .int x2)] [] m18 (EQ X (some (.int rr)) mm) := by
    refine a_aload_n (pc := 69) F dX8_pay_69 0 rfl ?_
    refine a_getr (k := 162) (r := 163) (pc := 70) F dX8_pay_70 fl_RX8_7 kl_162 ks_162 rfl ?_
    refine a_bipush (v := 73) (pc := 73) F dX8_pay_73 (by decide) ?_
    refine a_bipush (v := 10) (pc := 75) F dX8_pay_75 (by decide) ?_
    refine a_iload_n (pc := 77) F dX8_pay_77 1 rfl ?_
    refine a_imul (pc := 78) F dX8_pay_78 ?_
    refine a_iadd (pc := 79) F dX8_pay_79 ?_
    refine a_bipush (v := 9) (pc := 80) F dX8_pay_80 (by decide) ?_
    refine a_iadd (pc := 82) F dX8_pay_82 ?_
    refine a_dup2 (pc := 83) F dX8_pay_83 rfl rfl ?_
    replace h := gIn_some h
    obtain ⟨g19, h⟩ := h
    refine a_ial (k := 163) (pc := 84) F dX8_pay_84 kl_163 ks_163 g19 ?_
    refine a_nmi fun x20 ex20 => ?_
    replace h := nm_at ex20 h
    clear ex20
    refine a_iload_n (pc := 85) F dX8_pay_85 2 rfl ?_
    refine a_iadd (pc := 86) F dX8_pay_86 ?_
    replace h := gIn_some h
    obtain ⟨g21, h⟩ := h
    refine a_ias (k := 163) (pc := 87) F dX8_pay_87 kl_163 ks_163 g21 ?_
    refine a_nmm fun m22 em22 => ?_
    replace h := nm_at em22 h
    clear em22
    refine a_aload_n (pc := 88) F dX8_pay_88 0 rfl ?_
    refine a_getr (k := 162) (r := 163) (pc := 89) F dX8_pay_89 fl_RX8_7 kl_162 ks_162 rfl ?_
    refine a_bipush (v := 10) (pc := 92) F dX8_pay_92 (by decide) ?_
    refine a_dup2 (pc := 94) F dX8_pay_94 rfl rfl ?_
    refine a_ialc (k := 163) (pc := 95) F dX8_pay_95 kl_163 ks_163 rfl rfl ?_
    refine a_iload_n (pc := 96) F dX8_pay_96 2 rfl ?_
    refine a_iadd (pc := 97) F dX8_pay_97 ?_
    refine a_iasc (k := 163) (pc := 98) F dX8_pay_98 kl_163 ks_163 rfl rfl ?_
    refine a_nmm fun m23 em23 => ?_
    replace h := nm_at em23 h
    clear em23
    refine a_iload_n (pc := 99) F dX8_pay_99 2 rfl ?_
    cases h
    exact a_iret (pc := 100) F dX8_pay_100 ⟨_, rfl, rfl⟩
  clear h
  refine lp_run (P := fun (s : (Int32 × Mem)) => WA X 0 0 18 [(0, .ref (ga X.G 162)), (1, .int p1), (2, .int p2), (3, .int x2), (4, .int x4), (5, .int s.1)] [] s.2 (EQ X (some (.int rr)) mm)) ?_ _ _ hL5
  clear hL5
  rintro ⟨x6, m7⟩ xo h hP5 hT5
  show WA X 0 0 18 [(0, .ref (ga X.G 162)), (1, .int p1), (2, .int p2), (3, .int x2), (4, .int x4), (5, .int x6)] [] m7 (EQ X (some (.int rr)) mm)
  rw [f_X8_pay_L18] at h
  refine a_iload (pc := 18) F dX8_pay_18 5 rfl ?_
  refine a_iload (pc := 20) F dX8_pay_20 4 rfl ?_
  refine a_icmp_ge (tgt := 69) (pc := 22) F dX8_pay_22 (by decide) (fun q8 => ?_) (fun q8 => ?_)
  · replace h := ite_t q8 h
    clear q8
    refine a_lv F [0, 1, 3] rfl ?_
    cases hT5 _ (Option.some.inj h).symm
    exact hE5
  · replace h := ite_f q8 h
    clear q8
    refine a_aload_n (pc := 25) F dX8_pay_25 0 rfl ?_
    refine a_iload_n (pc := 26) F dX8_pay_26 1 rfl ?_
    refine a_bipush (v := 6) (pc := 27) F dX8_pay_27 (by decide) ?_
    refine a_iload (pc := 29) F dX8_pay_29 5 rfl ?_
    refine a_iadd (pc := 31) F dX8_pay_31 ?_
    replace h := bnd_some h
    obtain ⟨x10, hc9, h⟩ := h
    refine a_callV (pc := 32) (k := 162) (As := [.int p1, .int (6 + x6)]) (st := []) F dX8_pay_32 (m_X8_of hc9) cv_RX8_42 kl_162 ks_162 ⟨_, _, rfl⟩ rfl rfl rfl (Nat.le_of_ble_eq_true rfl) ⟨Nat.le_of_ble_eq_true rfl, Nat.le_of_ble_eq_true rfl⟩ ?_ rfl rfl
    clear hc9
    refine a_istore (lv' := [(6, .int x10), (0, .ref (ga X.G 162)), (1, .int p1), (2, .int p2), (3, .int x2), (4, .int x4), (5, .int x6)]) (pc := 35) F dX8_pay_35 (by decide) rfl ?_
    refine a_aload_n (pc := 37) F dX8_pay_37 1 rfl ?_
    refine a_getr (k := 162) (r := 163) (pc := 38) F dX8_pay_38 fl_RX8_7 kl_162 ks_162 rfl ?_
    refine a_bipush (v := 53) (pc := 41) F dX8_pay_41 (by decide) ?_
    refine a_iload (pc := 43) F dX8_pay_43 0 rfl ?_
    refine a_iadd (pc := 45) F dX8_pay_45 ?_
    refine a_dup2 (pc := 46) F dX8_pay_46 rfl rfl ?_
    replace h := gIn_some h
    obtain ⟨g11, h⟩ := h
    refine a_ial (k := 163) (pc := 47) F dX8_pay_47 kl_163 ks_163 g11 ?_
    refine a_nmi fun x12 ex12 => ?_
    replace h := nm_at ex12 h
    clear ex12
    refine a_aload_n (pc := 48) F dX8_pay_48 1 rfl ?_
    refine a_iload (pc := 49) F dX8_pay_49 0 rfl ?_
    refine a_iload_n (pc := 51) F dX8_pay_51 2 rfl ?_
    refine a_iload (pc := 52) F dX8_pay_52 5 rfl ?_
    replace h := bnd_some h
    obtain ⟨x14, hc13, h⟩ := h
    refine a_callV (pc := 54) (k := 162) (As := [.int x10, .int p1, .int x4]) (st := [.int x12, .int (53 + x10), .ref (ga X.G 163)]) F dX8_pay_54 (m_X8_earns hc13) cv_RX8_61 kl_162 ks_162 ⟨_, _, rfl⟩ rfl rfl rfl (Nat.le_of_ble_eq_true rfl) ⟨Nat.le_of_ble_eq_true rfl, Nat.le_of_ble_eq_true rfl⟩ ?_ rfl rfl
    clear hc13
    refine a_iload_n (pc := 57) F dX8_pay_57 3 rfl ?_
    refine a_imul (pc := 58) F dX8_pay_58 ?_
    refine a_iconst (v := 2) (pc := 59) F dX8_pay_59 (by decide) ?_
    refine a_idiv (pc := 60) F dX8_pay_60 (by decide) ?_
    refine a_iadd (pc := 61) F dX8_pay_61 ?_
    replace h := gIn_some h
    obtain ⟨g15, h⟩ := h
    refine a_ias (k := 163) (pc := 62) F dX8_pay_62 kl_163 ks_163 g15 ?_
    refine a_nmm fun m16 em16 => ?_
    replace h := nm_at em16 h
    clear em16
    obtain ⟨x17, ex17⟩ : ∃ x17 : Int32, x17 = x6 + 1 := ⟨_, rfl⟩
    refine a_iinc (v := x17) (lv' := [(5, .int x17), (6, .int x10), (0, .ref (ga X.G 162)), (1, .int p1), (2, .int p2), (3, .int x2), (4, .int x4)]) (pc := 63) F dX8_pay_63 6 rfl (by rw [ex17]; rfl) (by decide) rfl ?_
    replace h := nm_at ex17 h
    clear ex17
    refine a_goto (tgt := 18) (pc := 66) F dX8_pay_66 (by decide) ?_
    refine a_lv F [2, 3, 4, 5, 6, 0] rfl ?_
    exact hP5 _ (Option.some.inj h).symm
def f_X8_halvesBy (p1 : Int32) (m0 : Mem) : Option Int32 :=
  (if (m0.1 163 4) ≤ p1 then (if (m0.1 163 5) ≤ p1 then some 0 else some 1) else some 2)
set_option maxRecDepth 100000 in
set_option maxHeartbeats 4000000 in
theorem m_X8_halvesBy {p1 : Int32} {m0 : Mem} {rr : Int32} (h : f_X8_halvesBy p1 m0 = some rr) : Con yX8_halvesBy cX8_halvesBy 2 (some Jvm.ClassFile.FieldType.int) 0 0 (fun G => [.ref (ga G 162), .int p1]) m0 (some (.int rr)) m0 := by
  refine con_of (by decide) (fun G => Nat.le_of_ble_eq_true rfl) (fun X F => ?_)
  show WA X 0 0 0 [(0, .ref (ga X.G 162)), (1, .int p1)] [] m0 (EQ X (some (.int rr)) m0)
  rw [f_X8_halvesBy] at h
  refine a_iload_n (pc := 0) F dX8_halvesBy_0 1 rfl ?_
  refine a_aload_n (pc := 1) F dX8_halvesBy_1 0 rfl ?_
  refine a_getr (k := 162) (r := 163) (pc := 2) F dX8_halvesBy_2 fl_RX8_7 kl_162 ks_162 rfl ?_
  refine a_iconst (v := 4) (pc := 5) F dX8_halvesBy_5 (by decide) ?_
  refine a_ialc (k := 163) (pc := 6) F dX8_halvesBy_6 kl_163 ks_163 rfl rfl ?_
  refine a_icmp_ge (tgt := 14) (pc := 7) F dX8_halvesBy_7 (by decide) (fun q1 => ?_) (fun q1 => ?_)
  · replace h := ite_t q1 h
    clear q1
    refine a_iload_n (pc := 14) F dX8_halvesBy_14 1 rfl ?_
    refine a_aload_n (pc := 15) F dX8_halvesBy_15 0 rfl ?_
    refine a_getr (k := 162) (r := 163) (pc := 16) F dX8_halvesBy_16 fl_RX8_7 kl_162 ks_162 rfl ?_
    refine a_iconst (v := 5) (pc := 19) F dX8_halvesBy_19 (by decide) ?_
    refine a_ialc (k := 163) (pc := 20) F dX8_halvesBy_20 kl_163 ks_163 rfl rfl ?_
    refine a_icmp_ge (tgt := 28) (pc := 21) F dX8_halvesBy_21 (by decide) (fun q2 => ?_) (fun q2 => ?_)
    · replace h := ite_t q2 h
      clear q2
      refine a_iconst (v := 0) (pc := 28) F dX8_halvesBy_28 (by decide) ?_
      cases h
      exact a_iret (pc := 29) F dX8_halvesBy_29 ⟨_, rfl, rfl⟩
    · replace h := ite_f q2 h
      clear q2
      refine a_iconst (v := 1) (pc := 24) F dX8_halvesBy_24 (by decide) ?_
      refine a_goto (tgt := 29) (pc := 25) F dX8_halvesBy_25 (by decide) ?_
      cases h
      exact a_iret (pc := 29) F dX8_halvesBy_29 ⟨_, rfl, rfl⟩
  · replace h := ite_f q1 h
    clear q1
    refine a_iconst (v := 2) (pc := 10) F dX8_halvesBy_10 (by decide) ?_
    refine a_goto (tgt := 29) (pc := 11) F dX8_halvesBy_11 (by decide) ?_
    cases h
    exact a_iret (pc := 29) F dX8_halvesBy_29 ⟨_, rfl, rfl⟩
def f_X8_ones_L4 (p1 : Int32) : (Int32 × Int32) → Option ((Int32 × Int32) ⊕ Int32)
  | (x2, x3) => (if 10 ≤ x3 then some (.inr x2) else nm ((p1 >>> (x3 &&& 31)) &&& 1) fun x5 => nm (x3 + 1) fun x6 => some (.inl (x2 + x5, x6)))
def f_X8_ones (p1 : Int32) (m0 : Mem) : Option Int32 :=
  bnd (lp (f_X8_ones_L4 p1) 1000000 (0, 0)) (fun x7 => some x7)
set_option maxRecDepth 100000 in
set_option maxHeartbeats 4000000 in
theorem m_X8_ones {p1 : Int32} {m0 : Mem} {rr : Int32} (h : f_X8_ones p1 m0 = some rr) : Con yX8_ones cX8_ones 3 (some Jvm.ClassFile.FieldType.int) 0 0 (fun G => [.int p1]) m0 (some (.int rr)) m0 := by
  refine con_of (by decide) (fun G => Nat.le_of_ble_eq_true rfl) (fun X F => ?_)
  show WA X 0 0 0 [(0, .int p1)] [] m0 (EQ X (some (.int rr)) m0)
  rw [f_X8_ones] at h
  refine a_iconst (v := 0) (pc := 0) F dX8_ones_0 (by decide) ?_
  refine a_istore_n (lv' := [(1, .int 0), (0, .int p1)]) (pc := 1) F dX8_ones_1 (by decide) rfl ?_
  refine a_iconst (v := 0) (pc := 2) F dX8_ones_2 (by decide) ?_
  refine a_istore_n (lv' := [(2, .int 0), (1, .int 0), (0, .int p1)]) (pc := 3) F dX8_ones_3 (by decide) rfl ?_
  refine a_lv F [2, 1, 0] rfl ?_
  replace h := bnd_some h
  obtain ⟨x7, hL1, h⟩ := h
  have hE1 : WA X 0 0 24 [(1, .int x7)] [] m0 (EQ X (some (.int rr)) m0) := by
    refine a_iload_n (pc := 24) F dX8_ones_24 0 rfl ?_
    cases h
    exact a_iret (pc := 25) F dX8_ones_25 ⟨_, rfl, rfl⟩
  clear h
  refine lp_run (P := fun (s : (Int32 × Int32)) => WA X 0 0 4 [(0, .int p1), (1, .int s.1), (2, .int s.2)] [] m0 (EQ X (some (.int rr)) m0)) ?_ _ _ hL1
  clear hL1
  rintro ⟨x2, x3⟩ xo h hP1 hT1
  show WA X 0 0 4 [(0, .int p1), (1, .int x2), (2, .int x3)] [] m0 (EQ X (some (.int rr)) m0)
  rw [f_X8_ones_L4] at h
  refine a_iload_n (pc := 4) F dX8_ones_4 2 rfl ?_
  refine a_bipush (v := 10) (pc := 5) F dX8_ones_5 (by decide) ?_
  refine a_icmp_ge (tgt := 24) (pc := 7) F dX8_ones_7 (by decide) (fun q4 => ?_) (fun q4 => ?_)
  · replace h := ite_t q4 h
    clear q4
    refine a_lv F [1] rfl ?_
    cases hT1 _ (Option.some.inj h).symm
    exact hE1
  · replace h := ite_f q4 h
    clear q4
    refine a_iload_n (pc := 10) F dX8_ones_10 1 rfl ?_
    refine a_iload_n (pc := 11) F dX8_ones_11 0 rfl ?_
    refine a_iload_n (pc := 12) F dX8_ones_12 2 rfl ?_
    refine a_ishr (pc := 13) F dX8_ones_13 ?_
    refine a_iconst (v := 1) (pc := 14) F dX8_ones_14 (by decide) ?_
    refine a_iand (pc := 15) F dX8_ones_15 ?_
    refine a_nmi fun x5 ex5 => ?_
    replace h := nm_at ex5 h
    clear ex5
    refine a_iadd (pc := 16) F dX8_ones_16 ?_
    refine a_istore_n (lv' := [(1, .int (x2 + x5)), (0, .int p1), (2, .int x3)]) (pc := 17) F dX8_ones_17 (by decide) rfl ?_
    obtain ⟨x6, ex6⟩ : ∃ x6 : Int32, x6 = x3 + 1 := ⟨_, rfl⟩
    refine a_iinc (v := x6) (lv' := [(2, .int x6), (1, .int (x2 + x5)), (0, .int p1)]) (pc := 18) F dX8_ones_18 2 rfl (by rw [ex6]; rfl) (by decide) rfl ?_
    replace h := nm_at ex6 h
    clear ex6
    refine a_goto (tgt := 4) (pc := 21) F dX8_ones_21 (by decide) ?_
    refine a_lv F [2, 1, 0] rfl ?_
    exact hP1 _ (Option.some.inj h).symm
def f_X8_addInterpreter (p1 : Int32) (p2 : Int32) (p3 : Int32) (m0 : Mem) : Option (Int32 × Mem) :=
  bnd (f_X8_within p1 1 1023 m0) fun x2 => bnd ((if x2 = 0 then some 0 else bnd (f_X8_ones p1 m0) fun x6 => (if x6 ≤ 1 then some 0 else bnd (f_X8_within p2 0 7 m0) fun x9 => (if x9 = 0 then some 0 else bnd (f_X8_within p3 1 100 m0) fun x12 => (if x12 = 0 then some 0 else some 1))))) (fun (x14 : Int32) => bnd ((if x14 = 0 then some 1 else (if (m0.1 163 7) = 10 then some 2 else some 0))) (fun (x18 : Int32) => nm (si m0 162 5 x18) fun m19 => (if (m19.1 162 5) ≤ 0 then bnd (f_X8_save m19) fun m22 => nm (si m22 163 7 ((m22.1 163 7) + 1)) fun m23 => gIn (13 + (m22.1 163 7)) 373 <| nm (si m23 163 (13 + (m22.1 163 7)).toNatClampNeg p1) fun m25 => gIn (23 + (m22.1 163 7)) 373 <| nm (si m25 163 (23 + (m22.1 163 7)).toNatClampNeg p2) fun m27 => gIn (33 + (m22.1 163 7)) 373 <| nm (si m27 163 (33 + (m22.1 163 7)).toNatClampNeg p3) fun m29 => gIn (43 + (m22.1 163 7)) 373 <| nm (si m29 163 (43 + (m22.1 163 7)).toNatClampNeg 0) fun m31 => gIn (53 + (m22.1 163 7)) 373 <| nm (si m31 163 (53 + (m22.1 163 7)).toNatClampNeg 0) fun m33 => gIn (63 + (m22.1 163 7)) 373 <| nm (si m33 163 (63 + (m22.1 163 7)).toNatClampNeg 0) fun m35 => some (m22.1 163 7, m35) else some (0, m19))))
set_option maxRecDepth 100000 in
set_option maxHeartbeats 4000000 in
theorem m_X8_addInterpreter {p1 : Int32} {p2 : Int32} {p3 : Int32} {m0 : Mem} {rr : Int32} {mm : Mem} (h : f_X8_addInterpreter p1 p2 p3 m0 = some (rr, mm)) : Con yX8_addInterpreter cX8_addInterpreter 6 (some Jvm.ClassFile.FieldType.int) 1 22 (fun G => [.ref (ga G 162), .int p1, .int p2, .int p3]) m0 (some (.int rr)) mm := by
  refine con_of (by decide) (fun G => Nat.le_of_ble_eq_true rfl) (fun X F => ?_)
  show WA X 0 0 0 [(0, .ref (ga X.G 162)), (1, .int p1), (2, .int p2), (3, .int p3)] [] m0 (EQ X (some (.int rr)) mm)
  rw [f_X8_addInterpreter] at h
  refine a_iload_n (pc := 0) F dX8_addInterpreter_0 1 rfl ?_
  refine a_iconst (v := 1) (pc := 1) F dX8_addInterpreter_1 (by decide) ?_
  refine a_sipush (v := 1023) (pc := 2) F dX8_addInterpreter_2 (by decide) ?_
  replace h := bnd_some h
  obtain ⟨x2, hc1, h⟩ := h
  refine a_callS (pc := 5) (As := [.int p1, .int 1, .int 1023]) (st := []) F dX8_addInterpreter_5 (m_X8_within hc1) cs_RX8_38 rfl rfl rfl (Nat.le_of_ble_eq_true rfl) ⟨Nat.le_of_ble_eq_true rfl, Nat.le_of_ble_eq_true rfl⟩ ?_ rfl rfl
  clear hc1
  replace h := bnd_some h
  obtain ⟨x14, hR3, h⟩ := h
  have hJ3 : WA X 0 0 44 [(0, .ref (ga X.G 162)), (1, .int p1), (2, .int p2), (3, .int p3)] [.int x14] m0 (EQ X (some (.int rr)) mm) := by
    refine a_istore (lv' := [(4, .int x14), (0, .ref (ga X.G 162)), (1, .int p1), (2, .int p2), (3, .int p3)]) (pc := 44) F dX8_addInterpreter_44 (by decide) rfl ?_
    refine a_aload_n (pc := 46) F dX8_addInterpreter_46 1 rfl ?_
    refine a_iload (pc := 47) F dX8_addInterpreter_47 0 rfl ?_
    replace h := bnd_some h
    obtain ⟨x18, hR15, h⟩ := h
    have hJ15 : WA X 0 0 73 [(0, .ref (ga X.G 162)), (1, .int p1), (2, .int p2), (3, .int p3)] [.int x18, .ref (ga X.G 162)] m0 (EQ X (some (.int rr)) mm) := by
      refine a_puti (k := 162) (pc := 73) F dX8_addInterpreter_73 fp_RX8_31 kl_162 ks_162 rfl ?_
      refine a_nmm fun m19 em19 => ?_
      replace h := nm_at em19 h
      clear em19
      refine a_aload_n (pc := 76) F dX8_addInterpreter_76 0 rfl ?_
      refine a_geti (k := 162) (pc := 77) F dX8_addInterpreter_77 fl_RX8_31 kl_162 ks_162 rfl ?_
      refine a_if_le (tgt := 85) (pc := 80) F dX8_addInterpreter_80 (by decide) (fun q20 => ?_) (fun q20 => ?_)
      · replace h := ite_t q20 h
        clear q20
        refine a_aload_n (pc := 85) F dX8_addInterpreter_85 0 rfl ?_
        replace h := bnd_some h
        obtain ⟨m22, hc21, h⟩ := h
        refine a_callV (pc := 86) (k := 162) (As := []) (st := []) F dX8_addInterpreter_86 (m_X8_save hc21) cv_RX8_71 kl_162 ks_162 ⟨_, _, rfl⟩ rfl rfl rfl (Nat.le_of_ble_eq_true rfl) ⟨Nat.le_of_ble_eq_true rfl, Nat.le_of_ble_eq_true rfl⟩ ?_ rfl rfl
        clear hc21
        refine a_aload_n (pc := 89) F dX8_addInterpreter_89 0 rfl ?_
        refine a_getr (k := 162) (r := 163) (pc := 90) F dX8_addInterpreter_90 fl_RX8_7 kl_162 ks_162 rfl ?_
        refine a_bipush (v := 7) (pc := 93) F dX8_addInterpreter_93 (by decide) ?_
        refine a_ialc (k := 163) (pc := 95) F dX8_addInterpreter_95 kl_163 ks_163 rfl rfl ?_
        refine a_istore (lv' := [(5, .int (m22.1 163 7)), (0, .ref (ga X.G 162)), (1, .int p1), (2, .int p2), (3, .int p3)]) (pc := 96) F dX8_addInterpreter_96 (by decide) rfl ?_
        refine a_aload_n (pc := 98) F dX8_addInterpreter_98 1 rfl ?_
        refine a_getr (k := 162) (r := 163) (pc := 99) F dX8_addInterpreter_99 fl_RX8_7 kl_162 ks_162 rfl ?_
        refine a_bipush (v := 7) (pc := 102) F dX8_addInterpreter_102 (by decide) ?_
        refine a_dup2 (pc := 104) F dX8_addInterpreter_104 rfl rfl ?_
        refine a_ialc (k := 163) (pc := 105) F dX8_addInterpreter_105 kl_163 ks_163 rfl rfl ?_
        refine a_iconst (v := 1) (pc := 106) F dX8_addInterpreter_106 (by decide) ?_
        refine a_iadd (pc := 107) F dX8_addInterpreter_107 ?_
        refine a_iasc (k := 163) (pc := 108) F dX8_addInterpreter_108 kl_163 ks_163 rfl rfl ?_
        refine a_nmm fun m23 em23 => ?_
        replace h := nm_at em23 h
        clear em23
        refine a_aload_n (pc := 109) F dX8_addInterpreter_109 1 rfl ?_
        refine a_getr (k := 162) (r := 163) (pc := 110) F dX8_addInterpreter_110 fl_RX8_7 kl_162 ks_162 rfl ?_
        refine a_bipush (v := 13) (pc := 113) F dX8_addInterpreter_113 (by decide) ?_
        refine a_iload (pc := 115) F dX8_addInterpreter_115 0 rfl ?_
        refine a_iadd (pc := 117) F dX8_addInterpreter_117 ?_
        refine a_iload_n (pc := 118) F dX8_addInterpreter_118 2 rfl ?_
        replace h := gIn_some h
        obtain ⟨g24, h⟩ := h
        refine a_ias (k := 163) (pc := 119) F dX8_addInterpreter_119 kl_163 ks_163 g24 ?_
        refine a_nmm fun m25 em25 => ?_
        replace h := nm_at em25 h
        clear em25
        refine a_aload_n (pc := 120) F dX8_addInterpreter_120 1 rfl ?_
        refine a_getr (k := 162) (r := 163) (pc := 121) F dX8_addInterpreter_121 fl_RX8_7 kl_162 ks_162 rfl ?_
        refine a_bipush (v := 23) (pc := 124) F dX8_addInterpreter_124 (by decide) ?_
        refine a_iload (pc := 126) F dX8_addInterpreter_126 0 rfl ?_
        refine a_iadd (pc := 128) F dX8_addInterpreter_128 ?_
        refine a_iload_n (pc := 129) F dX8_addInterpreter_129 3 rfl ?_
        replace h := gIn_some h
        obtain ⟨g26, h⟩ := h
        refine a_ias (k := 163) (pc := 130) F dX8_addInterpreter_130 kl_163 ks_163 g26 ?_
        refine a_nmm fun m27 em27 => ?_
        replace h := nm_at em27 h
        clear em27
        refine a_aload_n (pc := 131) F dX8_addInterpreter_131 1 rfl ?_
        refine a_getr (k := 162) (r := 163) (pc := 132) F dX8_addInterpreter_132 fl_RX8_7 kl_162 ks_162 rfl ?_
        refine a_bipush (v := 33) (pc := 135) F dX8_addInterpreter_135 (by decide) ?_
        refine a_iload (pc := 137) F dX8_addInterpreter_137 0 rfl ?_
        refine a_iadd (pc := 139) F dX8_addInterpreter_139 ?_
        refine a_iload_n (pc := 140) F dX8_addInterpreter_140 4 rfl ?_
        replace h := gIn_some h
        obtain ⟨g28, h⟩ := h
        refine a_ias (k := 163) (pc := 141) F dX8_addInterpreter_141 kl_163 ks_163 g28 ?_
        refine a_nmm fun m29 em29 => ?_
        replace h := nm_at em29 h
        clear em29
        refine a_aload_n (pc := 142) F dX8_addInterpreter_142 1 rfl ?_
        refine a_getr (k := 162) (r := 163) (pc := 143) F dX8_addInterpreter_143 fl_RX8_7 kl_162 ks_162 rfl ?_
        refine a_bipush (v := 43) (pc := 146) F dX8_addInterpreter_146 (by decide) ?_
        refine a_iload (pc := 148) F dX8_addInterpreter_148 0 rfl ?_
        refine a_iadd (pc := 150) F dX8_addInterpreter_150 ?_
        refine a_iconst (v := 0) (pc := 151) F dX8_addInterpreter_151 (by decide) ?_
        replace h := gIn_some h
        obtain ⟨g30, h⟩ := h
        refine a_ias (k := 163) (pc := 152) F dX8_addInterpreter_152 kl_163 ks_163 g30 ?_
        refine a_nmm fun m31 em31 => ?_
        replace h := nm_at em31 h
        clear em31
        refine a_aload_n (pc := 153) F dX8_addInterpreter_153 1 rfl ?_
        refine a_getr (k := 162) (r := 163) (pc := 154) F dX8_addInterpreter_154 fl_RX8_7 kl_162 ks_162 rfl ?_
        refine a_bipush (v := 53) (pc := 157) F dX8_addInterpreter_157 (by decide) ?_
        refine a_iload (pc := 159) F dX8_addInterpreter_159 0 rfl ?_
        refine a_iadd (pc := 161) F dX8_addInterpreter_161 ?_
        refine a_iconst (v := 0) (pc := 162) F dX8_addInterpreter_162 (by decide) ?_
        replace h := gIn_some h
        obtain ⟨g32, h⟩ := h
        refine a_ias (k := 163) (pc := 163) F dX8_addInterpreter_163 kl_163 ks_163 g32 ?_
        refine a_nmm fun m33 em33 => ?_
        replace h := nm_at em33 h
        clear em33
        refine a_aload_n (pc := 164) F dX8_addInterpreter_164 1 rfl ?_
        refine a_getr (k := 162) (r := 163) (pc := 165) F dX8_addInterpreter_165 fl_RX8_7 kl_162 ks_162 rfl ?_
        refine a_bipush (v := 63) (pc := 168) F dX8_addInterpreter_168 (by decide) ?_
        refine a_iload (pc := 170) F dX8_addInterpreter_170 0 rfl ?_
        refine a_iadd (pc := 172) F dX8_addInterpreter_172 ?_
        refine a_iconst (v := 0) (pc := 173) F dX8_addInterpreter_173 (by decide) ?_
        replace h := gIn_some h
        obtain ⟨g34, h⟩ := h
        refine a_ias (k := 163) (pc := 174) F dX8_addInterpreter_174 kl_163 ks_163 g34 ?_
        refine a_nmm fun m35 em35 => ?_
        replace h := nm_at em35 h
        clear em35
        refine a_iload (pc := 175) F dX8_addInterpreter_175 0 rfl ?_
        cases h
        exact a_iret (pc := 177) F dX8_addInterpreter_177 ⟨_, rfl, rfl⟩
      · replace h := ite_f q20 h
        clear q20
        refine a_iconst (v := 0) (pc := 83) F dX8_addInterpreter_83 (by decide) ?_
        cases h
        exact a_iret (pc := 84) F dX8_addInterpreter_84 ⟨_, rfl, rfl⟩
    clear h
    have h := hR15
    clear hR15
    refine a_if_ne (tgt := 56) (pc := 49) F dX8_addInterpreter_49 (by decide) (fun q16 => ?_) (fun q16 => ?_)
    · replace h := ite_f q16 h
      clear q16
      refine a_aload_n (pc := 56) F dX8_addInterpreter_56 1 rfl ?_
      refine a_getr (k := 162) (r := 163) (pc := 57) F dX8_addInterpreter_57 fl_RX8_7 kl_162 ks_162 rfl ?_
      refine a_bipush (v := 7) (pc := 60) F dX8_addInterpreter_60 (by decide) ?_
      refine a_ialc (k := 163) (pc := 62) F dX8_addInterpreter_62 kl_163 ks_163 rfl rfl ?_
      refine a_bipush (v := 10) (pc := 63) F dX8_addInterpreter_63 (by decide) ?_
      refine a_icmp_ne (tgt := 72) (pc := 65) F dX8_addInterpreter_65 (by decide) (fun q17 => ?_) (fun q17 => ?_)
      · replace h := ite_f q17 h
        clear q17
        refine a_iconst (v := 0) (pc := 72) F dX8_addInterpreter_72 (by decide) ?_
        refine a_lv F [1, 2, 3, 4] rfl ?_
        cases h
        exact hJ15
      · replace h := ite_t (Decidable.not_not.mp q17) h
        clear q17
        refine a_iconst (v := 2) (pc := 68) F dX8_addInterpreter_68 (by decide) ?_
        refine a_goto (tgt := 73) (pc := 69) F dX8_addInterpreter_69 (by decide) ?_
        refine a_lv F [1, 2, 3, 4] rfl ?_
        cases h
        exact hJ15
    · replace h := ite_t (Decidable.not_not.mp q16) h
      clear q16
      refine a_iconst (v := 1) (pc := 52) F dX8_addInterpreter_52 (by decide) ?_
      refine a_goto (tgt := 73) (pc := 53) F dX8_addInterpreter_53 (by decide) ?_
      refine a_lv F [1, 2, 3, 4] rfl ?_
      cases h
      exact hJ15
  clear h
  have h := hR3
  clear hR3
  refine a_if_eq (tgt := 43) (pc := 8) F dX8_addInterpreter_8 (by decide) (fun q4 => ?_) (fun q4 => ?_)
  · replace h := ite_t q4 h
    clear q4
    refine a_iconst (v := 0) (pc := 43) F dX8_addInterpreter_43 (by decide) ?_
    cases h
    exact hJ3
  · replace h := ite_f q4 h
    clear q4
    refine a_iload_n (pc := 11) F dX8_addInterpreter_11 1 rfl ?_
    replace h := bnd_some h
    obtain ⟨x6, hc5, h⟩ := h
    refine a_callS (pc := 12) (As := [.int p1]) (st := []) F dX8_addInterpreter_12 (m_X8_ones hc5) cs_RX8_68 rfl rfl rfl (Nat.le_of_ble_eq_true rfl) ⟨Nat.le_of_ble_eq_true rfl, Nat.le_of_ble_eq_true rfl⟩ ?_ rfl rfl
    clear hc5
    refine a_iconst (v := 1) (pc := 15) F dX8_addInterpreter_15 (by decide) ?_
    refine a_icmp_le (tgt := 43) (pc := 16) F dX8_addInterpreter_16 (by decide) (fun q7 => ?_) (fun q7 => ?_)
    · replace h := ite_t q7 h
      clear q7
      refine a_iconst (v := 0) (pc := 43) F dX8_addInterpreter_43 (by decide) ?_
      cases h
      exact hJ3
    · replace h := ite_f q7 h
      clear q7
      refine a_iload_n (pc := 19) F dX8_addInterpreter_19 2 rfl ?_
      refine a_iconst (v := 0) (pc := 20) F dX8_addInterpreter_20 (by decide) ?_
      refine a_bipush (v := 7) (pc := 21) F dX8_addInterpreter_21 (by decide) ?_
      replace h := bnd_some h
      obtain ⟨x9, hc8, h⟩ := h
      refine a_callS (pc := 23) (As := [.int p2, .int 0, .int 7]) (st := []) F dX8_addInterpreter_23 (m_X8_within hc8) cs_RX8_38 rfl rfl rfl (Nat.le_of_ble_eq_true rfl) ⟨Nat.le_of_ble_eq_true rfl, Nat.le_of_ble_eq_true rfl⟩ ?_ rfl rfl
      clear hc8
      refine a_if_eq (tgt := 43) (pc := 26) F dX8_addInterpreter_26 (by decide) (fun q10 => ?_) (fun q10 => ?_)
      · replace h := ite_t q10 h
        clear q10
        refine a_iconst (v := 0) (pc := 43) F dX8_addInterpreter_43 (by decide) ?_
        cases h
        exact hJ3
      · replace h := ite_f q10 h
        clear q10
        refine a_iload_n (pc := 29) F dX8_addInterpreter_29 3 rfl ?_
        refine a_iconst (v := 1) (pc := 30) F dX8_addInterpreter_30 (by decide) ?_
        refine a_bipush (v := 100) (pc := 31) F dX8_addInterpreter_31 (by decide) ?_
        replace h := bnd_some h
        obtain ⟨x12, hc11, h⟩ := h
        refine a_callS (pc := 33) (As := [.int p3, .int 1, .int 100]) (st := []) F dX8_addInterpreter_33 (m_X8_within hc11) cs_RX8_38 rfl rfl rfl (Nat.le_of_ble_eq_true rfl) ⟨Nat.le_of_ble_eq_true rfl, Nat.le_of_ble_eq_true rfl⟩ ?_ rfl rfl
        clear hc11
        refine a_if_eq (tgt := 43) (pc := 36) F dX8_addInterpreter_36 (by decide) (fun q13 => ?_) (fun q13 => ?_)
        · replace h := ite_t q13 h
          clear q13
          refine a_iconst (v := 0) (pc := 43) F dX8_addInterpreter_43 (by decide) ?_
          cases h
          exact hJ3
        · replace h := ite_f q13 h
          clear q13
          refine a_iconst (v := 1) (pc := 39) F dX8_addInterpreter_39 (by decide) ?_
          refine a_goto (tgt := 44) (pc := 40) F dX8_addInterpreter_40 (by decide) ?_
          cases h
          exact hJ3
def f_X8_putHearing_L23 (m0 : Mem) : (Int32 × Mem) → Option ((Int32 × Mem) ⊕ Mem)
  | (x3, m4) => (if 10 ≤ x3 then some (.inr m4) else bnd (f_X8_within x3 6 8 m4) fun x7 => bnd ((if x7 = 0 then some 0 else some (-1))) (fun (x10 : Int32) => bnd (f_X8_put (m0.1 163 8) x3 x10 m4) fun m12 => nm (x3 + 1) fun x13 => some (.inl (x13, m12))))
def f_X8_putHearing (p1 : Int32) (p2 : Int32) (p3 : Int32) (p4 : Int32) (m0 : Mem) : Option (Int32 × Mem) :=
  nm (si m0 163 8 ((m0.1 163 8) + 1)) fun m1 => bnd (lp (f_X8_putHearing_L23 m0) 1000000 (0, m1)) (fun m14 => bnd (f_X8_put (m0.1 163 8) 0 p1 m14) fun m16 => bnd (f_X8_put (m0.1 163 8) 1 p2 m16) fun m18 => bnd (f_X8_put (m0.1 163 8) 2 ((m18.1 163 9) + p3) m18) fun m20 => bnd (f_X8_put (m0.1 163 8) 3 p4 m20) fun m22 => some (m0.1 163 8, m22))
set_option maxRecDepth 100000 in
set_option maxHeartbeats 4000000 in
theorem m_X8_putHearing {p1 : Int32} {p2 : Int32} {p3 : Int32} {p4 : Int32} {m0 : Mem} {rr : Int32} {mm : Mem} (h : f_X8_putHearing p1 p2 p3 p4 m0 = some (rr, mm)) : Con yX8_putHearing cX8_putHearing 7 (some Jvm.ClassFile.FieldType.int) 1 23 (fun G => [.ref (ga G 162), .int p1, .int p2, .int p3, .int p4]) m0 (some (.int rr)) mm := by
  refine con_of (by decide) (fun G => Nat.le_of_ble_eq_true rfl) (fun X F => ?_)
  show WA X 0 0 0 [(0, .ref (ga X.G 162)), (1, .int p1), (2, .int p2), (3, .int p3), (4, .int p4)] [] m0 (EQ X (some (.int rr)) mm)
  rw [f_X8_putHearing] at h
  refine a_aload_n (pc := 0) F dX8_putHearing_0 0 rfl ?_
  refine a_getr (k := 162) (r := 163) (pc := 1) F dX8_putHearing_1 fl_RX8_7 kl_162 ks_162 rfl ?_
  refine a_bipush (v := 8) (pc := 4) F dX8_putHearing_4 (by decide) ?_
  refine a_ialc (k := 163) (pc := 6) F dX8_putHearing_6 kl_163 ks_163 rfl rfl ?_
  refine a_istore (lv' := [(5, .int (m0.1 163 8)), (0, .ref (ga X.G 162)), (1, .int p1), (2, .int p2), (3, .int p3), (4, .int p4)]) (pc := 7) F dX8_putHearing_7 (by decide) rfl ?_
  refine a_aload_n (pc := 9) F dX8_putHearing_9 1 rfl ?_
  refine a_getr (k := 162) (r := 163) (pc := 10) F dX8_putHearing_10 fl_RX8_7 kl_162 ks_162 rfl ?_
  refine a_bipush (v := 8) (pc := 13) F dX8_putHearing_13 (by decide) ?_
  refine a_dup2 (pc := 15) F dX8_putHearing_15 rfl rfl ?_
  refine a_ialc (k := 163) (pc := 16) F dX8_putHearing_16 kl_163 ks_163 rfl rfl ?_
  refine a_iconst (v := 1) (pc := 17) F dX8_putHearing_17 (by decide) ?_
  refine a_iadd (pc := 18) F dX8_putHearing_18 ?_
  refine a_iasc (k := 163) (pc := 19) F dX8_putHearing_19 kl_163 ks_163 rfl rfl ?_
  refine a_nmm fun m1 em1 => ?_
  replace h := nm_at em1 h
  clear em1
  refine a_iconst (v := 0) (pc := 20) F dX8_putHearing_20 (by decide) ?_
  refine a_istore (lv' := [(6, .int 0), (5, .int (m0.1 163 8)), (0, .ref (ga X.G 162)), (1, .int p1), (2, .int p2), (3, .int p3), (4, .int p4)]) (pc := 21) F dX8_putHearing_21 (by decide) rfl ?_
  refine a_lv F [2, 3, 4, 5, 6, 1, 0] rfl ?_
  replace h := bnd_some h
  obtain ⟨m14, hL2, h⟩ := h
  have hE2 : WA X 0 0 61 [(0, .ref (ga X.G 162)), (1, .int p1), (2, .int p2), (3, .int p3), (4, .int p4), (5, .int (m0.1 163 8))] [] m14 (EQ X (some (.int rr)) mm) := by
    refine a_aload_n (pc := 61) F dX8_putHearing_61 0 rfl ?_
    refine a_iload (pc := 62) F dX8_putHearing_62 5 rfl ?_
    refine a_iconst (v := 0) (pc := 64) F dX8_putHearing_64 (by decide) ?_
    refine a_iload_n (pc := 65) F dX8_putHearing_65 1 rfl ?_
    replace h := bnd_some h
    obtain ⟨m16, hc15, h⟩ := h
    refine a_callV (pc := 66) (k := 162) (As := [.int (m0.1 163 8), .int 0, .int p1]) (st := []) F dX8_putHearing_66 (m_X8_put hc15) cv_RX8_74 kl_162 ks_162 ⟨_, _, rfl⟩ rfl rfl rfl (Nat.le_of_ble_eq_true rfl) ⟨Nat.le_of_ble_eq_true rfl, Nat.le_of_ble_eq_true rfl⟩ ?_ rfl rfl
    clear hc15
    refine a_aload_n (pc := 69) F dX8_putHearing_69 0 rfl ?_
    refine a_iload (pc := 70) F dX8_putHearing_70 5 rfl ?_
    refine a_iconst (v := 1) (pc := 72) F dX8_putHearing_72 (by decide) ?_
    refine a_iload_n (pc := 73) F dX8_putHearing_73 2 rfl ?_
    replace h := bnd_some h
    obtain ⟨m18, hc17, h⟩ := h
    refine a_callV (pc := 74) (k := 162) (As := [.int (m0.1 163 8), .int 1, .int p2]) (st := []) F dX8_putHearing_74 (m_X8_put hc17) cv_RX8_74 kl_162 ks_162 ⟨_, _, rfl⟩ rfl rfl rfl (Nat.le_of_ble_eq_true rfl) ⟨Nat.le_of_ble_eq_true rfl, Nat.le_of_ble_eq_true rfl⟩ ?_ rfl rfl
    clear hc17
    refine a_aload_n (pc := 77) F dX8_putHearing_77 0 rfl ?_
    refine a_iload (pc := 78) F dX8_putHearing_78 5 rfl ?_
    refine a_iconst (v := 2) (pc := 80) F dX8_putHearing_80 (by decide) ?_
    refine a_aload_n (pc := 81) F dX8_putHearing_81 0 rfl ?_
    refine a_getr (k := 162) (r := 163) (pc := 82) F dX8_putHearing_82 fl_RX8_7 kl_162 ks_162 rfl ?_
    refine a_bipush (v := 9) (pc := 85) F dX8_putHearing_85 (by decide) ?_
    refine a_ialc (k := 163) (pc := 87) F dX8_putHearing_87 kl_163 ks_163 rfl rfl ?_
    refine a_iload_n (pc := 88) F dX8_putHearing_88 3 rfl ?_
    refine a_iadd (pc := 89) F dX8_putHearing_89 ?_
    replace h := bnd_some h
    obtain ⟨m20, hc19, h⟩ := h
    refine a_callV (pc := 90) (k := 162) (As := [.int (m0.1 163 8), .int 2, .int ((m18.1 163 9) + p3)]) (st := []) F dX8_putHearing_90 (m_X8_put hc19) cv_RX8_74 kl_162 ks_162 ⟨_, _, rfl⟩ rfl rfl rfl (Nat.le_of_ble_eq_true rfl) ⟨Nat.le_of_ble_eq_true rfl, Nat.le_of_ble_eq_true rfl⟩ ?_ rfl rfl
    clear hc19
    refine a_aload_n (pc := 93) F dX8_putHearing_93 0 rfl ?_
    refine a_iload (pc := 94) F dX8_putHearing_94 5 rfl ?_
    refine a_iconst (v := 3) (pc := 96) F dX8_putHearing_96 (by decide) ?_
    refine a_iload (pc := 97) F dX8_putHearing_97 4 rfl ?_
    replace h := bnd_some h
    obtain ⟨m22, hc21, h⟩ := h
    refine a_callV (pc := 99) (k := 162) (As := [.int (m0.1 163 8), .int 3, .int p4]) (st := []) F dX8_putHearing_99 (m_X8_put hc21) cv_RX8_74 kl_162 ks_162 ⟨_, _, rfl⟩ rfl rfl rfl (Nat.le_of_ble_eq_true rfl) ⟨Nat.le_of_ble_eq_true rfl, Nat.le_of_ble_eq_true rfl⟩ ?_ rfl rfl
    clear hc21
    refine a_iload (pc := 102) F dX8_putHearing_102 5 rfl ?_
    cases h
    exact a_iret (pc := 104) F dX8_putHearing_104 ⟨_, rfl, rfl⟩
  clear h
  refine lp_run (P := fun (s : (Int32 × Mem)) => WA X 0 0 23 [(0, .ref (ga X.G 162)), (1, .int p1), (2, .int p2), (3, .int p3), (4, .int p4), (5, .int (m0.1 163 8)), (6, .int s.1)] [] s.2 (EQ X (some (.int rr)) mm)) ?_ _ _ hL2
  clear hL2
  rintro ⟨x3, m4⟩ xo h hP2 hT2
  show WA X 0 0 23 [(0, .ref (ga X.G 162)), (1, .int p1), (2, .int p2), (3, .int p3), (4, .int p4), (5, .int (m0.1 163 8)), (6, .int x3)] [] m4 (EQ X (some (.int rr)) mm)
  rw [f_X8_putHearing_L23] at h
  refine a_iload (pc := 23) F dX8_putHearing_23 6 rfl ?_
  refine a_bipush (v := 10) (pc := 25) F dX8_putHearing_25 (by decide) ?_
  refine a_icmp_ge (tgt := 61) (pc := 27) F dX8_putHearing_27 (by decide) (fun q5 => ?_) (fun q5 => ?_)
  · replace h := ite_t q5 h
    clear q5
    refine a_lv F [0, 1, 2, 3, 4, 5] rfl ?_
    cases hT2 _ (Option.some.inj h).symm
    exact hE2
  · replace h := ite_f q5 h
    clear q5
    refine a_aload_n (pc := 30) F dX8_putHearing_30 0 rfl ?_
    refine a_iload (pc := 31) F dX8_putHearing_31 5 rfl ?_
    refine a_iload (pc := 33) F dX8_putHearing_33 6 rfl ?_
    refine a_iload (pc := 35) F dX8_putHearing_35 6 rfl ?_
    refine a_bipush (v := 6) (pc := 37) F dX8_putHearing_37 (by decide) ?_
    refine a_bipush (v := 8) (pc := 39) F dX8_putHearing_39 (by decide) ?_
    replace h := bnd_some h
    obtain ⟨x7, hc6, h⟩ := h
    refine a_callS (pc := 41) (As := [.int x3, .int 6, .int 8]) (st := [.int x3, .int (m0.1 163 8), .ref (ga X.G 162)]) F dX8_putHearing_41 (m_X8_within hc6) cs_RX8_38 rfl rfl rfl (Nat.le_of_ble_eq_true rfl) ⟨Nat.le_of_ble_eq_true rfl, Nat.le_of_ble_eq_true rfl⟩ ?_ rfl rfl
    clear hc6
    replace h := bnd_some h
    obtain ⟨x10, hR8, h⟩ := h
    have hJ8 : WA X 0 0 52 [(0, .ref (ga X.G 162)), (1, .int p1), (2, .int p2), (3, .int p3), (4, .int p4), (5, .int (m0.1 163 8)), (6, .int x3)] [.int x10, .int x3, .int (m0.1 163 8), .ref (ga X.G 162)] m4 (EQ X (some (.int rr)) mm) := by
      replace h := bnd_some h
      obtain ⟨m12, hc11, h⟩ := h
      refine a_callV (pc := 52) (k := 162) (As := [.int (m0.1 163 8), .int x3, .int x10]) (st := []) F dX8_putHearing_52 (m_X8_put hc11) cv_RX8_74 kl_162 ks_162 ⟨_, _, rfl⟩ rfl rfl rfl (Nat.le_of_ble_eq_true rfl) ⟨Nat.le_of_ble_eq_true rfl, Nat.le_of_ble_eq_true rfl⟩ ?_ rfl rfl
      clear hc11
      obtain ⟨x13, ex13⟩ : ∃ x13 : Int32, x13 = x3 + 1 := ⟨_, rfl⟩
      refine a_iinc (v := x13) (lv' := [(6, .int x13), (0, .ref (ga X.G 162)), (1, .int p1), (2, .int p2), (3, .int p3), (4, .int p4), (5, .int (m0.1 163 8))]) (pc := 55) F dX8_putHearing_55 6 rfl (by rw [ex13]; rfl) (by decide) rfl ?_
      replace h := nm_at ex13 h
      clear ex13
      refine a_goto (tgt := 23) (pc := 58) F dX8_putHearing_58 (by decide) ?_
      refine a_lv F [1, 2, 3, 4, 5, 6, 0] rfl ?_
      exact hP2 _ (Option.some.inj h).symm
    clear h
    have h := hR8
    clear hR8
    refine a_if_eq (tgt := 51) (pc := 44) F dX8_putHearing_44 (by decide) (fun q9 => ?_) (fun q9 => ?_)
    · replace h := ite_t q9 h
      clear q9
      refine a_iconst (v := 0) (pc := 51) F dX8_putHearing_51 (by decide) ?_
      cases h
      exact hJ8
    · replace h := ite_f q9 h
      clear q9
      refine a_iconst (v := (-1)) (pc := 47) F dX8_putHearing_47 (by decide) ?_
      refine a_goto (tgt := 52) (pc := 48) F dX8_putHearing_48 (by decide) ?_
      cases h
      exact hJ8
