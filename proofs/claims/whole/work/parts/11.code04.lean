def f_X7_pass_L61 (p1 : Int32) : (Int32 × Int32 × Mem) → Option ((Int32 × Int32 × Mem) ⊕ (Int32 × Mem))
  | (x8, x9, m10) => (if p1 ≤ x9 then some (.inr (x8, m10)) else bnd2 (f_X2_passMinute 1 m10) fun x13 m14 => nm (x9 + 1) fun x15 => some (.inl (x8 + x13, x15, m14)))
def f_X7_pass (p1 : Int32) (m0 : Mem) : Option (Int32 × Mem) :=
  bnd (f_X7_within p1 1 500 m0) fun x2 => (if x2 = 0 then none else (if ((m0.1 1 3) + p1) ≤ 20000 then bnd (f_X4_save 1 m0) fun m6 => bnd (lp (f_X7_pass_L61 p1) 1000000 (0, 0, m6)) (fun (x16, m17) => some (x16, m17)) else none))
set_option maxRecDepth 100000 in
set_option maxHeartbeats 4000000 in
theorem m_X7_pass {p1 : Int32} {m0 : Mem} {rr : Int32} {mm : Mem} (h : f_X7_pass p1 m0 = some (rr, mm)) : Con yX7_pass cX7_pass 4 (some Jvm.ClassFile.FieldType.int) 5 118 (fun G => [.ref (ga G 0), .int p1]) m0 (some (.int rr)) mm := by
  refine con_of (by decide) (fun G => Nat.le_of_ble_eq_true rfl) (fun X F => ?_)
  show WA X 0 0 0 [(0, .ref (ga X.G 0)), (1, .int p1)] [] m0 (EQ X (some (.int rr)) mm)
  rw [f_X7_pass] at h
  refine a_iload_n (pc := 0) F dX7_pass_0 1 rfl ?_
  refine a_iconst (v := 1) (pc := 1) F dX7_pass_1 (by decide) ?_
  refine a_sipush (v := 500) (pc := 2) F dX7_pass_2 (by decide) ?_
  replace h := bnd_some h
  obtain ⟨x2, hc1, h⟩ := h
  refine a_callS (pc := 5) (As := [.int p1, .int 1, .int 500]) (st := []) F dX7_pass_5 (m_X7_within hc1) cs_RX7_47 rfl rfl rfl (Nat.le_of_ble_eq_true rfl) ⟨Nat.le_of_ble_eq_true rfl, Nat.le_of_ble_eq_true rfl⟩ ?_ rfl rfl
  clear hc1
  refine a_if_ne (tgt := 21) (pc := 8) F dX7_pass_8 (by decide) (fun q3 => ?_) (fun q3 => ?_)
  · replace h := ite_f q3 h
    clear q3
    refine a_aload_n (pc := 21) F dX7_pass_21 0 rfl ?_
    refine a_getr (k := 0) (r := 1) (pc := 22) F dX7_pass_22 fl_RX7_10 kl_0 ks_0 rfl ?_
    refine a_geti (k := 1) (pc := 25) F dX7_pass_25 fl_RX7_98 (klC_0 isC_1) (ksC_0 isC_1) rfl ?_
    refine a_iload_n (pc := 28) F dX7_pass_28 1 rfl ?_
    refine a_iadd (pc := 29) F dX7_pass_29 ?_
    refine a_sipush (v := 20000) (pc := 30) F dX7_pass_30 (by decide) ?_
    refine a_icmp_le (tgt := 46) (pc := 33) F dX7_pass_33 (by decide) (fun q4 => ?_) (fun q4 => ?_)
    · replace h := ite_t q4 h
      clear q4
      refine a_aload_n (pc := 46) F dX7_pass_46 0 rfl ?_
      refine a_getr (k := 0) (r := 39) (pc := 47) F dX7_pass_47 fl_RX7_22 kl_0 ks_0 rfl ?_
      refine a_aload_n (pc := 50) F dX7_pass_50 0 rfl ?_
      refine a_getr (k := 0) (r := 1) (pc := 51) F dX7_pass_51 fl_RX7_10 kl_0 ks_0 rfl ?_
      replace h := bnd_some h
      obtain ⟨m6, hc5, h⟩ := h
      refine a_callV (pc := 54) (k := 39) (As := [.ref (ga X.G 1)]) (st := []) F dX7_pass_54 (m_X4_save isC_1 hc5) cv_RX7_79 kl_39 ks_39 ⟨_, _, rfl⟩ rfl rfl rfl (Nat.le_of_ble_eq_true rfl) ⟨Nat.le_of_ble_eq_true rfl, Nat.le_of_ble_eq_true rfl⟩ ?_ rfl rfl
      clear hc5
      refine a_iconst (v := 0) (pc := 57) F dX7_pass_57 (by decide) ?_
      refine a_istore_n (lv' := [(2, .int 0), (0, .ref (ga X.G 0)), (1, .int p1)]) (pc := 58) F dX7_pass_58 (by decide) rfl ?_
      refine a_iconst (v := 0) (pc := 59) F dX7_pass_59 (by decide) ?_
      refine a_istore_n (lv' := [(3, .int 0), (2, .int 0), (0, .ref (ga X.G 0)), (1, .int p1)]) (pc := 60) F dX7_pass_60 (by decide) rfl ?_
      refine a_lv F [2, 3, 1, 0] rfl ?_
      replace h := bnd_some h
      obtain ⟨⟨x16, m17⟩, hL7, h⟩ := h
      have hE7 : WA X 0 0 82 [(2, .int x16)] [] m17 (EQ X (some (.int rr)) mm) := by
        refine a_iload_n (pc := 82) F dX7_pass_82 0 rfl ?_
        cases h
        exact a_iret (pc := 83) F dX7_pass_83 ⟨_, rfl, rfl⟩
      clear h
      refine lp_run (P := fun (s : (Int32 × Int32 × Mem)) => WA X 0 0 61 [(0, .ref (ga X.G 0)), (1, .int p1), (2, .int s.1), (3, .int s.2.1)] [] s.2.2 (EQ X (some (.int rr)) mm)) ?_ _ _ hL7
      clear hL7
      rintro ⟨x8, x9, m10⟩ xo h hP7 hT7
      show WA X 0 0 61 [(0, .ref (ga X.G 0)), (1, .int p1), (2, .int x8), (3, .int x9)] [] m10 (EQ X (some (.int rr)) mm)
      rw [f_X7_pass_L61] at h
      refine a_iload_n (pc := 61) F dX7_pass_61 3 rfl ?_
      refine a_iload_n (pc := 62) F dX7_pass_62 1 rfl ?_
      refine a_icmp_ge (tgt := 82) (pc := 63) F dX7_pass_63 (by decide) (fun q11 => ?_) (fun q11 => ?_)
      · replace h := ite_t q11 h
        clear q11
        refine a_lv F [2] rfl ?_
        cases hT7 _ (Option.some.inj h).symm
        exact hE7
      · replace h := ite_f q11 h
        clear q11
        refine a_iload_n (pc := 66) F dX7_pass_66 2 rfl ?_
        refine a_aload_n (pc := 67) F dX7_pass_67 0 rfl ?_
        refine a_getr (k := 0) (r := 1) (pc := 68) F dX7_pass_68 fl_RX7_10 kl_0 ks_0 rfl ?_
        replace h := bnd2_some h
        obtain ⟨x13, m14, hc12, h⟩ := h
        refine a_callV (pc := 71) (k := 1) (As := []) (st := [.int x8]) F dX7_pass_71 (m_X2_passMinute isC_1 hc12) cv_RX7_193 (klC_0 isC_1) (ksC_0 isC_1) ⟨_, _, rfl⟩ rfl rfl rfl (Nat.le_of_ble_eq_true rfl) ⟨Nat.le_of_ble_eq_true rfl, Nat.le_of_ble_eq_true rfl⟩ ?_ rfl rfl
        clear hc12
        refine a_iadd (pc := 74) F dX7_pass_74 ?_
        refine a_istore_n (lv' := [(2, .int (x8 + x13)), (0, .ref (ga X.G 0)), (1, .int p1), (3, .int x9)]) (pc := 75) F dX7_pass_75 (by decide) rfl ?_
        obtain ⟨x15, ex15⟩ : ∃ x15 : Int32, x15 = x9 + 1 := ⟨_, rfl⟩
        refine a_iinc (v := x15) (lv' := [(3, .int x15), (2, .int (x8 + x13)), (0, .ref (ga X.G 0)), (1, .int p1)]) (pc := 76) F dX7_pass_76 3 rfl (by rw [ex15]; rfl) (by decide) rfl ?_
        replace h := nm_at ex15 h
        clear ex15
        refine a_goto (tgt := 61) (pc := 79) F dX7_pass_79 (by decide) ?_
        refine a_lv F [2, 3, 1, 0] rfl ?_
        exact hP7 _ (Option.some.inj h).symm
    · replace h := ite_f q4 h
      clear q4
      cases h
  · replace h := ite_t (Decidable.not_not.mp q3) h
    clear q3
    cases h
def f_X0_put (p1 : Int32) (m0 : Mem) : Option Mem :=
  (if 60 ≤ (m0.1 155 0) then some m0 else gIn (m0.1 155 0) 60 <| nm (si m0 156 (m0.1 155 0).toNatClampNeg p1) fun m3 => nm (si m3 155 0 ((m3.1 155 0) + 1)) fun m4 => some m4)
set_option maxRecDepth 100000 in
set_option maxHeartbeats 4000000 in
theorem m_X0_put {p1 : Int32} {m0 : Mem} {mm : Mem} (h : f_X0_put p1 m0 = some mm) : Con yX0_put cX0_put 2 none 0 0 (fun G => [.ref (ga G 155), .int p1]) m0 none mm := by
  refine con_of (by decide) (fun G => Nat.le_of_ble_eq_true rfl) (fun X F => ?_)
  show WA X 0 0 0 [(0, .ref (ga X.G 155)), (1, .int p1)] [] m0 (EQ X none mm)
  rw [f_X0_put] at h
  refine a_aload_n (pc := 0) F dX0_put_0 0 rfl ?_
  refine a_geti (k := 155) (pc := 1) F dX0_put_1 fl_RX0_15 kl_155 ks_155 rfl ?_
  refine a_bipush (v := 60) (pc := 4) F dX0_put_4 (by decide) ?_
  refine a_icmp_ge (tgt := 29) (pc := 6) F dX0_put_6 (by decide) (fun q1 => ?_) (fun q1 => ?_)
  · replace h := ite_t q1 h
    clear q1
    cases h
    exact a_vret (pc := 29) F dX0_put_29 rfl
  · replace h := ite_f q1 h
    clear q1
    refine a_aload_n (pc := 9) F dX0_put_9 0 rfl ?_
    refine a_getr (k := 155) (r := 156) (pc := 10) F dX0_put_10 fl_RX0_9 kl_155 ks_155 rfl ?_
    refine a_aload_n (pc := 13) F dX0_put_13 0 rfl ?_
    refine a_geti (k := 155) (pc := 14) F dX0_put_14 fl_RX0_15 kl_155 ks_155 rfl ?_
    refine a_iload_n (pc := 17) F dX0_put_17 1 rfl ?_
    replace h := gIn_some h
    obtain ⟨g2, h⟩ := h
    refine a_ias (k := 156) (pc := 18) F dX0_put_18 kl_156 ks_156 g2 ?_
    refine a_nmm fun m3 em3 => ?_
    replace h := nm_at em3 h
    clear em3
    refine a_aload_n (pc := 19) F dX0_put_19 0 rfl ?_
    refine a_dup (pc := 20) F dX0_put_20 rfl ?_
    refine a_geti (k := 155) (pc := 21) F dX0_put_21 fl_RX0_15 kl_155 ks_155 rfl ?_
    refine a_iconst (v := 1) (pc := 24) F dX0_put_24 (by decide) ?_
    refine a_iadd (pc := 25) F dX0_put_25 ?_
    refine a_puti (k := 155) (pc := 26) F dX0_put_26 fp_RX0_15 kl_155 ks_155 rfl ?_
    refine a_nmm fun m4 em4 => ?_
    replace h := nm_at em4 h
    clear em4
    cases h
    exact a_vret (pc := 29) F dX0_put_29 rfl
def f_X7_append (p1 : Int32) (m0 : Mem) : Option (Int32 × Mem) :=
  bnd (f_X7_within p1 33 126 m0) fun x2 => (if x2 = 0 then none else (if (m0.1 155 0) < 60 then bnd (f_X0_put p1 m0) fun m6 => some (m6.1 155 0, m6) else none))
set_option maxRecDepth 100000 in
set_option maxHeartbeats 4000000 in
theorem m_X7_append {p1 : Int32} {m0 : Mem} {rr : Int32} {mm : Mem} (h : f_X7_append p1 m0 = some (rr, mm)) : Con yX7_append cX7_append 2 (some Jvm.ClassFile.FieldType.int) 1 22 (fun G => [.ref (ga G 0), .int p1]) m0 (some (.int rr)) mm := by
  refine con_of (by decide) (fun G => Nat.le_of_ble_eq_true rfl) (fun X F => ?_)
  show WA X 0 0 0 [(0, .ref (ga X.G 0)), (1, .int p1)] [] m0 (EQ X (some (.int rr)) mm)
  rw [f_X7_append] at h
  refine a_iload_n (pc := 0) F dX7_append_0 1 rfl ?_
  refine a_bipush (v := 33) (pc := 1) F dX7_append_1 (by decide) ?_
  refine a_bipush (v := 126) (pc := 3) F dX7_append_3 (by decide) ?_
  replace h := bnd_some h
  obtain ⟨x2, hc1, h⟩ := h
  refine a_callS (pc := 5) (As := [.int p1, .int 33, .int 126]) (st := []) F dX7_append_5 (m_X7_within hc1) cs_RX7_47 rfl rfl rfl (Nat.le_of_ble_eq_true rfl) ⟨Nat.le_of_ble_eq_true rfl, Nat.le_of_ble_eq_true rfl⟩ ?_ rfl rfl
  clear hc1
  refine a_if_ne (tgt := 21) (pc := 8) F dX7_append_8 (by decide) (fun q3 => ?_) (fun q3 => ?_)
  · replace h := ite_f q3 h
    clear q3
    refine a_aload_n (pc := 21) F dX7_append_21 0 rfl ?_
    refine a_getr (k := 0) (r := 155) (pc := 22) F dX7_append_22 fl_RX7_29 kl_0 ks_0 rfl ?_
    refine a_geti (k := 155) (pc := 25) F dX7_append_25 fl_RX7_199 kl_155 ks_155 rfl ?_
    refine a_bipush (v := 60) (pc := 28) F dX7_append_28 (by decide) ?_
    refine a_icmp_lt (tgt := 43) (pc := 30) F dX7_append_30 (by decide) (fun q4 => ?_) (fun q4 => ?_)
    · replace h := ite_t q4 h
      clear q4
      refine a_aload_n (pc := 43) F dX7_append_43 0 rfl ?_
      refine a_getr (k := 0) (r := 155) (pc := 44) F dX7_append_44 fl_RX7_29 kl_0 ks_0 rfl ?_
      refine a_iload_n (pc := 47) F dX7_append_47 1 rfl ?_
      replace h := bnd_some h
      obtain ⟨m6, hc5, h⟩ := h
      refine a_callV (pc := 48) (k := 155) (As := [.int p1]) (st := []) F dX7_append_48 (m_X0_put hc5) cv_RX7_204 kl_155 ks_155 ⟨_, _, rfl⟩ rfl rfl rfl (Nat.le_of_ble_eq_true rfl) ⟨Nat.le_of_ble_eq_true rfl, Nat.le_of_ble_eq_true rfl⟩ ?_ rfl rfl
      clear hc5
      refine a_aload_n (pc := 51) F dX7_append_51 0 rfl ?_
      refine a_getr (k := 0) (r := 155) (pc := 52) F dX7_append_52 fl_RX7_29 kl_0 ks_0 rfl ?_
      refine a_geti (k := 155) (pc := 55) F dX7_append_55 fl_RX7_199 kl_155 ks_155 rfl ?_
      cases h
      exact a_iret (pc := 58) F dX7_append_58 ⟨_, rfl, rfl⟩
    · replace h := ite_f q4 h
      clear q4
      cases h
  · replace h := ite_t (Decidable.not_not.mp q3) h
    clear q3
    cases h
def f_X7_clearBuffer (m0 : Mem) : Option (Int32 × Mem) :=
  nm (si m0 155 0 0) fun m1 => some (m0.1 155 0, m1)
set_option maxRecDepth 100000 in
set_option maxHeartbeats 4000000 in
theorem m_X7_clearBuffer {m0 : Mem} {rr : Int32} {mm : Mem} (h : f_X7_clearBuffer m0 = some (rr, mm)) : Con yX7_clearBuffer cX7_clearBuffer 2 (some Jvm.ClassFile.FieldType.int) 0 0 (fun G => [.ref (ga G 0)]) m0 (some (.int rr)) mm := by
  refine con_of (by decide) (fun G => Nat.le_of_ble_eq_true rfl) (fun X F => ?_)
  show WA X 0 0 0 [(0, .ref (ga X.G 0))] [] m0 (EQ X (some (.int rr)) mm)
  rw [f_X7_clearBuffer] at h
  refine a_aload_n (pc := 0) F dX7_clearBuffer_0 0 rfl ?_
  refine a_getr (k := 0) (r := 155) (pc := 1) F dX7_clearBuffer_1 fl_RX7_29 kl_0 ks_0 rfl ?_
  refine a_geti (k := 155) (pc := 4) F dX7_clearBuffer_4 fl_RX7_199 kl_155 ks_155 rfl ?_
  refine a_istore_n (lv' := [(1, .int (m0.1 155 0)), (0, .ref (ga X.G 0))]) (pc := 7) F dX7_clearBuffer_7 (by decide) rfl ?_
  refine a_aload_n (pc := 8) F dX7_clearBuffer_8 1 rfl ?_
  refine a_getr (k := 0) (r := 155) (pc := 9) F dX7_clearBuffer_9 fl_RX7_29 kl_0 ks_0 rfl ?_
  refine a_iconst (v := 0) (pc := 12) F dX7_clearBuffer_12 (by decide) ?_
  refine a_puti (k := 155) (pc := 13) F dX7_clearBuffer_13 fp_RX7_199 kl_155 ks_155 rfl ?_
  refine a_nmm fun m1 em1 => ?_
  replace h := nm_at em1 h
  clear em1
  refine a_iload_n (pc := 16) F dX7_clearBuffer_16 0 rfl ?_
  cases h
  exact a_iret (pc := 17) F dX7_clearBuffer_17 ⟨_, rfl, rfl⟩
def f_X5_begin (m0 : Mem) : Option Mem :=
  nm (si m0 157 1 0) fun m1 => nm (si m1 157 0 0) fun m2 => some m2
set_option maxRecDepth 100000 in
set_option maxHeartbeats 4000000 in
theorem m_X5_begin {m0 : Mem} {mm : Mem} (h : f_X5_begin m0 = some mm) : Con yX5_begin cX5_begin 1 none 0 0 (fun G => [.ref (ga G 157)]) m0 none mm := by
  refine con_of (by decide) (fun G => Nat.le_of_ble_eq_true rfl) (fun X F => ?_)
  show WA X 0 0 0 [(0, .ref (ga X.G 157))] [] m0 (EQ X none mm)
  rw [f_X5_begin] at h
  refine a_aload_n (pc := 0) F dX5_begin_0 0 rfl ?_
  refine a_iconst (v := 0) (pc := 1) F dX5_begin_1 (by decide) ?_
  refine a_puti (k := 157) (pc := 2) F dX5_begin_2 fp_RX5_28 kl_157 ks_157 rfl ?_
  refine a_nmm fun m1 em1 => ?_
  replace h := nm_at em1 h
  clear em1
  refine a_aload_n (pc := 5) F dX5_begin_5 0 rfl ?_
  refine a_iconst (v := 0) (pc := 6) F dX5_begin_6 (by decide) ?_
  refine a_puti (k := 157) (pc := 7) F dX5_begin_7 fp_RX5_60 kl_157 ks_157 rfl ?_
  refine a_nmm fun m2 em2 => ?_
  replace h := nm_at em2 h
  clear em2
  cases h
  exact a_vret (pc := 10) F dX5_begin_10 rfl
def f_X0_codeAt (p1 : Int32) (m0 : Mem) : Option Int32 :=
  (if p1 < 0 then some 0 else (if 60 ≤ p1 then some 0 else gIn p1 60 <| nm (m0.1 156 p1.toNatClampNeg) fun x4 => some x4))
set_option maxRecDepth 100000 in
set_option maxHeartbeats 4000000 in
theorem m_X0_codeAt {p1 : Int32} {m0 : Mem} {rr : Int32} (h : f_X0_codeAt p1 m0 = some rr) : Con yX0_codeAt cX0_codeAt 2 (some Jvm.ClassFile.FieldType.int) 0 0 (fun G => [.ref (ga G 155), .int p1]) m0 (some (.int rr)) m0 := by
  refine con_of (by decide) (fun G => Nat.le_of_ble_eq_true rfl) (fun X F => ?_)
  show WA X 0 0 0 [(0, .ref (ga X.G 155)), (1, .int p1)] [] m0 (EQ X (some (.int rr)) m0)
  rw [f_X0_codeAt] at h
  refine a_iload_n (pc := 0) F dX0_codeAt_0 1 rfl ?_
  refine a_if_lt (tgt := 19) (pc := 1) F dX0_codeAt_1 (by decide) (fun q1 => ?_) (fun q1 => ?_)
  · replace h := ite_t q1 h
    clear q1
    refine a_iconst (v := 0) (pc := 19) F dX0_codeAt_19 (by decide) ?_
    cases h
    exact a_iret (pc := 20) F dX0_codeAt_20 ⟨_, rfl, rfl⟩
  · replace h := ite_f q1 h
    clear q1
    refine a_iload_n (pc := 4) F dX0_codeAt_4 1 rfl ?_
    refine a_bipush (v := 60) (pc := 5) F dX0_codeAt_5 (by decide) ?_
    refine a_icmp_ge (tgt := 19) (pc := 7) F dX0_codeAt_7 (by decide) (fun q2 => ?_) (fun q2 => ?_)
    · replace h := ite_t q2 h
      clear q2
      refine a_iconst (v := 0) (pc := 19) F dX0_codeAt_19 (by decide) ?_
      cases h
      exact a_iret (pc := 20) F dX0_codeAt_20 ⟨_, rfl, rfl⟩
    · replace h := ite_f q2 h
      clear q2
      refine a_aload_n (pc := 10) F dX0_codeAt_10 0 rfl ?_
      refine a_getr (k := 155) (r := 156) (pc := 11) F dX0_codeAt_11 fl_RX0_9 kl_155 ks_155 rfl ?_
      refine a_iload_n (pc := 14) F dX0_codeAt_14 1 rfl ?_
      replace h := gIn_some h
      obtain ⟨g3, h⟩ := h
      refine a_ial (k := 156) (pc := 15) F dX0_codeAt_15 kl_156 ks_156 g3 ?_
      refine a_nmi fun x4 ex4 => ?_
      replace h := nm_at ex4 h
      clear ex4
      refine a_goto (tgt := 20) (pc := 16) F dX0_codeAt_16 (by decide) ?_
      cases h
      exact a_iret (pc := 20) F dX0_codeAt_20 ⟨_, rfl, rfl⟩
def f_X5_takeKind (p1 : Int32) (m0 : Mem) : Option (Int32 × Mem) :=
  jn ((if p1 = 99 then some (.inl ()) else (if p1 = 114 then some (.inl ()) else (if p1 = 97 then some (.inl ()) else some (.inr (0, m0)))))) (fun (_ : Unit) => bnd ((if p1 = 99 then some 0 else (if p1 = 114 then some 1 else some 2))) (fun (x8 : Int32) => nm (si m0 157 2 x8) fun m9 => nm (si m9 157 0 ((m9.1 157 0) + 1)) fun m10 => nm (si m10 157 1 1) fun m11 => some (1, m11)))
set_option maxRecDepth 100000 in
set_option maxHeartbeats 4000000 in
theorem m_X5_takeKind {p1 : Int32} {m0 : Mem} {rr : Int32} {mm : Mem} (h : f_X5_takeKind p1 m0 = some (rr, mm)) : Con yX5_takeKind cX5_takeKind 2 (some Jvm.ClassFile.FieldType.boolean) 0 0 (fun G => [.ref (ga G 157), .int p1]) m0 (some (.int rr)) mm := by
  refine con_of (by decide) (fun G => Nat.le_of_ble_eq_true rfl) (fun X F => ?_)
  show WA X 0 0 0 [(0, .ref (ga X.G 157)), (1, .int p1)] [] m0 (EQ X (some (.int rr)) mm)
  rw [f_X5_takeKind] at h
  refine a_iload_n (pc := 0) F dX5_takeKind_0 1 rfl ?_
  refine a_bipush (v := 99) (pc := 1) F dX5_takeKind_1 (by decide) ?_
  replace h := jn_some h
  obtain ⟨o1, hR1, hK1, hB1⟩ := h
  have hJ1 : ∀ (u : Unit), o1 = .inl u → WA X 0 0 20 [(0, .ref (ga X.G 157)), (1, .int p1)] [] m0 (EQ X (some (.int rr)) mm) := by
    intro u eo
    have h := hK1 _ eo
    clear hK1 eo
    refine a_aload_n (pc := 20) F dX5_takeKind_20 0 rfl ?_
    refine a_iload_n (pc := 21) F dX5_takeKind_21 1 rfl ?_
    refine a_bipush (v := 99) (pc := 22) F dX5_takeKind_22 (by decide) ?_
    replace h := bnd_some h
    obtain ⟨x8, hR5, h⟩ := h
    have hJ5 : WA X 0 0 42 [(0, .ref (ga X.G 157))] [.int x8, .ref (ga X.G 157)] m0 (EQ X (some (.int rr)) mm) := by
      refine a_puti (k := 157) (pc := 42) F dX5_takeKind_42 fp_RX5_42 kl_157 ks_157 rfl ?_
      refine a_nmm fun m9 em9 => ?_
      replace h := nm_at em9 h
      clear em9
      refine a_aload_n (pc := 45) F dX5_takeKind_45 0 rfl ?_
      refine a_dup (pc := 46) F dX5_takeKind_46 rfl ?_
      refine a_geti (k := 157) (pc := 47) F dX5_takeKind_47 fl_RX5_60 kl_157 ks_157 rfl ?_
      refine a_iconst (v := 1) (pc := 50) F dX5_takeKind_50 (by decide) ?_
      refine a_iadd (pc := 51) F dX5_takeKind_51 ?_
      refine a_puti (k := 157) (pc := 52) F dX5_takeKind_52 fp_RX5_60 kl_157 ks_157 rfl ?_
      refine a_nmm fun m10 em10 => ?_
      replace h := nm_at em10 h
      clear em10
      refine a_aload_n (pc := 55) F dX5_takeKind_55 0 rfl ?_
      refine a_iconst (v := 1) (pc := 56) F dX5_takeKind_56 (by decide) ?_
      refine a_puti (k := 157) (pc := 57) F dX5_takeKind_57 fp_RX5_28 kl_157 ks_157 rfl ?_
      refine a_nmm fun m11 em11 => ?_
      replace h := nm_at em11 h
      clear em11
      refine a_iconst (v := 1) (pc := 60) F dX5_takeKind_60 (by decide) ?_
      cases h
      exact a_iret (pc := 61) F dX5_takeKind_61 ⟨_, rfl, rfl⟩
    clear h
    have h := hR5
    clear hR5
    refine a_icmp_ne (tgt := 31) (pc := 24) F dX5_takeKind_24 (by decide) (fun q6 => ?_) (fun q6 => ?_)
    · replace h := ite_f q6 h
      clear q6
      refine a_iload_n (pc := 31) F dX5_takeKind_31 1 rfl ?_
      refine a_bipush (v := 114) (pc := 32) F dX5_takeKind_32 (by decide) ?_
      refine a_icmp_ne (tgt := 41) (pc := 34) F dX5_takeKind_34 (by decide) (fun q7 => ?_) (fun q7 => ?_)
      · replace h := ite_f q7 h
        clear q7
        refine a_iconst (v := 2) (pc := 41) F dX5_takeKind_41 (by decide) ?_
        refine a_lv F [0] rfl ?_
        cases h
        exact hJ5
      · replace h := ite_t (Decidable.not_not.mp q7) h
        clear q7
        refine a_iconst (v := 1) (pc := 37) F dX5_takeKind_37 (by decide) ?_
        refine a_goto (tgt := 42) (pc := 38) F dX5_takeKind_38 (by decide) ?_
        refine a_lv F [0] rfl ?_
        cases h
        exact hJ5
    · replace h := ite_t (Decidable.not_not.mp q6) h
      clear q6
      refine a_iconst (v := 0) (pc := 27) F dX5_takeKind_27 (by decide) ?_
      refine a_goto (tgt := 42) (pc := 28) F dX5_takeKind_28 (by decide) ?_
      refine a_lv F [0] rfl ?_
      cases h
      exact hJ5
  clear hK1
  have h := hR1
  clear hR1
  refine a_icmp_eq (tgt := 20) (pc := 3) F dX5_takeKind_3 (by decide) (fun q2 => ?_) (fun q2 => ?_)
  · replace h := ite_t q2 h
    clear q2
    exact hJ1 _ (Option.some.inj h).symm
  · replace h := ite_f q2 h
    clear q2
    refine a_iload_n (pc := 6) F dX5_takeKind_6 1 rfl ?_
    refine a_bipush (v := 114) (pc := 7) F dX5_takeKind_7 (by decide) ?_
    refine a_icmp_eq (tgt := 20) (pc := 9) F dX5_takeKind_9 (by decide) (fun q3 => ?_) (fun q3 => ?_)
    · replace h := ite_t q3 h
      clear q3
      exact hJ1 _ (Option.some.inj h).symm
    · replace h := ite_f q3 h
      clear q3
      refine a_iload_n (pc := 12) F dX5_takeKind_12 1 rfl ?_
      refine a_bipush (v := 97) (pc := 13) F dX5_takeKind_13 (by decide) ?_
      refine a_icmp_eq (tgt := 20) (pc := 15) F dX5_takeKind_15 (by decide) (fun q4 => ?_) (fun q4 => ?_)
      · replace h := ite_t q4 h
        clear q4
        exact hJ1 _ (Option.some.inj h).symm
      · replace h := ite_f q4 h
        clear q4
        refine a_iconst (v := 0) (pc := 18) F dX5_takeKind_18 (by decide) ?_
        replace h := hB1 _ (Option.some.inj h).symm
        cases h
        exact a_iret (pc := 19) F dX5_takeKind_19 ⟨_, rfl, rfl⟩
def f_X5_takeLanguage (p1 : Int32) (m0 : Mem) : Option (Int32 × Mem) :=
  (if p1 < 49 then some (0, m0) else (if p1 ≤ 57 then nm (si m0 157 3 (p1 - 48)) fun m3 => nm (si m3 157 1 2) fun m4 => some (1, m4) else some (0, m0)))
set_option maxRecDepth 100000 in
set_option maxHeartbeats 4000000 in
theorem m_X5_takeLanguage {p1 : Int32} {m0 : Mem} {rr : Int32} {mm : Mem} (h : f_X5_takeLanguage p1 m0 = some (rr, mm)) : Con yX5_takeLanguage cX5_takeLanguage 2 (some Jvm.ClassFile.FieldType.boolean) 0 0 (fun G => [.ref (ga G 157), .int p1]) m0 (some (.int rr)) mm := by
  refine con_of (by decide) (fun G => Nat.le_of_ble_eq_true rfl) (fun X F => ?_)
  show WA X 0 0 0 [(0, .ref (ga X.G 157)), (1, .int p1)] [] m0 (EQ X (some (.int rr)) mm)
  rw [f_X5_takeLanguage] at h
  refine a_iload_n (pc := 0) F dX5_takeLanguage_0 1 rfl ?_
  refine a_bipush (v := 49) (pc := 1) F dX5_takeLanguage_1 (by decide) ?_
  refine a_icmp_lt (tgt := 12) (pc := 3) F dX5_takeLanguage_3 (by decide) (fun q1 => ?_) (fun q1 => ?_)
  · replace h := ite_t q1 h
    clear q1
    refine a_iconst (v := 0) (pc := 12) F dX5_takeLanguage_12 (by decide) ?_
    cases h
    exact a_iret (pc := 13) F dX5_takeLanguage_13 ⟨_, rfl, rfl⟩
  · replace h := ite_f q1 h
    clear q1
    refine a_iload_n (pc := 6) F dX5_takeLanguage_6 1 rfl ?_
    refine a_bipush (v := 57) (pc := 7) F dX5_takeLanguage_7 (by decide) ?_
    refine a_icmp_le (tgt := 14) (pc := 9) F dX5_takeLanguage_9 (by decide) (fun q2 => ?_) (fun q2 => ?_)
    · replace h := ite_t q2 h
      clear q2
      refine a_aload_n (pc := 14) F dX5_takeLanguage_14 0 rfl ?_
      refine a_iload_n (pc := 15) F dX5_takeLanguage_15 1 rfl ?_
      refine a_bipush (v := 48) (pc := 16) F dX5_takeLanguage_16 (by decide) ?_
      refine a_isub (pc := 18) F dX5_takeLanguage_18 ?_
      refine a_puti (k := 157) (pc := 19) F dX5_takeLanguage_19 fp_RX5_45 kl_157 ks_157 rfl ?_
      refine a_nmm fun m3 em3 => ?_
      replace h := nm_at em3 h
      clear em3
      refine a_aload_n (pc := 22) F dX5_takeLanguage_22 0 rfl ?_
      refine a_iconst (v := 2) (pc := 23) F dX5_takeLanguage_23 (by decide) ?_
      refine a_puti (k := 157) (pc := 24) F dX5_takeLanguage_24 fp_RX5_28 kl_157 ks_157 rfl ?_
      refine a_nmm fun m4 em4 => ?_
      replace h := nm_at em4 h
      clear em4
      refine a_iconst (v := 1) (pc := 27) F dX5_takeLanguage_27 (by decide) ?_
      cases h
      exact a_iret (pc := 28) F dX5_takeLanguage_28 ⟨_, rfl, rfl⟩
    · replace h := ite_f q2 h
      clear q2
      refine a_iconst (v := 0) (pc := 12) F dX5_takeLanguage_12 (by decide) ?_
      cases h
      exact a_iret (pc := 13) F dX5_takeLanguage_13 ⟨_, rfl, rfl⟩
def f_X5_takeSign (p1 : Int32) (m0 : Mem) : Option (Int32 × Mem) :=
  (if p1 = 64 then nm (si m0 157 4 0) fun m2 => nm (si m2 157 1 3) fun m3 => some (1, m3) else some (0, m0))
set_option maxRecDepth 100000 in
set_option maxHeartbeats 4000000 in
theorem m_X5_takeSign {p1 : Int32} {m0 : Mem} {rr : Int32} {mm : Mem} (h : f_X5_takeSign p1 m0 = some (rr, mm)) : Con yX5_takeSign cX5_takeSign 2 (some Jvm.ClassFile.FieldType.boolean) 0 0 (fun G => [.ref (ga G 157), .int p1]) m0 (some (.int rr)) mm := by
  refine con_of (by decide) (fun G => Nat.le_of_ble_eq_true rfl) (fun X F => ?_)
  show WA X 0 0 0 [(0, .ref (ga X.G 157)), (1, .int p1)] [] m0 (EQ X (some (.int rr)) mm)
  rw [f_X5_takeSign] at h
  refine a_iload_n (pc := 0) F dX5_takeSign_0 1 rfl ?_
  refine a_bipush (v := 64) (pc := 1) F dX5_takeSign_1 (by decide) ?_
  refine a_icmp_eq (tgt := 8) (pc := 3) F dX5_takeSign_3 (by decide) (fun q1 => ?_) (fun q1 => ?_)
  · replace h := ite_t q1 h
    clear q1
    refine a_aload_n (pc := 8) F dX5_takeSign_8 0 rfl ?_
    refine a_iconst (v := 0) (pc := 9) F dX5_takeSign_9 (by decide) ?_
    refine a_puti (k := 157) (pc := 10) F dX5_takeSign_10 fp_RX5_51 kl_157 ks_157 rfl ?_
    refine a_nmm fun m2 em2 => ?_
    replace h := nm_at em2 h
    clear em2
    refine a_aload_n (pc := 13) F dX5_takeSign_13 0 rfl ?_
    refine a_iconst (v := 3) (pc := 14) F dX5_takeSign_14 (by decide) ?_
    refine a_puti (k := 157) (pc := 15) F dX5_takeSign_15 fp_RX5_28 kl_157 ks_157 rfl ?_
    refine a_nmm fun m3 em3 => ?_
    replace h := nm_at em3 h
    clear em3
    refine a_iconst (v := 1) (pc := 18) F dX5_takeSign_18 (by decide) ?_
    cases h
    exact a_iret (pc := 19) F dX5_takeSign_19 ⟨_, rfl, rfl⟩
  · replace h := ite_f q1 h
    clear q1
    refine a_iconst (v := 0) (pc := 6) F dX5_takeSign_6 (by decide) ?_
    cases h
    exact a_iret (pc := 7) F dX5_takeSign_7 ⟨_, rfl, rfl⟩
def f_X5_longer (p1 : Int32) (p2 : Int32) (p3 : Int32) (m0 : Mem) : Option Int32 :=
  (if p2 < 48 then some 0 else (if p2 ≤ 57 then (if p3 < ((p1 * 10) + (p2 - 48)) then some 0 else some ((p1 * 10) + (p2 - 48))) else some 0))
set_option maxRecDepth 100000 in
set_option maxHeartbeats 4000000 in
theorem m_X5_longer {p1 : Int32} {p2 : Int32} {p3 : Int32} {m0 : Mem} {rr : Int32} (h : f_X5_longer p1 p2 p3 m0 = some rr) : Con yX5_longer cX5_longer 4 (some Jvm.ClassFile.FieldType.int) 0 0 (fun G => [.int p1, .int p2, .int p3]) m0 (some (.int rr)) m0 := by
  refine con_of (by decide) (fun G => Nat.le_of_ble_eq_true rfl) (fun X F => ?_)
  show WA X 0 0 0 [(0, .int p1), (1, .int p2), (2, .int p3)] [] m0 (EQ X (some (.int rr)) m0)
  rw [f_X5_longer] at h
  refine a_iload_n (pc := 0) F dX5_longer_0 1 rfl ?_
  refine a_bipush (v := 48) (pc := 1) F dX5_longer_1 (by decide) ?_
  refine a_icmp_lt (tgt := 12) (pc := 3) F dX5_longer_3 (by decide) (fun q1 => ?_) (fun q1 => ?_)
  · replace h := ite_t q1 h
    clear q1
    refine a_iconst (v := 0) (pc := 12) F dX5_longer_12 (by decide) ?_
    cases h
    exact a_iret (pc := 13) F dX5_longer_13 ⟨_, rfl, rfl⟩
  · replace h := ite_f q1 h
    clear q1
    refine a_iload_n (pc := 6) F dX5_longer_6 1 rfl ?_
    refine a_bipush (v := 57) (pc := 7) F dX5_longer_7 (by decide) ?_
    refine a_icmp_le (tgt := 14) (pc := 9) F dX5_longer_9 (by decide) (fun q2 => ?_) (fun q2 => ?_)
    · replace h := ite_t q2 h
      clear q2
      refine a_iload_n (pc := 14) F dX5_longer_14 0 rfl ?_
      refine a_bipush (v := 10) (pc := 15) F dX5_longer_15 (by decide) ?_
      refine a_imul (pc := 17) F dX5_longer_17 ?_
      refine a_iload_n (pc := 18) F dX5_longer_18 1 rfl ?_
      refine a_bipush (v := 48) (pc := 19) F dX5_longer_19 (by decide) ?_
      refine a_isub (pc := 21) F dX5_longer_21 ?_
      refine a_iadd (pc := 22) F dX5_longer_22 ?_
      refine a_istore_n (lv' := [(3, .int ((p1 * 10) + (p2 - 48))), (0, .int p1), (1, .int p2), (2, .int p3)]) (pc := 23) F dX5_longer_23 (by decide) rfl ?_
      refine a_iload_n (pc := 24) F dX5_longer_24 0 rfl ?_
      refine a_iload_n (pc := 25) F dX5_longer_25 3 rfl ?_
      refine a_icmp_gt (tgt := 33) (pc := 26) F dX5_longer_26 (by decide) (fun q3 => ?_) (fun q3 => ?_)
      · replace h := ite_t q3 h
        clear q3
        refine a_iconst (v := 0) (pc := 33) F dX5_longer_33 (by decide) ?_
        cases h
        exact a_iret (pc := 34) F dX5_longer_34 ⟨_, rfl, rfl⟩
      · replace h := ite_f q3 h
        clear q3
        refine a_iload_n (pc := 29) F dX5_longer_29 0 rfl ?_
        refine a_goto (tgt := 34) (pc := 30) F dX5_longer_30 (by decide) ?_
        cases h
        exact a_iret (pc := 34) F dX5_longer_34 ⟨_, rfl, rfl⟩
    · replace h := ite_f q2 h
      clear q2
      refine a_iconst (v := 0) (pc := 12) F dX5_longer_12 (by decide) ?_
      cases h
      exact a_iret (pc := 13) F dX5_longer_13 ⟨_, rfl, rfl⟩
def f_X5_takeIn (p1 : Int32) (m0 : Mem) : Option (Int32 × Mem) :=
  jn ((if p1 = 43 then (if (m0.1 157 4) ≤ 0 then some (.inl m0) else nm (si m0 157 5 0) fun m4 => nm (si m4 157 1 4) fun m5 => some (.inr (1, m5))) else some (.inl m0))) (fun (m6 : Mem) => bnd (f_X5_longer (m6.1 157 4) p1 2000 m6) fun x8 => nm (si m6 157 4 x8) fun m9 => (if (m9.1 157 4) ≤ 0 then some (0, m9) else some (1, m9)))
set_option maxRecDepth 100000 in
set_option maxHeartbeats 4000000 in
theorem m_X5_takeIn {p1 : Int32} {m0 : Mem} {rr : Int32} {mm : Mem} (h : f_X5_takeIn p1 m0 = some (rr, mm)) : Con yX5_takeIn cX5_takeIn 2 (some Jvm.ClassFile.FieldType.boolean) 1 23 (fun G => [.ref (ga G 157), .int p1]) m0 (some (.int rr)) mm := by
  refine con_of (by decide) (fun G => Nat.le_of_ble_eq_true rfl) (fun X F => ?_)
  show WA X 0 0 0 [(0, .ref (ga X.G 157)), (1, .int p1)] [] m0 (EQ X (some (.int rr)) mm)
  rw [f_X5_takeIn] at h
  refine a_iload_n (pc := 0) F dX5_takeIn_0 1 rfl ?_
  refine a_bipush (v := 43) (pc := 1) F dX5_takeIn_1 (by decide) ?_
  replace h := jn_some h
  obtain ⟨o1, hR1, hK1, hB1⟩ := h
  have hJ1 : ∀ (m6 : Mem), o1 = .inl m6 → WA X 0 0 25 [(0, .ref (ga X.G 157)), (1, .int p1)] [] m6 (EQ X (some (.int rr)) mm) := by
    intro m6 eo
    have h := hK1 _ eo
    clear hK1 eo
    refine a_aload_n (pc := 25) F dX5_takeIn_25 0 rfl ?_
    refine a_aload_n (pc := 26) F dX5_takeIn_26 0 rfl ?_
    refine a_geti (k := 157) (pc := 27) F dX5_takeIn_27 fl_RX5_51 kl_157 ks_157 rfl ?_
    refine a_iload_n (pc := 30) F dX5_takeIn_30 1 rfl ?_
    refine a_sipush (v := 2000) (pc := 31) F dX5_takeIn_31 (by decide) ?_
    replace h := bnd_some h
    obtain ⟨x8, hc7, h⟩ := h
    refine a_callS (pc := 34) (As := [.int (m6.1 157 4), .int p1, .int 2000]) (st := [.ref (ga X.G 157)]) F dX5_takeIn_34 (m_X5_longer hc7) cs_RX5_78 rfl rfl rfl (Nat.le_of_ble_eq_true rfl) ⟨Nat.le_of_ble_eq_true rfl, Nat.le_of_ble_eq_true rfl⟩ ?_ rfl rfl
    clear hc7
    refine a_puti (k := 157) (pc := 37) F dX5_takeIn_37 fp_RX5_51 kl_157 ks_157 rfl ?_
    refine a_nmm fun m9 em9 => ?_
    replace h := nm_at em9 h
    clear em9
    refine a_aload_n (pc := 40) F dX5_takeIn_40 0 rfl ?_
    refine a_geti (k := 157) (pc := 41) F dX5_takeIn_41 fl_RX5_51 kl_157 ks_157 rfl ?_
    refine a_if_le (tgt := 51) (pc := 44) F dX5_takeIn_44 (by decide) (fun q10 => ?_) (fun q10 => ?_)
    · replace h := ite_t q10 h
      clear q10
      refine a_iconst (v := 0) (pc := 51) F dX5_takeIn_51 (by decide) ?_
      cases h
      exact a_iret (pc := 52) F dX5_takeIn_52 ⟨_, rfl, rfl⟩
    · replace h := ite_f q10 h
      clear q10
      refine a_iconst (v := 1) (pc := 47) F dX5_takeIn_47 (by decide) ?_
      refine a_goto (tgt := 52) (pc := 48) F dX5_takeIn_48 (by decide) ?_
      cases h
      exact a_iret (pc := 52) F dX5_takeIn_52 ⟨_, rfl, rfl⟩
  clear hK1
  have h := hR1
  clear hR1
  refine a_icmp_ne (tgt := 25) (pc := 3) F dX5_takeIn_3 (by decide) (fun q2 => ?_) (fun q2 => ?_)
  · replace h := ite_f q2 h
    clear q2
    exact hJ1 _ (Option.some.inj h).symm
  · replace h := ite_t (Decidable.not_not.mp q2) h
    clear q2
    refine a_aload_n (pc := 6) F dX5_takeIn_6 0 rfl ?_
    refine a_geti (k := 157) (pc := 7) F dX5_takeIn_7 fl_RX5_51 kl_157 ks_157 rfl ?_
    refine a_if_le (tgt := 25) (pc := 10) F dX5_takeIn_10 (by decide) (fun q3 => ?_) (fun q3 => ?_)
    · replace h := ite_t q3 h
      clear q3
      exact hJ1 _ (Option.some.inj h).symm
    · replace h := ite_f q3 h
      clear q3
      refine a_aload_n (pc := 13) F dX5_takeIn_13 0 rfl ?_
      refine a_iconst (v := 0) (pc := 14) F dX5_takeIn_14 (by decide) ?_
      refine a_puti (k := 157) (pc := 15) F dX5_takeIn_15 fp_RX5_31 kl_157 ks_157 rfl ?_
      refine a_nmm fun m4 em4 => ?_
      replace h := nm_at em4 h
      clear em4
      refine a_aload_n (pc := 18) F dX5_takeIn_18 0 rfl ?_
      refine a_iconst (v := 4) (pc := 19) F dX5_takeIn_19 (by decide) ?_
      refine a_puti (k := 157) (pc := 20) F dX5_takeIn_20 fp_RX5_28 kl_157 ks_157 rfl ?_
      refine a_nmm fun m5 em5 => ?_
      replace h := nm_at em5 h
      clear em5
      refine a_iconst (v := 1) (pc := 23) F dX5_takeIn_23 (by decide) ?_
      replace h := hB1 _ (Option.some.inj h).symm
      cases h
      exact a_iret (pc := 24) F dX5_takeIn_24 ⟨_, rfl, rfl⟩
def f_X5_takeLength (p1 : Int32) (m0 : Mem) : Option (Int32 × Mem) :=
  jn ((if p1 = 44 then (if (m0.1 157 5) < 10 then some (.inl m0) else nm (si m0 157 1 0) fun m4 => some (.inr (1, m4))) else some (.inl m0))) (fun (m5 : Mem) => bnd (f_X5_longer (m5.1 157 5) p1 240 m5) fun x7 => nm (si m5 157 5 x7) fun m8 => (if (m8.1 157 5) ≤ 0 then some (0, m8) else some (1, m8)))
set_option maxRecDepth 100000 in
set_option maxHeartbeats 4000000 in
theorem m_X5_takeLength {p1 : Int32} {m0 : Mem} {rr : Int32} {mm : Mem} (h : f_X5_takeLength p1 m0 = some (rr, mm)) : Con yX5_takeLength cX5_takeLength 2 (some Jvm.ClassFile.FieldType.boolean) 1 23 (fun G => [.ref (ga G 157), .int p1]) m0 (some (.int rr)) mm := by
  refine con_of (by decide) (fun G => Nat.le_of_ble_eq_true rfl) (fun X F => ?_)
  show WA X 0 0 0 [(0, .ref (ga X.G 157)), (1, .int p1)] [] m0 (EQ X (some (.int rr)) mm)
  rw [f_X5_takeLength] at h
  refine a_iload_n (pc := 0) F dX5_takeLength_0 1 rfl ?_
  refine a_bipush (v := 44) (pc := 1) F dX5_takeLength_1 (by decide) ?_
  replace h := jn_some h
  obtain ⟨o1, hR1, hK1, hB1⟩ := h
  have hJ1 : ∀ (m5 : Mem), o1 = .inl m5 → WA X 0 0 22 [(0, .ref (ga X.G 157)), (1, .int p1)] [] m5 (EQ X (some (.int rr)) mm) := by
    intro m5 eo
    have h := hK1 _ eo
    clear hK1 eo
    refine a_aload_n (pc := 22) F dX5_takeLength_22 0 rfl ?_
    refine a_aload_n (pc := 23) F dX5_takeLength_23 0 rfl ?_
    refine a_geti (k := 157) (pc := 24) F dX5_takeLength_24 fl_RX5_31 kl_157 ks_157 rfl ?_
    refine a_iload_n (pc := 27) F dX5_takeLength_27 1 rfl ?_
    refine a_sipush (v := 240) (pc := 28) F dX5_takeLength_28 (by decide) ?_
    replace h := bnd_some h
    obtain ⟨x7, hc6, h⟩ := h
    refine a_callS (pc := 31) (As := [.int (m5.1 157 5), .int p1, .int 240]) (st := [.ref (ga X.G 157)]) F dX5_takeLength_31 (m_X5_longer hc6) cs_RX5_78 rfl rfl rfl (Nat.le_of_ble_eq_true rfl) ⟨Nat.le_of_ble_eq_true rfl, Nat.le_of_ble_eq_true rfl⟩ ?_ rfl rfl
    clear hc6
    refine a_puti (k := 157) (pc := 34) F dX5_takeLength_34 fp_RX5_31 kl_157 ks_157 rfl ?_
    refine a_nmm fun m8 em8 => ?_
    replace h := nm_at em8 h
    clear em8
    refine a_aload_n (pc := 37) F dX5_takeLength_37 0 rfl ?_
    refine a_geti (k := 157) (pc := 38) F dX5_takeLength_38 fl_RX5_31 kl_157 ks_157 rfl ?_
    refine a_if_le (tgt := 48) (pc := 41) F dX5_takeLength_41 (by decide) (fun q9 => ?_) (fun q9 => ?_)
    · replace h := ite_t q9 h
      clear q9
      refine a_iconst (v := 0) (pc := 48) F dX5_takeLength_48 (by decide) ?_
      cases h
      exact a_iret (pc := 49) F dX5_takeLength_49 ⟨_, rfl, rfl⟩
    · replace h := ite_f q9 h
      clear q9
      refine a_iconst (v := 1) (pc := 44) F dX5_takeLength_44 (by decide) ?_
      refine a_goto (tgt := 49) (pc := 45) F dX5_takeLength_45 (by decide) ?_
      cases h
      exact a_iret (pc := 49) F dX5_takeLength_49 ⟨_, rfl, rfl⟩
  clear hK1
  have h := hR1
  clear hR1
  refine a_icmp_ne (tgt := 22) (pc := 3) F dX5_takeLength_3 (by decide) (fun q2 => ?_) (fun q2 => ?_)
  · replace h := ite_f q2 h
    clear q2
    exact hJ1 _ (Option.some.inj h).symm
  · replace h := ite_t (Decidable.not_not.mp q2) h
    clear q2
    refine a_aload_n (pc := 6) F dX5_takeLength_6 0 rfl ?_
    refine a_geti (k := 157) (pc := 7) F dX5_takeLength_7 fl_RX5_31 kl_157 ks_157 rfl ?_
    refine a_bipush (v := 10) (pc := 10) F dX5_takeLength_10 (by decide) ?_
    refine a_icmp_lt (tgt := 22) (pc := 12) F dX5_takeLength_12 (by decide) (fun q3 => ?_) (fun q3 => ?_)
    · replace h := ite_t q3 h
      clear q3
      exact hJ1 _ (Option.some.inj h).symm
    · replace h := ite_f q3 h
      clear q3
      refine a_aload_n (pc := 15) F dX5_takeLength_15 0 rfl ?_
      refine a_iconst (v := 0) (pc := 16) F dX5_takeLength_16 (by decide) ?_
      refine a_puti (k := 157) (pc := 17) F dX5_takeLength_17 fp_RX5_28 kl_157 ks_157 rfl ?_
      refine a_nmm fun m4 em4 => ?_
      replace h := nm_at em4 h
      clear em4
      refine a_iconst (v := 1) (pc := 20) F dX5_takeLength_20 (by decide) ?_
      replace h := hB1 _ (Option.some.inj h).symm
      cases h
      exact a_iret (pc := 21) F dX5_takeLength_21 ⟨_, rfl, rfl⟩
def f_X5_take (p1 : Int32) (m0 : Mem) : Option (Int32 × Mem) :=
  nm (m0.1 157 1) fun x1 => (if x1 = 0 then bnd2 (f_X5_takeKind p1 m0) fun x4 m5 => gBo x4 <| some (x4, m5) else (if x1 = 1 then bnd2 (f_X5_takeLanguage p1 m0) fun x9 m10 => gBo x9 <| some (x9, m10) else (if x1 = 2 then bnd2 (f_X5_takeSign p1 m0) fun x14 m15 => gBo x14 <| some (x14, m15) else (if x1 = 3 then bnd2 (f_X5_takeIn p1 m0) fun x19 m20 => gBo x19 <| some (x19, m20) else bnd2 (f_X5_takeLength p1 m0) fun x23 m24 => gBo x23 <| some (x23, m24)))))
set_option maxRecDepth 100000 in
set_option maxHeartbeats 4000000 in
theorem m_X5_take {p1 : Int32} {m0 : Mem} {rr : Int32} {mm : Mem} (h : f_X5_take p1 m0 = some (rr, mm)) : Con yX5_take cX5_take 2 (some Jvm.ClassFile.FieldType.boolean) 2 44 (fun G => [.ref (ga G 157), .int p1]) m0 (some (.int rr)) mm := by
  refine con_of (by decide) (fun G => Nat.le_of_ble_eq_true rfl) (fun X F => ?_)
  show WA X 0 0 0 [(0, .ref (ga X.G 157)), (1, .int p1)] [] m0 (EQ X (some (.int rr)) mm)
  rw [f_X5_take] at h
  refine a_aload_n (pc := 0) F dX5_take_0 0 rfl ?_
  refine a_geti (k := 157) (pc := 1) F dX5_take_1 fl_RX5_28 kl_157 ks_157 rfl ?_
  refine a_nmi fun x1 ex1 => ?_
  replace h := nm_at ex1 h
  clear ex1
  by_cases q2 : x1 = 0
  · replace h := ite_t q2 h
    refine a_swin (pc := 4) (tgt := 36) F dX5_take_4 (by rw [q2]; decide) (by rw [q2]; decide) (by rw [q2]; rfl) (by decide) ?_
    clear q2
    refine a_aload_n (pc := 36) F dX5_take_36 0 rfl ?_
    refine a_iload_n (pc := 37) F dX5_take_37 1 rfl ?_
    replace h := bnd2_some h
    obtain ⟨x4, m5, hc3, h⟩ := h
    refine a_callV (pc := 38) (k := 157) (As := [.int p1]) (st := []) F dX5_take_38 (m_X5_takeKind hc3) cv_RX5_63 kl_157 ks_157 ⟨_, _, rfl⟩ rfl rfl rfl (Nat.le_of_ble_eq_true rfl) ⟨Nat.le_of_ble_eq_true rfl, Nat.le_of_ble_eq_true rfl⟩ ?_ rfl rfl
    clear hc3
    replace h := gBo_some h
    obtain ⟨g6, h⟩ := h
    cases h
    exact a_iret (pc := 41) F dX5_take_41 ⟨_, rfl, narrow_bo g6⟩
  replace h := ite_f q2 h
  by_cases q7 : x1 = 1
  · replace h := ite_t q7 h
    refine a_swin (pc := 4) (tgt := 42) F dX5_take_4 (by rw [q7]; decide) (by rw [q7]; decide) (by rw [q7]; rfl) (by decide) ?_
    clear q7
    refine a_aload_n (pc := 42) F dX5_take_42 0 rfl ?_
    refine a_iload_n (pc := 43) F dX5_take_43 1 rfl ?_
    replace h := bnd2_some h
    obtain ⟨x9, m10, hc8, h⟩ := h
    refine a_callV (pc := 44) (k := 157) (As := [.int p1]) (st := []) F dX5_take_44 (m_X5_takeLanguage hc8) cv_RX5_66 kl_157 ks_157 ⟨_, _, rfl⟩ rfl rfl rfl (Nat.le_of_ble_eq_true rfl) ⟨Nat.le_of_ble_eq_true rfl, Nat.le_of_ble_eq_true rfl⟩ ?_ rfl rfl
    clear hc8
    replace h := gBo_some h
    obtain ⟨g11, h⟩ := h
    cases h
    exact a_iret (pc := 47) F dX5_take_47 ⟨_, rfl, narrow_bo g11⟩
  replace h := ite_f q7 h
  by_cases q12 : x1 = 2
  · replace h := ite_t q12 h
    refine a_swin (pc := 4) (tgt := 48) F dX5_take_4 (by rw [q12]; decide) (by rw [q12]; decide) (by rw [q12]; rfl) (by decide) ?_
    clear q12
    refine a_aload_n (pc := 48) F dX5_take_48 0 rfl ?_
    refine a_iload_n (pc := 49) F dX5_take_49 1 rfl ?_
    replace h := bnd2_some h
    obtain ⟨x14, m15, hc13, h⟩ := h
    refine a_callV (pc := 50) (k := 157) (As := [.int p1]) (st := []) F dX5_take_50 (m_X5_takeSign hc13) cv_RX5_69 kl_157 ks_157 ⟨_, _, rfl⟩ rfl rfl rfl (Nat.le_of_ble_eq_true rfl) ⟨Nat.le_of_ble_eq_true rfl, Nat.le_of_ble_eq_true rfl⟩ ?_ rfl rfl
    clear hc13
    replace h := gBo_some h
    obtain ⟨g16, h⟩ := h
    cases h
    exact a_iret (pc := 53) F dX5_take_53 ⟨_, rfl, narrow_bo g16⟩
  replace h := ite_f q12 h
  by_cases q17 : x1 = 3
  · replace h := ite_t q17 h
    refine a_swin (pc := 4) (tgt := 54) F dX5_take_4 (by rw [q17]; decide) (by rw [q17]; decide) (by rw [q17]; rfl) (by decide) ?_
    clear q17
    refine a_aload_n (pc := 54) F dX5_take_54 0 rfl ?_
    refine a_iload_n (pc := 55) F dX5_take_55 1 rfl ?_
    replace h := bnd2_some h
    obtain ⟨x19, m20, hc18, h⟩ := h
    refine a_callV (pc := 56) (k := 157) (As := [.int p1]) (st := []) F dX5_take_56 (m_X5_takeIn hc18) cv_RX5_72 kl_157 ks_157 ⟨_, _, rfl⟩ rfl rfl rfl (Nat.le_of_ble_eq_true rfl) ⟨Nat.le_of_ble_eq_true rfl, Nat.le_of_ble_eq_true rfl⟩ ?_ rfl rfl
    clear hc18
    replace h := gBo_some h
    obtain ⟨g21, h⟩ := h
    cases h
    exact a_iret (pc := 59) F dX5_take_59 ⟨_, rfl, narrow_bo g21⟩
  replace h := ite_f q17 h
  refine a_swout (pc := 4) (tgt := 60) F dX5_take_4 (by have nq2 := lv_neT (a := 0) q2 (by decide); have nq7 := lv_neT (a := 1) q7 (by decide); have nq12 := lv_neT (a := 2) q12 (by decide); have nq17 := lv_neT (a := 3) q17 (by decide); omega) (by decide) ?_
  clear q2
  clear q7
  clear q12
  clear q17
  refine a_aload_n (pc := 60) F dX5_take_60 0 rfl ?_
  refine a_iload_n (pc := 61) F dX5_take_61 1 rfl ?_
  replace h := bnd2_some h
  obtain ⟨x23, m24, hc22, h⟩ := h
  refine a_callV (pc := 62) (k := 157) (As := [.int p1]) (st := []) F dX5_take_62 (m_X5_takeLength hc22) cv_RX5_75 kl_157 ks_157 ⟨_, _, rfl⟩ rfl rfl rfl (Nat.le_of_ble_eq_true rfl) ⟨Nat.le_of_ble_eq_true rfl, Nat.le_of_ble_eq_true rfl⟩ ?_ rfl rfl
  clear hc22
  replace h := gBo_some h
  obtain ⟨g25, h⟩ := h
  cases h
  exact a_iret (pc := 65) F dX5_take_65 ⟨_, rfl, narrow_bo g25⟩
def f_X5_read_L6 : (Int32 × Mem) → Option ((Int32 × Mem) ⊕ (Mem ⊕ (Int32 × Mem)))
  | (x4, m5) => (if (m5.1 155 0) ≤ x4 then some (.inr (.inl m5)) else bnd (f_X0_codeAt x4 m5) fun x8 => bnd2 (f_X5_take x8 m5) fun x10 m11 => (if x10 = 0 then some (.inr (.inr (x4, m11))) else nm (x4 + 1) fun x13 => some (.inl (x13, m11))))
def f_X5_read (m0 : Mem) : Option (Int32 × Mem) :=
  bnd (f_X5_begin m0) fun m2 => jn (lp (f_X5_read_L6) 1000000 (0, m2)) (fun m14 => some (m14.1 155 0, m14))
set_option maxRecDepth 100000 in
set_option maxHeartbeats 4000000 in
theorem m_X5_read {m0 : Mem} {rr : Int32} {mm : Mem} (h : f_X5_read m0 = some (rr, mm)) : Con yX5_read cX5_read 3 (some Jvm.ClassFile.FieldType.int) 3 65 (fun G => [.ref (ga G 157), .ref (ga G 155)]) m0 (some (.int rr)) mm := by
  refine con_of (by decide) (fun G => Nat.le_of_ble_eq_true rfl) (fun X F => ?_)
  show WA X 0 0 0 [(0, .ref (ga X.G 157)), (1, .ref (ga X.G 155))] [] m0 (EQ X (some (.int rr)) mm)
  rw [f_X5_read] at h
  refine a_aload_n (pc := 0) F dX5_read_0 0 rfl ?_
  replace h := bnd_some h
  obtain ⟨m2, hc1, h⟩ := h
  refine a_callV (pc := 1) (k := 157) (As := []) (st := []) F dX5_read_1 (m_X5_begin hc1) cv_RX5_9 kl_157 ks_157 ⟨_, _, rfl⟩ rfl rfl rfl (Nat.le_of_ble_eq_true rfl) ⟨Nat.le_of_ble_eq_true rfl, Nat.le_of_ble_eq_true rfl⟩ ?_ rfl rfl
  clear hc1
  refine a_iconst (v := 0) (pc := 4) F dX5_read_4 (by decide) ?_
  refine a_istore_n (lv' := [(2, .int 0), (0, .ref (ga X.G 157)), (1, .ref (ga X.G 155))]) (pc := 5) F dX5_read_5 (by decide) rfl ?_
  refine a_lv F [1, 2, 0] rfl ?_
  replace h := jn_some h
  obtain ⟨t3, hL3, hK3, hB3⟩ := h
  have hE3 : ∀ (m14 : Mem), t3 = .inl m14 → WA X 0 0 34 [(1, .ref (ga X.G 155))] [] m14 (EQ X (some (.int rr)) mm) := by
    intro m14 eo
    have h := hK3 _ eo
    clear hK3 eo
    refine a_aload_n (pc := 34) F dX5_read_34 0 rfl ?_
    refine a_geti (k := 155) (pc := 35) F dX5_read_35 fl_RX5_14 kl_155 ks_155 rfl ?_
    cases h
    exact a_iret (pc := 38) F dX5_read_38 ⟨_, rfl, rfl⟩
  clear hK3
  refine lp_run (P := fun (s : (Int32 × Mem)) => WA X 0 0 6 [(0, .ref (ga X.G 157)), (1, .ref (ga X.G 155)), (2, .int s.1)] [] s.2 (EQ X (some (.int rr)) mm)) ?_ _ _ hL3
  clear hL3
  rintro ⟨x4, m5⟩ xo h hP3 hT3
  show WA X 0 0 6 [(0, .ref (ga X.G 157)), (1, .ref (ga X.G 155)), (2, .int x4)] [] m5 (EQ X (some (.int rr)) mm)
  rw [f_X5_read_L6] at h
  refine a_iload_n (pc := 6) F dX5_read_6 2 rfl ?_
  refine a_aload_n (pc := 7) F dX5_read_7 1 rfl ?_
  refine a_geti (k := 155) (pc := 8) F dX5_read_8 fl_RX5_14 kl_155 ks_155 rfl ?_
  refine a_icmp_ge (tgt := 34) (pc := 11) F dX5_read_11 (by decide) (fun q6 => ?_) (fun q6 => ?_)
  · replace h := ite_t q6 h
    clear q6
    refine a_lv F [1] rfl ?_
    exact hE3 _ (hT3 _ (Option.some.inj h).symm).symm
  · replace h := ite_f q6 h
    clear q6
    refine a_aload_n (pc := 14) F dX5_read_14 0 rfl ?_
    refine a_aload_n (pc := 15) F dX5_read_15 1 rfl ?_
    refine a_iload_n (pc := 16) F dX5_read_16 2 rfl ?_
    replace h := bnd_some h
    obtain ⟨x8, hc7, h⟩ := h
    refine a_callV (pc := 17) (k := 155) (As := [.int x4]) (st := [.ref (ga X.G 157)]) F dX5_read_17 (m_X0_codeAt hc7) cv_RX5_20 kl_155 ks_155 ⟨_, _, rfl⟩ rfl rfl rfl (Nat.le_of_ble_eq_true rfl) ⟨Nat.le_of_ble_eq_true rfl, Nat.le_of_ble_eq_true rfl⟩ ?_ rfl rfl
    clear hc7
    replace h := bnd2_some h
    obtain ⟨x10, m11, hc9, h⟩ := h
    refine a_callV (pc := 20) (k := 157) (As := [.int x8]) (st := []) F dX5_read_20 (m_X5_take hc9) cv_RX5_24 kl_157 ks_157 ⟨_, _, rfl⟩ rfl rfl rfl (Nat.le_of_ble_eq_true rfl) ⟨Nat.le_of_ble_eq_true rfl, Nat.le_of_ble_eq_true rfl⟩ ?_ rfl rfl
    clear hc9
    refine a_if_ne (tgt := 28) (pc := 23) F dX5_read_23 (by decide) (fun q12 => ?_) (fun q12 => ?_)
    · replace h := ite_f q12 h
      clear q12
      obtain ⟨x13, ex13⟩ : ∃ x13 : Int32, x13 = x4 + 1 := ⟨_, rfl⟩
      refine a_iinc (v := x13) (lv' := [(2, .int x13), (0, .ref (ga X.G 157)), (1, .ref (ga X.G 155))]) (pc := 28) F dX5_read_28 2 rfl (by rw [ex13]; rfl) (by decide) rfl ?_
      replace h := nm_at ex13 h
      clear ex13
      refine a_goto (tgt := 6) (pc := 31) F dX5_read_31 (by decide) ?_
      refine a_lv F [1, 2, 0] rfl ?_
      exact hP3 _ (Option.some.inj h).symm
    · replace h := ite_t (Decidable.not_not.mp q12) h
      clear q12
      refine a_iload_n (pc := 26) F dX5_read_26 2 rfl ?_
      replace h := hB3 _ (hT3 _ (Option.some.inj h).symm).symm
      cases h
      exact a_iret (pc := 27) F dX5_read_27 ⟨_, rfl, rfl⟩
def f_X7_firstError (m0 : Mem) : Option (Int32 × Mem) :=
  bnd2 (f_X5_read m0) fun x2 m3 => some (x2, m3)
set_option maxRecDepth 100000 in
set_option maxHeartbeats 4000000 in
theorem m_X7_firstError {m0 : Mem} {rr : Int32} {mm : Mem} (h : f_X7_firstError m0 = some (rr, mm)) : Con yX7_firstError cX7_firstError 1 (some Jvm.ClassFile.FieldType.int) 4 87 (fun G => [.ref (ga G 0)]) m0 (some (.int rr)) mm := by
  refine con_of (by decide) (fun G => Nat.le_of_ble_eq_true rfl) (fun X F => ?_)
  show WA X 0 0 0 [(0, .ref (ga X.G 0))] [] m0 (EQ X (some (.int rr)) mm)
  rw [f_X7_firstError] at h
  refine a_aload_n (pc := 0) F dX7_firstError_0 0 rfl ?_
  refine a_getr (k := 0) (r := 157) (pc := 1) F dX7_firstError_1 fl_RX7_36 kl_0 ks_0 rfl ?_
  refine a_aload_n (pc := 4) F dX7_firstError_4 0 rfl ?_
  refine a_getr (k := 0) (r := 155) (pc := 5) F dX7_firstError_5 fl_RX7_29 kl_0 ks_0 rfl ?_
  replace h := bnd2_some h
  obtain ⟨x2, m3, hc1, h⟩ := h
  refine a_callV (pc := 8) (k := 157) (As := [.ref (ga X.G 155)]) (st := []) F dX7_firstError_8 (m_X5_read hc1) cv_RX7_208 kl_157 ks_157 ⟨_, _, rfl⟩ rfl rfl rfl (Nat.le_of_ble_eq_true rfl) ⟨Nat.le_of_ble_eq_true rfl, Nat.le_of_ble_eq_true rfl⟩ ?_ rfl rfl
  clear hc1
  cases h
  exact a_iret (pc := 11) F dX7_firstError_11 ⟨_, rfl, rfl⟩
def f_X5_isComplete (m0 : Mem) : Option Int32 :=
  (if (m0.1 157 1) = 4 then (if (m0.1 157 5) < 10 then some 0 else some 1) else some 0)
set_option maxRecDepth 100000 in
set_option maxHeartbeats 4000000 in
theorem m_X5_isComplete {m0 : Mem} {rr : Int32} (h : f_X5_isComplete m0 = some rr) : Con yX5_isComplete cX5_isComplete 1 (some Jvm.ClassFile.FieldType.boolean) 0 0 (fun G => [.ref (ga G 157)]) m0 (some (.int rr)) m0 := by
  refine con_of (by decide) (fun G => Nat.le_of_ble_eq_true rfl) (fun X F => ?_)
  show WA X 0 0 0 [(0, .ref (ga X.G 157))] [] m0 (EQ X (some (.int rr)) m0)
  rw [f_X5_isComplete] at h
  refine a_aload_n (pc := 0) F dX5_isComplete_0 0 rfl ?_
  refine a_geti (k := 157) (pc := 1) F dX5_isComplete_1 fl_RX5_28 kl_157 ks_157 rfl ?_
  refine a_iconst (v := 4) (pc := 4) F dX5_isComplete_4 (by decide) ?_
  refine a_icmp_ne (tgt := 21) (pc := 5) F dX5_isComplete_5 (by decide) (fun q1 => ?_) (fun q1 => ?_)
  · replace h := ite_f q1 h
    clear q1
    refine a_iconst (v := 0) (pc := 21) F dX5_isComplete_21 (by decide) ?_
    cases h
    exact a_iret (pc := 22) F dX5_isComplete_22 ⟨_, rfl, rfl⟩
  · replace h := ite_t (Decidable.not_not.mp q1) h
    clear q1
    refine a_aload_n (pc := 8) F dX5_isComplete_8 0 rfl ?_
    refine a_geti (k := 157) (pc := 9) F dX5_isComplete_9 fl_RX5_31 kl_157 ks_157 rfl ?_
    refine a_bipush (v := 10) (pc := 12) F dX5_isComplete_12 (by decide) ?_
    refine a_icmp_lt (tgt := 21) (pc := 14) F dX5_isComplete_14 (by decide) (fun q2 => ?_) (fun q2 => ?_)
    · replace h := ite_t q2 h
      clear q2
      refine a_iconst (v := 0) (pc := 21) F dX5_isComplete_21 (by decide) ?_
      cases h
      exact a_iret (pc := 22) F dX5_isComplete_22 ⟨_, rfl, rfl⟩
    · replace h := ite_f q2 h
      clear q2
      refine a_iconst (v := 1) (pc := 17) F dX5_isComplete_17 (by decide) ?_
      refine a_goto (tgt := 22) (pc := 18) F dX5_isComplete_18 (by decide) ?_
      cases h
      exact a_iret (pc := 22) F dX5_isComplete_22 ⟨_, rfl, rfl⟩
def f_X5_enterOne (c : Nat) (m0 : Mem) : Option Mem :=
  nm ((m0.1 c 3) + (m0.1 157 4)) fun x1 => bnd2 (f_X3_enter c (m0.1 157 2) (m0.1 157 3) x1 (m0.1 157 5) m0) fun x3 m4 => some m4
set_option maxRecDepth 100000 in
set_option maxHeartbeats 4000000 in
theorem m_X5_enterOne {c : Nat} (hc : isC c) {m0 : Mem} {mm : Mem} (h : f_X5_enterOne c m0 = some mm) : Con yX5_enterOne cX5_enterOne 2 none 4 90 (fun G => [.ref (ga G 157), .ref (ga G c)]) m0 none mm := by
  refine con_of (by decide) (fun G => Nat.le_of_ble_eq_true rfl) (fun X F => ?_)
  show WA X 0 0 0 [(0, .ref (ga X.G 157)), (1, .ref (ga X.G c))] [] m0 (EQ X none mm)
  rw [f_X5_enterOne] at h
  refine a_aload_n (pc := 0) F dX5_enterOne_0 1 rfl ?_
  refine a_getr (k := c) (r := (c + 8)) (pc := 1) F dX5_enterOne_1 fl_RX5_36 (klC_0 hc) (ksC_0 hc) rfl ?_
  refine a_aload_n (pc := 4) F dX5_enterOne_4 0 rfl ?_
  refine a_geti (k := 157) (pc := 5) F dX5_enterOne_5 fl_RX5_42 kl_157 ks_157 rfl ?_
  refine a_aload_n (pc := 8) F dX5_enterOne_8 0 rfl ?_
  refine a_geti (k := 157) (pc := 9) F dX5_enterOne_9 fl_RX5_45 kl_157 ks_157 rfl ?_
  refine a_aload_n (pc := 12) F dX5_enterOne_12 1 rfl ?_
  refine a_geti (k := c) (pc := 13) F dX5_enterOne_13 fl_RX5_48 (klC_0 hc) (ksC_0 hc) rfl ?_
  refine a_aload_n (pc := 16) F dX5_enterOne_16 0 rfl ?_
  refine a_geti (k := 157) (pc := 17) F dX5_enterOne_17 fl_RX5_51 kl_157 ks_157 rfl ?_
  refine a_iadd (pc := 20) F dX5_enterOne_20 ?_
  refine a_nmi fun x1 ex1 => ?_
  replace h := nm_at ex1 h
  clear ex1
  refine a_aload_n (pc := 21) F dX5_enterOne_21 0 rfl ?_
  refine a_geti (k := 157) (pc := 22) F dX5_enterOne_22 fl_RX5_31 kl_157 ks_157 rfl ?_
  replace h := bnd2_some h
  obtain ⟨x3, m4, hc2, h⟩ := h
  refine a_callV (pc := 25) (k := (c + 8)) (As := [.int (m0.1 157 2), .int (m0.1 157 3), .int x1, .int (m0.1 157 5)]) (st := []) F dX5_enterOne_25 (m_X3_enter hc hc2) cv_RX5_54 (klC_8 hc) (ksC_8 hc) ⟨_, _, rfl⟩ rfl rfl rfl (Nat.le_of_ble_eq_true rfl) ⟨Nat.le_of_ble_eq_true rfl, Nat.le_of_ble_eq_true rfl⟩ ?_ rfl rfl
  clear hc2
  refine a_pop (pc := 28) F dX5_enterOne_28 rfl ?_
  cases h
  exact a_vret (pc := 29) F dX5_enterOne_29 rfl
def f_X5_enterAll_L6 (c : Nat) : (Int32 × Mem) → Option ((Int32 × Mem) ⊕ Mem)
  | (x4, m5) => (if (m5.1 155 0) ≤ x4 then some (.inr m5) else bnd (f_X0_codeAt x4 m5) fun x8 => bnd ((if x8 = 44 then bnd (f_X5_enterOne c m5) fun m12 => some m12 else some m5)) (fun (m13 : Mem) => bnd (f_X0_codeAt x4 m13) fun x15 => bnd2 (f_X5_take x15 m13) fun x17 m18 => nm (x4 + 1) fun x19 => some (.inl (x19, m18))))
def f_X5_enterAll (c : Nat) (m0 : Mem) : Option Mem :=
  bnd (f_X5_begin m0) fun m2 => bnd (lp (f_X5_enterAll_L6 c) 1000000 (0, m2)) (fun m20 => bnd (f_X5_enterOne c m20) fun m22 => some m22)
set_option maxRecDepth 100000 in
set_option maxHeartbeats 4000000 in
theorem m_X5_enterAll {c : Nat} (hc : isC c) {m0 : Mem} {mm : Mem} (h : f_X5_enterAll c m0 = some mm) : Con yX5_enterAll cX5_enterAll 4 none 5 111 (fun G => [.ref (ga G 157), .ref (ga G 155), .ref (ga G c)]) m0 none mm := by
  refine con_of (by decide) (fun G => Nat.le_of_ble_eq_true rfl) (fun X F => ?_)
  show WA X 0 0 0 [(0, .ref (ga X.G 157)), (1, .ref (ga X.G 155)), (2, .ref (ga X.G c))] [] m0 (EQ X none mm)
  rw [f_X5_enterAll] at h
  refine a_aload_n (pc := 0) F dX5_enterAll_0 0 rfl ?_
  replace h := bnd_some h
  obtain ⟨m2, hc1, h⟩ := h
  refine a_callV (pc := 1) (k := 157) (As := []) (st := []) F dX5_enterAll_1 (m_X5_begin hc1) cv_RX5_9 kl_157 ks_157 ⟨_, _, rfl⟩ rfl rfl rfl (Nat.le_of_ble_eq_true rfl) ⟨Nat.le_of_ble_eq_true rfl, Nat.le_of_ble_eq_true rfl⟩ ?_ rfl rfl
  clear hc1
  refine a_iconst (v := 0) (pc := 4) F dX5_enterAll_4 (by decide) ?_
  refine a_istore_n (lv' := [(3, .int 0), (0, .ref (ga X.G 157)), (1, .ref (ga X.G 155)), (2, .ref (ga X.G c))]) (pc := 5) F dX5_enterAll_5 (by decide) rfl ?_
  refine a_lv F [1, 2, 3, 0] rfl ?_
  replace h := bnd_some h
  obtain ⟨m20, hL3, h⟩ := h
  have hE3 : WA X 0 0 45 [(0, .ref (ga X.G 157)), (2, .ref (ga X.G c))] [] m20 (EQ X none mm) := by
    refine a_aload_n (pc := 45) F dX5_enterAll_45 0 rfl ?_
    refine a_aload_n (pc := 46) F dX5_enterAll_46 1 rfl ?_
    replace h := bnd_some h
    obtain ⟨m22, hc21, h⟩ := h
    refine a_callV (pc := 47) (k := 157) (As := [.ref (ga X.G c)]) (st := []) F dX5_enterAll_47 (m_X5_enterOne hc hc21) cv_RX5_32 kl_157 ks_157 ⟨_, _, rfl⟩ rfl rfl rfl (Nat.le_of_ble_eq_true rfl) ⟨Nat.le_of_ble_eq_true rfl, Nat.le_of_ble_eq_true rfl⟩ ?_ rfl rfl
    clear hc21
    cases h
    exact a_vret (pc := 50) F dX5_enterAll_50 rfl
  clear h
  refine lp_run (P := fun (s : (Int32 × Mem)) => WA X 0 0 6 [(0, .ref (ga X.G 157)), (1, .ref (ga X.G 155)), (2, .ref (ga X.G c)), (3, .int s.1)] [] s.2 (EQ X none mm)) ?_ _ _ hL3
  clear hL3
  rintro ⟨x4, m5⟩ xo h hP3 hT3
  show WA X 0 0 6 [(0, .ref (ga X.G 157)), (1, .ref (ga X.G 155)), (2, .ref (ga X.G c)), (3, .int x4)] [] m5 (EQ X none mm)
  rw [f_X5_enterAll_L6] at h
  refine a_iload_n (pc := 6) F dX5_enterAll_6 3 rfl ?_
  refine a_aload_n (pc := 7) F dX5_enterAll_7 1 rfl ?_
  refine a_geti (k := 155) (pc := 8) F dX5_enterAll_8 fl_RX5_14 kl_155 ks_155 rfl ?_
  refine a_icmp_ge (tgt := 45) (pc := 11) F dX5_enterAll_11 (by decide) (fun q6 => ?_) (fun q6 => ?_)
  · replace h := ite_t q6 h
    clear q6
    refine a_lv F [0, 2] rfl ?_
    cases hT3 _ (Option.some.inj h).symm
    exact hE3
  · replace h := ite_f q6 h
    clear q6
    refine a_aload_n (pc := 14) F dX5_enterAll_14 1 rfl ?_
    refine a_iload_n (pc := 15) F dX5_enterAll_15 3 rfl ?_
    replace h := bnd_some h
    obtain ⟨x8, hc7, h⟩ := h
    refine a_callV (pc := 16) (k := 155) (As := [.int x4]) (st := []) F dX5_enterAll_16 (m_X0_codeAt hc7) cv_RX5_20 kl_155 ks_155 ⟨_, _, rfl⟩ rfl rfl rfl (Nat.le_of_ble_eq_true rfl) ⟨Nat.le_of_ble_eq_true rfl, Nat.le_of_ble_eq_true rfl⟩ ?_ rfl rfl
    clear hc7
    refine a_bipush (v := 44) (pc := 19) F dX5_enterAll_19 (by decide) ?_
    replace h := bnd_some h
    obtain ⟨m13, hR9, h⟩ := h
    have hJ9 : WA X 0 0 29 [(0, .ref (ga X.G 157)), (1, .ref (ga X.G 155)), (2, .ref (ga X.G c)), (3, .int x4)] [] m13 (EQ X none mm) := by
      refine a_aload_n (pc := 29) F dX5_enterAll_29 0 rfl ?_
      refine a_aload_n (pc := 30) F dX5_enterAll_30 1 rfl ?_
      refine a_iload_n (pc := 31) F dX5_enterAll_31 3 rfl ?_
      replace h := bnd_some h
      obtain ⟨x15, hc14, h⟩ := h
      refine a_callV (pc := 32) (k := 155) (As := [.int x4]) (st := [.ref (ga X.G 157)]) F dX5_enterAll_32 (m_X0_codeAt hc14) cv_RX5_20 kl_155 ks_155 ⟨_, _, rfl⟩ rfl rfl rfl (Nat.le_of_ble_eq_true rfl) ⟨Nat.le_of_ble_eq_true rfl, Nat.le_of_ble_eq_true rfl⟩ ?_ rfl rfl
      clear hc14
      replace h := bnd2_some h
      obtain ⟨x17, m18, hc16, h⟩ := h
      refine a_callV (pc := 35) (k := 157) (As := [.int x15]) (st := []) F dX5_enterAll_35 (m_X5_take hc16) cv_RX5_24 kl_157 ks_157 ⟨_, _, rfl⟩ rfl rfl rfl (Nat.le_of_ble_eq_true rfl) ⟨Nat.le_of_ble_eq_true rfl, Nat.le_of_ble_eq_true rfl⟩ ?_ rfl rfl
      clear hc16
      refine a_pop (pc := 38) F dX5_enterAll_38 rfl ?_
      obtain ⟨x19, ex19⟩ : ∃ x19 : Int32, x19 = x4 + 1 := ⟨_, rfl⟩
      refine a_iinc (v := x19) (lv' := [(3, .int x19), (0, .ref (ga X.G 157)), (1, .ref (ga X.G 155)), (2, .ref (ga X.G c))]) (pc := 39) F dX5_enterAll_39 3 rfl (by rw [ex19]; rfl) (by decide) rfl ?_
      replace h := nm_at ex19 h
      clear ex19
      refine a_goto (tgt := 6) (pc := 42) F dX5_enterAll_42 (by decide) ?_
      refine a_lv F [1, 2, 3, 0] rfl ?_
      exact hP3 _ (Option.some.inj h).symm
    clear h
    have h := hR9
    clear hR9
    refine a_icmp_ne (tgt := 29) (pc := 21) F dX5_enterAll_21 (by decide) (fun q10 => ?_) (fun q10 => ?_)
    · replace h := ite_f q10 h
      clear q10
      cases h
      exact hJ9
    · replace h := ite_t (Decidable.not_not.mp q10) h
      clear q10
      refine a_aload_n (pc := 24) F dX5_enterAll_24 0 rfl ?_
      refine a_aload_n (pc := 25) F dX5_enterAll_25 2 rfl ?_
      replace h := bnd_some h
      obtain ⟨m12, hc11, h⟩ := h
      refine a_callV (pc := 26) (k := 157) (As := [.ref (ga X.G c)]) (st := []) F dX5_enterAll_26 (m_X5_enterOne hc hc11) cv_RX5_32 kl_157 ks_157 ⟨_, _, rfl⟩ rfl rfl rfl (Nat.le_of_ble_eq_true rfl) ⟨Nat.le_of_ble_eq_true rfl, Nat.le_of_ble_eq_true rfl⟩ ?_ rfl rfl
      clear hc11
      cases h
      exact hJ9
def f_X7_addList (m0 : Mem) : Option (Int32 × Mem) :=
  bnd2 (f_X5_read m0) fun x2 m3 => jn ((if x2 < (m3.1 155 0) then some (.inl m3) else bnd (f_X5_isComplete m3) fun x7 => (if x7 = 0 then some (.inl m3) else nm ((m3.1 (1 + 8) 0) + (m3.1 157 0)) fun x9 => (if x9 ≤ 30 then bnd (f_X4_save 1 m3) fun m12 => bnd (f_X5_enterAll 1 m12) fun m14 => nm (si m14 155 0 0) fun m15 => some (.inr (m15.1 (1 + 8) 0, m15)) else none)))) (fun (m16 : Mem) => none)
set_option maxRecDepth 100000 in
set_option maxHeartbeats 4000000 in
theorem m_X7_addList {m0 : Mem} {rr : Int32} {mm : Mem} (h : f_X7_addList m0 = some (rr, mm)) : Con yX7_addList cX7_addList 1 (some Jvm.ClassFile.FieldType.int) 6 134 (fun G => [.ref (ga G 0)]) m0 (some (.int rr)) mm := by
  refine con_of (by decide) (fun G => Nat.le_of_ble_eq_true rfl) (fun X F => ?_)
  show WA X 0 0 0 [(0, .ref (ga X.G 0))] [] m0 (EQ X (some (.int rr)) mm)
  rw [f_X7_addList] at h
  refine a_aload_n (pc := 0) F dX7_addList_0 0 rfl ?_
  refine a_getr (k := 0) (r := 157) (pc := 1) F dX7_addList_1 fl_RX7_36 kl_0 ks_0 rfl ?_
  refine a_aload_n (pc := 4) F dX7_addList_4 0 rfl ?_
  refine a_getr (k := 0) (r := 155) (pc := 5) F dX7_addList_5 fl_RX7_29 kl_0 ks_0 rfl ?_
  replace h := bnd2_some h
  obtain ⟨x2, m3, hc1, h⟩ := h
  refine a_callV (pc := 8) (k := 157) (As := [.ref (ga X.G 155)]) (st := []) F dX7_addList_8 (m_X5_read hc1) cv_RX7_208 kl_157 ks_157 ⟨_, _, rfl⟩ rfl rfl rfl (Nat.le_of_ble_eq_true rfl) ⟨Nat.le_of_ble_eq_true rfl, Nat.le_of_ble_eq_true rfl⟩ ?_ rfl rfl
  clear hc1
  refine a_aload_n (pc := 11) F dX7_addList_11 0 rfl ?_
  refine a_getr (k := 0) (r := 155) (pc := 12) F dX7_addList_12 fl_RX7_29 kl_0 ks_0 rfl ?_
  refine a_geti (k := 155) (pc := 15) F dX7_addList_15 fl_RX7_199 kl_155 ks_155 rfl ?_
  replace h := jn_some h
  obtain ⟨o4, hR4, hK4, hB4⟩ := h
  have hJ4 : ∀ (m16 : Mem), o4 = .inl m16 → WA X 0 0 31 [] [] m16 (EQ X (some (.int rr)) mm) := by
    intro m16 eo
    have h := hK4 _ eo
    clear hK4 eo
    cases h
  clear hK4
  have h := hR4
  clear hR4
  refine a_icmp_lt (tgt := 31) (pc := 18) F dX7_addList_18 (by decide) (fun q5 => ?_) (fun q5 => ?_)
  · replace h := ite_t q5 h
    clear q5
    refine a_lv F [] rfl ?_
    exact hJ4 _ (Option.some.inj h).symm
  · replace h := ite_f q5 h
    clear q5
    refine a_aload_n (pc := 21) F dX7_addList_21 0 rfl ?_
    refine a_getr (k := 0) (r := 157) (pc := 22) F dX7_addList_22 fl_RX7_36 kl_0 ks_0 rfl ?_
    replace h := bnd_some h
    obtain ⟨x7, hc6, h⟩ := h
    refine a_callV (pc := 25) (k := 157) (As := []) (st := []) F dX7_addList_25 (m_X5_isComplete hc6) cv_RX7_212 kl_157 ks_157 ⟨_, _, rfl⟩ rfl rfl rfl (Nat.le_of_ble_eq_true rfl) ⟨Nat.le_of_ble_eq_true rfl, Nat.le_of_ble_eq_true rfl⟩ ?_ rfl rfl
    clear hc6
    refine a_if_ne (tgt := 41) (pc := 28) F dX7_addList_28 (by decide) (fun q8 => ?_) (fun q8 => ?_)
    · replace h := ite_f q8 h
      clear q8
      refine a_aload_n (pc := 41) F dX7_addList_41 0 rfl ?_
      refine a_getr (k := 0) (r := 1) (pc := 42) F dX7_addList_42 fl_RX7_10 kl_0 ks_0 rfl ?_
      refine a_getr (k := 1) (r := (1 + 8)) (pc := 45) F dX7_addList_45 fl_RX7_89 (klC_0 isC_1) (ksC_0 isC_1) rfl ?_
      refine a_geti (k := (1 + 8)) (pc := 48) F dX7_addList_48 fl_RX7_93 (klC_8 isC_1) (ksC_8 isC_1) rfl ?_
      refine a_aload_n (pc := 51) F dX7_addList_51 0 rfl ?_
      refine a_getr (k := 0) (r := 157) (pc := 52) F dX7_addList_52 fl_RX7_36 kl_0 ks_0 rfl ?_
      refine a_geti (k := 157) (pc := 55) F dX7_addList_55 fl_RX7_218 kl_157 ks_157 rfl ?_
      refine a_iadd (pc := 58) F dX7_addList_58 ?_
      refine a_nmi fun x9 ex9 => ?_
      replace h := nm_at ex9 h
      clear ex9
      refine a_bipush (v := 30) (pc := 59) F dX7_addList_59 (by decide) ?_
      refine a_icmp_le (tgt := 74) (pc := 61) F dX7_addList_61 (by decide) (fun q10 => ?_) (fun q10 => ?_)
      · replace h := ite_t q10 h
        clear q10
        refine a_aload_n (pc := 74) F dX7_addList_74 0 rfl ?_
        refine a_getr (k := 0) (r := 39) (pc := 75) F dX7_addList_75 fl_RX7_22 kl_0 ks_0 rfl ?_
        refine a_aload_n (pc := 78) F dX7_addList_78 0 rfl ?_
        refine a_getr (k := 0) (r := 1) (pc := 79) F dX7_addList_79 fl_RX7_10 kl_0 ks_0 rfl ?_
        replace h := bnd_some h
        obtain ⟨m12, hc11, h⟩ := h
        refine a_callV (pc := 82) (k := 39) (As := [.ref (ga X.G 1)]) (st := []) F dX7_addList_82 (m_X4_save isC_1 hc11) cv_RX7_79 kl_39 ks_39 ⟨_, _, rfl⟩ rfl rfl rfl (Nat.le_of_ble_eq_true rfl) ⟨Nat.le_of_ble_eq_true rfl, Nat.le_of_ble_eq_true rfl⟩ ?_ rfl rfl
        clear hc11
        refine a_aload_n (pc := 85) F dX7_addList_85 0 rfl ?_
        refine a_getr (k := 0) (r := 157) (pc := 86) F dX7_addList_86 fl_RX7_36 kl_0 ks_0 rfl ?_
        refine a_aload_n (pc := 89) F dX7_addList_89 0 rfl ?_
        refine a_getr (k := 0) (r := 155) (pc := 90) F dX7_addList_90 fl_RX7_29 kl_0 ks_0 rfl ?_
        refine a_aload_n (pc := 93) F dX7_addList_93 0 rfl ?_
        refine a_getr (k := 0) (r := 1) (pc := 94) F dX7_addList_94 fl_RX7_10 kl_0 ks_0 rfl ?_
        replace h := bnd_some h
        obtain ⟨m14, hc13, h⟩ := h
        refine a_callV (pc := 97) (k := 157) (As := [.ref (ga X.G 155), .ref (ga X.G 1)]) (st := []) F dX7_addList_97 (m_X5_enterAll isC_1 hc13) cv_RX7_223 kl_157 ks_157 ⟨_, _, rfl⟩ rfl rfl rfl (Nat.le_of_ble_eq_true rfl) ⟨Nat.le_of_ble_eq_true rfl, Nat.le_of_ble_eq_true rfl⟩ ?_ rfl rfl
        clear hc13
        refine a_aload_n (pc := 100) F dX7_addList_100 0 rfl ?_
        refine a_getr (k := 0) (r := 155) (pc := 101) F dX7_addList_101 fl_RX7_29 kl_0 ks_0 rfl ?_
        refine a_iconst (v := 0) (pc := 104) F dX7_addList_104 (by decide) ?_
        refine a_puti (k := 155) (pc := 105) F dX7_addList_105 fp_RX7_199 kl_155 ks_155 rfl ?_
        refine a_nmm fun m15 em15 => ?_
        replace h := nm_at em15 h
        clear em15
        refine a_aload_n (pc := 108) F dX7_addList_108 0 rfl ?_
        refine a_getr (k := 0) (r := 1) (pc := 109) F dX7_addList_109 fl_RX7_10 kl_0 ks_0 rfl ?_
        refine a_getr (k := 1) (r := (1 + 8)) (pc := 112) F dX7_addList_112 fl_RX7_89 (klC_0 isC_1) (ksC_0 isC_1) rfl ?_
        refine a_geti (k := (1 + 8)) (pc := 115) F dX7_addList_115 fl_RX7_93 (klC_8 isC_1) (ksC_8 isC_1) rfl ?_
        replace h := hB4 _ (Option.some.inj h).symm
        cases h
        exact a_iret (pc := 118) F dX7_addList_118 ⟨_, rfl, rfl⟩
      · replace h := ite_f q10 h
        clear q10
        cases h
    · replace h := ite_t (Decidable.not_not.mp q8) h
      clear q8
      refine a_lv F [] rfl ?_
      exact hJ4 _ (Option.some.inj h).symm
def f_X4_restore (c : Nat) (m0 : Mem) : Option Mem :=
  (if (m0.1 39 0) = 0 then some m0 else nm ((m0.1 39 1) + (m0.1 39 0)) fun x2 => nm ((x2 - 1) - (x2 - 1) / 6 * 6) fun x3 => gIn x3 6 <| bnd (f_X2_copyFrom c (savedOff x3.toNatClampNeg) m0) fun m6 => nm (si m6 39 0 ((m6.1 39 0) - 1)) fun m7 => some m7)
set_option maxRecDepth 100000 in
set_option maxHeartbeats 4000000 in
theorem m_X4_restore {c : Nat} (hc : isC c) {m0 : Mem} {mm : Mem} (h : f_X4_restore c m0 = some mm) : Con yX4_restore cX4_restore 3 none 3 82 (fun G => [.ref (ga G 39), .ref (ga G c)]) m0 none mm := by
  refine con_of (by decide) (fun G => Nat.le_of_ble_eq_true rfl) (fun X F => ?_)
  show WA X 0 0 0 [(0, .ref (ga X.G 39)), (1, .ref (ga X.G c))] [] m0 (EQ X none mm)
  rw [f_X4_restore] at h
  refine a_aload_n (pc := 0) F dX4_restore_0 0 rfl ?_
  refine a_geti (k := 39) (pc := 1) F dX4_restore_1 fl_RX4_22 kl_39 ks_39 rfl ?_
  refine a_if_ne (tgt := 8) (pc := 4) F dX4_restore_4 (by decide) (fun q1 => ?_) (fun q1 => ?_)
  · replace h := ite_f q1 h
    clear q1
    refine a_aload_n (pc := 8) F dX4_restore_8 0 rfl ?_
    refine a_getr (k := 39) (r := 40) (pc := 9) F dX4_restore_9 fl_RX4_11 kl_39 ks_39 rfl ?_
    refine a_aload_n (pc := 12) F dX4_restore_12 0 rfl ?_
    refine a_geti (k := 39) (pc := 13) F dX4_restore_13 fl_RX4_18 kl_39 ks_39 rfl ?_
    refine a_aload_n (pc := 16) F dX4_restore_16 0 rfl ?_
    refine a_geti (k := 39) (pc := 17) F dX4_restore_17 fl_RX4_22 kl_39 ks_39 rfl ?_
    refine a_iadd (pc := 20) F dX4_restore_20 ?_
    refine a_nmi fun x2 ex2 => ?_
    replace h := nm_at ex2 h
    clear ex2
    refine a_iconst (v := 1) (pc := 21) F dX4_restore_21 (by decide) ?_
    refine a_isub (pc := 22) F dX4_restore_22 ?_
    refine a_bipush (v := 6) (pc := 23) F dX4_restore_23 (by decide) ?_
    refine a_irem (pc := 25) F dX4_restore_25 (by decide) ?_
    refine a_nmi fun x3 ex3 => ?_
    replace h := nm_at ex3 h
    clear ex3
    replace h := gIn_some h
    obtain ⟨g4, h⟩ := h
    refine a_aal (k := 40) (pc := 26) F dX4_restore_26 kl_40 ks_40 g4 ?_
    refine a_astore_n (lv' := [(2, .ref (ga X.G (savedOff x3.toNatClampNeg))), (0, .ref (ga X.G 39)), (1, .ref (ga X.G c))]) (pc := 27) F dX4_restore_27 (by decide) rfl ?_
    refine a_aload_n (pc := 28) F dX4_restore_28 0 rfl ?_
    refine a_ifnull (pc := 29) F dX4_restore_29 ?_
    refine a_aload_n (pc := 32) F dX4_restore_32 2 rfl ?_
    refine a_aload_n (pc := 33) F dX4_restore_33 0 rfl ?_
    replace h := bnd_some h
    obtain ⟨m6, hc5, h⟩ := h
    refine a_callV (pc := 34) (k := c) (As := [.ref (ga X.G (savedOff x3.toNatClampNeg))]) (st := []) F dX4_restore_34 (m_X2_copyFrom hc (isC_saved g4) hc5) cv_RX4_25 (klC_0 hc) (ksC_0 hc) ⟨_, _, rfl⟩ rfl rfl rfl (Nat.le_of_ble_eq_true rfl) ⟨Nat.le_of_ble_eq_true rfl, Nat.le_of_ble_eq_true rfl⟩ ?_ rfl rfl
    clear hc5
    refine a_aload_n (pc := 37) F dX4_restore_37 1 rfl ?_
    refine a_dup (pc := 38) F dX4_restore_38 rfl ?_
    refine a_geti (k := 39) (pc := 39) F dX4_restore_39 fl_RX4_22 kl_39 ks_39 rfl ?_
    refine a_iconst (v := 1) (pc := 42) F dX4_restore_42 (by decide) ?_
    refine a_isub (pc := 43) F dX4_restore_43 ?_
    refine a_puti (k := 39) (pc := 44) F dX4_restore_44 fp_RX4_22 kl_39 ks_39 rfl ?_
    refine a_nmm fun m7 em7 => ?_
    replace h := nm_at em7 h
    clear em7
    cases h
    exact a_vret (pc := 47) F dX4_restore_47 rfl
  · replace h := ite_t (Decidable.not_not.mp q1) h
    clear q1
    cases h
    exact a_vret (pc := 7) F dX4_restore_7 rfl
def f_X7_undo (m0 : Mem) : Option (Int32 × Mem) :=
  (if (m0.1 39 0) = 0 then none else bnd (f_X4_restore 1 m0) fun m3 => some (m3.1 39 0, m3))
set_option maxRecDepth 100000 in
set_option maxHeartbeats 4000000 in
theorem m_X7_undo {m0 : Mem} {rr : Int32} {mm : Mem} (h : f_X7_undo m0 = some (rr, mm)) : Con yX7_undo cX7_undo 1 (some Jvm.ClassFile.FieldType.int) 4 104 (fun G => [.ref (ga G 0)]) m0 (some (.int rr)) mm := by
  refine con_of (by decide) (fun G => Nat.le_of_ble_eq_true rfl) (fun X F => ?_)
  show WA X 0 0 0 [(0, .ref (ga X.G 0))] [] m0 (EQ X (some (.int rr)) mm)
  rw [f_X7_undo] at h
  refine a_aload_n (pc := 0) F dX7_undo_0 0 rfl ?_
  refine a_getr (k := 0) (r := 39) (pc := 1) F dX7_undo_1 fl_RX7_22 kl_0 ks_0 rfl ?_
  refine a_geti (k := 39) (pc := 4) F dX7_undo_4 fl_RX7_227 kl_39 ks_39 rfl ?_
  refine a_if_ne (tgt := 20) (pc := 7) F dX7_undo_7 (by decide) (fun q1 => ?_) (fun q1 => ?_)
  · replace h := ite_f q1 h
    clear q1
    refine a_aload_n (pc := 20) F dX7_undo_20 0 rfl ?_
    refine a_getr (k := 0) (r := 39) (pc := 21) F dX7_undo_21 fl_RX7_22 kl_0 ks_0 rfl ?_
    refine a_aload_n (pc := 24) F dX7_undo_24 0 rfl ?_
    refine a_getr (k := 0) (r := 1) (pc := 25) F dX7_undo_25 fl_RX7_10 kl_0 ks_0 rfl ?_
    replace h := bnd_some h
    obtain ⟨m3, hc2, h⟩ := h
    refine a_callV (pc := 28) (k := 39) (As := [.ref (ga X.G 1)]) (st := []) F dX7_undo_28 (m_X4_restore isC_1 hc2) cv_RX7_230 kl_39 ks_39 ⟨_, _, rfl⟩ rfl rfl rfl (Nat.le_of_ble_eq_true rfl) ⟨Nat.le_of_ble_eq_true rfl, Nat.le_of_ble_eq_true rfl⟩ ?_ rfl rfl
    clear hc2
    refine a_aload_n (pc := 31) F dX7_undo_31 0 rfl ?_
    refine a_getr (k := 0) (r := 39) (pc := 32) F dX7_undo_32 fl_RX7_22 kl_0 ks_0 rfl ?_
    refine a_geti (k := 39) (pc := 35) F dX7_undo_35 fl_RX7_227 kl_39 ks_39 rfl ?_
    cases h
    exact a_iret (pc := 38) F dX7_undo_38 ⟨_, rfl, rfl⟩
  · replace h := ite_t (Decidable.not_not.mp q1) h
    clear q1
    cases h
def f_X3_listedWith_L4 (c : Nat) (p1 : Int32) (m0 : Mem) : (Int32 × Int32) → Option ((Int32 × Int32) ⊕ Int32)
  | (x2, x3) => (if (m0.1 (c + 8) 0) ≤ x3 then some (.inr x2) else bnd (f_X3_isListed c x3 m0) fun x6 => (if x6 = 0 then nm (x3 + 1) fun x8 => some (.inl (x2, x8)) else bnd (f_X3_holds c x3 p1 m0) fun x10 => (if x10 = 0 then nm (x3 + 1) fun x12 => some (.inl (x2, x12)) else nm (x2 + 1) fun x13 => nm (x3 + 1) fun x14 => some (.inl (x13, x14)))))
def f_X3_listedWith (c : Nat) (p1 : Int32) (m0 : Mem) : Option Int32 :=
  bnd (lp (f_X3_listedWith_L4 c p1 m0) 1000000 (0, 0)) (fun x15 => some x15)
set_option maxRecDepth 100000 in
set_option maxHeartbeats 4000000 in
theorem m_X3_listedWith {c : Nat} {p1 : Int32} (hc : isC c) {m0 : Mem} {rr : Int32} (h : f_X3_listedWith c p1 m0 = some rr) : Con yX3_listedWith cX3_listedWith 4 (some Jvm.ClassFile.FieldType.int) 2 42 (fun G => [.ref (ga G (c + 8)), .int p1]) m0 (some (.int rr)) m0 := by
  refine con_of (by decide) (fun G => Nat.le_of_ble_eq_true rfl) (fun X F => ?_)
  show WA X 0 0 0 [(0, .ref (ga X.G (c + 8))), (1, .int p1)] [] m0 (EQ X (some (.int rr)) m0)
  rw [f_X3_listedWith] at h
  refine a_iconst (v := 0) (pc := 0) F dX3_listedWith_0 (by decide) ?_
  refine a_istore_n (lv' := [(2, .int 0), (0, .ref (ga X.G (c + 8))), (1, .int p1)]) (pc := 1) F dX3_listedWith_1 (by decide) rfl ?_
  refine a_iconst (v := 0) (pc := 2) F dX3_listedWith_2 (by decide) ?_
  refine a_istore_n (lv' := [(3, .int 0), (2, .int 0), (0, .ref (ga X.G (c + 8))), (1, .int p1)]) (pc := 3) F dX3_listedWith_3 (by decide) rfl ?_
  refine a_lv F [2, 3, 1, 0] rfl ?_
  replace h := bnd_some h
  obtain ⟨x15, hL1, h⟩ := h
  have hE1 : WA X 0 0 38 [(2, .int x15)] [] m0 (EQ X (some (.int rr)) m0) := by
    refine a_iload_n (pc := 38) F dX3_listedWith_38 0 rfl ?_
    cases h
    exact a_iret (pc := 39) F dX3_listedWith_39 ⟨_, rfl, rfl⟩
  clear h
  refine lp_run (P := fun (s : (Int32 × Int32)) => WA X 0 0 4 [(0, .ref (ga X.G (c + 8))), (1, .int p1), (2, .int s.1), (3, .int s.2)] [] m0 (EQ X (some (.int rr)) m0)) ?_ _ _ hL1
  clear hL1
  rintro ⟨x2, x3⟩ xo h hP1 hT1
  show WA X 0 0 4 [(0, .ref (ga X.G (c + 8))), (1, .int p1), (2, .int x2), (3, .int x3)] [] m0 (EQ X (some (.int rr)) m0)
  rw [f_X3_listedWith_L4] at h
  refine a_iload_n (pc := 4) F dX3_listedWith_4 3 rfl ?_
  refine a_aload_n (pc := 5) F dX3_listedWith_5 0 rfl ?_
  refine a_geti (k := (c + 8)) (pc := 6) F dX3_listedWith_6 fl_RX3_39 (klC_8 hc) (ksC_8 hc) rfl ?_
  refine a_icmp_ge (tgt := 38) (pc := 9) F dX3_listedWith_9 (by decide) (fun q4 => ?_) (fun q4 => ?_)
  · replace h := ite_t q4 h
    clear q4
    refine a_lv F [2] rfl ?_
    cases hT1 _ (Option.some.inj h).symm
    exact hE1
  · replace h := ite_f q4 h
    clear q4
    refine a_aload_n (pc := 12) F dX3_listedWith_12 0 rfl ?_
    refine a_iload_n (pc := 13) F dX3_listedWith_13 3 rfl ?_
    replace h := bnd_some h
    obtain ⟨x6, hc5, h⟩ := h
    refine a_callV (pc := 14) (k := (c + 8)) (As := [.int x3]) (st := []) F dX3_listedWith_14 (m_X3_isListed hc hc5) cv_RX3_70 (klC_8 hc) (ksC_8 hc) ⟨_, _, rfl⟩ rfl rfl rfl (Nat.le_of_ble_eq_true rfl) ⟨Nat.le_of_ble_eq_true rfl, Nat.le_of_ble_eq_true rfl⟩ ?_ rfl rfl
    clear hc5
    refine a_if_eq (tgt := 32) (pc := 17) F dX3_listedWith_17 (by decide) (fun q7 => ?_) (fun q7 => ?_)
    · replace h := ite_t q7 h
      clear q7
      obtain ⟨x8, ex8⟩ : ∃ x8 : Int32, x8 = x3 + 1 := ⟨_, rfl⟩
      refine a_iinc (v := x8) (lv' := [(3, .int x8), (0, .ref (ga X.G (c + 8))), (1, .int p1), (2, .int x2)]) (pc := 32) F dX3_listedWith_32 3 rfl (by rw [ex8]; rfl) (by decide) rfl ?_
      replace h := nm_at ex8 h
      clear ex8
      refine a_goto (tgt := 4) (pc := 35) F dX3_listedWith_35 (by decide) ?_
      refine a_lv F [1, 2, 3, 0] rfl ?_
      exact hP1 _ (Option.some.inj h).symm
    · replace h := ite_f q7 h
      clear q7
      refine a_aload_n (pc := 20) F dX3_listedWith_20 0 rfl ?_
      refine a_iload_n (pc := 21) F dX3_listedWith_21 3 rfl ?_
      refine a_iload_n (pc := 22) F dX3_listedWith_22 1 rfl ?_
      replace h := bnd_some h
      obtain ⟨x10, hc9, h⟩ := h
      refine a_callV (pc := 23) (k := (c + 8)) (As := [.int x3, .int p1]) (st := []) F dX3_listedWith_23 (m_X3_holds hc hc9) cv_RX3_80 (klC_8 hc) (ksC_8 hc) ⟨_, _, rfl⟩ rfl rfl rfl (Nat.le_of_ble_eq_true rfl) ⟨Nat.le_of_ble_eq_true rfl, Nat.le_of_ble_eq_true rfl⟩ ?_ rfl rfl
      clear hc9
      refine a_if_eq (tgt := 32) (pc := 26) F dX3_listedWith_26 (by decide) (fun q11 => ?_) (fun q11 => ?_)
      · replace h := ite_t q11 h
        clear q11
        obtain ⟨x12, ex12⟩ : ∃ x12 : Int32, x12 = x3 + 1 := ⟨_, rfl⟩
        refine a_iinc (v := x12) (lv' := [(3, .int x12), (0, .ref (ga X.G (c + 8))), (1, .int p1), (2, .int x2)]) (pc := 32) F dX3_listedWith_32 3 rfl (by rw [ex12]; rfl) (by decide) rfl ?_
        replace h := nm_at ex12 h
        clear ex12
        refine a_goto (tgt := 4) (pc := 35) F dX3_listedWith_35 (by decide) ?_
        refine a_lv F [1, 2, 3, 0] rfl ?_
        exact hP1 _ (Option.some.inj h).symm
      · replace h := ite_f q11 h
        clear q11
        obtain ⟨x13, ex13⟩ : ∃ x13 : Int32, x13 = x2 + 1 := ⟨_, rfl⟩
        refine a_iinc (v := x13) (lv' := [(2, .int x13), (0, .ref (ga X.G (c + 8))), (1, .int p1), (3, .int x3)]) (pc := 29) F dX3_listedWith_29 2 rfl (by rw [ex13]; rfl) (by decide) rfl ?_
        replace h := nm_at ex13 h
        clear ex13
        obtain ⟨x14, ex14⟩ : ∃ x14 : Int32, x14 = x3 + 1 := ⟨_, rfl⟩
        refine a_iinc (v := x14) (lv' := [(3, .int x14), (2, .int x13), (0, .ref (ga X.G (c + 8))), (1, .int p1)]) (pc := 32) F dX3_listedWith_32 3 rfl (by rw [ex14]; rfl) (by decide) rfl ?_
        replace h := nm_at ex14 h
        clear ex14
        refine a_goto (tgt := 4) (pc := 35) F dX3_listedWith_35 (by decide) ?_
        refine a_lv F [2, 3, 1, 0] rfl ?_
        exact hP1 _ (Option.some.inj h).symm
def f_X2_workplaceOf_L2 (c : Nat) (p1 : Int32) (m0 : Mem) : Int32 → Option (Int32 ⊕ (Unit ⊕ Int32))
  | x2 => (if (m0.1 (c + 8) 0) ≤ x2 then some (.inr (.inl ())) else bnd (f_X2_isUnderWay c x2 m0) fun x5 => (if x5 = 0 then nm (x2 + 1) fun x7 => some (.inl x7) else bnd (f_X3_holds c x2 p1 m0) fun x9 => (if x9 = 0 then nm (x2 + 1) fun x11 => some (.inl x11) else some (.inr (.inr x2)))))
def f_X2_workplaceOf (c : Nat) (p1 : Int32) (m0 : Mem) : Option Int32 :=
  jn (lp (f_X2_workplaceOf_L2 c p1 m0) 1000000 0) (fun _ => some (-1))
set_option maxRecDepth 100000 in
set_option maxHeartbeats 4000000 in
theorem m_X2_workplaceOf {c : Nat} {p1 : Int32} (hc : isC c) {m0 : Mem} {rr : Int32} (h : f_X2_workplaceOf c p1 m0 = some rr) : Con yX2_workplaceOf cX2_workplaceOf 3 (some Jvm.ClassFile.FieldType.int) 2 42 (fun G => [.ref (ga G c), .int p1]) m0 (some (.int rr)) m0 := by
  refine con_of (by decide) (fun G => Nat.le_of_ble_eq_true rfl) (fun X F => ?_)
  show WA X 0 0 0 [(0, .ref (ga X.G c)), (1, .int p1)] [] m0 (EQ X (some (.int rr)) m0)
  rw [f_X2_workplaceOf] at h
  refine a_iconst (v := 0) (pc := 0) F dX2_workplaceOf_0 (by decide) ?_
  refine a_istore_n (lv' := [(2, .int 0), (0, .ref (ga X.G c)), (1, .int p1)]) (pc := 1) F dX2_workplaceOf_1 (by decide) rfl ?_
  refine a_lv F [1, 2, 0] rfl ?_
  replace h := jn_some h
  obtain ⟨t1, hL1, hK1, hB1⟩ := h
  have hE1 : ∀ (u : Unit), t1 = .inl u → WA X 0 0 41 [] [] m0 (EQ X (some (.int rr)) m0) := by
    intro u eo
    have h := hK1 _ eo
    clear hK1 eo
    refine a_iconst (v := (-1)) (pc := 41) F dX2_workplaceOf_41 (by decide) ?_
    cases h
    exact a_iret (pc := 42) F dX2_workplaceOf_42 ⟨_, rfl, rfl⟩
  clear hK1
  refine lp_run (P := fun (s : Int32) => WA X 0 0 2 [(0, .ref (ga X.G c)), (1, .int p1), (2, .int s)] [] m0 (EQ X (some (.int rr)) m0)) ?_ _ _ hL1
  clear hL1
  rintro x2 xo h hP1 hT1
  show WA X 0 0 2 [(0, .ref (ga X.G c)), (1, .int p1), (2, .int x2)] [] m0 (EQ X (some (.int rr)) m0)
  rw [f_X2_workplaceOf_L2] at h
  refine a_iload_n (pc := 2) F dX2_workplaceOf_2 2 rfl ?_
  refine a_aload_n (pc := 3) F dX2_workplaceOf_3 0 rfl ?_
  refine a_getr (k := c) (r := (c + 8)) (pc := 4) F dX2_workplaceOf_4 fl_RX2_21 (klC_0 hc) (ksC_0 hc) rfl ?_
  refine a_geti (k := (c + 8)) (pc := 7) F dX2_workplaceOf_7 fl_RX2_135 (klC_8 hc) (ksC_8 hc) rfl ?_
  refine a_icmp_ge (tgt := 41) (pc := 10) F dX2_workplaceOf_10 (by decide) (fun q3 => ?_) (fun q3 => ?_)
  · replace h := ite_t q3 h
    clear q3
    refine a_lv F [] rfl ?_
    exact hE1 _ (hT1 _ (Option.some.inj h).symm).symm
  · replace h := ite_f q3 h
    clear q3
    refine a_aload_n (pc := 13) F dX2_workplaceOf_13 0 rfl ?_
    refine a_iload_n (pc := 14) F dX2_workplaceOf_14 2 rfl ?_
    replace h := bnd_some h
    obtain ⟨x5, hc4, h⟩ := h
    refine a_callV (pc := 15) (k := c) (As := [.int x2]) (st := []) F dX2_workplaceOf_15 (m_X2_isUnderWay hc hc4) cv_RX2_145 (klC_0 hc) (ksC_0 hc) ⟨_, _, rfl⟩ rfl rfl rfl (Nat.le_of_ble_eq_true rfl) ⟨Nat.le_of_ble_eq_true rfl, Nat.le_of_ble_eq_true rfl⟩ ?_ rfl rfl
    clear hc4
    refine a_if_eq (tgt := 35) (pc := 18) F dX2_workplaceOf_18 (by decide) (fun q6 => ?_) (fun q6 => ?_)
    · replace h := ite_t q6 h
      clear q6
      obtain ⟨x7, ex7⟩ : ∃ x7 : Int32, x7 = x2 + 1 := ⟨_, rfl⟩
      refine a_iinc (v := x7) (lv' := [(2, .int x7), (0, .ref (ga X.G c)), (1, .int p1)]) (pc := 35) F dX2_workplaceOf_35 2 rfl (by rw [ex7]; rfl) (by decide) rfl ?_
      replace h := nm_at ex7 h
      clear ex7
      refine a_goto (tgt := 2) (pc := 38) F dX2_workplaceOf_38 (by decide) ?_
      refine a_lv F [1, 2, 0] rfl ?_
      exact hP1 _ (Option.some.inj h).symm
    · replace h := ite_f q6 h
      clear q6
      refine a_aload_n (pc := 21) F dX2_workplaceOf_21 0 rfl ?_
      refine a_getr (k := c) (r := (c + 8)) (pc := 22) F dX2_workplaceOf_22 fl_RX2_21 (klC_0 hc) (ksC_0 hc) rfl ?_
      refine a_iload_n (pc := 25) F dX2_workplaceOf_25 2 rfl ?_
      refine a_iload_n (pc := 26) F dX2_workplaceOf_26 1 rfl ?_
      replace h := bnd_some h
      obtain ⟨x9, hc8, h⟩ := h
      refine a_callV (pc := 27) (k := (c + 8)) (As := [.int x2, .int p1]) (st := []) F dX2_workplaceOf_27 (m_X3_holds hc hc8) cv_RX2_163 (klC_8 hc) (ksC_8 hc) ⟨_, _, rfl⟩ rfl rfl rfl (Nat.le_of_ble_eq_true rfl) ⟨Nat.le_of_ble_eq_true rfl, Nat.le_of_ble_eq_true rfl⟩ ?_ rfl rfl
      clear hc8
      refine a_if_eq (tgt := 35) (pc := 30) F dX2_workplaceOf_30 (by decide) (fun q10 => ?_) (fun q10 => ?_)
      · replace h := ite_t q10 h
        clear q10
        obtain ⟨x11, ex11⟩ : ∃ x11 : Int32, x11 = x2 + 1 := ⟨_, rfl⟩
        refine a_iinc (v := x11) (lv' := [(2, .int x11), (0, .ref (ga X.G c)), (1, .int p1)]) (pc := 35) F dX2_workplaceOf_35 2 rfl (by rw [ex11]; rfl) (by decide) rfl ?_
        replace h := nm_at ex11 h
        clear ex11
        refine a_goto (tgt := 2) (pc := 38) F dX2_workplaceOf_38 (by decide) ?_
        refine a_lv F [1, 2, 0] rfl ?_
        exact hP1 _ (Option.some.inj h).symm
      · replace h := ite_f q10 h
        clear q10
        refine a_iload_n (pc := 33) F dX2_workplaceOf_33 2 rfl ?_
        replace h := hB1 _ (hT1 _ (Option.some.inj h).symm).symm
        cases h
        exact a_iret (pc := 34) F dX2_workplaceOf_34 ⟨_, rfl, rfl⟩
def f_X2_ofInterpreter (c : Nat) (p1 : Int32) (p2 : Int32) (m0 : Mem) : Option Int32 :=
  (if p2 = 0 then gIn p1 10 <| nm (m0.1 (c + 2) p1.toNatClampNeg) fun x3 => some x3 else (if p2 = 1 then gIn p1 10 <| nm (m0.1 (c + 3) p1.toNatClampNeg) fun x6 => some x6 else (if p2 = 2 then gIn p1 10 <| nm (m0.1 (c + 4) p1.toNatClampNeg) fun x9 => some x9 else (if p2 = 3 then gIn p1 10 <| nm (m0.1 (c + 5) p1.toNatClampNeg) fun x12 => some x12 else (if p2 = 4 then gIn p1 10 <| nm (m0.1 (c + 6) p1.toNatClampNeg) fun x15 => some x15 else (if p2 = 5 then bnd (f_X3_listedWith c p1 m0) fun x18 => some x18 else (if p2 = 6 then bnd (f_X2_workplaceOf c p1 m0) fun x21 => some x21 else (if p2 = 7 then gIn p1 10 <| nm (m0.1 (c + 7) p1.toNatClampNeg) fun x24 => some x24 else some (-1)))))))))
set_option maxRecDepth 100000 in
set_option maxHeartbeats 4000000 in
theorem m_X2_ofInterpreter {c : Nat} {p1 : Int32} {p2 : Int32} (hc : isC c) {m0 : Mem} {rr : Int32} (h : f_X2_ofInterpreter c p1 p2 m0 = some rr) : Con yX2_ofInterpreter cX2_ofInterpreter 3 (some Jvm.ClassFile.FieldType.int) 3 65 (fun G => [.ref (ga G c), .int p1, .int p2]) m0 (some (.int rr)) m0 := by
  refine con_of (by decide) (fun G => Nat.le_of_ble_eq_true rfl) (fun X F => ?_)
  show WA X 0 0 0 [(0, .ref (ga X.G c)), (1, .int p1), (2, .int p2)] [] m0 (EQ X (some (.int rr)) m0)
  rw [f_X2_ofInterpreter] at h
  refine a_iload_n (pc := 0) F dX2_ofInterpreter_0 2 rfl ?_
  by_cases q1 : p2 = 0
  · replace h := ite_t q1 h
    refine a_swin (pc := 1) (tgt := 48) F dX2_ofInterpreter_1 (by rw [q1]; decide) (by rw [q1]; decide) (by rw [q1]; rfl) (by decide) ?_
    clear q1
    refine a_aload_n (pc := 48) F dX2_ofInterpreter_48 0 rfl ?_
    refine a_getr (k := c) (r := (c + 1)) (pc := 49) F dX2_ofInterpreter_49 fl_RX2_12 (klC_0 hc) (ksC_0 hc) rfl ?_
    refine a_getr (k := (c + 1)) (r := (c + 2)) (pc := 52) F dX2_ofInterpreter_52 fl_RX2_167 (klC_1 hc) (ksC_1 hc) rfl ?_
    refine a_iload_n (pc := 55) F dX2_ofInterpreter_55 1 rfl ?_
    replace h := gIn_some h
    obtain ⟨g2, h⟩ := h
    refine a_ial (k := (c + 2)) (pc := 56) F dX2_ofInterpreter_56 (klC_2 hc) (ksC_2 hc) g2 ?_
    refine a_nmi fun x3 ex3 => ?_
    replace h := nm_at ex3 h
    clear ex3
    cases h
    exact a_iret (pc := 57) F dX2_ofInterpreter_57 ⟨_, rfl, rfl⟩
  replace h := ite_f q1 h
  by_cases q4 : p2 = 1
  · replace h := ite_t q4 h
    refine a_swin (pc := 1) (tgt := 58) F dX2_ofInterpreter_1 (by rw [q4]; decide) (by rw [q4]; decide) (by rw [q4]; rfl) (by decide) ?_
    clear q4
    refine a_aload_n (pc := 58) F dX2_ofInterpreter_58 0 rfl ?_
    refine a_getr (k := c) (r := (c + 1)) (pc := 59) F dX2_ofInterpreter_59 fl_RX2_12 (klC_0 hc) (ksC_0 hc) rfl ?_
    refine a_getr (k := (c + 1)) (r := (c + 3)) (pc := 62) F dX2_ofInterpreter_62 fl_RX2_170 (klC_1 hc) (ksC_1 hc) rfl ?_
    refine a_iload_n (pc := 65) F dX2_ofInterpreter_65 1 rfl ?_
    replace h := gIn_some h
    obtain ⟨g5, h⟩ := h
    refine a_ial (k := (c + 3)) (pc := 66) F dX2_ofInterpreter_66 (klC_3 hc) (ksC_3 hc) g5 ?_
    refine a_nmi fun x6 ex6 => ?_
    replace h := nm_at ex6 h
    clear ex6
    cases h
    exact a_iret (pc := 67) F dX2_ofInterpreter_67 ⟨_, rfl, rfl⟩
  replace h := ite_f q4 h
  by_cases q7 : p2 = 2
  · replace h := ite_t q7 h
    refine a_swin (pc := 1) (tgt := 68) F dX2_ofInterpreter_1 (by rw [q7]; decide) (by rw [q7]; decide) (by rw [q7]; rfl) (by decide) ?_
    clear q7
    refine a_aload_n (pc := 68) F dX2_ofInterpreter_68 0 rfl ?_
    refine a_getr (k := c) (r := (c + 1)) (pc := 69) F dX2_ofInterpreter_69 fl_RX2_12 (klC_0 hc) (ksC_0 hc) rfl ?_
    refine a_getr (k := (c + 1)) (r := (c + 4)) (pc := 72) F dX2_ofInterpreter_72 fl_RX2_97 (klC_1 hc) (ksC_1 hc) rfl ?_
    refine a_iload_n (pc := 75) F dX2_ofInterpreter_75 1 rfl ?_
    replace h := gIn_some h
    obtain ⟨g8, h⟩ := h
    refine a_ial (k := (c + 4)) (pc := 76) F dX2_ofInterpreter_76 (klC_4 hc) (ksC_4 hc) g8 ?_
    refine a_nmi fun x9 ex9 => ?_
    replace h := nm_at ex9 h
    clear ex9
    cases h
    exact a_iret (pc := 77) F dX2_ofInterpreter_77 ⟨_, rfl, rfl⟩
  replace h := ite_f q7 h
  by_cases q10 : p2 = 3
  · replace h := ite_t q10 h
    refine a_swin (pc := 1) (tgt := 78) F dX2_ofInterpreter_1 (by rw [q10]; decide) (by rw [q10]; decide) (by rw [q10]; rfl) (by decide) ?_
    clear q10
    refine a_aload_n (pc := 78) F dX2_ofInterpreter_78 0 rfl ?_
    refine a_getr (k := c) (r := (c + 1)) (pc := 79) F dX2_ofInterpreter_79 fl_RX2_12 (klC_0 hc) (ksC_0 hc) rfl ?_
    refine a_getr (k := (c + 1)) (r := (c + 5)) (pc := 82) F dX2_ofInterpreter_82 fl_RX2_173 (klC_1 hc) (ksC_1 hc) rfl ?_
    refine a_iload_n (pc := 85) F dX2_ofInterpreter_85 1 rfl ?_
    replace h := gIn_some h
    obtain ⟨g11, h⟩ := h
    refine a_ial (k := (c + 5)) (pc := 86) F dX2_ofInterpreter_86 (klC_5 hc) (ksC_5 hc) g11 ?_
    refine a_nmi fun x12 ex12 => ?_
    replace h := nm_at ex12 h
    clear ex12
    cases h
    exact a_iret (pc := 87) F dX2_ofInterpreter_87 ⟨_, rfl, rfl⟩
  replace h := ite_f q10 h
  by_cases q13 : p2 = 4
  · replace h := ite_t q13 h
    refine a_swin (pc := 1) (tgt := 88) F dX2_ofInterpreter_1 (by rw [q13]; decide) (by rw [q13]; decide) (by rw [q13]; rfl) (by decide) ?_
    clear q13
    refine a_aload_n (pc := 88) F dX2_ofInterpreter_88 0 rfl ?_
    refine a_getr (k := c) (r := (c + 1)) (pc := 89) F dX2_ofInterpreter_89 fl_RX2_12 (klC_0 hc) (ksC_0 hc) rfl ?_
    refine a_getr (k := (c + 1)) (r := (c + 6)) (pc := 92) F dX2_ofInterpreter_92 fl_RX2_176 (klC_1 hc) (ksC_1 hc) rfl ?_
    refine a_iload_n (pc := 95) F dX2_ofInterpreter_95 1 rfl ?_
    replace h := gIn_some h
    obtain ⟨g14, h⟩ := h
    refine a_ial (k := (c + 6)) (pc := 96) F dX2_ofInterpreter_96 (klC_6 hc) (ksC_6 hc) g14 ?_
    refine a_nmi fun x15 ex15 => ?_
    replace h := nm_at ex15 h
    clear ex15
    cases h
    exact a_iret (pc := 97) F dX2_ofInterpreter_97 ⟨_, rfl, rfl⟩
  replace h := ite_f q13 h
  by_cases q16 : p2 = 5
  · replace h := ite_t q16 h
    refine a_swin (pc := 1) (tgt := 98) F dX2_ofInterpreter_1 (by rw [q16]; decide) (by rw [q16]; decide) (by rw [q16]; rfl) (by decide) ?_
    clear q16
    refine a_aload_n (pc := 98) F dX2_ofInterpreter_98 0 rfl ?_
    refine a_getr (k := c) (r := (c + 8)) (pc := 99) F dX2_ofInterpreter_99 fl_RX2_21 (klC_0 hc) (ksC_0 hc) rfl ?_
    refine a_iload_n (pc := 102) F dX2_ofInterpreter_102 1 rfl ?_
    replace h := bnd_some h
    obtain ⟨x18, hc17, h⟩ := h
    refine a_callV (pc := 103) (k := (c + 8)) (As := [.int p1]) (st := []) F dX2_ofInterpreter_103 (m_X3_listedWith hc hc17) cv_RX2_177 (klC_8 hc) (ksC_8 hc) ⟨_, _, rfl⟩ rfl rfl rfl (Nat.le_of_ble_eq_true rfl) ⟨Nat.le_of_ble_eq_true rfl, Nat.le_of_ble_eq_true rfl⟩ ?_ rfl rfl
    clear hc17
    cases h
    exact a_iret (pc := 106) F dX2_ofInterpreter_106 ⟨_, rfl, rfl⟩
  replace h := ite_f q16 h
  by_cases q19 : p2 = 6
  · replace h := ite_t q19 h
    refine a_swin (pc := 1) (tgt := 107) F dX2_ofInterpreter_1 (by rw [q19]; decide) (by rw [q19]; decide) (by rw [q19]; rfl) (by decide) ?_
    clear q19
    refine a_aload_n (pc := 107) F dX2_ofInterpreter_107 0 rfl ?_
    refine a_iload_n (pc := 108) F dX2_ofInterpreter_108 1 rfl ?_
    replace h := bnd_some h
    obtain ⟨x21, hc20, h⟩ := h
    refine a_callV (pc := 109) (k := c) (As := [.int p1]) (st := []) F dX2_ofInterpreter_109 (m_X2_workplaceOf hc hc20) cv_RX2_180 (klC_0 hc) (ksC_0 hc) ⟨_, _, rfl⟩ rfl rfl rfl (Nat.le_of_ble_eq_true rfl) ⟨Nat.le_of_ble_eq_true rfl, Nat.le_of_ble_eq_true rfl⟩ ?_ rfl rfl
    clear hc20
    cases h
    exact a_iret (pc := 112) F dX2_ofInterpreter_112 ⟨_, rfl, rfl⟩
  replace h := ite_f q19 h
  by_cases q22 : p2 = 7
  · replace h := ite_t q22 h
    refine a_swin (pc := 1) (tgt := 113) F dX2_ofInterpreter_1 (by rw [q22]; decide) (by rw [q22]; decide) (by rw [q22]; rfl) (by decide) ?_
    clear q22
    refine a_aload_n (pc := 113) F dX2_ofInterpreter_113 0 rfl ?_
    refine a_getr (k := c) (r := (c + 1)) (pc := 114) F dX2_ofInterpreter_114 fl_RX2_12 (klC_0 hc) (ksC_0 hc) rfl ?_
    refine a_getr (k := (c + 1)) (r := (c + 7)) (pc := 117) F dX2_ofInterpreter_117 fl_RX2_183 (klC_1 hc) (ksC_1 hc) rfl ?_
    refine a_iload_n (pc := 120) F dX2_ofInterpreter_120 1 rfl ?_
    replace h := gIn_some h
    obtain ⟨g23, h⟩ := h
    refine a_ial (k := (c + 7)) (pc := 121) F dX2_ofInterpreter_121 (klC_7 hc) (ksC_7 hc) g23 ?_
    refine a_nmi fun x24 ex24 => ?_
    replace h := nm_at ex24 h
    clear ex24
    cases h
    exact a_iret (pc := 122) F dX2_ofInterpreter_122 ⟨_, rfl, rfl⟩
  replace h := ite_f q22 h
  refine a_swout (pc := 1) (tgt := 123) F dX2_ofInterpreter_1 (by have nq1 := lv_neT (a := 0) q1 (by decide); have nq4 := lv_neT (a := 1) q4 (by decide); have nq7 := lv_neT (a := 2) q7 (by decide); have nq10 := lv_neT (a := 3) q10 (by decide); have nq13 := lv_neT (a := 4) q13 (by decide); have nq16 := lv_neT (a := 5) q16 (by decide); have nq19 := lv_neT (a := 6) q19 (by decide); have nq22 := lv_neT (a := 7) q22 (by decide); omega) (by decide) ?_
  clear q1
  clear q4
  clear q7
  clear q10
  clear q13
  clear q16
  clear q19
  clear q22
  refine a_iconst (v := (-1)) (pc := 123) F dX2_ofInterpreter_123 (by decide) ?_
  cases h
  exact a_iret (pc := 124) F dX2_ofInterpreter_124 ⟨_, rfl, rfl⟩
def f_X7_interpreter (p1 : Int32) (p2 : Int32) (m0 : Mem) : Option Int32 :=
  bnd (f_X6_has 1 p1 m0) fun x2 => (if x2 = 0 then none else bnd (f_X7_within p2 0 7 m0) fun x5 => (if x5 = 0 then none else bnd (f_X2_ofInterpreter 1 p1 p2 m0) fun x8 => some x8))
set_option maxRecDepth 100000 in
set_option maxHeartbeats 4000000 in
theorem m_X7_interpreter {p1 : Int32} {p2 : Int32} {m0 : Mem} {rr : Int32} (h : f_X7_interpreter p1 p2 m0 = some rr) : Con yX7_interpreter cX7_interpreter 3 (some Jvm.ClassFile.FieldType.int) 4 87 (fun G => [.ref (ga G 0), .int p1, .int p2]) m0 (some (.int rr)) m0 := by
  refine con_of (by decide) (fun G => Nat.le_of_ble_eq_true rfl) (fun X F => ?_)
  show WA X 0 0 0 [(0, .ref (ga X.G 0)), (1, .int p1), (2, .int p2)] [] m0 (EQ X (some (.int rr)) m0)
  rw [f_X7_interpreter] at h
  refine a_aload_n (pc := 0) F dX7_interpreter_0 0 rfl ?_
  refine a_getr (k := 0) (r := 1) (pc := 1) F dX7_interpreter_1 fl_RX7_10 kl_0 ks_0 rfl ?_
  refine a_getr (k := 1) (r := (1 + 1)) (pc := 4) F dX7_interpreter_4 fl_RX7_64 (klC_0 isC_1) (ksC_0 isC_1) rfl ?_
  refine a_iload_n (pc := 7) F dX7_interpreter_7 1 rfl ?_
  replace h := bnd_some h
  obtain ⟨x2, hc1, h⟩ := h
  refine a_callV (pc := 8) (k := (1 + 1)) (As := [.int p1]) (st := []) F dX7_interpreter_8 (m_X6_has isC_1 hc1) cv_RX7_105 (klC_1 isC_1) (ksC_1 isC_1) ⟨_, _, rfl⟩ rfl rfl rfl (Nat.le_of_ble_eq_true rfl) ⟨Nat.le_of_ble_eq_true rfl, Nat.le_of_ble_eq_true rfl⟩ ?_ rfl rfl
  clear hc1
  refine a_if_ne (tgt := 24) (pc := 11) F dX7_interpreter_11 (by decide) (fun q3 => ?_) (fun q3 => ?_)
  · replace h := ite_f q3 h
    clear q3
    refine a_iload_n (pc := 24) F dX7_interpreter_24 2 rfl ?_
    refine a_iconst (v := 0) (pc := 25) F dX7_interpreter_25 (by decide) ?_
    refine a_bipush (v := 7) (pc := 26) F dX7_interpreter_26 (by decide) ?_
    replace h := bnd_some h
    obtain ⟨x5, hc4, h⟩ := h
    refine a_callS (pc := 28) (As := [.int p2, .int 0, .int 7]) (st := []) F dX7_interpreter_28 (m_X7_within hc4) cs_RX7_47 rfl rfl rfl (Nat.le_of_ble_eq_true rfl) ⟨Nat.le_of_ble_eq_true rfl, Nat.le_of_ble_eq_true rfl⟩ ?_ rfl rfl
    clear hc4
    refine a_if_ne (tgt := 44) (pc := 31) F dX7_interpreter_31 (by decide) (fun q6 => ?_) (fun q6 => ?_)
    · replace h := ite_f q6 h
      clear q6
      refine a_aload_n (pc := 44) F dX7_interpreter_44 0 rfl ?_
      refine a_getr (k := 0) (r := 1) (pc := 45) F dX7_interpreter_45 fl_RX7_10 kl_0 ks_0 rfl ?_
      refine a_iload_n (pc := 48) F dX7_interpreter_48 1 rfl ?_
      refine a_iload_n (pc := 49) F dX7_interpreter_49 2 rfl ?_
      replace h := bnd_some h
      obtain ⟨x8, hc7, h⟩ := h
      refine a_callV (pc := 50) (k := 1) (As := [.int p1, .int p2]) (st := []) F dX7_interpreter_50 (m_X2_ofInterpreter isC_1 hc7) cv_RX7_235 (klC_0 isC_1) (ksC_0 isC_1) ⟨_, _, rfl⟩ rfl rfl rfl (Nat.le_of_ble_eq_true rfl) ⟨Nat.le_of_ble_eq_true rfl, Nat.le_of_ble_eq_true rfl⟩ ?_ rfl rfl
      clear hc7
      cases h
      exact a_iret (pc := 53) F dX7_interpreter_53 ⟨_, rfl, rfl⟩
    · replace h := ite_t (Decidable.not_not.mp q6) h
      clear q6
      cases h
  · replace h := ite_t (Decidable.not_not.mp q3) h
    clear q3
    cases h
