def f_X7_pass_L61 (p1 : Int32) : (Int32 × Int32 × Mem) → Option ((Int32 × Int32 × Mem) ⊕ (Int32 × Mem))
  | (x8, x9, m10) => (if p1 ≤ x9 then some (.inr (x8, m10)) else bnd2 (f_X2_passMinute 1 m10) fun x13 m14 => nm (x9 + 1) fun x15 => some (.inl (x8 + x13, x15, m14)))
def f_X7_pass (p1 : Int32) (m0 : Mem) : Option (Int32 × Mem) :=
  bnd (f_X7_within p1 1 500 m0) fun x2 => (if x2 = 0 then none else (if ((m0.1 1 3) + p1) ≤ 20000 then bnd (f_X4_save 1 m0) fun m6 => bnd (lp (f_X7_pass_L61 p1) 1000000 (0, 0, m6)) (fun (x16, m17) => some (x16, m17)) else none))
set_option maxRecDepth 100000 in
set_option maxHeartbeats 4000000 in
theorem m_X7_pass {p1 : Int32} {m0 : Mem} {rr : Int32} {mm : Mem} (h : f_X7_pass p1 m0 = some (rr, mm)) : Con yX7_pass cX7_pass 4 (some Jvm.ClassFile.FieldType.int) 5 118 (fun G => [.ref (ga G 0), .int p1]) m0 (some (.int rr)) mm := by
  refine con_of (by decide) (fun G => Nat.le_of_ble_eq_true rfl) (fun X F => ?_)
  show WA X 0 0 0 [(0, .ref (ga X.G 0)), (1, .int p1)] [] m0 (EQ X (some (.int rr)) mm)
  rw [f_X7_pass] at h
  refine a_iload_n (pc := 0) F dX7_pass_0 1 rfl ?_
  refine a_iconst (v := 1) (pc := 1) F dX7_pass_1 (by decide) ?_
  refine a_sipush (v := 500) (pc := 2) F dX7_pass_2 (by decide) ?_
  replace h := bnd_some h
  obtain ⟨x2, hc1, h⟩ := h
  refine a_callS (pc := 5) (As := [.int p1, .int 1, .int 500]) (st := []) F dX7_pass_5 (m_X7_within hc1) cs_RX7_47 rfl rfl rfl (Nat.le_of_ble_eq_true rfl) ⟨Nat.le_of_ble_eq_true rfl, Nat.le_of_ble_eq_true rfl⟩ ?_ rfl rfl
  clear hc1
  refine a_if_ne (tgt := 21) (pc := 8) F dX7_pass_8 (by decide) (fun q3 => ?_) (fun q3 => ?_)
  · replace h := ite_f q3 h
    clear q3
    refine a_aload_n (pc := 21) F dX7_pass_21 0 rfl ?_
    refine a_getr (k := 0) (r := 1) (pc := 22) F dX7_pass_22 fl_RX7_10 kl_0 ks_0 rfl ?_
    refine a_geti (k := 1) (pc := 25) F dX7_pass_25 fl_RX7_98 (klC_0 isC_1) (ksC_0 isC_1) rfl ?_
    refine a_iload_n (pc := 28) F dX7_pass_28 1 rfl ?_
    refine a_iadd (pc := 29) F dX7_pass_29 ?_
    refine a_sipush (v := 20000) (pc := 30) F dX7_pass_30 (by decide) ?_
    refine a_icmp_le (tgt := 46) (pc := 33) F dX7_pass_33 (by decide) (fun q4 => ?_) (fun q4 => ?_)
    · replace h := ite_t q4 h
      clear q4
      refine a_aload_n (pc := 46) F dX7_pass_46 0 rfl ?_
      refine a_getr (k := 0) (r := 39) (pc := 47) F dX7_pass_47 fl_RX7_22 kl_0 ks_0 rfl ?_
      refine a_aload_n (pc := 50) F dX7_pass_50 0 rfl ?_
      refine a_getr (k := 0) (r := 1) (pc := 51) F dX7_pass_51 fl_RX7_10 kl_0 ks_0 rfl ?_
      replace h := bnd_some h
      obtain ⟨m6, hc5, h⟩ := h
      refine a_callV (pc := 54) (k := 39) (As := [.ref (ga X.G 1)]) (st := []) F dX7_pass_54 (m_X4_save isC_1 hc5) cv_RX7_79 kl_39 ks_39 ⟨_, _, rfl⟩ rfl rfl rfl (Nat.le_of_ble_eq_true rfl) ⟨Nat.le_of_ble_eq_true rfl, Nat.le_of_ble_eq_true rfl⟩ ?_ rfl rfl
      clear hc5
      refine a_iconst (v := 0) (pc := 57) F dX7_pass_57 (by decide) ?_
      refine a_istore_n (lv' := [(2, .int 0), (0, .ref (ga X.G 0)), (1, .int p1)]) (pc := 58) F dX7_pass_58 (by decide) rfl ?_
      refine a_iconst (v := 0) (pc := 59) F dX7_pass_59 (by decide) ?_
      refine a_istore_n (lv' := [(3, .int 0), (2, .int 0), (0, .ref (ga X.G 0)), (1, .int p1)]) (pc := 60) F dX7_pass_60 (by decide) rfl ?_
      refine a_lv F [2, 3, 1, 0] rfl ?_
      replace h := bnd_some h
      obtain ⟨⟨x16, m17⟩, hL7, h⟩ := h
      have hE7 : WA X 0 0 82 [(2, .int x16)] [] m17 (EQ X (some (.int rr)) mm) := by
        refine a_iload_n (pc := 82) F dX7_pass_82 0 rfl ?_
        cases h
        exact a_iret (pc := 83) F dX7_pass_83 ⟨_, rfl, rfl⟩
      clear h
      refine lp_run (P := fun (s : (Int32 × Int32 × Mem)) => WA X 0 0 61 [(0, .ref (ga X.G 0)), (1, .int p1), (2, .int s.1), (3, .int s.2.1)] [] s.2.2 (EQ X (some (.int rr)) mm)) ?_ _ _ hL7
      clear hL7
      rintro ⟨x8, x9, m10⟩ xo h hP7 hT7
      show WA X 0 0 61 [(0, .ref (ga X.G 0)), (1, .int p1), (2, .int x8), (3, .int x9)] [] m10 (EQ X (some (.int rr)) mm)
      rw [f_X7_pass_L61] at h
      refine a_iload_n (pc := 61) F dX7_pass_61 3 rfl ?_
      refine a_iload_n (pc := 62) F dX7_pass_62 1 rfl ?_
      refine a_icmp_ge (tgt := 82) (pc := 63) F dX7_pass_63 (by decide) (fun q11 => ?_) (fun q11 => ?_)
      · replace h := ite_t q11 h
        clear q11
        refine a_lv F [2] rfl ?_
        cases hT7 _ (Option.some.inj h).symm
        exact hE7
      · replace h := ite_f q11 h
        clear q11
        refine a_iload_n (pc := 66) F dX7_pass_66 2 rfl ?_
        refine a_aload_n (pc := 67) F dX7_pass_67 0 rfl ?_
        refine a_getr (k := 0) (r := 1) (pc := 68) F dX7_pass_68 fl_RX7_10 kl_0 ks_0 rfl ?_
        replace h := bnd2_some h
        obtain ⟨x13, m14, hc12, h⟩ := h
        refine a_callV (pc := 71) (k := 1) (As := []) (st := [.int x8]) F dX7_pass_71 (m_X2_passMinute isC_1 hc12) cv_RX7_193 (klC_0 isC_1) (ksC_0 isC_1) ⟨_, _, rfl⟩ rfl rfl rfl (Nat.le_of_ble_eq_true rfl) ⟨Nat.le_of_ble_eq_true rfl, Nat.le_of_ble_eq_true rfl⟩ ?_ rfl rfl
        clear hc12
        refine a_iadd (pc := 74) F dX7_pass_74 ?_
        refine a_istore_n (lv' := [(2, .int (x8 + x13)), (0, .ref (ga X.G 0)), (1, .int p1), (3, .int x9)]) (pc := 75) F dX7_pass_75 (by decide) rfl ?_
        obtain ⟨x15, ex15⟩ : ∃ x15 : Int32, x15 = x9 + 1 := ⟨_, rfl⟩
        refine a_iinc (v := x15) (lv' := [(3, .int x15), (2, .int (x8 + x13)), (0, .ref (ga X.G 0)), (1, .int p1)]) (pc := 76) F dX7_pass_76 3 rfl (by rw [ex15]; rfl) (by decide) rfl ?_
        replace h := nm_at ex15 h
        clear ex15
        refine a_goto (tgt := 61) (pc := 79) F dX7_pass_79 (by decide) ?_
        refine a_lv F [2, 3, 1, 0] rfl ?_
        exact hP7 _ (Option.some.inj h).symm
    · replace h := ite_f q4 h
      clear q4
      cases h
  · replace h := ite_t (Decidable.not_not.mp q3) h
    clear q3
    cases h
def f_X3_listedWith_L4 (c : Nat) (p1 : Int32) (m0 : Mem) : (Int32 × Int32) → Option ((Int32 × Int32) ⊕ Int32)
  | (x2, x3) => (if (m0.1 (c + 8) 0) ≤ x3 then some (.inr x2) else bnd (f_X3_isListed c x3 m0) fun x6 => (if x6 = 0 then nm (x3 + 1) fun x8 => some (.inl (x2, x8)) else bnd (f_X3_holds c x3 p1 m0) fun x10 => (if x10 = 0 then nm (x3 + 1) fun x12 => some (.inl (x2, x12)) else nm (x2 + 1) fun x13 => nm (x3 + 1) fun x14 => some (.inl (x13, x14)))))
def f_X3_listedWith (c : Nat) (p1 : Int32) (m0 : Mem) : Option Int32 :=
  bnd (lp (f_X3_listedWith_L4 c p1 m0) 1000000 (0, 0)) (fun x15 => some x15)
set_option maxRecDepth 100000 in
set_option maxHeartbeats 4000000 in
theorem m_X3_listedWith {c : Nat} {p1 : Int32} (hc : isC c) {m0 : Mem} {rr : Int32} (h : f_X3_listedWith c p1 m0 = some rr) : Con yX3_listedWith cX3_listedWith 4 (some Jvm.ClassFile.FieldType.int) 2 42 (fun G => [.ref (ga G (c + 8)), .int p1]) m0 (some (.int rr)) m0 := by
  refine con_of (by decide) (fun G => Nat.le_of_ble_eq_true rfl) (fun X F => ?_)
  show WA X 0 0 0 [(0, .ref (ga X.G (c + 8))), (1, .int p1)] [] m0 (EQ X (some (.int rr)) m0)
  rw [f_X3_listedWith] at h
  refine a_iconst (v := 0) (pc := 0) F dX3_listedWith_0 (by decide) ?_
  refine a_istore_n (lv' := [(2, .int 0), (0, .ref (ga X.G (c + 8))), (1, .int p1)]) (pc := 1) F dX3_listedWith_1 (by decide) rfl ?_
  refine a_iconst (v := 0) (pc := 2) F dX3_listedWith_2 (by decide) ?_
  refine a_istore_n (lv' := [(3, .int 0), (2, .int 0), (0, .ref (ga X.G (c + 8))), (1, .int p1)]) (pc := 3) F dX3_listedWith_3 (by decide) rfl ?_
  refine a_lv F [2, 3, 1, 0] rfl ?_
  replace h := bnd_some h
  obtain ⟨x15, hL1, h⟩ := h
  have hE1 : WA X 0 0 38 [(2, .int x15)] [] m0 (EQ X (some (.int rr)) m0) := by
    refine a_iload_n (pc := 38) F dX3_listedWith_38 0 rfl ?_
    cases h
    exact a_iret (pc := 39) F dX3_listedWith_39 ⟨_, rfl, rfl⟩
  clear h
  refine lp_run (P := fun (s : (Int32 × Int32)) => WA X 0 0 4 [(0, .ref (ga X.G (c + 8))), (1, .int p1), (2, .int s.1), (3, .int s.2)] [] m0 (EQ X (some (.int rr)) m0)) ?_ _ _ hL1
  clear hL1
  rintro ⟨x2, x3⟩ xo h hP1 hT1
  show WA X 0 0 4 [(0, .ref (ga X.G (c + 8))), (1, .int p1), (2, .int x2), (3, .int x3)] [] m0 (EQ X (some (.int rr)) m0)
  rw [f_X3_listedWith_L4] at h
  refine a_iload_n (pc := 4) F dX3_listedWith_4 3 rfl ?_
  refine a_aload_n (pc := 5) F dX3_listedWith_5 0 rfl ?_
  refine a_geti (k := (c + 8)) (pc := 6) F dX3_listedWith_6 fl_RX3_39 (klC_8 hc) (ksC_8 hc) rfl ?_
  refine a_icmp_ge (tgt := 38) (pc := 9) F dX3_listedWith_9 (by decide) (fun q4 => ?_) (fun q4 => ?_)
  · replace h := ite_t q4 h
    clear q4
    refine a_lv F [2] rfl ?_
    cases hT1 _ (Option.some.inj h).symm
    exact hE1
  · replace h := ite_f q4 h
    clear q4
    refine a_aload_n (pc := 12) F dX3_listedWith_12 0 rfl ?_
    refine a_iload_n (pc := 13) F dX3_listedWith_13 3 rfl ?_
    replace h := bnd_some h
    obtain ⟨x6, hc5, h⟩ := h
    refine a_callV (pc := 14) (k := (c + 8)) (As := [.int x3]) (st := []) F dX3_listedWith_14 (m_X3_isListed hc hc5) cv_RX3_70 (klC_8 hc) (ksC_8 hc) ⟨_, _, rfl⟩ rfl rfl rfl (Nat.le_of_ble_eq_true rfl) ⟨Nat.le_of_ble_eq_true rfl, Nat.le_of_ble_eq_true rfl⟩ ?_ rfl rfl
    clear hc5
    refine a_if_eq (tgt := 32) (pc := 17) F dX3_listedWith_17 (by decide) (fun q7 => ?_) (fun q7 => ?_)
    · replace h := ite_t q7 h
      clear q7
      obtain ⟨x8, ex8⟩ : ∃ x8 : Int32, x8 = x3 + 1 := ⟨_, rfl⟩
      refine a_iinc (v := x8) (lv' := [(3, .int x8), (0, .ref (ga X.G (c + 8))), (1, .int p1), (2, .int x2)]) (pc := 32) F dX3_listedWith_32 3 rfl (by rw [ex8]; rfl) (by decide) rfl ?_
      replace h := nm_at ex8 h
      clear ex8
      refine a_goto (tgt := 4) (pc := 35) F dX3_listedWith_35 (by decide) ?_
      refine a_lv F [1, 2, 3, 0] rfl ?_
      exact hP1 _ (Option.some.inj h).symm
    · replace h := ite_f q7 h
      clear q7
      refine a_aload_n (pc := 20) F dX3_listedWith_20 0 rfl ?_
      refine a_iload_n (pc := 21) F dX3_listedWith_21 3 rfl ?_
      refine a_iload_n (pc := 22) F dX3_listedWith_22 1 rfl ?_
      replace h := bnd_some h
      obtain ⟨x10, hc9, h⟩ := h
      refine a_callV (pc := 23) (k := (c + 8)) (As := [.int x3, .int p1]) (st := []) F dX3_listedWith_23 (m_X3_holds hc hc9) cv_RX3_80 (klC_8 hc) (ksC_8 hc) ⟨_, _, rfl⟩ rfl rfl rfl (Nat.le_of_ble_eq_true rfl) ⟨Nat.le_of_ble_eq_true rfl, Nat.le_of_ble_eq_true rfl⟩ ?_ rfl rfl
      clear hc9
      refine a_if_eq (tgt := 32) (pc := 26) F dX3_listedWith_26 (by decide) (fun q11 => ?_) (fun q11 => ?_)
      · replace h := ite_t q11 h
        clear q11
        obtain ⟨x12, ex12⟩ : ∃ x12 : Int32, x12 = x3 + 1 := ⟨_, rfl⟩
        refine a_iinc (v := x12) (lv' := [(3, .int x12), (0, .ref (ga X.G (c + 8))), (1, .int p1), (2, .int x2)]) (pc := 32) F dX3_listedWith_32 3 rfl (by rw [ex12]; rfl) (by decide) rfl ?_
        replace h := nm_at ex12 h
        clear ex12
        refine a_goto (tgt := 4) (pc := 35) F dX3_listedWith_35 (by decide) ?_
        refine a_lv F [1, 2, 3, 0] rfl ?_
        exact hP1 _ (Option.some.inj h).symm
      · replace h := ite_f q11 h
        clear q11
        obtain ⟨x13, ex13⟩ : ∃ x13 : Int32, x13 = x2 + 1 := ⟨_, rfl⟩
        refine a_iinc (v := x13) (lv' := [(2, .int x13), (0, .ref (ga X.G (c + 8))), (1, .int p1), (3, .int x3)]) (pc := 29) F dX3_listedWith_29 2 rfl (by rw [ex13]; rfl) (by decide) rfl ?_
        replace h := nm_at ex13 h
        clear ex13
        obtain ⟨x14, ex14⟩ : ∃ x14 : Int32, x14 = x3 + 1 := ⟨_, rfl⟩
        refine a_iinc (v := x14) (lv' := [(3, .int x14), (2, .int x13), (0, .ref (ga X.G (c + 8))), (1, .int p1)]) (pc := 32) F dX3_listedWith_32 3 rfl (by rw [ex14]; rfl) (by decide) rfl ?_
        replace h := nm_at ex14 h
        clear ex14
        refine a_goto (tgt := 4) (pc := 35) F dX3_listedWith_35 (by decide) ?_
        refine a_lv F [2, 3, 1, 0] rfl ?_
        exact hP1 _ (Option.some.inj h).symm
def f_X2_workplaceOf_L2 (c : Nat) (p1 : Int32) (m0 : Mem) : Int32 → Option (Int32 ⊕ (Unit ⊕ Int32))
  | x2 => (if (m0.1 (c + 8) 0) ≤ x2 then some (.inr (.inl ())) else bnd (f_X2_isUnderWay c x2 m0) fun x5 => (if x5 = 0 then nm (x2 + 1) fun x7 => some (.inl x7) else bnd (f_X3_holds c x2 p1 m0) fun x9 => (if x9 = 0 then nm (x2 + 1) fun x11 => some (.inl x11) else some (.inr (.inr x2)))))
def f_X2_workplaceOf (c : Nat) (p1 : Int32) (m0 : Mem) : Option Int32 :=
  jn (lp (f_X2_workplaceOf_L2 c p1 m0) 1000000 0) (fun _ => some (-1))
set_option maxRecDepth 100000 in
set_option maxHeartbeats 4000000 in
theorem m_X2_workplaceOf {c : Nat} {p1 : Int32} (hc : isC c) {m0 : Mem} {rr : Int32} (h : f_X2_workplaceOf c p1 m0 = some rr) : Con yX2_workplaceOf cX2_workplaceOf 3 (some Jvm.ClassFile.FieldType.int) 2 42 (fun G => [.ref (ga G c), .int p1]) m0 (some (.int rr)) m0 := by
  refine con_of (by decide) (fun G => Nat.le_of_ble_eq_true rfl) (fun X F => ?_)
  show WA X 0 0 0 [(0, .ref (ga X.G c)), (1, .int p1)] [] m0 (EQ X (some (.int rr)) m0)
  rw [f_X2_workplaceOf] at h
  refine a_iconst (v := 0) (pc := 0) F dX2_workplaceOf_0 (by decide) ?_
  refine a_istore_n (lv' := [(2, .int 0), (0, .ref (ga X.G c)), (1, .int p1)]) (pc := 1) F dX2_workplaceOf_1 (by decide) rfl ?_
  refine a_lv F [1, 2, 0] rfl ?_
  replace h := jn_some h
  obtain ⟨t1, hL1, hK1, hB1⟩ := h
  have hE1 : ∀ (u : Unit), t1 = .inl u → WA X 0 0 41 [] [] m0 (EQ X (some (.int rr)) m0) := by
    intro u eo
    have h := hK1 _ eo
    clear hK1 eo
    refine a_iconst (v := (-1)) (pc := 41) F dX2_workplaceOf_41 (by decide) ?_
    cases h
    exact a_iret (pc := 42) F dX2_workplaceOf_42 ⟨_, rfl, rfl⟩
  clear hK1
  refine lp_run (P := fun (s : Int32) => WA X 0 0 2 [(0, .ref (ga X.G c)), (1, .int p1), (2, .int s)] [] m0 (EQ X (some (.int rr)) m0)) ?_ _ _ hL1
  clear hL1
  rintro x2 xo h hP1 hT1
  show WA X 0 0 2 [(0, .ref (ga X.G c)), (1, .int p1), (2, .int x2)] [] m0 (EQ X (some (.int rr)) m0)
  rw [f_X2_workplaceOf_L2] at h
  refine a_iload_n (pc := 2) F dX2_workplaceOf_2 2 rfl ?_
  refine a_aload_n (pc := 3) F dX2_workplaceOf_3 0 rfl ?_
  refine a_getr (k := c) (r := (c + 8)) (pc := 4) F dX2_workplaceOf_4 fl_RX2_21 (klC_0 hc) (ksC_0 hc) rfl ?_
  refine a_geti (k := (c + 8)) (pc := 7) F dX2_workplaceOf_7 fl_RX2_135 (klC_8 hc) (ksC_8 hc) rfl ?_
  refine a_icmp_ge (tgt := 41) (pc := 10) F dX2_workplaceOf_10 (by decide) (fun q3 => ?_) (fun q3 => ?_)
  · replace h := ite_t q3 h
    clear q3
    refine a_lv F [] rfl ?_
    exact hE1 _ (hT1 _ (Option.some.inj h).symm).symm
  · replace h := ite_f q3 h
    clear q3
    refine a_aload_n (pc := 13) F dX2_workplaceOf_13 0 rfl ?_
    refine a_iload_n (pc := 14) F dX2_workplaceOf_14 2 rfl ?_
    replace h := bnd_some h
    obtain ⟨x5, hc4, h⟩ := h
    refine a_callV (pc := 15) (k := c) (As := [.int x2]) (st := []) F dX2_workplaceOf_15 (m_X2_isUnderWay hc hc4) cv_RX2_145 (klC_0 hc) (ksC_0 hc) ⟨_, _, rfl⟩ rfl rfl rfl (Nat.le_of_ble_eq_true rfl) ⟨Nat.le_of_ble_eq_true rfl, Nat.le_of_ble_eq_true rfl⟩ ?_ rfl rfl
    clear hc4
    refine a_if_eq (tgt := 35) (pc := 18) F dX2_workplaceOf_18 (by decide) (fun q6 => ?_) (fun q6 => ?_)
    · replace h := ite_t q6 h
      clear q6
      obtain ⟨x7, ex7⟩ : ∃ x7 : Int32, x7 = x2 + 1 := ⟨_, rfl⟩
      refine a_iinc (v := x7) (lv' := [(2, .int x7), (0, .ref (ga X.G c)), (1, .int p1)]) (pc := 35) F dX2_workplaceOf_35 2 rfl (by rw [ex7]; rfl) (by decide) rfl ?_
      replace h := nm_at ex7 h
      clear ex7
      refine a_goto (tgt := 2) (pc := 38) F dX2_workplaceOf_38 (by decide) ?_
      refine a_lv F [1, 2, 0] rfl ?_
      exact hP1 _ (Option.some.inj h).symm
    · replace h := ite_f q6 h
      clear q6
      refine a_aload_n (pc := 21) F dX2_workplaceOf_21 0 rfl ?_
      refine a_getr (k := c) (r := (c + 8)) (pc := 22) F dX2_workplaceOf_22 fl_RX2_21 (klC_0 hc) (ksC_0 hc) rfl ?_
      refine a_iload_n (pc := 25) F dX2_workplaceOf_25 2 rfl ?_
      refine a_iload_n (pc := 26) F dX2_workplaceOf_26 1 rfl ?_
      replace h := bnd_some h
      obtain ⟨x9, hc8, h⟩ := h
      refine a_callV (pc := 27) (k := (c + 8)) (As := [.int x2, .int p1]) (st := []) F dX2_workplaceOf_27 (m_X3_holds hc hc8) cv_RX2_163 (klC_8 hc) (ksC_8 hc) ⟨_, _, rfl⟩ rfl rfl rfl (Nat.le_of_ble_eq_true rfl) ⟨Nat.le_of_ble_eq_true rfl, Nat.le_of_ble_eq_true rfl⟩ ?_ rfl rfl
      clear hc8
      refine a_if_eq (tgt := 35) (pc := 30) F dX2_workplaceOf_30 (by decide) (fun q10 => ?_) (fun q10 => ?_)
      · replace h := ite_t q10 h
        clear q10
        obtain ⟨x11, ex11⟩ : ∃ x11 : Int32, x11 = x2 + 1 := ⟨_, rfl⟩
        refine a_iinc (v := x11) (lv' := [(2, .int x11), (0, .ref (ga X.G c)), (1, .int p1)]) (pc := 35) F dX2_workplaceOf_35 2 rfl (by rw [ex11]; rfl) (by decide) rfl ?_
        replace h := nm_at ex11 h
        clear ex11
        refine a_goto (tgt := 2) (pc := 38) F dX2_workplaceOf_38 (by decide) ?_
        refine a_lv F [1, 2, 0] rfl ?_
        exact hP1 _ (Option.some.inj h).symm
      · replace h := ite_f q10 h
        clear q10
        refine a_iload_n (pc := 33) F dX2_workplaceOf_33 2 rfl ?_
        replace h := hB1 _ (hT1 _ (Option.some.inj h).symm).symm
        cases h
        exact a_iret (pc := 34) F dX2_workplaceOf_34 ⟨_, rfl, rfl⟩
def f_X2_ofInterpreter (c : Nat) (p1 : Int32) (p2 : Int32) (m0 : Mem) : Option Int32 :=
  (if p2 = 0 then gIn p1 10 <| nm (m0.1 (c + 2) p1.toNatClampNeg) fun x3 => some x3 else (if p2 = 1 then gIn p1 10 <| nm (m0.1 (c + 3) p1.toNatClampNeg) fun x6 => some x6 else (if p2 = 2 then gIn p1 10 <| nm (m0.1 (c + 4) p1.toNatClampNeg) fun x9 => some x9 else (if p2 = 3 then gIn p1 10 <| nm (m0.1 (c + 5) p1.toNatClampNeg) fun x12 => some x12 else (if p2 = 4 then gIn p1 10 <| nm (m0.1 (c + 6) p1.toNatClampNeg) fun x15 => some x15 else (if p2 = 5 then bnd (f_X3_listedWith c p1 m0) fun x18 => some x18 else (if p2 = 6 then bnd (f_X2_workplaceOf c p1 m0) fun x21 => some x21 else (if p2 = 7 then gIn p1 10 <| nm (m0.1 (c + 7) p1.toNatClampNeg) fun x24 => some x24 else some (-1)))))))))
set_option maxRecDepth 100000 in
set_option maxHeartbeats 4000000 in
theorem m_X2_ofInterpreter {c : Nat} {p1 : Int32} {p2 : Int32} (hc : isC c) {m0 : Mem} {rr : Int32} (h : f_X2_ofInterpreter c p1 p2 m0 = some rr) : Con yX2_ofInterpreter cX2_ofInterpreter 3 (some Jvm.ClassFile.FieldType.int) 3 65 (fun G => [.ref (ga G c), .int p1, .int p2]) m0 (some (.int rr)) m0 := by
  refine con_of (by decide) (fun G => Nat.le_of_ble_eq_true rfl) (fun X F => ?_)
  show WA X 0 0 0 [(0, .ref (ga X.G c)), (1, .int p1), (2, .int p2)] [] m0 (EQ X (some (.int rr)) m0)
  rw [f_X2_ofInterpreter] at h
  refine a_iload_n (pc := 0) F dX2_ofInterpreter_0 2 rfl ?_
  by_cases q1 : p2 = 0
  · replace h := ite_t q1 h
    refine a_swin (pc := 1) (tgt := 48) F dX2_ofInterpreter_1 (by rw [q1]; decide) (by rw [q1]; decide) (by rw [q1]; rfl) (by decide) ?_
    clear q1
    refine a_aload_n (pc := 48) F dX2_ofInterpreter_48 0 rfl ?_
    refine a_getr (k := c) (r := (c + 1)) (pc := 49) F dX2_ofInterpreter_49 fl_RX2_12 (klC_0 hc) (ksC_0 hc) rfl ?_
    refine a_getr (k := (c + 1)) (r := (c + 2)) (pc := 52) F dX2_ofInterpreter_52 fl_RX2_167 (klC_1 hc) (ksC_1 hc) rfl ?_
    refine a_iload_n (pc := 55) F dX2_ofInterpreter_55 1 rfl ?_
    replace h := gIn_some h
    obtain ⟨g2, h⟩ := h
    refine a_ial (k := (c + 2)) (pc := 56) F dX2_ofInterpreter_56 (klC_2 hc) (ksC_2 hc) g2 ?_
    refine a_nmi fun x3 ex3 => ?_
    replace h := nm_at ex3 h
    clear ex3
    cases h
    exact a_iret (pc := 57) F dX2_ofInterpreter_57 ⟨_, rfl, rfl⟩
  replace h := ite_f q1 h
  by_cases q4 : p2 = 1
  · replace h := ite_t q4 h
    refine a_swin (pc := 1) (tgt := 58) F dX2_ofInterpreter_1 (by rw [q4]; decide) (by rw [q4]; decide) (by rw [q4]; rfl) (by decide) ?_
    clear q4
    refine a_aload_n (pc := 58) F dX2_ofInterpreter_58 0 rfl ?_
    refine a_getr (k := c) (r := (c + 1)) (pc := 59) F dX2_ofInterpreter_59 fl_RX2_12 (klC_0 hc) (ksC_0 hc) rfl ?_
    refine a_getr (k := (c + 1)) (r := (c + 3)) (pc := 62) F dX2_ofInterpreter_62 fl_RX2_170 (klC_1 hc) (ksC_1 hc) rfl ?_
    refine a_iload_n (pc := 65) F dX2_ofInterpreter_65 1 rfl ?_
    replace h := gIn_some h
    obtain ⟨g5, h⟩ := h
    refine a_ial (k := (c + 3)) (pc := 66) F dX2_ofInterpreter_66 (klC_3 hc) (ksC_3 hc) g5 ?_
    refine a_nmi fun x6 ex6 => ?_
    replace h := nm_at ex6 h
    clear ex6
    cases h
    exact a_iret (pc := 67) F dX2_ofInterpreter_67 ⟨_, rfl, rfl⟩
  replace h := ite_f q4 h
  by_cases q7 : p2 = 2
  · replace h := ite_t q7 h
    refine a_swin (pc := 1) (tgt := 68) F dX2_ofInterpreter_1 (by rw [q7]; decide) (by rw [q7]; decide) (by rw [q7]; rfl) (by decide) ?_
    clear q7
    refine a_aload_n (pc := 68) F dX2_ofInterpreter_68 0 rfl ?_
    refine a_getr (k := c) (r := (c + 1)) (pc := 69) F dX2_ofInterpreter_69 fl_RX2_12 (klC_0 hc) (ksC_0 hc) rfl ?_
    refine a_getr (k := (c + 1)) (r := (c + 4)) (pc := 72) F dX2_ofInterpreter_72 fl_RX2_97 (klC_1 hc) (ksC_1 hc) rfl ?_
    refine a_iload_n (pc := 75) F dX2_ofInterpreter_75 1 rfl ?_
    replace h := gIn_some h
    obtain ⟨g8, h⟩ := h
    refine a_ial (k := (c + 4)) (pc := 76) F dX2_ofInterpreter_76 (klC_4 hc) (ksC_4 hc) g8 ?_
    refine a_nmi fun x9 ex9 => ?_
    replace h := nm_at ex9 h
    clear ex9
    cases h
    exact a_iret (pc := 77) F dX2_ofInterpreter_77 ⟨_, rfl, rfl⟩
  replace h := ite_f q7 h
  by_cases q10 : p2 = 3
  · replace h := ite_t q10 h
    refine a_swin (pc := 1) (tgt := 78) F dX2_ofInterpreter_1 (by rw [q10]; decide) (by rw [q10]; decide) (by rw [q10]; rfl) (by decide) ?_
    clear q10
    refine a_aload_n (pc := 78) F dX2_ofInterpreter_78 0 rfl ?_
    refine a_getr (k := c) (r := (c + 1)) (pc := 79) F dX2_ofInterpreter_79 fl_RX2_12 (klC_0 hc) (ksC_0 hc) rfl ?_
    refine a_getr (k := (c + 1)) (r := (c + 5)) (pc := 82) F dX2_ofInterpreter_82 fl_RX2_173 (klC_1 hc) (ksC_1 hc) rfl ?_
    refine a_iload_n (pc := 85) F dX2_ofInterpreter_85 1 rfl ?_
    replace h := gIn_some h
    obtain ⟨g11, h⟩ := h
    refine a_ial (k := (c + 5)) (pc := 86) F dX2_ofInterpreter_86 (klC_5 hc) (ksC_5 hc) g11 ?_
    refine a_nmi fun x12 ex12 => ?_
    replace h := nm_at ex12 h
    clear ex12
    cases h
    exact a_iret (pc := 87) F dX2_ofInterpreter_87 ⟨_, rfl, rfl⟩
  replace h := ite_f q10 h
  by_cases q13 : p2 = 4
  · replace h := ite_t q13 h
    refine a_swin (pc := 1) (tgt := 88) F dX2_ofInterpreter_1 (by rw [q13]; decide) (by rw [q13]; decide) (by rw [q13]; rfl) (by decide) ?_
    clear q13
    refine a_aload_n (pc := 88) F dX2_ofInterpreter_88 0 rfl ?_
    refine a_getr (k := c) (r := (c + 1)) (pc := 89) F dX2_ofInterpreter_89 fl_RX2_12 (klC_0 hc) (ksC_0 hc) rfl ?_
    refine a_getr (k := (c + 1)) (r := (c + 6)) (pc := 92) F dX2_ofInterpreter_92 fl_RX2_176 (klC_1 hc) (ksC_1 hc) rfl ?_
    refine a_iload_n (pc := 95) F dX2_ofInterpreter_95 1 rfl ?_
    replace h := gIn_some h
    obtain ⟨g14, h⟩ := h
    refine a_ial (k := (c + 6)) (pc := 96) F dX2_ofInterpreter_96 (klC_6 hc) (ksC_6 hc) g14 ?_
    refine a_nmi fun x15 ex15 => ?_
    replace h := nm_at ex15 h
    clear ex15
    cases h
    exact a_iret (pc := 97) F dX2_ofInterpreter_97 ⟨_, rfl, rfl⟩
  replace h := ite_f q13 h
  by_cases q16 : p2 = 5
  · replace h := ite_t q16 h
    refine a_swin (pc := 1) (tgt := 98) F dX2_ofInterpreter_1 (by rw [q16]; decide) (by rw [q16]; decide) (by rw [q16]; rfl) (by decide) ?_
    clear q16
    refine a_aload_n (pc := 98) F dX2_ofInterpreter_98 0 rfl ?_
    refine a_getr (k := c) (r := (c + 8)) (pc := 99) F dX2_ofInterpreter_99 fl_RX2_21 (klC_0 hc) (ksC_0 hc) rfl ?_
    refine a_iload_n (pc := 102) F dX2_ofInterpreter_102 1 rfl ?_
    replace h := bnd_some h
    obtain ⟨x18, hc17, h⟩ := h
    refine a_callV (pc := 103) (k := (c + 8)) (As := [.int p1]) (st := []) F dX2_ofInterpreter_103 (m_X3_listedWith hc hc17) cv_RX2_177 (klC_8 hc) (ksC_8 hc) ⟨_, _, rfl⟩ rfl rfl rfl (Nat.le_of_ble_eq_true rfl) ⟨Nat.le_of_ble_eq_true rfl, Nat.le_of_ble_eq_true rfl⟩ ?_ rfl rfl
    clear hc17
    cases h
    exact a_iret (pc := 106) F dX2_ofInterpreter_106 ⟨_, rfl, rfl⟩
  replace h := ite_f q16 h
  by_cases q19 : p2 = 6
  · replace h := ite_t q19 h
    refine a_swin (pc := 1) (tgt := 107) F dX2_ofInterpreter_1 (by rw [q19]; decide) (by rw [q19]; decide) (by rw [q19]; rfl) (by decide) ?_
    clear q19
    refine a_aload_n (pc := 107) F dX2_ofInterpreter_107 0 rfl ?_
    refine a_iload_n (pc := 108) F dX2_ofInterpreter_108 1 rfl ?_
    replace h := bnd_some h
    obtain ⟨x21, hc20, h⟩ := h
    refine a_callV (pc := 109) (k := c) (As := [.int p1]) (st := []) F dX2_ofInterpreter_109 (m_X2_workplaceOf hc hc20) cv_RX2_180 (klC_0 hc) (ksC_0 hc) ⟨_, _, rfl⟩ rfl rfl rfl (Nat.le_of_ble_eq_true rfl) ⟨Nat.le_of_ble_eq_true rfl, Nat.le_of_ble_eq_true rfl⟩ ?_ rfl rfl
    clear hc20
    cases h
    exact a_iret (pc := 112) F dX2_ofInterpreter_112 ⟨_, rfl, rfl⟩
  replace h := ite_f q19 h
  by_cases q22 : p2 = 7
  · replace h := ite_t q22 h
    refine a_swin (pc := 1) (tgt := 113) F dX2_ofInterpreter_1 (by rw [q22]; decide) (by rw [q22]; decide) (by rw [q22]; rfl) (by decide) ?_
    clear q22
    refine a_aload_n (pc := 113) F dX2_ofInterpreter_113 0 rfl ?_
    refine a_getr (k := c) (r := (c + 1)) (pc := 114) F dX2_ofInterpreter_114 fl_RX2_12 (klC_0 hc) (ksC_0 hc) rfl ?_
    refine a_getr (k := (c + 1)) (r := (c + 7)) (pc := 117) F dX2_ofInterpreter_117 fl_RX2_183 (klC_1 hc) (ksC_1 hc) rfl ?_
    refine a_iload_n (pc := 120) F dX2_ofInterpreter_120 1 rfl ?_
    replace h := gIn_some h
    obtain ⟨g23, h⟩ := h
    refine a_ial (k := (c + 7)) (pc := 121) F dX2_ofInterpreter_121 (klC_7 hc) (ksC_7 hc) g23 ?_
    refine a_nmi fun x24 ex24 => ?_
    replace h := nm_at ex24 h
    clear ex24
    cases h
    exact a_iret (pc := 122) F dX2_ofInterpreter_122 ⟨_, rfl, rfl⟩
  replace h := ite_f q22 h
  refine a_swout (pc := 1) (tgt := 123) F dX2_ofInterpreter_1 (by have nq1 := lv_neT (a := 0) q1 (by decide); have nq4 := lv_neT (a := 1) q4 (by decide); have nq7 := lv_neT (a := 2) q7 (by decide); have nq10 := lv_neT (a := 3) q10 (by decide); have nq13 := lv_neT (a := 4) q13 (by decide); have nq16 := lv_neT (a := 5) q16 (by decide); have nq19 := lv_neT (a := 6) q19 (by decide); have nq22 := lv_neT (a := 7) q22 (by decide); omega) (by decide) ?_
  clear q1
  clear q4
  clear q7
  clear q10
  clear q13
  clear q16
  clear q19
  clear q22
  refine a_iconst (v := (-1)) (pc := 123) F dX2_ofInterpreter_123 (by decide) ?_
  cases h
  exact a_iret (pc := 124) F dX2_ofInterpreter_124 ⟨_, rfl, rfl⟩
def f_X7_interpreter (p1 : Int32) (p2 : Int32) (m0 : Mem) : Option Int32 :=
  bnd (f_X6_has 1 p1 m0) fun x2 => (if x2 = 0 then none else bnd (f_X7_within p2 0 7 m0) fun x5 => (if x5 = 0 then none else bnd (f_X2_ofInterpreter 1 p1 p2 m0) fun x8 => some x8))
set_option maxRecDepth 100000 in
set_option maxHeartbeats 4000000 in
theorem m_X7_interpreter {p1 : Int32} {p2 : Int32} {m0 : Mem} {rr : Int32} (h : f_X7_interpreter p1 p2 m0 = some rr) : Con yX7_interpreter cX7_interpreter 3 (some Jvm.ClassFile.FieldType.int) 4 87 (fun G => [.ref (ga G 0), .int p1, .int p2]) m0 (some (.int rr)) m0 := by
  refine con_of (by decide) (fun G => Nat.le_of_ble_eq_true rfl) (fun X F => ?_)
  show WA X 0 0 0 [(0, .ref (ga X.G 0)), (1, .int p1), (2, .int p2)] [] m0 (EQ X (some (.int rr)) m0)
  rw [f_X7_interpreter] at h
  refine a_aload_n (pc := 0) F dX7_interpreter_0 0 rfl ?_
  refine a_getr (k := 0) (r := 1) (pc := 1) F dX7_interpreter_1 fl_RX7_10 kl_0 ks_0 rfl ?_
  refine a_getr (k := 1) (r := (1 + 1)) (pc := 4) F dX7_interpreter_4 fl_RX7_64 (klC_0 isC_1) (ksC_0 isC_1) rfl ?_
  refine a_iload_n (pc := 7) F dX7_interpreter_7 1 rfl ?_
  replace h := bnd_some h
  obtain ⟨x2, hc1, h⟩ := h
  refine a_callV (pc := 8) (k := (1 + 1)) (As := [.int p1]) (st := []) F dX7_interpreter_8 (m_X6_has isC_1 hc1) cv_RX7_105 (klC_1 isC_1) (ksC_1 isC_1) ⟨_, _, rfl⟩ rfl rfl rfl (Nat.le_of_ble_eq_true rfl) ⟨Nat.le_of_ble_eq_true rfl, Nat.le_of_ble_eq_true rfl⟩ ?_ rfl rfl
  clear hc1
  refine a_if_ne (tgt := 24) (pc := 11) F dX7_interpreter_11 (by decide) (fun q3 => ?_) (fun q3 => ?_)
  · replace h := ite_f q3 h
    clear q3
    refine a_iload_n (pc := 24) F dX7_interpreter_24 2 rfl ?_
    refine a_iconst (v := 0) (pc := 25) F dX7_interpreter_25 (by decide) ?_
    refine a_bipush (v := 7) (pc := 26) F dX7_interpreter_26 (by decide) ?_
    replace h := bnd_some h
    obtain ⟨x5, hc4, h⟩ := h
    refine a_callS (pc := 28) (As := [.int p2, .int 0, .int 7]) (st := []) F dX7_interpreter_28 (m_X7_within hc4) cs_RX7_47 rfl rfl rfl (Nat.le_of_ble_eq_true rfl) ⟨Nat.le_of_ble_eq_true rfl, Nat.le_of_ble_eq_true rfl⟩ ?_ rfl rfl
    clear hc4
    refine a_if_ne (tgt := 44) (pc := 31) F dX7_interpreter_31 (by decide) (fun q6 => ?_) (fun q6 => ?_)
    · replace h := ite_f q6 h
      clear q6
      refine a_aload_n (pc := 44) F dX7_interpreter_44 0 rfl ?_
      refine a_getr (k := 0) (r := 1) (pc := 45) F dX7_interpreter_45 fl_RX7_10 kl_0 ks_0 rfl ?_
      refine a_iload_n (pc := 48) F dX7_interpreter_48 1 rfl ?_
      refine a_iload_n (pc := 49) F dX7_interpreter_49 2 rfl ?_
      replace h := bnd_some h
      obtain ⟨x8, hc7, h⟩ := h
      refine a_callV (pc := 50) (k := 1) (As := [.int p1, .int p2]) (st := []) F dX7_interpreter_50 (m_X2_ofInterpreter isC_1 hc7) cv_RX7_235 (klC_0 isC_1) (ksC_0 isC_1) ⟨_, _, rfl⟩ rfl rfl rfl (Nat.le_of_ble_eq_true rfl) ⟨Nat.le_of_ble_eq_true rfl, Nat.le_of_ble_eq_true rfl⟩ ?_ rfl rfl
      clear hc7
      cases h
      exact a_iret (pc := 53) F dX7_interpreter_53 ⟨_, rfl, rfl⟩
    · replace h := ite_t (Decidable.not_not.mp q6) h
      clear q6
      cases h
  · replace h := ite_t (Decidable.not_not.mp q3) h
    clear q3
    cases h
def f_X3_clashesOf_L4 (c : Nat) (p1 : Int32) (m0 : Mem) : (Int32 × Int32) → Option ((Int32 × Int32) ⊕ Int32)
  | (x2, x3) => (if (m0.1 (c + 8) 0) ≤ x3 then some (.inr x2) else bnd (f_X3_listedAndClashing c x3 p1 m0) fun x6 => (if x6 = 0 then nm (x3 + 1) fun x8 => some (.inl (x2, x8)) else nm (x2 + 1) fun x9 => nm (x3 + 1) fun x10 => some (.inl (x9, x10))))
def f_X3_clashesOf (c : Nat) (p1 : Int32) (m0 : Mem) : Option Int32 :=
  bnd (lp (f_X3_clashesOf_L4 c p1 m0) 1000000 (0, 0)) (fun x11 => some x11)
set_option maxRecDepth 100000 in
set_option maxHeartbeats 4000000 in
theorem m_X3_clashesOf {c : Nat} {p1 : Int32} (hc : isC c) {m0 : Mem} {rr : Int32} (h : f_X3_clashesOf c p1 m0 = some rr) : Con yX3_clashesOf cX3_clashesOf 4 (some Jvm.ClassFile.FieldType.int) 2 43 (fun G => [.ref (ga G (c + 8)), .int p1]) m0 (some (.int rr)) m0 := by
  refine con_of (by decide) (fun G => Nat.le_of_ble_eq_true rfl) (fun X F => ?_)
  show WA X 0 0 0 [(0, .ref (ga X.G (c + 8))), (1, .int p1)] [] m0 (EQ X (some (.int rr)) m0)
  rw [f_X3_clashesOf] at h
  refine a_iconst (v := 0) (pc := 0) F dX3_clashesOf_0 (by decide) ?_
  refine a_istore_n (lv' := [(2, .int 0), (0, .ref (ga X.G (c + 8))), (1, .int p1)]) (pc := 1) F dX3_clashesOf_1 (by decide) rfl ?_
  refine a_iconst (v := 0) (pc := 2) F dX3_clashesOf_2 (by decide) ?_
  refine a_istore_n (lv' := [(3, .int 0), (2, .int 0), (0, .ref (ga X.G (c + 8))), (1, .int p1)]) (pc := 3) F dX3_clashesOf_3 (by decide) rfl ?_
  refine a_lv F [2, 3, 1, 0] rfl ?_
  replace h := bnd_some h
  obtain ⟨x11, hL1, h⟩ := h
  have hE1 : WA X 0 0 30 [(2, .int x11)] [] m0 (EQ X (some (.int rr)) m0) := by
    refine a_iload_n (pc := 30) F dX3_clashesOf_30 0 rfl ?_
    cases h
    exact a_iret (pc := 31) F dX3_clashesOf_31 ⟨_, rfl, rfl⟩
  clear h
  refine lp_run (P := fun (s : (Int32 × Int32)) => WA X 0 0 4 [(0, .ref (ga X.G (c + 8))), (1, .int p1), (2, .int s.1), (3, .int s.2)] [] m0 (EQ X (some (.int rr)) m0)) ?_ _ _ hL1
  clear hL1
  rintro ⟨x2, x3⟩ xo h hP1 hT1
  show WA X 0 0 4 [(0, .ref (ga X.G (c + 8))), (1, .int p1), (2, .int x2), (3, .int x3)] [] m0 (EQ X (some (.int rr)) m0)
  rw [f_X3_clashesOf_L4] at h
  refine a_iload_n (pc := 4) F dX3_clashesOf_4 3 rfl ?_
  refine a_aload_n (pc := 5) F dX3_clashesOf_5 0 rfl ?_
  refine a_geti (k := (c + 8)) (pc := 6) F dX3_clashesOf_6 fl_RX3_39 (klC_8 hc) (ksC_8 hc) rfl ?_
  refine a_icmp_ge (tgt := 30) (pc := 9) F dX3_clashesOf_9 (by decide) (fun q4 => ?_) (fun q4 => ?_)
  · replace h := ite_t q4 h
    clear q4
    refine a_lv F [2] rfl ?_
    cases hT1 _ (Option.some.inj h).symm
    exact hE1
  · replace h := ite_f q4 h
    clear q4
    refine a_aload_n (pc := 12) F dX3_clashesOf_12 0 rfl ?_
    refine a_iload_n (pc := 13) F dX3_clashesOf_13 3 rfl ?_
    refine a_iload_n (pc := 14) F dX3_clashesOf_14 1 rfl ?_
    replace h := bnd_some h
    obtain ⟨x6, hc5, h⟩ := h
    refine a_callV (pc := 15) (k := (c + 8)) (As := [.int x3, .int p1]) (st := []) F dX3_clashesOf_15 (m_X3_listedAndClashing hc hc5) cv_RX3_76 (klC_8 hc) (ksC_8 hc) ⟨_, _, rfl⟩ rfl rfl rfl (Nat.le_of_ble_eq_true rfl) ⟨Nat.le_of_ble_eq_true rfl, Nat.le_of_ble_eq_true rfl⟩ ?_ rfl rfl
    clear hc5
    refine a_if_eq (tgt := 24) (pc := 18) F dX3_clashesOf_18 (by decide) (fun q7 => ?_) (fun q7 => ?_)
    · replace h := ite_t q7 h
      clear q7
      obtain ⟨x8, ex8⟩ : ∃ x8 : Int32, x8 = x3 + 1 := ⟨_, rfl⟩
      refine a_iinc (v := x8) (lv' := [(3, .int x8), (0, .ref (ga X.G (c + 8))), (1, .int p1), (2, .int x2)]) (pc := 24) F dX3_clashesOf_24 3 rfl (by rw [ex8]; rfl) (by decide) rfl ?_
      replace h := nm_at ex8 h
      clear ex8
      refine a_goto (tgt := 4) (pc := 27) F dX3_clashesOf_27 (by decide) ?_
      refine a_lv F [1, 2, 3, 0] rfl ?_
      exact hP1 _ (Option.some.inj h).symm
    · replace h := ite_f q7 h
      clear q7
      obtain ⟨x9, ex9⟩ : ∃ x9 : Int32, x9 = x2 + 1 := ⟨_, rfl⟩
      refine a_iinc (v := x9) (lv' := [(2, .int x9), (0, .ref (ga X.G (c + 8))), (1, .int p1), (3, .int x3)]) (pc := 21) F dX3_clashesOf_21 2 rfl (by rw [ex9]; rfl) (by decide) rfl ?_
      replace h := nm_at ex9 h
      clear ex9
      obtain ⟨x10, ex10⟩ : ∃ x10 : Int32, x10 = x3 + 1 := ⟨_, rfl⟩
      refine a_iinc (v := x10) (lv' := [(3, .int x10), (2, .int x9), (0, .ref (ga X.G (c + 8))), (1, .int p1)]) (pc := 24) F dX3_clashesOf_24 3 rfl (by rw [ex10]; rfl) (by decide) rfl ?_
      replace h := nm_at ex10 h
      clear ex10
      refine a_goto (tgt := 4) (pc := 27) F dX3_clashesOf_27 (by decide) ?_
      refine a_lv F [2, 3, 1, 0] rfl ?_
      exact hP1 _ (Option.some.inj h).symm
def f_X2_ofHearing (c : Nat) (p1 : Int32) (p2 : Int32) (m0 : Mem) : Option Int32 :=
  (if p2 = 0 then gIn p1 30 <| nm (m0.1 (c + 9) p1.toNatClampNeg) fun x3 => some x3 else (if p2 = 1 then gIn p1 30 <| nm (m0.1 (c + 10) p1.toNatClampNeg) fun x6 => some x6 else (if p2 = 2 then gIn p1 30 <| nm (m0.1 (c + 11) p1.toNatClampNeg) fun x9 => some x9 else (if p2 = 3 then gIn p1 30 <| nm (m0.1 (c + 12) p1.toNatClampNeg) fun x12 => some x12 else (if p2 = 4 then gIn p1 30 <| nm (m0.1 (c + 13) p1.toNatClampNeg) fun x15 => some x15 else (if p2 = 5 then gIn p1 30 <| nm (m0.1 (c + 14) p1.toNatClampNeg) fun x18 => some x18 else (if p2 = 6 then bnd (f_X3_member c p1 0 m0) fun x21 => some x21 else (if p2 = 7 then bnd (f_X3_member c p1 1 m0) fun x24 => some x24 else (if p2 = 8 then bnd (f_X3_member c p1 2 m0) fun x27 => some x27 else (if p2 = 9 then bnd (f_X2_chainPay c p1 2 m0) fun x30 => some x30 else (if p2 = 10 then gIn p1 30 <| nm (m0.1 (c + 15) p1.toNatClampNeg) fun x33 => some x33 else (if p2 = 11 then bnd (f_X3_isListed c p1 m0) fun x36 => (if x36 = 0 then some 0 else bnd (f_X3_clashesOf c p1 m0) fun x39 => some x39) else some (-1)))))))))))))
set_option maxRecDepth 100000 in
set_option maxHeartbeats 4000000 in
theorem m_X2_ofHearing {c : Nat} {p1 : Int32} {p2 : Int32} (hc : isC c) {m0 : Mem} {rr : Int32} (h : f_X2_ofHearing c p1 p2 m0 = some rr) : Con yX2_ofHearing cX2_ofHearing 3 (some Jvm.ClassFile.FieldType.int) 3 71 (fun G => [.ref (ga G c), .int p1, .int p2]) m0 (some (.int rr)) m0 := by
  refine con_of (by decide) (fun G => Nat.le_of_ble_eq_true rfl) (fun X F => ?_)
  show WA X 0 0 0 [(0, .ref (ga X.G c)), (1, .int p1), (2, .int p2)] [] m0 (EQ X (some (.int rr)) m0)
  rw [f_X2_ofHearing] at h
  refine a_iload_n (pc := 0) F dX2_ofHearing_0 2 rfl ?_
  by_cases q1 : p2 = 0
  · replace h := ite_t q1 h
    refine a_swin (pc := 1) (tgt := 64) F dX2_ofHearing_1 (by rw [q1]; decide) (by rw [q1]; decide) (by rw [q1]; rfl) (by decide) ?_
    clear q1
    refine a_aload_n (pc := 64) F dX2_ofHearing_64 0 rfl ?_
    refine a_getr (k := c) (r := (c + 8)) (pc := 65) F dX2_ofHearing_65 fl_RX2_21 (klC_0 hc) (ksC_0 hc) rfl ?_
    refine a_getr (k := (c + 8)) (r := (c + 9)) (pc := 68) F dX2_ofHearing_68 fl_RX2_84 (klC_8 hc) (ksC_8 hc) rfl ?_
    refine a_iload_n (pc := 71) F dX2_ofHearing_71 1 rfl ?_
    replace h := gIn_some h
    obtain ⟨g2, h⟩ := h
    refine a_ial (k := (c + 9)) (pc := 72) F dX2_ofHearing_72 (klC_9 hc) (ksC_9 hc) g2 ?_
    refine a_nmi fun x3 ex3 => ?_
    replace h := nm_at ex3 h
    clear ex3
    cases h
    exact a_iret (pc := 73) F dX2_ofHearing_73 ⟨_, rfl, rfl⟩
  replace h := ite_f q1 h
  by_cases q4 : p2 = 1
  · replace h := ite_t q4 h
    refine a_swin (pc := 1) (tgt := 74) F dX2_ofHearing_1 (by rw [q4]; decide) (by rw [q4]; decide) (by rw [q4]; rfl) (by decide) ?_
    clear q4
    refine a_aload_n (pc := 74) F dX2_ofHearing_74 0 rfl ?_
    refine a_getr (k := c) (r := (c + 8)) (pc := 75) F dX2_ofHearing_75 fl_RX2_21 (klC_0 hc) (ksC_0 hc) rfl ?_
    refine a_getr (k := (c + 8)) (r := (c + 10)) (pc := 78) F dX2_ofHearing_78 fl_RX2_73 (klC_8 hc) (ksC_8 hc) rfl ?_
    refine a_iload_n (pc := 81) F dX2_ofHearing_81 1 rfl ?_
    replace h := gIn_some h
    obtain ⟨g5, h⟩ := h
    refine a_ial (k := (c + 10)) (pc := 82) F dX2_ofHearing_82 (klC_10 hc) (ksC_10 hc) g5 ?_
    refine a_nmi fun x6 ex6 => ?_
    replace h := nm_at ex6 h
    clear ex6
    cases h
    exact a_iret (pc := 83) F dX2_ofHearing_83 ⟨_, rfl, rfl⟩
  replace h := ite_f q4 h
  by_cases q7 : p2 = 2
  · replace h := ite_t q7 h
    refine a_swin (pc := 1) (tgt := 84) F dX2_ofHearing_1 (by rw [q7]; decide) (by rw [q7]; decide) (by rw [q7]; rfl) (by decide) ?_
    clear q7
    refine a_aload_n (pc := 84) F dX2_ofHearing_84 0 rfl ?_
    refine a_getr (k := c) (r := (c + 8)) (pc := 85) F dX2_ofHearing_85 fl_RX2_21 (klC_0 hc) (ksC_0 hc) rfl ?_
    refine a_getr (k := (c + 8)) (r := (c + 11)) (pc := 88) F dX2_ofHearing_88 fl_RX2_63 (klC_8 hc) (ksC_8 hc) rfl ?_
    refine a_iload_n (pc := 91) F dX2_ofHearing_91 1 rfl ?_
    replace h := gIn_some h
    obtain ⟨g8, h⟩ := h
    refine a_ial (k := (c + 11)) (pc := 92) F dX2_ofHearing_92 (klC_11 hc) (ksC_11 hc) g8 ?_
    refine a_nmi fun x9 ex9 => ?_
    replace h := nm_at ex9 h
    clear ex9
    cases h
    exact a_iret (pc := 93) F dX2_ofHearing_93 ⟨_, rfl, rfl⟩
  replace h := ite_f q7 h
  by_cases q10 : p2 = 3
  · replace h := ite_t q10 h
    refine a_swin (pc := 1) (tgt := 94) F dX2_ofHearing_1 (by rw [q10]; decide) (by rw [q10]; decide) (by rw [q10]; rfl) (by decide) ?_
    clear q10
    refine a_aload_n (pc := 94) F dX2_ofHearing_94 0 rfl ?_
    refine a_getr (k := c) (r := (c + 8)) (pc := 95) F dX2_ofHearing_95 fl_RX2_21 (klC_0 hc) (ksC_0 hc) rfl ?_
    refine a_getr (k := (c + 8)) (r := (c + 12)) (pc := 98) F dX2_ofHearing_98 fl_RX2_100 (klC_8 hc) (ksC_8 hc) rfl ?_
    refine a_iload_n (pc := 101) F dX2_ofHearing_101 1 rfl ?_
    replace h := gIn_some h
    obtain ⟨g11, h⟩ := h
    refine a_ial (k := (c + 12)) (pc := 102) F dX2_ofHearing_102 (klC_12 hc) (ksC_12 hc) g11 ?_
    refine a_nmi fun x12 ex12 => ?_
    replace h := nm_at ex12 h
    clear ex12
    cases h
    exact a_iret (pc := 103) F dX2_ofHearing_103 ⟨_, rfl, rfl⟩
  replace h := ite_f q10 h
  by_cases q13 : p2 = 4
  · replace h := ite_t q13 h
    refine a_swin (pc := 1) (tgt := 104) F dX2_ofHearing_1 (by rw [q13]; decide) (by rw [q13]; decide) (by rw [q13]; rfl) (by decide) ?_
    clear q13
    refine a_aload_n (pc := 104) F dX2_ofHearing_104 0 rfl ?_
    refine a_getr (k := c) (r := (c + 8)) (pc := 105) F dX2_ofHearing_105 fl_RX2_21 (klC_0 hc) (ksC_0 hc) rfl ?_
    refine a_getr (k := (c + 8)) (r := (c + 13)) (pc := 108) F dX2_ofHearing_108 fl_RX2_127 (klC_8 hc) (ksC_8 hc) rfl ?_
    refine a_iload_n (pc := 111) F dX2_ofHearing_111 1 rfl ?_
    replace h := gIn_some h
    obtain ⟨g14, h⟩ := h
    refine a_ial (k := (c + 13)) (pc := 112) F dX2_ofHearing_112 (klC_13 hc) (ksC_13 hc) g14 ?_
    refine a_nmi fun x15 ex15 => ?_
    replace h := nm_at ex15 h
    clear ex15
    cases h
    exact a_iret (pc := 113) F dX2_ofHearing_113 ⟨_, rfl, rfl⟩
  replace h := ite_f q13 h
  by_cases q16 : p2 = 5
  · replace h := ite_t q16 h
    refine a_swin (pc := 1) (tgt := 114) F dX2_ofHearing_1 (by rw [q16]; decide) (by rw [q16]; decide) (by rw [q16]; rfl) (by decide) ?_
    clear q16
    refine a_aload_n (pc := 114) F dX2_ofHearing_114 0 rfl ?_
    refine a_getr (k := c) (r := (c + 8)) (pc := 115) F dX2_ofHearing_115 fl_RX2_21 (klC_0 hc) (ksC_0 hc) rfl ?_
    refine a_getr (k := (c + 8)) (r := (c + 14)) (pc := 118) F dX2_ofHearing_118 fl_RX2_107 (klC_8 hc) (ksC_8 hc) rfl ?_
    refine a_iload_n (pc := 121) F dX2_ofHearing_121 1 rfl ?_
    replace h := gIn_some h
    obtain ⟨g17, h⟩ := h
    refine a_ial (k := (c + 14)) (pc := 122) F dX2_ofHearing_122 (klC_14 hc) (ksC_14 hc) g17 ?_
    refine a_nmi fun x18 ex18 => ?_
    replace h := nm_at ex18 h
    clear ex18
    cases h
    exact a_iret (pc := 123) F dX2_ofHearing_123 ⟨_, rfl, rfl⟩
  replace h := ite_f q16 h
  by_cases q19 : p2 = 6
  · replace h := ite_t q19 h
    refine a_swin (pc := 1) (tgt := 124) F dX2_ofHearing_1 (by rw [q19]; decide) (by rw [q19]; decide) (by rw [q19]; rfl) (by decide) ?_
    clear q19
    refine a_aload_n (pc := 124) F dX2_ofHearing_124 0 rfl ?_
    refine a_getr (k := c) (r := (c + 8)) (pc := 125) F dX2_ofHearing_125 fl_RX2_21 (klC_0 hc) (ksC_0 hc) rfl ?_
    refine a_iload_n (pc := 128) F dX2_ofHearing_128 1 rfl ?_
    refine a_iconst (v := 0) (pc := 129) F dX2_ofHearing_129 (by decide) ?_
    replace h := bnd_some h
    obtain ⟨x21, hc20, h⟩ := h
    refine a_callV (pc := 130) (k := (c + 8)) (As := [.int p1, .int 0]) (st := []) F dX2_ofHearing_130 (m_X3_member hc hc20) cv_RX2_103 (klC_8 hc) (ksC_8 hc) ⟨_, _, rfl⟩ rfl rfl rfl (Nat.le_of_ble_eq_true rfl) ⟨Nat.le_of_ble_eq_true rfl, Nat.le_of_ble_eq_true rfl⟩ ?_ rfl rfl
    clear hc20
    cases h
    exact a_iret (pc := 133) F dX2_ofHearing_133 ⟨_, rfl, rfl⟩
  replace h := ite_f q19 h
  by_cases q22 : p2 = 7
  · replace h := ite_t q22 h
    refine a_swin (pc := 1) (tgt := 134) F dX2_ofHearing_1 (by rw [q22]; decide) (by rw [q22]; decide) (by rw [q22]; rfl) (by decide) ?_
    clear q22
    refine a_aload_n (pc := 134) F dX2_ofHearing_134 0 rfl ?_
    refine a_getr (k := c) (r := (c + 8)) (pc := 135) F dX2_ofHearing_135 fl_RX2_21 (klC_0 hc) (ksC_0 hc) rfl ?_
    refine a_iload_n (pc := 138) F dX2_ofHearing_138 1 rfl ?_
    refine a_iconst (v := 1) (pc := 139) F dX2_ofHearing_139 (by decide) ?_
    replace h := bnd_some h
    obtain ⟨x24, hc23, h⟩ := h
    refine a_callV (pc := 140) (k := (c + 8)) (As := [.int p1, .int 1]) (st := []) F dX2_ofHearing_140 (m_X3_member hc hc23) cv_RX2_103 (klC_8 hc) (ksC_8 hc) ⟨_, _, rfl⟩ rfl rfl rfl (Nat.le_of_ble_eq_true rfl) ⟨Nat.le_of_ble_eq_true rfl, Nat.le_of_ble_eq_true rfl⟩ ?_ rfl rfl
    clear hc23
    cases h
    exact a_iret (pc := 143) F dX2_ofHearing_143 ⟨_, rfl, rfl⟩
  replace h := ite_f q22 h
  by_cases q25 : p2 = 8
  · replace h := ite_t q25 h
    refine a_swin (pc := 1) (tgt := 144) F dX2_ofHearing_1 (by rw [q25]; decide) (by rw [q25]; decide) (by rw [q25]; rfl) (by decide) ?_
    clear q25
    refine a_aload_n (pc := 144) F dX2_ofHearing_144 0 rfl ?_
    refine a_getr (k := c) (r := (c + 8)) (pc := 145) F dX2_ofHearing_145 fl_RX2_21 (klC_0 hc) (ksC_0 hc) rfl ?_
    refine a_iload_n (pc := 148) F dX2_ofHearing_148 1 rfl ?_
    refine a_iconst (v := 2) (pc := 149) F dX2_ofHearing_149 (by decide) ?_
    replace h := bnd_some h
    obtain ⟨x27, hc26, h⟩ := h
    refine a_callV (pc := 150) (k := (c + 8)) (As := [.int p1, .int 2]) (st := []) F dX2_ofHearing_150 (m_X3_member hc hc26) cv_RX2_103 (klC_8 hc) (ksC_8 hc) ⟨_, _, rfl⟩ rfl rfl rfl (Nat.le_of_ble_eq_true rfl) ⟨Nat.le_of_ble_eq_true rfl, Nat.le_of_ble_eq_true rfl⟩ ?_ rfl rfl
    clear hc26
    cases h
    exact a_iret (pc := 153) F dX2_ofHearing_153 ⟨_, rfl, rfl⟩
  replace h := ite_f q25 h
  by_cases q28 : p2 = 9
  · replace h := ite_t q28 h
    refine a_swin (pc := 1) (tgt := 154) F dX2_ofHearing_1 (by rw [q28]; decide) (by rw [q28]; decide) (by rw [q28]; rfl) (by decide) ?_
    clear q28
    refine a_aload_n (pc := 154) F dX2_ofHearing_154 0 rfl ?_
    refine a_iload_n (pc := 155) F dX2_ofHearing_155 1 rfl ?_
    refine a_iconst (v := 2) (pc := 156) F dX2_ofHearing_156 (by decide) ?_
    replace h := bnd_some h
    obtain ⟨x30, hc29, h⟩ := h
    refine a_callV (pc := 157) (k := c) (As := [.int p1, .int 2]) (st := []) F dX2_ofHearing_157 (m_X2_chainPay hc hc29) cv_RX2_120 (klC_0 hc) (ksC_0 hc) ⟨_, _, rfl⟩ rfl rfl rfl (Nat.le_of_ble_eq_true rfl) ⟨Nat.le_of_ble_eq_true rfl, Nat.le_of_ble_eq_true rfl⟩ ?_ rfl rfl
    clear hc29
    cases h
    exact a_iret (pc := 160) F dX2_ofHearing_160 ⟨_, rfl, rfl⟩
  replace h := ite_f q28 h
  by_cases q31 : p2 = 10
  · replace h := ite_t q31 h
    refine a_swin (pc := 1) (tgt := 161) F dX2_ofHearing_1 (by rw [q31]; decide) (by rw [q31]; decide) (by rw [q31]; rfl) (by decide) ?_
    clear q31
    refine a_aload_n (pc := 161) F dX2_ofHearing_161 0 rfl ?_
    refine a_getr (k := c) (r := (c + 8)) (pc := 162) F dX2_ofHearing_162 fl_RX2_21 (klC_0 hc) (ksC_0 hc) rfl ?_
    refine a_getr (k := (c + 8)) (r := (c + 15)) (pc := 165) F dX2_ofHearing_165 fl_RX2_130 (klC_8 hc) (ksC_8 hc) rfl ?_
    refine a_iload_n (pc := 168) F dX2_ofHearing_168 1 rfl ?_
    replace h := gIn_some h
    obtain ⟨g32, h⟩ := h
    refine a_ial (k := (c + 15)) (pc := 169) F dX2_ofHearing_169 (klC_15 hc) (ksC_15 hc) g32 ?_
    refine a_nmi fun x33 ex33 => ?_
    replace h := nm_at ex33 h
    clear ex33
    cases h
    exact a_iret (pc := 170) F dX2_ofHearing_170 ⟨_, rfl, rfl⟩
  replace h := ite_f q31 h
  by_cases q34 : p2 = 11
  · replace h := ite_t q34 h
    refine a_swin (pc := 1) (tgt := 171) F dX2_ofHearing_1 (by rw [q34]; decide) (by rw [q34]; decide) (by rw [q34]; rfl) (by decide) ?_
    clear q34
    refine a_aload_n (pc := 171) F dX2_ofHearing_171 0 rfl ?_
    refine a_getr (k := c) (r := (c + 8)) (pc := 172) F dX2_ofHearing_172 fl_RX2_21 (klC_0 hc) (ksC_0 hc) rfl ?_
    refine a_iload_n (pc := 175) F dX2_ofHearing_175 1 rfl ?_
    replace h := bnd_some h
    obtain ⟨x36, hc35, h⟩ := h
    refine a_callV (pc := 176) (k := (c + 8)) (As := [.int p1]) (st := []) F dX2_ofHearing_176 (m_X3_isListed hc hc35) cv_RX2_66 (klC_8 hc) (ksC_8 hc) ⟨_, _, rfl⟩ rfl rfl rfl (Nat.le_of_ble_eq_true rfl) ⟨Nat.le_of_ble_eq_true rfl, Nat.le_of_ble_eq_true rfl⟩ ?_ rfl rfl
    clear hc35
    refine a_if_eq (tgt := 193) (pc := 179) F dX2_ofHearing_179 (by decide) (fun q37 => ?_) (fun q37 => ?_)
    · replace h := ite_t q37 h
      clear q37
      refine a_iconst (v := 0) (pc := 193) F dX2_ofHearing_193 (by decide) ?_
      cases h
      exact a_iret (pc := 194) F dX2_ofHearing_194 ⟨_, rfl, rfl⟩
    · replace h := ite_f q37 h
      clear q37
      refine a_aload_n (pc := 182) F dX2_ofHearing_182 0 rfl ?_
      refine a_getr (k := c) (r := (c + 8)) (pc := 183) F dX2_ofHearing_183 fl_RX2_21 (klC_0 hc) (ksC_0 hc) rfl ?_
      refine a_iload_n (pc := 186) F dX2_ofHearing_186 1 rfl ?_
      replace h := bnd_some h
      obtain ⟨x39, hc38, h⟩ := h
      refine a_callV (pc := 187) (k := (c + 8)) (As := [.int p1]) (st := []) F dX2_ofHearing_187 (m_X3_clashesOf hc hc38) cv_RX2_186 (klC_8 hc) (ksC_8 hc) ⟨_, _, rfl⟩ rfl rfl rfl (Nat.le_of_ble_eq_true rfl) ⟨Nat.le_of_ble_eq_true rfl, Nat.le_of_ble_eq_true rfl⟩ ?_ rfl rfl
      clear hc38
      refine a_goto (tgt := 194) (pc := 190) F dX2_ofHearing_190 (by decide) ?_
      cases h
      exact a_iret (pc := 194) F dX2_ofHearing_194 ⟨_, rfl, rfl⟩
  replace h := ite_f q34 h
  refine a_swout (pc := 1) (tgt := 195) F dX2_ofHearing_1 (by have nq1 := lv_neT (a := 0) q1 (by decide); have nq4 := lv_neT (a := 1) q4 (by decide); have nq7 := lv_neT (a := 2) q7 (by decide); have nq10 := lv_neT (a := 3) q10 (by decide); have nq13 := lv_neT (a := 4) q13 (by decide); have nq16 := lv_neT (a := 5) q16 (by decide); have nq19 := lv_neT (a := 6) q19 (by decide); have nq22 := lv_neT (a := 7) q22 (by decide); have nq25 := lv_neT (a := 8) q25 (by decide); have nq28 := lv_neT (a := 9) q28 (by decide); have nq31 := lv_neT (a := 10) q31 (by decide); have nq34 := lv_neT (a := 11) q34 (by decide); omega) (by decide) ?_
  clear q1
  clear q4
  clear q7
  clear q10
  clear q13
  clear q16
  clear q19
  clear q22
  clear q25
  clear q28
  clear q31
  clear q34
  refine a_iconst (v := (-1)) (pc := 195) F dX2_ofHearing_195 (by decide) ?_
  cases h
  exact a_iret (pc := 196) F dX2_ofHearing_196 ⟨_, rfl, rfl⟩
def f_X7_hearing (p1 : Int32) (p2 : Int32) (m0 : Mem) : Option Int32 :=
  bnd (f_X3_has 1 p1 m0) fun x2 => (if x2 = 0 then none else bnd (f_X7_within p2 0 11 m0) fun x5 => (if x5 = 0 then none else bnd (f_X2_ofHearing 1 p1 p2 m0) fun x8 => some x8))
set_option maxRecDepth 100000 in
set_option maxHeartbeats 4000000 in
theorem m_X7_hearing {p1 : Int32} {p2 : Int32} {m0 : Mem} {rr : Int32} (h : f_X7_hearing p1 p2 m0 = some rr) : Con yX7_hearing cX7_hearing 3 (some Jvm.ClassFile.FieldType.int) 4 93 (fun G => [.ref (ga G 0), .int p1, .int p2]) m0 (some (.int rr)) m0 := by
  refine con_of (by decide) (fun G => Nat.le_of_ble_eq_true rfl) (fun X F => ?_)
  show WA X 0 0 0 [(0, .ref (ga X.G 0)), (1, .int p1), (2, .int p2)] [] m0 (EQ X (some (.int rr)) m0)
  rw [f_X7_hearing] at h
  refine a_aload_n (pc := 0) F dX7_hearing_0 0 rfl ?_
  refine a_getr (k := 0) (r := 1) (pc := 1) F dX7_hearing_1 fl_RX7_10 kl_0 ks_0 rfl ?_
  refine a_getr (k := 1) (r := (1 + 8)) (pc := 4) F dX7_hearing_4 fl_RX7_89 (klC_0 isC_1) (ksC_0 isC_1) rfl ?_
  refine a_iload_n (pc := 7) F dX7_hearing_7 1 rfl ?_
  replace h := bnd_some h
  obtain ⟨x2, hc1, h⟩ := h
  refine a_callV (pc := 8) (k := (1 + 8)) (As := [.int p1]) (st := []) F dX7_hearing_8 (m_X3_has isC_1 hc1) cv_RX7_133 (klC_8 isC_1) (ksC_8 isC_1) ⟨_, _, rfl⟩ rfl rfl rfl (Nat.le_of_ble_eq_true rfl) ⟨Nat.le_of_ble_eq_true rfl, Nat.le_of_ble_eq_true rfl⟩ ?_ rfl rfl
  clear hc1
  refine a_if_ne (tgt := 24) (pc := 11) F dX7_hearing_11 (by decide) (fun q3 => ?_) (fun q3 => ?_)
  · replace h := ite_f q3 h
    clear q3
    refine a_iload_n (pc := 24) F dX7_hearing_24 2 rfl ?_
    refine a_iconst (v := 0) (pc := 25) F dX7_hearing_25 (by decide) ?_
    refine a_bipush (v := 11) (pc := 26) F dX7_hearing_26 (by decide) ?_
    replace h := bnd_some h
    obtain ⟨x5, hc4, h⟩ := h
    refine a_callS (pc := 28) (As := [.int p2, .int 0, .int 11]) (st := []) F dX7_hearing_28 (m_X7_within hc4) cs_RX7_47 rfl rfl rfl (Nat.le_of_ble_eq_true rfl) ⟨Nat.le_of_ble_eq_true rfl, Nat.le_of_ble_eq_true rfl⟩ ?_ rfl rfl
    clear hc4
    refine a_if_ne (tgt := 44) (pc := 31) F dX7_hearing_31 (by decide) (fun q6 => ?_) (fun q6 => ?_)
    · replace h := ite_f q6 h
      clear q6
      refine a_aload_n (pc := 44) F dX7_hearing_44 0 rfl ?_
      refine a_getr (k := 0) (r := 1) (pc := 45) F dX7_hearing_45 fl_RX7_10 kl_0 ks_0 rfl ?_
      refine a_iload_n (pc := 48) F dX7_hearing_48 1 rfl ?_
      refine a_iload_n (pc := 49) F dX7_hearing_49 2 rfl ?_
      replace h := bnd_some h
      obtain ⟨x8, hc7, h⟩ := h
      refine a_callV (pc := 50) (k := 1) (As := [.int p1, .int p2]) (st := []) F dX7_hearing_50 (m_X2_ofHearing isC_1 hc7) cv_RX7_240 (klC_0 isC_1) (ksC_0 isC_1) ⟨_, _, rfl⟩ rfl rfl rfl (Nat.le_of_ble_eq_true rfl) ⟨Nat.le_of_ble_eq_true rfl, Nat.le_of_ble_eq_true rfl⟩ ?_ rfl rfl
      clear hc7
      cases h
      exact a_iret (pc := 53) F dX7_hearing_53 ⟨_, rfl, rfl⟩
    · replace h := ite_t (Decidable.not_not.mp q6) h
      clear q6
      cases h
  · replace h := ite_t (Decidable.not_not.mp q3) h
    clear q3
    cases h
def f_X3_countStage_L4 (c : Nat) (p1 : Int32) (m0 : Mem) : (Int32 × Int32) → Option ((Int32 × Int32) ⊕ Int32)
  | (x2, x3) => (if (m0.1 (c + 8) 0) ≤ x3 then some (.inr x2) else gIn x3 30 <| nm (m0.1 (c + 13) x3.toNatClampNeg) fun x6 => (if x6 = p1 then nm (x2 + 1) fun x9 => nm (x3 + 1) fun x10 => some (.inl (x9, x10)) else nm (x3 + 1) fun x8 => some (.inl (x2, x8))))
def f_X3_countStage (c : Nat) (p1 : Int32) (m0 : Mem) : Option Int32 :=
  bnd (lp (f_X3_countStage_L4 c p1 m0) 1000000 (0, 0)) (fun x11 => some x11)
set_option maxRecDepth 100000 in
set_option maxHeartbeats 4000000 in
theorem m_X3_countStage {c : Nat} {p1 : Int32} (hc : isC c) {m0 : Mem} {rr : Int32} (h : f_X3_countStage c p1 m0 = some rr) : Con yX3_countStage cX3_countStage 4 (some Jvm.ClassFile.FieldType.int) 0 0 (fun G => [.ref (ga G (c + 8)), .int p1]) m0 (some (.int rr)) m0 := by
  refine con_of (by decide) (fun G => Nat.le_of_ble_eq_true rfl) (fun X F => ?_)
  show WA X 0 0 0 [(0, .ref (ga X.G (c + 8))), (1, .int p1)] [] m0 (EQ X (some (.int rr)) m0)
  rw [f_X3_countStage] at h
  refine a_iconst (v := 0) (pc := 0) F dX3_countStage_0 (by decide) ?_
  refine a_istore_n (lv' := [(2, .int 0), (0, .ref (ga X.G (c + 8))), (1, .int p1)]) (pc := 1) F dX3_countStage_1 (by decide) rfl ?_
  refine a_iconst (v := 0) (pc := 2) F dX3_countStage_2 (by decide) ?_
  refine a_istore_n (lv' := [(3, .int 0), (2, .int 0), (0, .ref (ga X.G (c + 8))), (1, .int p1)]) (pc := 3) F dX3_countStage_3 (by decide) rfl ?_
  refine a_lv F [2, 3, 1, 0] rfl ?_
  replace h := bnd_some h
  obtain ⟨x11, hL1, h⟩ := h
  have hE1 : WA X 0 0 31 [(2, .int x11)] [] m0 (EQ X (some (.int rr)) m0) := by
    refine a_iload_n (pc := 31) F dX3_countStage_31 0 rfl ?_
    cases h
    exact a_iret (pc := 32) F dX3_countStage_32 ⟨_, rfl, rfl⟩
  clear h
  refine lp_run (P := fun (s : (Int32 × Int32)) => WA X 0 0 4 [(0, .ref (ga X.G (c + 8))), (1, .int p1), (2, .int s.1), (3, .int s.2)] [] m0 (EQ X (some (.int rr)) m0)) ?_ _ _ hL1
  clear hL1
  rintro ⟨x2, x3⟩ xo h hP1 hT1
  show WA X 0 0 4 [(0, .ref (ga X.G (c + 8))), (1, .int p1), (2, .int x2), (3, .int x3)] [] m0 (EQ X (some (.int rr)) m0)
  rw [f_X3_countStage_L4] at h
  refine a_iload_n (pc := 4) F dX3_countStage_4 3 rfl ?_
  refine a_aload_n (pc := 5) F dX3_countStage_5 0 rfl ?_
  refine a_geti (k := (c + 8)) (pc := 6) F dX3_countStage_6 fl_RX3_39 (klC_8 hc) (ksC_8 hc) rfl ?_
  refine a_icmp_ge (tgt := 31) (pc := 9) F dX3_countStage_9 (by decide) (fun q4 => ?_) (fun q4 => ?_)
  · replace h := ite_t q4 h
    clear q4
    refine a_lv F [2] rfl ?_
    cases hT1 _ (Option.some.inj h).symm
    exact hE1
  · replace h := ite_f q4 h
    clear q4
    refine a_aload_n (pc := 12) F dX3_countStage_12 0 rfl ?_
    refine a_getr (k := (c + 8)) (r := (c + 13)) (pc := 13) F dX3_countStage_13 fl_RX3_24 (klC_8 hc) (ksC_8 hc) rfl ?_
    refine a_iload_n (pc := 16) F dX3_countStage_16 3 rfl ?_
    replace h := gIn_some h
    obtain ⟨g5, h⟩ := h
    refine a_ial (k := (c + 13)) (pc := 17) F dX3_countStage_17 (klC_13 hc) (ksC_13 hc) g5 ?_
    refine a_nmi fun x6 ex6 => ?_
    replace h := nm_at ex6 h
    clear ex6
    refine a_iload_n (pc := 18) F dX3_countStage_18 1 rfl ?_
    refine a_icmp_ne (tgt := 25) (pc := 19) F dX3_countStage_19 (by decide) (fun q7 => ?_) (fun q7 => ?_)
    · replace h := ite_f q7 h
      clear q7
      obtain ⟨x8, ex8⟩ : ∃ x8 : Int32, x8 = x3 + 1 := ⟨_, rfl⟩
      refine a_iinc (v := x8) (lv' := [(3, .int x8), (0, .ref (ga X.G (c + 8))), (1, .int p1), (2, .int x2)]) (pc := 25) F dX3_countStage_25 3 rfl (by rw [ex8]; rfl) (by decide) rfl ?_
      replace h := nm_at ex8 h
      clear ex8
      refine a_goto (tgt := 4) (pc := 28) F dX3_countStage_28 (by decide) ?_
      refine a_lv F [1, 2, 3, 0] rfl ?_
      exact hP1 _ (Option.some.inj h).symm
    · replace h := ite_t (Decidable.not_not.mp q7) h
      clear q7
      obtain ⟨x9, ex9⟩ : ∃ x9 : Int32, x9 = x2 + 1 := ⟨_, rfl⟩
      refine a_iinc (v := x9) (lv' := [(2, .int x9), (0, .ref (ga X.G (c + 8))), (1, .int p1), (3, .int x3)]) (pc := 22) F dX3_countStage_22 2 rfl (by rw [ex9]; rfl) (by decide) rfl ?_
      replace h := nm_at ex9 h
      clear ex9
      obtain ⟨x10, ex10⟩ : ∃ x10 : Int32, x10 = x3 + 1 := ⟨_, rfl⟩
      refine a_iinc (v := x10) (lv' := [(3, .int x10), (2, .int x9), (0, .ref (ga X.G (c + 8))), (1, .int p1)]) (pc := 25) F dX3_countStage_25 3 rfl (by rw [ex10]; rfl) (by decide) rfl ?_
      replace h := nm_at ex10 h
      clear ex10
      refine a_goto (tgt := 4) (pc := 28) F dX3_countStage_28 (by decide) ?_
      refine a_lv F [2, 3, 1, 0] rfl ?_
      exact hP1 _ (Option.some.inj h).symm
def f_X3_countListedManned_L4 (c : Nat) (m0 : Mem) : (Int32 × Int32) → Option ((Int32 × Int32) ⊕ Int32)
  | (x2, x3) => (if (m0.1 (c + 8) 0) ≤ x3 then some (.inr x2) else bnd (f_X3_isListed c x3 m0) fun x6 => (if x6 = 0 then nm (x3 + 1) fun x8 => some (.inl (x2, x8)) else gIn x3 30 <| nm (m0.1 (c + 14) x3.toNatClampNeg) fun x10 => (if x10 ≤ 0 then nm (x3 + 1) fun x12 => some (.inl (x2, x12)) else nm (x2 + 1) fun x13 => nm (x3 + 1) fun x14 => some (.inl (x13, x14)))))
def f_X3_countListedManned (c : Nat) (m0 : Mem) : Option Int32 :=
  bnd (lp (f_X3_countListedManned_L4 c m0) 1000000 (0, 0)) (fun x15 => some x15)
set_option maxRecDepth 100000 in
set_option maxHeartbeats 4000000 in
theorem m_X3_countListedManned {c : Nat} (hc : isC c) {m0 : Mem} {rr : Int32} (h : f_X3_countListedManned c m0 = some rr) : Con yX3_countListedManned cX3_countListedManned 3 (some Jvm.ClassFile.FieldType.int) 1 21 (fun G => [.ref (ga G (c + 8))]) m0 (some (.int rr)) m0 := by
  refine con_of (by decide) (fun G => Nat.le_of_ble_eq_true rfl) (fun X F => ?_)
  show WA X 0 0 0 [(0, .ref (ga X.G (c + 8)))] [] m0 (EQ X (some (.int rr)) m0)
  rw [f_X3_countListedManned] at h
  refine a_iconst (v := 0) (pc := 0) F dX3_countListedManned_0 (by decide) ?_
  refine a_istore_n (lv' := [(1, .int 0), (0, .ref (ga X.G (c + 8)))]) (pc := 1) F dX3_countListedManned_1 (by decide) rfl ?_
  refine a_iconst (v := 0) (pc := 2) F dX3_countListedManned_2 (by decide) ?_
  refine a_istore_n (lv' := [(2, .int 0), (1, .int 0), (0, .ref (ga X.G (c + 8)))]) (pc := 3) F dX3_countListedManned_3 (by decide) rfl ?_
  refine a_lv F [2, 1, 0] rfl ?_
  replace h := bnd_some h
  obtain ⟨x15, hL1, h⟩ := h
  have hE1 : WA X 0 0 38 [(1, .int x15)] [] m0 (EQ X (some (.int rr)) m0) := by
    refine a_iload_n (pc := 38) F dX3_countListedManned_38 0 rfl ?_
    cases h
    exact a_iret (pc := 39) F dX3_countListedManned_39 ⟨_, rfl, rfl⟩
  clear h
  refine lp_run (P := fun (s : (Int32 × Int32)) => WA X 0 0 4 [(0, .ref (ga X.G (c + 8))), (1, .int s.1), (2, .int s.2)] [] m0 (EQ X (some (.int rr)) m0)) ?_ _ _ hL1
  clear hL1
  rintro ⟨x2, x3⟩ xo h hP1 hT1
  show WA X 0 0 4 [(0, .ref (ga X.G (c + 8))), (1, .int x2), (2, .int x3)] [] m0 (EQ X (some (.int rr)) m0)
  rw [f_X3_countListedManned_L4] at h
  refine a_iload_n (pc := 4) F dX3_countListedManned_4 2 rfl ?_
  refine a_aload_n (pc := 5) F dX3_countListedManned_5 0 rfl ?_
  refine a_geti (k := (c + 8)) (pc := 6) F dX3_countListedManned_6 fl_RX3_39 (klC_8 hc) (ksC_8 hc) rfl ?_
  refine a_icmp_ge (tgt := 38) (pc := 9) F dX3_countListedManned_9 (by decide) (fun q4 => ?_) (fun q4 => ?_)
  · replace h := ite_t q4 h
    clear q4
    refine a_lv F [1] rfl ?_
    cases hT1 _ (Option.some.inj h).symm
    exact hE1
  · replace h := ite_f q4 h
    clear q4
    refine a_aload_n (pc := 12) F dX3_countListedManned_12 0 rfl ?_
    refine a_iload_n (pc := 13) F dX3_countListedManned_13 2 rfl ?_
    replace h := bnd_some h
    obtain ⟨x6, hc5, h⟩ := h
    refine a_callV (pc := 14) (k := (c + 8)) (As := [.int x3]) (st := []) F dX3_countListedManned_14 (m_X3_isListed hc hc5) cv_RX3_70 (klC_8 hc) (ksC_8 hc) ⟨_, _, rfl⟩ rfl rfl rfl (Nat.le_of_ble_eq_true rfl) ⟨Nat.le_of_ble_eq_true rfl, Nat.le_of_ble_eq_true rfl⟩ ?_ rfl rfl
    clear hc5
    refine a_if_eq (tgt := 32) (pc := 17) F dX3_countListedManned_17 (by decide) (fun q7 => ?_) (fun q7 => ?_)
    · replace h := ite_t q7 h
      clear q7
      obtain ⟨x8, ex8⟩ : ∃ x8 : Int32, x8 = x3 + 1 := ⟨_, rfl⟩
      refine a_iinc (v := x8) (lv' := [(2, .int x8), (0, .ref (ga X.G (c + 8))), (1, .int x2)]) (pc := 32) F dX3_countListedManned_32 2 rfl (by rw [ex8]; rfl) (by decide) rfl ?_
      replace h := nm_at ex8 h
      clear ex8
      refine a_goto (tgt := 4) (pc := 35) F dX3_countListedManned_35 (by decide) ?_
      refine a_lv F [1, 2, 0] rfl ?_
      exact hP1 _ (Option.some.inj h).symm
    · replace h := ite_f q7 h
      clear q7
      refine a_aload_n (pc := 20) F dX3_countListedManned_20 0 rfl ?_
      refine a_getr (k := (c + 8)) (r := (c + 14)) (pc := 21) F dX3_countListedManned_21 fl_RX3_27 (klC_8 hc) (ksC_8 hc) rfl ?_
      refine a_iload_n (pc := 24) F dX3_countListedManned_24 2 rfl ?_
      replace h := gIn_some h
      obtain ⟨g9, h⟩ := h
      refine a_ial (k := (c + 14)) (pc := 25) F dX3_countListedManned_25 (klC_14 hc) (ksC_14 hc) g9 ?_
      refine a_nmi fun x10 ex10 => ?_
      replace h := nm_at ex10 h
      clear ex10
      refine a_if_le (tgt := 32) (pc := 26) F dX3_countListedManned_26 (by decide) (fun q11 => ?_) (fun q11 => ?_)
      · replace h := ite_t q11 h
        clear q11
        obtain ⟨x12, ex12⟩ : ∃ x12 : Int32, x12 = x3 + 1 := ⟨_, rfl⟩
        refine a_iinc (v := x12) (lv' := [(2, .int x12), (0, .ref (ga X.G (c + 8))), (1, .int x2)]) (pc := 32) F dX3_countListedManned_32 2 rfl (by rw [ex12]; rfl) (by decide) rfl ?_
        replace h := nm_at ex12 h
        clear ex12
        refine a_goto (tgt := 4) (pc := 35) F dX3_countListedManned_35 (by decide) ?_
        refine a_lv F [1, 2, 0] rfl ?_
        exact hP1 _ (Option.some.inj h).symm
      · replace h := ite_f q11 h
        clear q11
        obtain ⟨x13, ex13⟩ : ∃ x13 : Int32, x13 = x2 + 1 := ⟨_, rfl⟩
        refine a_iinc (v := x13) (lv' := [(1, .int x13), (0, .ref (ga X.G (c + 8))), (2, .int x3)]) (pc := 29) F dX3_countListedManned_29 1 rfl (by rw [ex13]; rfl) (by decide) rfl ?_
        replace h := nm_at ex13 h
        clear ex13
        obtain ⟨x14, ex14⟩ : ∃ x14 : Int32, x14 = x3 + 1 := ⟨_, rfl⟩
        refine a_iinc (v := x14) (lv' := [(2, .int x14), (1, .int x13), (0, .ref (ga X.G (c + 8)))]) (pc := 32) F dX3_countListedManned_32 2 rfl (by rw [ex14]; rfl) (by decide) rfl ?_
        replace h := nm_at ex14 h
        clear ex14
        refine a_goto (tgt := 4) (pc := 35) F dX3_countListedManned_35 (by decide) ?_
        refine a_lv F [2, 1, 0] rfl ?_
        exact hP1 _ (Option.some.inj h).symm
def f_X2_working_L4 (c : Nat) (m0 : Mem) : (Int32 × Int32) → Option ((Int32 × Int32) ⊕ Int32)
  | (x2, x3) => (if (m0.1 (c + 8) 0) ≤ x3 then some (.inr x2) else bnd (f_X2_isUnderWay c x3 m0) fun x6 => (if x6 = 0 then nm (x3 + 1) fun x8 => some (.inl (x2, x8)) else gIn x3 30 <| nm (m0.1 (c + 16) x3.toNatClampNeg) fun x10 => nm (x3 + 1) fun x11 => some (.inl (x2 ||| x10, x11))))
def f_X2_working (c : Nat) (m0 : Mem) : Option Int32 :=
  bnd (lp (f_X2_working_L4 c m0) 1000000 (0, 0)) (fun x12 => some x12)
set_option maxRecDepth 100000 in
set_option maxHeartbeats 4000000 in
theorem m_X2_working {c : Nat} (hc : isC c) {m0 : Mem} {rr : Int32} (h : f_X2_working c m0 = some rr) : Con yX2_working cX2_working 3 (some Jvm.ClassFile.FieldType.int) 2 42 (fun G => [.ref (ga G c)]) m0 (some (.int rr)) m0 := by
  refine con_of (by decide) (fun G => Nat.le_of_ble_eq_true rfl) (fun X F => ?_)
  show WA X 0 0 0 [(0, .ref (ga X.G c))] [] m0 (EQ X (some (.int rr)) m0)
  rw [f_X2_working] at h
  refine a_iconst (v := 0) (pc := 0) F dX2_working_0 (by decide) ?_
  refine a_istore_n (lv' := [(1, .int 0), (0, .ref (ga X.G c))]) (pc := 1) F dX2_working_1 (by decide) rfl ?_
  refine a_iconst (v := 0) (pc := 2) F dX2_working_2 (by decide) ?_
  refine a_istore_n (lv' := [(2, .int 0), (1, .int 0), (0, .ref (ga X.G c))]) (pc := 3) F dX2_working_3 (by decide) rfl ?_
  refine a_lv F [2, 1, 0] rfl ?_
  replace h := bnd_some h
  obtain ⟨x12, hL1, h⟩ := h
  have hE1 : WA X 0 0 41 [(1, .int x12)] [] m0 (EQ X (some (.int rr)) m0) := by
    refine a_iload_n (pc := 41) F dX2_working_41 0 rfl ?_
    cases h
    exact a_iret (pc := 42) F dX2_working_42 ⟨_, rfl, rfl⟩
  clear h
  refine lp_run (P := fun (s : (Int32 × Int32)) => WA X 0 0 4 [(0, .ref (ga X.G c)), (1, .int s.1), (2, .int s.2)] [] m0 (EQ X (some (.int rr)) m0)) ?_ _ _ hL1
  clear hL1
  rintro ⟨x2, x3⟩ xo h hP1 hT1
  show WA X 0 0 4 [(0, .ref (ga X.G c)), (1, .int x2), (2, .int x3)] [] m0 (EQ X (some (.int rr)) m0)
  rw [f_X2_working_L4] at h
  refine a_iload_n (pc := 4) F dX2_working_4 2 rfl ?_
  refine a_aload_n (pc := 5) F dX2_working_5 0 rfl ?_
  refine a_getr (k := c) (r := (c + 8)) (pc := 6) F dX2_working_6 fl_RX2_21 (klC_0 hc) (ksC_0 hc) rfl ?_
  refine a_geti (k := (c + 8)) (pc := 9) F dX2_working_9 fl_RX2_135 (klC_8 hc) (ksC_8 hc) rfl ?_
  refine a_icmp_ge (tgt := 41) (pc := 12) F dX2_working_12 (by decide) (fun q4 => ?_) (fun q4 => ?_)
  · replace h := ite_t q4 h
    clear q4
    refine a_lv F [1] rfl ?_
    cases hT1 _ (Option.some.inj h).symm
    exact hE1
  · replace h := ite_f q4 h
    clear q4
    refine a_aload_n (pc := 15) F dX2_working_15 0 rfl ?_
    refine a_iload_n (pc := 16) F dX2_working_16 2 rfl ?_
    replace h := bnd_some h
    obtain ⟨x6, hc5, h⟩ := h
    refine a_callV (pc := 17) (k := c) (As := [.int x3]) (st := []) F dX2_working_17 (m_X2_isUnderWay hc hc5) cv_RX2_145 (klC_0 hc) (ksC_0 hc) ⟨_, _, rfl⟩ rfl rfl rfl (Nat.le_of_ble_eq_true rfl) ⟨Nat.le_of_ble_eq_true rfl, Nat.le_of_ble_eq_true rfl⟩ ?_ rfl rfl
    clear hc5
    refine a_if_eq (tgt := 35) (pc := 20) F dX2_working_20 (by decide) (fun q7 => ?_) (fun q7 => ?_)
    · replace h := ite_t q7 h
      clear q7
      obtain ⟨x8, ex8⟩ : ∃ x8 : Int32, x8 = x3 + 1 := ⟨_, rfl⟩
      refine a_iinc (v := x8) (lv' := [(2, .int x8), (0, .ref (ga X.G c)), (1, .int x2)]) (pc := 35) F dX2_working_35 2 rfl (by rw [ex8]; rfl) (by decide) rfl ?_
      replace h := nm_at ex8 h
      clear ex8
      refine a_goto (tgt := 4) (pc := 38) F dX2_working_38 (by decide) ?_
      refine a_lv F [1, 2, 0] rfl ?_
      exact hP1 _ (Option.some.inj h).symm
    · replace h := ite_f q7 h
      clear q7
      refine a_iload_n (pc := 23) F dX2_working_23 1 rfl ?_
      refine a_aload_n (pc := 24) F dX2_working_24 0 rfl ?_
      refine a_getr (k := c) (r := (c + 8)) (pc := 25) F dX2_working_25 fl_RX2_21 (klC_0 hc) (ksC_0 hc) rfl ?_
      refine a_getr (k := (c + 8)) (r := (c + 16)) (pc := 28) F dX2_working_28 fl_RX2_148 (klC_8 hc) (ksC_8 hc) rfl ?_
      refine a_iload_n (pc := 31) F dX2_working_31 2 rfl ?_
      replace h := gIn_some h
      obtain ⟨g9, h⟩ := h
      refine a_ial (k := (c + 16)) (pc := 32) F dX2_working_32 (klC_16 hc) (ksC_16 hc) g9 ?_
      refine a_nmi fun x10 ex10 => ?_
      replace h := nm_at ex10 h
      clear ex10
      refine a_ior (pc := 33) F dX2_working_33 ?_
      refine a_istore_n (lv' := [(1, .int (x2 ||| x10)), (0, .ref (ga X.G c)), (2, .int x3)]) (pc := 34) F dX2_working_34 (by decide) rfl ?_
      obtain ⟨x11, ex11⟩ : ∃ x11 : Int32, x11 = x3 + 1 := ⟨_, rfl⟩
      refine a_iinc (v := x11) (lv' := [(2, .int x11), (1, .int (x2 ||| x10)), (0, .ref (ga X.G c))]) (pc := 35) F dX2_working_35 2 rfl (by rw [ex11]; rfl) (by decide) rfl ?_
      replace h := nm_at ex11 h
      clear ex11
      refine a_goto (tgt := 4) (pc := 38) F dX2_working_38 (by decide) ?_
      refine a_lv F [2, 1, 0] rfl ?_
      exact hP1 _ (Option.some.inj h).symm
def f_X2_numberOf (c : Nat) (p1 : Int32) (m0 : Mem) : Option Int32 :=
  (if p1 = 0 then some (m0.1 (c + 1) 0) else (if p1 = 1 then some (m0.1 (c + 8) 0) else (if p1 = 2 then some (m0.1 c 3) else (if p1 = 3 then bnd (f_X3_countStage c 0 m0) fun x6 => some x6 else (if p1 = 4 then bnd (f_X3_countListedManned c m0) fun x9 => some x9 else (if p1 = 5 then bnd (f_X3_countStage c 1 m0) fun x12 => some x12 else (if p1 = 6 then bnd (f_X3_countStage c 2 m0) fun x15 => some x15 else (if p1 = 7 then bnd (f_X3_countStage c 3 m0) fun x18 => some x18 else (if p1 = 8 then some (m0.1 c 4) else (if p1 = 9 then some (m0.1 c 5) else (if p1 = 10 then some (m0.1 c 6) else (if p1 = 11 then bnd (f_X2_working c m0) fun x24 => bnd (f_J6_bitCount_0f7a4 x24 m0) fun x26 => some x26 else some (-1)))))))))))))
set_option maxRecDepth 100000 in
set_option maxHeartbeats 4000000 in
theorem m_X2_numberOf {c : Nat} {p1 : Int32} (hc : isC c) {m0 : Mem} {rr : Int32} (h : f_X2_numberOf c p1 m0 = some rr) : Con yX2_numberOf cX2_numberOf 2 (some Jvm.ClassFile.FieldType.int) 3 64 (fun G => [.ref (ga G c), .int p1]) m0 (some (.int rr)) m0 := by
  refine con_of (by decide) (fun G => Nat.le_of_ble_eq_true rfl) (fun X F => ?_)
  show WA X 0 0 0 [(0, .ref (ga X.G c)), (1, .int p1)] [] m0 (EQ X (some (.int rr)) m0)
  rw [f_X2_numberOf] at h
  refine a_iload_n (pc := 0) F dX2_numberOf_0 1 rfl ?_
  by_cases q1 : p1 = 0
  · replace h := ite_t q1 h
    refine a_swin (pc := 1) (tgt := 64) F dX2_numberOf_1 (by rw [q1]; decide) (by rw [q1]; decide) (by rw [q1]; rfl) (by decide) ?_
    clear q1
    refine a_aload_n (pc := 64) F dX2_numberOf_64 0 rfl ?_
    refine a_getr (k := c) (r := (c + 1)) (pc := 65) F dX2_numberOf_65 fl_RX2_12 (klC_0 hc) (ksC_0 hc) rfl ?_
    refine a_geti (k := (c + 1)) (pc := 68) F dX2_numberOf_68 fl_RX2_94 (klC_1 hc) (ksC_1 hc) rfl ?_
    cases h
    exact a_iret (pc := 71) F dX2_numberOf_71 ⟨_, rfl, rfl⟩
  replace h := ite_f q1 h
  by_cases q2 : p1 = 1
  · replace h := ite_t q2 h
    refine a_swin (pc := 1) (tgt := 72) F dX2_numberOf_1 (by rw [q2]; decide) (by rw [q2]; decide) (by rw [q2]; rfl) (by decide) ?_
    clear q2
    refine a_aload_n (pc := 72) F dX2_numberOf_72 0 rfl ?_
    refine a_getr (k := c) (r := (c + 8)) (pc := 73) F dX2_numberOf_73 fl_RX2_21 (klC_0 hc) (ksC_0 hc) rfl ?_
    refine a_geti (k := (c + 8)) (pc := 76) F dX2_numberOf_76 fl_RX2_135 (klC_8 hc) (ksC_8 hc) rfl ?_
    cases h
    exact a_iret (pc := 79) F dX2_numberOf_79 ⟨_, rfl, rfl⟩
  replace h := ite_f q2 h
  by_cases q3 : p1 = 2
  · replace h := ite_t q3 h
    refine a_swin (pc := 1) (tgt := 80) F dX2_numberOf_1 (by rw [q3]; decide) (by rw [q3]; decide) (by rw [q3]; rfl) (by decide) ?_
    clear q3
    refine a_aload_n (pc := 80) F dX2_numberOf_80 0 rfl ?_
    refine a_geti (k := c) (pc := 81) F dX2_numberOf_81 fl_RX2_50 (klC_0 hc) (ksC_0 hc) rfl ?_
    cases h
    exact a_iret (pc := 84) F dX2_numberOf_84 ⟨_, rfl, rfl⟩
  replace h := ite_f q3 h
  by_cases q4 : p1 = 3
  · replace h := ite_t q4 h
    refine a_swin (pc := 1) (tgt := 85) F dX2_numberOf_1 (by rw [q4]; decide) (by rw [q4]; decide) (by rw [q4]; rfl) (by decide) ?_
    clear q4
    refine a_aload_n (pc := 85) F dX2_numberOf_85 0 rfl ?_
    refine a_getr (k := c) (r := (c + 8)) (pc := 86) F dX2_numberOf_86 fl_RX2_21 (klC_0 hc) (ksC_0 hc) rfl ?_
    refine a_iconst (v := 0) (pc := 89) F dX2_numberOf_89 (by decide) ?_
    replace h := bnd_some h
    obtain ⟨x6, hc5, h⟩ := h
    refine a_callV (pc := 90) (k := (c + 8)) (As := [.int 0]) (st := []) F dX2_numberOf_90 (m_X3_countStage hc hc5) cv_RX2_189 (klC_8 hc) (ksC_8 hc) ⟨_, _, rfl⟩ rfl rfl rfl (Nat.le_of_ble_eq_true rfl) ⟨Nat.le_of_ble_eq_true rfl, Nat.le_of_ble_eq_true rfl⟩ ?_ rfl rfl
    clear hc5
    cases h
    exact a_iret (pc := 93) F dX2_numberOf_93 ⟨_, rfl, rfl⟩
  replace h := ite_f q4 h
  by_cases q7 : p1 = 4
  · replace h := ite_t q7 h
    refine a_swin (pc := 1) (tgt := 94) F dX2_numberOf_1 (by rw [q7]; decide) (by rw [q7]; decide) (by rw [q7]; rfl) (by decide) ?_
    clear q7
    refine a_aload_n (pc := 94) F dX2_numberOf_94 0 rfl ?_
    refine a_getr (k := c) (r := (c + 8)) (pc := 95) F dX2_numberOf_95 fl_RX2_21 (klC_0 hc) (ksC_0 hc) rfl ?_
    replace h := bnd_some h
    obtain ⟨x9, hc8, h⟩ := h
    refine a_callV (pc := 98) (k := (c + 8)) (As := []) (st := []) F dX2_numberOf_98 (m_X3_countListedManned hc hc8) cv_RX2_192 (klC_8 hc) (ksC_8 hc) ⟨_, _, rfl⟩ rfl rfl rfl (Nat.le_of_ble_eq_true rfl) ⟨Nat.le_of_ble_eq_true rfl, Nat.le_of_ble_eq_true rfl⟩ ?_ rfl rfl
    clear hc8
    cases h
    exact a_iret (pc := 101) F dX2_numberOf_101 ⟨_, rfl, rfl⟩
  replace h := ite_f q7 h
  by_cases q10 : p1 = 5
  · replace h := ite_t q10 h
    refine a_swin (pc := 1) (tgt := 102) F dX2_numberOf_1 (by rw [q10]; decide) (by rw [q10]; decide) (by rw [q10]; rfl) (by decide) ?_
    clear q10
    refine a_aload_n (pc := 102) F dX2_numberOf_102 0 rfl ?_
    refine a_getr (k := c) (r := (c + 8)) (pc := 103) F dX2_numberOf_103 fl_RX2_21 (klC_0 hc) (ksC_0 hc) rfl ?_
    refine a_iconst (v := 1) (pc := 106) F dX2_numberOf_106 (by decide) ?_
    replace h := bnd_some h
    obtain ⟨x12, hc11, h⟩ := h
    refine a_callV (pc := 107) (k := (c + 8)) (As := [.int 1]) (st := []) F dX2_numberOf_107 (m_X3_countStage hc hc11) cv_RX2_189 (klC_8 hc) (ksC_8 hc) ⟨_, _, rfl⟩ rfl rfl rfl (Nat.le_of_ble_eq_true rfl) ⟨Nat.le_of_ble_eq_true rfl, Nat.le_of_ble_eq_true rfl⟩ ?_ rfl rfl
    clear hc11
    cases h
    exact a_iret (pc := 110) F dX2_numberOf_110 ⟨_, rfl, rfl⟩
  replace h := ite_f q10 h
  by_cases q13 : p1 = 6
  · replace h := ite_t q13 h
    refine a_swin (pc := 1) (tgt := 111) F dX2_numberOf_1 (by rw [q13]; decide) (by rw [q13]; decide) (by rw [q13]; rfl) (by decide) ?_
    clear q13
    refine a_aload_n (pc := 111) F dX2_numberOf_111 0 rfl ?_
    refine a_getr (k := c) (r := (c + 8)) (pc := 112) F dX2_numberOf_112 fl_RX2_21 (klC_0 hc) (ksC_0 hc) rfl ?_
    refine a_iconst (v := 2) (pc := 115) F dX2_numberOf_115 (by decide) ?_
    replace h := bnd_some h
    obtain ⟨x15, hc14, h⟩ := h
    refine a_callV (pc := 116) (k := (c + 8)) (As := [.int 2]) (st := []) F dX2_numberOf_116 (m_X3_countStage hc hc14) cv_RX2_189 (klC_8 hc) (ksC_8 hc) ⟨_, _, rfl⟩ rfl rfl rfl (Nat.le_of_ble_eq_true rfl) ⟨Nat.le_of_ble_eq_true rfl, Nat.le_of_ble_eq_true rfl⟩ ?_ rfl rfl
    clear hc14
    cases h
    exact a_iret (pc := 119) F dX2_numberOf_119 ⟨_, rfl, rfl⟩
  replace h := ite_f q13 h
  by_cases q16 : p1 = 7
  · replace h := ite_t q16 h
    refine a_swin (pc := 1) (tgt := 120) F dX2_numberOf_1 (by rw [q16]; decide) (by rw [q16]; decide) (by rw [q16]; rfl) (by decide) ?_
    clear q16
    refine a_aload_n (pc := 120) F dX2_numberOf_120 0 rfl ?_
    refine a_getr (k := c) (r := (c + 8)) (pc := 121) F dX2_numberOf_121 fl_RX2_21 (klC_0 hc) (ksC_0 hc) rfl ?_
    refine a_iconst (v := 3) (pc := 124) F dX2_numberOf_124 (by decide) ?_
    replace h := bnd_some h
    obtain ⟨x18, hc17, h⟩ := h
    refine a_callV (pc := 125) (k := (c + 8)) (As := [.int 3]) (st := []) F dX2_numberOf_125 (m_X3_countStage hc hc17) cv_RX2_189 (klC_8 hc) (ksC_8 hc) ⟨_, _, rfl⟩ rfl rfl rfl (Nat.le_of_ble_eq_true rfl) ⟨Nat.le_of_ble_eq_true rfl, Nat.le_of_ble_eq_true rfl⟩ ?_ rfl rfl
    clear hc17
    cases h
    exact a_iret (pc := 128) F dX2_numberOf_128 ⟨_, rfl, rfl⟩
  replace h := ite_f q16 h
  by_cases q19 : p1 = 8
  · replace h := ite_t q19 h
    refine a_swin (pc := 1) (tgt := 129) F dX2_numberOf_1 (by rw [q19]; decide) (by rw [q19]; decide) (by rw [q19]; rfl) (by decide) ?_
    clear q19
    refine a_aload_n (pc := 129) F dX2_numberOf_129 0 rfl ?_
    refine a_geti (k := c) (pc := 130) F dX2_numberOf_130 fl_RX2_54 (klC_0 hc) (ksC_0 hc) rfl ?_
    cases h
    exact a_iret (pc := 133) F dX2_numberOf_133 ⟨_, rfl, rfl⟩
  replace h := ite_f q19 h
  by_cases q20 : p1 = 9
  · replace h := ite_t q20 h
    refine a_swin (pc := 1) (tgt := 134) F dX2_numberOf_1 (by rw [q20]; decide) (by rw [q20]; decide) (by rw [q20]; rfl) (by decide) ?_
    clear q20
    refine a_aload_n (pc := 134) F dX2_numberOf_134 0 rfl ?_
    refine a_geti (k := c) (pc := 135) F dX2_numberOf_135 fl_RX2_57 (klC_0 hc) (ksC_0 hc) rfl ?_
    cases h
    exact a_iret (pc := 138) F dX2_numberOf_138 ⟨_, rfl, rfl⟩
  replace h := ite_f q20 h
  by_cases q21 : p1 = 10
  · replace h := ite_t q21 h
    refine a_swin (pc := 1) (tgt := 139) F dX2_numberOf_1 (by rw [q21]; decide) (by rw [q21]; decide) (by rw [q21]; rfl) (by decide) ?_
    clear q21
    refine a_aload_n (pc := 139) F dX2_numberOf_139 0 rfl ?_
    refine a_geti (k := c) (pc := 140) F dX2_numberOf_140 fl_RX2_60 (klC_0 hc) (ksC_0 hc) rfl ?_
    cases h
    exact a_iret (pc := 143) F dX2_numberOf_143 ⟨_, rfl, rfl⟩
  replace h := ite_f q21 h
  by_cases q22 : p1 = 11
  · replace h := ite_t q22 h
    refine a_swin (pc := 1) (tgt := 144) F dX2_numberOf_1 (by rw [q22]; decide) (by rw [q22]; decide) (by rw [q22]; rfl) (by decide) ?_
    clear q22
    refine a_aload_n (pc := 144) F dX2_numberOf_144 0 rfl ?_
    replace h := bnd_some h
    obtain ⟨x24, hc23, h⟩ := h
    refine a_callV (pc := 145) (k := c) (As := []) (st := []) F dX2_numberOf_145 (m_X2_working hc hc23) cv_RX2_196 (klC_0 hc) (ksC_0 hc) ⟨_, _, rfl⟩ rfl rfl rfl (Nat.le_of_ble_eq_true rfl) ⟨Nat.le_of_ble_eq_true rfl, Nat.le_of_ble_eq_true rfl⟩ ?_ rfl rfl
    clear hc23
    replace h := bnd_some h
    obtain ⟨x26, hc25, h⟩ := h
    refine a_callS (pc := 148) (As := [.int x24]) (st := []) F dX2_numberOf_148 (m_J6_bitCount_0f7a4 hc25) cs_RX2_199 rfl rfl rfl (Nat.le_of_ble_eq_true rfl) ⟨Nat.le_of_ble_eq_true rfl, Nat.le_of_ble_eq_true rfl⟩ ?_ rfl rfl
    clear hc25
    cases h
    exact a_iret (pc := 151) F dX2_numberOf_151 ⟨_, rfl, rfl⟩
  replace h := ite_f q22 h
  refine a_swout (pc := 1) (tgt := 152) F dX2_numberOf_1 (by have nq1 := lv_neT (a := 0) q1 (by decide); have nq2 := lv_neT (a := 1) q2 (by decide); have nq3 := lv_neT (a := 2) q3 (by decide); have nq4 := lv_neT (a := 3) q4 (by decide); have nq7 := lv_neT (a := 4) q7 (by decide); have nq10 := lv_neT (a := 5) q10 (by decide); have nq13 := lv_neT (a := 6) q13 (by decide); have nq16 := lv_neT (a := 7) q16 (by decide); have nq19 := lv_neT (a := 8) q19 (by decide); have nq20 := lv_neT (a := 9) q20 (by decide); have nq21 := lv_neT (a := 10) q21 (by decide); have nq22 := lv_neT (a := 11) q22 (by decide); omega) (by decide) ?_
  clear q1
  clear q2
  clear q3
  clear q4
  clear q7
  clear q10
  clear q13
  clear q16
  clear q19
  clear q20
  clear q21
  clear q22
  refine a_iconst (v := (-1)) (pc := 152) F dX2_numberOf_152 (by decide) ?_
  cases h
  exact a_iret (pc := 153) F dX2_numberOf_153 ⟨_, rfl, rfl⟩
def f_X7_count (p1 : Int32) (m0 : Mem) : Option Int32 :=
  bnd (f_X7_within p1 0 12 m0) fun x2 => (if x2 = 0 then none else (if p1 = 12 then some (m0.1 39 0) else bnd (f_X2_numberOf 1 p1 m0) fun x6 => some x6))
set_option maxRecDepth 100000 in
set_option maxHeartbeats 4000000 in
theorem m_X7_count {p1 : Int32} {m0 : Mem} {rr : Int32} (h : f_X7_count p1 m0 = some rr) : Con yX7_count cX7_count 2 (some Jvm.ClassFile.FieldType.int) 4 85 (fun G => [.ref (ga G 0), .int p1]) m0 (some (.int rr)) m0 := by
  refine con_of (by decide) (fun G => Nat.le_of_ble_eq_true rfl) (fun X F => ?_)
  show WA X 0 0 0 [(0, .ref (ga X.G 0)), (1, .int p1)] [] m0 (EQ X (some (.int rr)) m0)
  rw [f_X7_count] at h
  refine a_iload_n (pc := 0) F dX7_count_0 1 rfl ?_
  refine a_iconst (v := 0) (pc := 1) F dX7_count_1 (by decide) ?_
  refine a_bipush (v := 12) (pc := 2) F dX7_count_2 (by decide) ?_
  replace h := bnd_some h
  obtain ⟨x2, hc1, h⟩ := h
  refine a_callS (pc := 4) (As := [.int p1, .int 0, .int 12]) (st := []) F dX7_count_4 (m_X7_within hc1) cs_RX7_47 rfl rfl rfl (Nat.le_of_ble_eq_true rfl) ⟨Nat.le_of_ble_eq_true rfl, Nat.le_of_ble_eq_true rfl⟩ ?_ rfl rfl
  clear hc1
  refine a_if_ne (tgt := 20) (pc := 7) F dX7_count_7 (by decide) (fun q3 => ?_) (fun q3 => ?_)
  · replace h := ite_f q3 h
    clear q3
    refine a_iload_n (pc := 20) F dX7_count_20 1 rfl ?_
    refine a_bipush (v := 12) (pc := 21) F dX7_count_21 (by decide) ?_
    refine a_icmp_ne (tgt := 36) (pc := 23) F dX7_count_23 (by decide) (fun q4 => ?_) (fun q4 => ?_)
    · replace h := ite_f q4 h
      clear q4
      refine a_aload_n (pc := 36) F dX7_count_36 0 rfl ?_
      refine a_getr (k := 0) (r := 1) (pc := 37) F dX7_count_37 fl_RX7_10 kl_0 ks_0 rfl ?_
      refine a_iload_n (pc := 40) F dX7_count_40 1 rfl ?_
      replace h := bnd_some h
      obtain ⟨x6, hc5, h⟩ := h
      refine a_callV (pc := 41) (k := 1) (As := [.int p1]) (st := []) F dX7_count_41 (m_X2_numberOf isC_1 hc5) cv_RX7_245 (klC_0 isC_1) (ksC_0 isC_1) ⟨_, _, rfl⟩ rfl rfl rfl (Nat.le_of_ble_eq_true rfl) ⟨Nat.le_of_ble_eq_true rfl, Nat.le_of_ble_eq_true rfl⟩ ?_ rfl rfl
      clear hc5
      cases h
      exact a_iret (pc := 44) F dX7_count_44 ⟨_, rfl, rfl⟩
    · replace h := ite_t (Decidable.not_not.mp q4) h
      clear q4
      refine a_aload_n (pc := 26) F dX7_count_26 0 rfl ?_
      refine a_getr (k := 0) (r := 39) (pc := 27) F dX7_count_27 fl_RX7_22 kl_0 ks_0 rfl ?_
      refine a_geti (k := 39) (pc := 30) F dX7_count_30 fl_RX7_227 kl_39 ks_39 rfl ?_
      refine a_goto (tgt := 44) (pc := 33) F dX7_count_33 (by decide) ?_
      cases h
      exact a_iret (pc := 44) F dX7_count_44 ⟨_, rfl, rfl⟩
  · replace h := ite_t (Decidable.not_not.mp q3) h
    clear q3
    cases h
def f_X7_whyNot (p1 : Int32) (p2 : Int32) (p3 : Int32) (p4 : Int32) (m0 : Mem) : Option Int32 :=
  bnd (f_X3_has 1 p1 m0) fun x2 => jn ((if x2 = 0 then some (.inl ()) else bnd (f_X7_nameInterpreters p2 p3 p4 m0) fun x6 => (if x6 = 0 then some (.inl ()) else bnd (f_X7_areRowOfDifferent p2 p3 p4 m0) fun x9 => (if x9 = 0 then none else bnd (f_X2_reasonAgainst 1 p1 p2 p3 p4 m0) fun x12 => some (.inr x12))))) (fun (_ : Unit) => none)
set_option maxRecDepth 100000 in
set_option maxHeartbeats 4000000 in
theorem m_X7_whyNot {p1 : Int32} {p2 : Int32} {p3 : Int32} {p4 : Int32} {m0 : Mem} {rr : Int32} (h : f_X7_whyNot p1 p2 p3 p4 m0 = some rr) : Con yX7_whyNot cX7_whyNot 5 (some Jvm.ClassFile.FieldType.int) 4 93 (fun G => [.ref (ga G 0), .int p1, .int p2, .int p3, .int p4]) m0 (some (.int rr)) m0 := by
  refine con_of (by decide) (fun G => Nat.le_of_ble_eq_true rfl) (fun X F => ?_)
  show WA X 0 0 0 [(0, .ref (ga X.G 0)), (1, .int p1), (2, .int p2), (3, .int p3), (4, .int p4)] [] m0 (EQ X (some (.int rr)) m0)
  rw [f_X7_whyNot] at h
  refine a_aload_n (pc := 0) F dX7_whyNot_0 0 rfl ?_
  refine a_getr (k := 0) (r := 1) (pc := 1) F dX7_whyNot_1 fl_RX7_10 kl_0 ks_0 rfl ?_
  refine a_getr (k := 1) (r := (1 + 8)) (pc := 4) F dX7_whyNot_4 fl_RX7_89 (klC_0 isC_1) (ksC_0 isC_1) rfl ?_
  refine a_iload_n (pc := 7) F dX7_whyNot_7 1 rfl ?_
  replace h := bnd_some h
  obtain ⟨x2, hc1, h⟩ := h
  refine a_callV (pc := 8) (k := (1 + 8)) (As := [.int p1]) (st := []) F dX7_whyNot_8 (m_X3_has isC_1 hc1) cv_RX7_133 (klC_8 isC_1) (ksC_8 isC_1) ⟨_, _, rfl⟩ rfl rfl rfl (Nat.le_of_ble_eq_true rfl) ⟨Nat.le_of_ble_eq_true rfl, Nat.le_of_ble_eq_true rfl⟩ ?_ rfl rfl
  clear hc1
  replace h := jn_some h
  obtain ⟨o3, hR3, hK3, hB3⟩ := h
  have hJ3 : ∀ (u : Unit), o3 = .inl u → WA X 0 0 25 [] [] m0 (EQ X (some (.int rr)) m0) := by
    intro u eo
    have h := hK3 _ eo
    clear hK3 eo
    cases h
  clear hK3
  have h := hR3
  clear hR3
  refine a_if_eq (tgt := 25) (pc := 11) F dX7_whyNot_11 (by decide) (fun q4 => ?_) (fun q4 => ?_)
  · replace h := ite_t q4 h
    clear q4
    refine a_lv F [] rfl ?_
    exact hJ3 _ (Option.some.inj h).symm
  · replace h := ite_f q4 h
    clear q4
    refine a_aload_n (pc := 14) F dX7_whyNot_14 0 rfl ?_
    refine a_iload_n (pc := 15) F dX7_whyNot_15 2 rfl ?_
    refine a_iload_n (pc := 16) F dX7_whyNot_16 3 rfl ?_
    refine a_iload (pc := 17) F dX7_whyNot_17 4 rfl ?_
    replace h := bnd_some h
    obtain ⟨x6, hc5, h⟩ := h
    refine a_callV (pc := 19) (k := 0) (As := [.int p2, .int p3, .int p4]) (st := []) F dX7_whyNot_19 (m_X7_nameInterpreters hc5) cv_RX7_134 kl_0 ks_0 ⟨_, _, rfl⟩ rfl rfl rfl (Nat.le_of_ble_eq_true rfl) ⟨Nat.le_of_ble_eq_true rfl, Nat.le_of_ble_eq_true rfl⟩ ?_ rfl rfl
    clear hc5
    refine a_if_ne (tgt := 35) (pc := 22) F dX7_whyNot_22 (by decide) (fun q7 => ?_) (fun q7 => ?_)
    · replace h := ite_f q7 h
      clear q7
      refine a_iload_n (pc := 35) F dX7_whyNot_35 2 rfl ?_
      refine a_iload_n (pc := 36) F dX7_whyNot_36 3 rfl ?_
      refine a_iload (pc := 37) F dX7_whyNot_37 4 rfl ?_
      replace h := bnd_some h
      obtain ⟨x9, hc8, h⟩ := h
      refine a_callS (pc := 39) (As := [.int p2, .int p3, .int p4]) (st := []) F dX7_whyNot_39 (m_X7_areRowOfDifferent hc8) cs_RX7_139 rfl rfl rfl (Nat.le_of_ble_eq_true rfl) ⟨Nat.le_of_ble_eq_true rfl, Nat.le_of_ble_eq_true rfl⟩ ?_ rfl rfl
      clear hc8
      refine a_if_ne (tgt := 55) (pc := 42) F dX7_whyNot_42 (by decide) (fun q10 => ?_) (fun q10 => ?_)
      · replace h := ite_f q10 h
        clear q10
        refine a_aload_n (pc := 55) F dX7_whyNot_55 0 rfl ?_
        refine a_getr (k := 0) (r := 1) (pc := 56) F dX7_whyNot_56 fl_RX7_10 kl_0 ks_0 rfl ?_
        refine a_iload_n (pc := 59) F dX7_whyNot_59 1 rfl ?_
        refine a_iload_n (pc := 60) F dX7_whyNot_60 2 rfl ?_
        refine a_iload_n (pc := 61) F dX7_whyNot_61 3 rfl ?_
        refine a_iload (pc := 62) F dX7_whyNot_62 4 rfl ?_
        replace h := bnd_some h
        obtain ⟨x12, hc11, h⟩ := h
        refine a_callV (pc := 64) (k := 1) (As := [.int p1, .int p2, .int p3, .int p4]) (st := []) F dX7_whyNot_64 (m_X2_reasonAgainst isC_1 hc11) cv_RX7_144 (klC_0 isC_1) (ksC_0 isC_1) ⟨_, _, rfl⟩ rfl rfl rfl (Nat.le_of_ble_eq_true rfl) ⟨Nat.le_of_ble_eq_true rfl, Nat.le_of_ble_eq_true rfl⟩ ?_ rfl rfl
        clear hc11
        replace h := hB3 _ (Option.some.inj h).symm
        cases h
        exact a_iret (pc := 67) F dX7_whyNot_67 ⟨_, rfl, rfl⟩
      · replace h := ite_t (Decidable.not_not.mp q10) h
        clear q10
        cases h
    · replace h := ite_t (Decidable.not_not.mp q7) h
      clear q7
      refine a_lv F [] rfl ?_
      exact hJ3 _ (Option.some.inj h).symm
