def f_L_at (p1 : Int32) (p2 : Int32) (m0 : Mem) : Option Int32 :=
  nm ((p1.toUInt32 >>> ((1 : Int32).toUInt32 &&& Int32.toUInt32 31)).toInt32) fun x1 => gNz p2 <| some (x1 - x1 / p2 * p2)
set_option maxRecDepth 100000 in
set_option maxHeartbeats 4000000 in
theorem m_L_at {p1 : Int32} {p2 : Int32} {m0 : Mem} {rr : Int32} (h : f_L_at p1 p2 m0 = some rr) : Con yL_at cL_at 2 (some Jvm.ClassFile.FieldType.int) 0 0 (fun G => [.int p1, .int p2]) m0 (some (.int rr)) m0 := by
  refine con_of (by decide) (fun G => Nat.le_of_ble_eq_true rfl) (fun X F => ?_)
  show WA X 0 0 0 [(0, .int p1), (1, .int p2)] [] m0 (EQ X (some (.int rr)) m0)
  rw [f_L_at] at h
  refine a_iload_n (pc := 0) F dL_at_0 0 rfl ?_
  refine a_iconst (v := 1) (pc := 1) F dL_at_1 (by decide) ?_
  refine a_iushr (pc := 2) F dL_at_2 ?_
  refine a_nmi fun x1 ex1 => ?_
  replace h := nm_at ex1 h
  clear ex1
  refine a_iload_n (pc := 3) F dL_at_3 1 rfl ?_
  replace h := gNz_some h
  obtain ⟨g2, h⟩ := h
  refine a_irem (pc := 4) F dL_at_4 g2 ?_
  cases h
  exact a_iret (pc := 5) F dL_at_5 ⟨_, rfl, rfl⟩
def f_L_size (p1 : Int32) (m0 : Mem) : Option Int32 :=
  (if p1 = 0 then some 0 else (if 16 ≤ p1 then (if 256 ≤ p1 then some 3 else some 2) else some 1))
set_option maxRecDepth 100000 in
set_option maxHeartbeats 4000000 in
theorem m_L_size {p1 : Int32} {m0 : Mem} {rr : Int32} (h : f_L_size p1 m0 = some rr) : Con yL_size cL_size 1 (some Jvm.ClassFile.FieldType.int) 0 0 (fun G => [.int p1]) m0 (some (.int rr)) m0 := by
  refine con_of (by decide) (fun G => Nat.le_of_ble_eq_true rfl) (fun X F => ?_)
  show WA X 0 0 0 [(0, .int p1)] [] m0 (EQ X (some (.int rr)) m0)
  rw [f_L_size] at h
  refine a_iload_n (pc := 0) F dL_size_0 0 rfl ?_
  refine a_if_ne (tgt := 8) (pc := 1) F dL_size_1 (by decide) (fun q1 => ?_) (fun q1 => ?_)
  · replace h := ite_f q1 h
    clear q1
    refine a_iload_n (pc := 8) F dL_size_8 0 rfl ?_
    refine a_bipush (v := 16) (pc := 9) F dL_size_9 (by decide) ?_
    refine a_icmp_ge (tgt := 18) (pc := 11) F dL_size_11 (by decide) (fun q2 => ?_) (fun q2 => ?_)
    · replace h := ite_t q2 h
      clear q2
      refine a_iload_n (pc := 18) F dL_size_18 0 rfl ?_
      refine a_sipush (v := 256) (pc := 19) F dL_size_19 (by decide) ?_
      refine a_icmp_ge (tgt := 29) (pc := 22) F dL_size_22 (by decide) (fun q3 => ?_) (fun q3 => ?_)
      · replace h := ite_t q3 h
        clear q3
        refine a_iconst (v := 3) (pc := 29) F dL_size_29 (by decide) ?_
        cases h
        exact a_iret (pc := 30) F dL_size_30 ⟨_, rfl, rfl⟩
      · replace h := ite_f q3 h
        clear q3
        refine a_iconst (v := 2) (pc := 25) F dL_size_25 (by decide) ?_
        refine a_goto (tgt := 30) (pc := 26) F dL_size_26 (by decide) ?_
        cases h
        exact a_iret (pc := 30) F dL_size_30 ⟨_, rfl, rfl⟩
    · replace h := ite_f q2 h
      clear q2
      refine a_iconst (v := 1) (pc := 14) F dL_size_14 (by decide) ?_
      refine a_goto (tgt := 30) (pc := 15) F dL_size_15 (by decide) ?_
      cases h
      exact a_iret (pc := 30) F dL_size_30 ⟨_, rfl, rfl⟩
  · replace h := ite_t (Decidable.not_not.mp q1) h
    clear q1
    refine a_iconst (v := 0) (pc := 4) F dL_size_4 (by decide) ?_
    refine a_goto (tgt := 30) (pc := 5) F dL_size_5 (by decide) ?_
    cases h
    exact a_iret (pc := 30) F dL_size_30 ⟨_, rfl, rfl⟩
def f_L_who (p1 : Int32) (p2 : Int32) (m0 : Mem) : Option Int32 :=
  nm (p1 >>> ((4 * p2) &&& 31)) fun x1 => some ((x1 &&& 15) - 1)
set_option maxRecDepth 100000 in
set_option maxHeartbeats 4000000 in
theorem m_L_who {p1 : Int32} {p2 : Int32} {m0 : Mem} {rr : Int32} (h : f_L_who p1 p2 m0 = some rr) : Con yL_who cL_who 2 (some Jvm.ClassFile.FieldType.int) 0 0 (fun G => [.int p1, .int p2]) m0 (some (.int rr)) m0 := by
  refine con_of (by decide) (fun G => Nat.le_of_ble_eq_true rfl) (fun X F => ?_)
  show WA X 0 0 0 [(0, .int p1), (1, .int p2)] [] m0 (EQ X (some (.int rr)) m0)
  rw [f_L_who] at h
  refine a_iload_n (pc := 0) F dL_who_0 0 rfl ?_
  refine a_iconst (v := 4) (pc := 1) F dL_who_1 (by decide) ?_
  refine a_iload_n (pc := 2) F dL_who_2 1 rfl ?_
  refine a_imul (pc := 3) F dL_who_3 ?_
  refine a_ishr (pc := 4) F dL_who_4 ?_
  refine a_nmi fun x1 ex1 => ?_
  replace h := nm_at ex1 h
  clear ex1
  refine a_bipush (v := 15) (pc := 5) F dL_who_5 (by decide) ?_
  refine a_iand (pc := 7) F dL_who_7 ?_
  refine a_iconst (v := 1) (pc := 8) F dL_who_8 (by decide) ?_
  refine a_isub (pc := 9) F dL_who_9 ?_
  cases h
  exact a_iret (pc := 10) F dL_who_10 ⟨_, rfl, rfl⟩
def f_L_has (p1 : Int32) (p2 : Int32) (m0 : Mem) : Option Int32 :=
  bnd (f_L_who p1 0 m0) fun x2 => (if x2 = p2 then some 1 else bnd (f_L_who p1 1 m0) fun x5 => (if x5 = p2 then some 1 else bnd (f_L_who p1 2 m0) fun x8 => (if x8 = p2 then some 1 else some 0)))
set_option maxRecDepth 100000 in
set_option maxHeartbeats 4000000 in
theorem m_L_has {p1 : Int32} {p2 : Int32} {m0 : Mem} {rr : Int32} (h : f_L_has p1 p2 m0 = some rr) : Con yL_has cL_has 2 (some Jvm.ClassFile.FieldType.boolean) 1 21 (fun G => [.int p1, .int p2]) m0 (some (.int rr)) m0 := by
  refine con_of (by decide) (fun G => Nat.le_of_ble_eq_true rfl) (fun X F => ?_)
  show WA X 0 0 0 [(0, .int p1), (1, .int p2)] [] m0 (EQ X (some (.int rr)) m0)
  rw [f_L_has] at h
  refine a_iload_n (pc := 0) F dL_has_0 0 rfl ?_
  refine a_iconst (v := 0) (pc := 1) F dL_has_1 (by decide) ?_
  replace h := bnd_some h
  obtain ⟨x2, hc1, h⟩ := h
  refine a_callS (pc := 2) (As := [.int p1, .int 0]) (st := []) F dL_has_2 (m_L_who hc1) cs_RL_8 rfl rfl rfl (Nat.le_of_ble_eq_true rfl) ⟨Nat.le_of_ble_eq_true rfl, Nat.le_of_ble_eq_true rfl⟩ ?_ rfl rfl
  clear hc1
  refine a_iload_n (pc := 5) F dL_has_5 1 rfl ?_
  refine a_icmp_eq (tgt := 27) (pc := 6) F dL_has_6 (by decide) (fun q3 => ?_) (fun q3 => ?_)
  · replace h := ite_t q3 h
    clear q3
    refine a_iconst (v := 1) (pc := 27) F dL_has_27 (by decide) ?_
    refine a_goto (tgt := 32) (pc := 28) F dL_has_28 (by decide) ?_
    cases h
    exact a_iret (pc := 32) F dL_has_32 ⟨_, rfl, rfl⟩
  · replace h := ite_f q3 h
    clear q3
    refine a_iload_n (pc := 9) F dL_has_9 0 rfl ?_
    refine a_iconst (v := 1) (pc := 10) F dL_has_10 (by decide) ?_
    replace h := bnd_some h
    obtain ⟨x5, hc4, h⟩ := h
    refine a_callS (pc := 11) (As := [.int p1, .int 1]) (st := []) F dL_has_11 (m_L_who hc4) cs_RL_8 rfl rfl rfl (Nat.le_of_ble_eq_true rfl) ⟨Nat.le_of_ble_eq_true rfl, Nat.le_of_ble_eq_true rfl⟩ ?_ rfl rfl
    clear hc4
    refine a_iload_n (pc := 14) F dL_has_14 1 rfl ?_
    refine a_icmp_eq (tgt := 27) (pc := 15) F dL_has_15 (by decide) (fun q6 => ?_) (fun q6 => ?_)
    · replace h := ite_t q6 h
      clear q6
      refine a_iconst (v := 1) (pc := 27) F dL_has_27 (by decide) ?_
      refine a_goto (tgt := 32) (pc := 28) F dL_has_28 (by decide) ?_
      cases h
      exact a_iret (pc := 32) F dL_has_32 ⟨_, rfl, rfl⟩
    · replace h := ite_f q6 h
      clear q6
      refine a_iload_n (pc := 18) F dL_has_18 0 rfl ?_
      refine a_iconst (v := 2) (pc := 19) F dL_has_19 (by decide) ?_
      replace h := bnd_some h
      obtain ⟨x8, hc7, h⟩ := h
      refine a_callS (pc := 20) (As := [.int p1, .int 2]) (st := []) F dL_has_20 (m_L_who hc7) cs_RL_8 rfl rfl rfl (Nat.le_of_ble_eq_true rfl) ⟨Nat.le_of_ble_eq_true rfl, Nat.le_of_ble_eq_true rfl⟩ ?_ rfl rfl
      clear hc7
      refine a_iload_n (pc := 23) F dL_has_23 1 rfl ?_
      refine a_icmp_ne (tgt := 31) (pc := 24) F dL_has_24 (by decide) (fun q9 => ?_) (fun q9 => ?_)
      · replace h := ite_f q9 h
        clear q9
        refine a_iconst (v := 0) (pc := 31) F dL_has_31 (by decide) ?_
        cases h
        exact a_iret (pc := 32) F dL_has_32 ⟨_, rfl, rfl⟩
      · replace h := ite_t (Decidable.not_not.mp q9) h
        clear q9
        refine a_iconst (v := 1) (pc := 27) F dL_has_27 (by decide) ?_
        refine a_goto (tgt := 32) (pc := 28) F dL_has_28 (by decide) ?_
        cases h
        exact a_iret (pc := 32) F dL_has_32 ⟨_, rfl, rfl⟩
def f_L_earns (p4 : Int32) (p5 : Int32) (p6 : Int32) (m0 : Mem) : Option Int32 :=
  gIn ((6 * p5) + 2) 30 <| nm (m0.1 163 ((6 * p5) + 2).toNatClampNeg) fun x2 => gIn ((6 * p4) + 3) 48 <| nm (m0.1 164 ((6 * p4) + 3).toNatClampNeg) fun x4 => nm ((x2 * x4) - (x2 * x4) / 10 * 10) fun x5 => bnd ((if x5 ≤ 0 then some 0 else some 1)) (fun (x8 : Int32) => (if p6 = 1 then some (((x2 * x4) / 10) + x8) else nm ((((x2 * x4) / 10) + x8) * (100 + (m0.1 162 13))) fun x10 => some (x10 / 100)))
set_option maxRecDepth 100000 in
set_option maxHeartbeats 4000000 in
theorem m_L_earns {p4 : Int32} {p5 : Int32} {p6 : Int32} {m0 : Mem} {rr : Int32} (h : f_L_earns p4 p5 p6 m0 = some rr) : Con yL_earns cL_earns 8 (some Jvm.ClassFile.FieldType.int) 0 0 (fun G => [.ref (ga G 162), .ref (ga G 163), .ref (ga G 164), .int p4, .int p5, .int p6]) m0 (some (.int rr)) m0 := by
  refine con_of (by decide) (fun G => Nat.le_of_ble_eq_true rfl) (fun X F => ?_)
  show WA X 0 0 0 [(0, .ref (ga X.G 162)), (1, .ref (ga X.G 163)), (2, .ref (ga X.G 164)), (3, .int p4), (4, .int p5), (5, .int p6)] [] m0 (EQ X (some (.int rr)) m0)
  rw [f_L_earns] at h
  refine a_aload_n (pc := 0) F dL_earns_0 1 rfl ?_
  refine a_bipush (v := 6) (pc := 1) F dL_earns_1 (by decide) ?_
  refine a_iload (pc := 3) F dL_earns_3 4 rfl ?_
  refine a_imul (pc := 5) F dL_earns_5 ?_
  refine a_iconst (v := 2) (pc := 6) F dL_earns_6 (by decide) ?_
  refine a_iadd (pc := 7) F dL_earns_7 ?_
  replace h := gIn_some h
  obtain ⟨g1, h⟩ := h
  refine a_ial (k := 163) (pc := 8) F dL_earns_8 kl_163 ks_163 g1 ?_
  refine a_nmi fun x2 ex2 => ?_
  replace h := nm_at ex2 h
  clear ex2
  refine a_aload_n (pc := 9) F dL_earns_9 2 rfl ?_
  refine a_bipush (v := 6) (pc := 10) F dL_earns_10 (by decide) ?_
  refine a_iload_n (pc := 12) F dL_earns_12 3 rfl ?_
  refine a_imul (pc := 13) F dL_earns_13 ?_
  refine a_iconst (v := 3) (pc := 14) F dL_earns_14 (by decide) ?_
  refine a_iadd (pc := 15) F dL_earns_15 ?_
  replace h := gIn_some h
  obtain ⟨g3, h⟩ := h
  refine a_ial (k := 164) (pc := 16) F dL_earns_16 kl_164 ks_164 g3 ?_
  refine a_nmi fun x4 ex4 => ?_
  replace h := nm_at ex4 h
  clear ex4
  refine a_imul (pc := 17) F dL_earns_17 ?_
  refine a_istore (lv' := [(6, .int (x2 * x4)), (0, .ref (ga X.G 162)), (1, .ref (ga X.G 163)), (2, .ref (ga X.G 164)), (3, .int p4), (4, .int p5), (5, .int p6)]) (pc := 18) F dL_earns_18 (by decide) rfl ?_
  refine a_iload (pc := 20) F dL_earns_20 0 rfl ?_
  refine a_bipush (v := 10) (pc := 22) F dL_earns_22 (by decide) ?_
  refine a_idiv (pc := 24) F dL_earns_24 (by decide) ?_
  refine a_iload (pc := 25) F dL_earns_25 0 rfl ?_
  refine a_bipush (v := 10) (pc := 27) F dL_earns_27 (by decide) ?_
  refine a_irem (pc := 29) F dL_earns_29 (by decide) ?_
  refine a_nmi fun x5 ex5 => ?_
  replace h := nm_at ex5 h
  clear ex5
  replace h := bnd_some h
  obtain ⟨x8, hR6, h⟩ := h
  have hJ6 : WA X 0 0 38 [(0, .ref (ga X.G 162)), (5, .int p6)] [.int x8, .int ((x2 * x4) / 10)] m0 (EQ X (some (.int rr)) m0) := by
    refine a_iadd (pc := 38) F dL_earns_38 ?_
    refine a_istore (lv' := [(7, .int (((x2 * x4) / 10) + x8)), (0, .ref (ga X.G 162)), (5, .int p6)]) (pc := 39) F dL_earns_39 (by decide) rfl ?_
    refine a_iload (pc := 41) F dL_earns_41 2 rfl ?_
    refine a_iconst (v := 1) (pc := 43) F dL_earns_43 (by decide) ?_
    refine a_icmp_ne (tgt := 52) (pc := 44) F dL_earns_44 (by decide) (fun q9 => ?_) (fun q9 => ?_)
    · replace h := ite_f q9 h
      clear q9
      refine a_iload (pc := 52) F dL_earns_52 0 rfl ?_
      refine a_bipush (v := 100) (pc := 54) F dL_earns_54 (by decide) ?_
      refine a_aload_n (pc := 56) F dL_earns_56 1 rfl ?_
      refine a_bipush (v := 13) (pc := 57) F dL_earns_57 (by decide) ?_
      refine a_ialc (k := 162) (pc := 59) F dL_earns_59 kl_162 ks_162 rfl rfl ?_
      refine a_iadd (pc := 60) F dL_earns_60 ?_
      refine a_imul (pc := 61) F dL_earns_61 ?_
      refine a_nmi fun x10 ex10 => ?_
      replace h := nm_at ex10 h
      clear ex10
      refine a_bipush (v := 100) (pc := 62) F dL_earns_62 (by decide) ?_
      refine a_idiv (pc := 64) F dL_earns_64 (by decide) ?_
      cases h
      exact a_iret (pc := 65) F dL_earns_65 ⟨_, rfl, rfl⟩
    · replace h := ite_t (Decidable.not_not.mp q9) h
      clear q9
      refine a_iload (pc := 47) F dL_earns_47 0 rfl ?_
      refine a_goto (tgt := 65) (pc := 49) F dL_earns_49 (by decide) ?_
      cases h
      exact a_iret (pc := 65) F dL_earns_65 ⟨_, rfl, rfl⟩
  clear h
  have h := hR6
  clear hR6
  refine a_if_le (tgt := 37) (pc := 30) F dL_earns_30 (by decide) (fun q7 => ?_) (fun q7 => ?_)
  · replace h := ite_t q7 h
    clear q7
    refine a_iconst (v := 0) (pc := 37) F dL_earns_37 (by decide) ?_
    refine a_lv F [1, 6] rfl ?_
    cases h
    exact hJ6
  · replace h := ite_f q7 h
    clear q7
    refine a_iconst (v := 1) (pc := 33) F dL_earns_33 (by decide) ?_
    refine a_goto (tgt := 38) (pc := 34) F dL_earns_34 (by decide) ?_
    refine a_lv F [1, 6] rfl ?_
    cases h
    exact hJ6
def f_L_together_L15 (p5 : Int32) (p6 : Int32) (m0 : Mem) (x4 : Int32) : (Int32 × Int32) → Option ((Int32 × Int32) ⊕ Int32)
  | (x6, x7) => (if x4 ≤ x7 then some (.inr x6) else (if p6 = 2 then gIn p5 8 <| nm (m0.1 165 p5.toNatClampNeg) fun x20 => bnd (f_L_who x20 x7 m0) fun x22 => bnd (f_L_earns p5 x22 x4 m0) fun x24 => nm (x7 + 1) fun x25 => some (.inl (x6 + x24, x25)) else (if p6 = 1 then gIn p5 8 <| nm (m0.1 165 p5.toNatClampNeg) fun x13 => bnd (f_L_who x13 x7 m0) fun x15 => bnd (f_L_earns p5 x15 x4 m0) fun x17 => nm (x7 + 1) fun x18 => some (.inl (x6 + (x17 / 2), x18)) else nm (x7 + 1) fun x11 => some (.inl (x6 + 0, x11)))))
def f_L_together (p5 : Int32) (p6 : Int32) (m0 : Mem) : Option Int32 :=
  gIn p5 8 <| nm (m0.1 165 p5.toNatClampNeg) fun x2 => bnd (f_L_size x2 m0) fun x4 => bnd (lp (f_L_together_L15 p5 p6 m0 x4) 1000000 (0, 0)) (fun x26 => some x26)
set_option maxRecDepth 100000 in
set_option maxHeartbeats 4000000 in
theorem m_L_together {p5 : Int32} {p6 : Int32} {m0 : Mem} {rr : Int32} (h : f_L_together p5 p6 m0 = some rr) : Con yL_together cL_together 9 (some Jvm.ClassFile.FieldType.int) 1 27 (fun G => [.ref (ga G 162), .ref (ga G 163), .ref (ga G 164), .ref (ga G 165), .int p5, .int p6]) m0 (some (.int rr)) m0 := by
  refine con_of (by decide) (fun G => Nat.le_of_ble_eq_true rfl) (fun X F => ?_)
  show WA X 0 0 0 [(0, .ref (ga X.G 162)), (1, .ref (ga X.G 163)), (2, .ref (ga X.G 164)), (3, .ref (ga X.G 165)), (4, .int p5), (5, .int p6)] [] m0 (EQ X (some (.int rr)) m0)
  rw [f_L_together] at h
  refine a_iconst (v := 0) (pc := 0) F dL_together_0 (by decide) ?_
  refine a_istore (lv' := [(6, .int 0), (0, .ref (ga X.G 162)), (1, .ref (ga X.G 163)), (2, .ref (ga X.G 164)), (3, .ref (ga X.G 165)), (4, .int p5), (5, .int p6)]) (pc := 1) F dL_together_1 (by decide) rfl ?_
  refine a_aload_n (pc := 3) F dL_together_3 4 rfl ?_
  refine a_iload (pc := 4) F dL_together_4 5 rfl ?_
  replace h := gIn_some h
  obtain ⟨g1, h⟩ := h
  refine a_ial (k := 165) (pc := 6) F dL_together_6 kl_165 ks_165 g1 ?_
  refine a_nmi fun x2 ex2 => ?_
  replace h := nm_at ex2 h
  clear ex2
  replace h := bnd_some h
  obtain ⟨x4, hc3, h⟩ := h
  refine a_callS (pc := 7) (As := [.int x2]) (st := []) F dL_together_7 (m_L_size hc3) cs_RL_14 rfl rfl rfl (Nat.le_of_ble_eq_true rfl) ⟨Nat.le_of_ble_eq_true rfl, Nat.le_of_ble_eq_true rfl⟩ ?_ rfl rfl
  clear hc3
  refine a_istore (lv' := [(7, .int x4), (6, .int 0), (0, .ref (ga X.G 162)), (1, .ref (ga X.G 163)), (2, .ref (ga X.G 164)), (3, .ref (ga X.G 165)), (4, .int p5), (5, .int p6)]) (pc := 10) F dL_together_10 (by decide) rfl ?_
  refine a_iconst (v := 0) (pc := 12) F dL_together_12 (by decide) ?_
  refine a_istore (lv' := [(8, .int 0), (7, .int x4), (6, .int 0), (0, .ref (ga X.G 162)), (1, .ref (ga X.G 163)), (2, .ref (ga X.G 164)), (3, .ref (ga X.G 165)), (4, .int p5), (5, .int p6)]) (pc := 13) F dL_together_13 (by decide) rfl ?_
  refine a_lv F [3, 4, 5, 6, 7, 8, 2, 1, 0] rfl ?_
  replace h := bnd_some h
  obtain ⟨x26, hL5, h⟩ := h
  have hE5 : WA X 0 0 92 [(6, .int x26)] [] m0 (EQ X (some (.int rr)) m0) := by
    refine a_iload (pc := 92) F dL_together_92 0 rfl ?_
    cases h
    exact a_iret (pc := 94) F dL_together_94 ⟨_, rfl, rfl⟩
  clear h
  refine lp_run (P := fun (s : (Int32 × Int32)) => WA X 0 0 15 [(0, .ref (ga X.G 162)), (1, .ref (ga X.G 163)), (2, .ref (ga X.G 164)), (3, .ref (ga X.G 165)), (4, .int p5), (5, .int p6), (6, .int s.1), (7, .int x4), (8, .int s.2)] [] m0 (EQ X (some (.int rr)) m0)) ?_ _ _ hL5
  clear hL5
  rintro ⟨x6, x7⟩ xo h hP5 hT5
  show WA X 0 0 15 [(0, .ref (ga X.G 162)), (1, .ref (ga X.G 163)), (2, .ref (ga X.G 164)), (3, .ref (ga X.G 165)), (4, .int p5), (5, .int p6), (6, .int x6), (7, .int x4), (8, .int x7)] [] m0 (EQ X (some (.int rr)) m0)
  rw [f_L_together_L15] at h
  refine a_iload (pc := 15) F dL_together_15 8 rfl ?_
  refine a_iload (pc := 17) F dL_together_17 7 rfl ?_
  refine a_icmp_ge (tgt := 92) (pc := 19) F dL_together_19 (by decide) (fun q8 => ?_) (fun q8 => ?_)
  · replace h := ite_t q8 h
    clear q8
    refine a_lv F [6] rfl ?_
    cases hT5 _ (Option.some.inj h).symm
    exact hE5
  · replace h := ite_f q8 h
    clear q8
    refine a_iload (pc := 22) F dL_together_22 6 rfl ?_
    refine a_iload (pc := 24) F dL_together_24 5 rfl ?_
    refine a_iconst (v := 2) (pc := 26) F dL_together_26 (by decide) ?_
    refine a_icmp_ne (tgt := 52) (pc := 27) F dL_together_27 (by decide) (fun q9 => ?_) (fun q9 => ?_)
    · replace h := ite_f q9 h
      clear q9
      refine a_iload (pc := 52) F dL_together_52 5 rfl ?_
      refine a_iconst (v := 1) (pc := 54) F dL_together_54 (by decide) ?_
      refine a_icmp_ne (tgt := 82) (pc := 55) F dL_together_55 (by decide) (fun q10 => ?_) (fun q10 => ?_)
      · replace h := ite_f q10 h
        clear q10
        refine a_iconst (v := 0) (pc := 82) F dL_together_82 (by decide) ?_
        refine a_iadd (pc := 83) F dL_together_83 ?_
        refine a_istore (lv' := [(6, .int (x6 + 0)), (0, .ref (ga X.G 162)), (1, .ref (ga X.G 163)), (2, .ref (ga X.G 164)), (3, .ref (ga X.G 165)), (4, .int p5), (5, .int p6), (7, .int x4), (8, .int x7)]) (pc := 84) F dL_together_84 (by decide) rfl ?_
        obtain ⟨x11, ex11⟩ : ∃ x11 : Int32, x11 = x7 + 1 := ⟨_, rfl⟩
        refine a_iinc (v := x11) (lv' := [(8, .int x11), (6, .int (x6 + 0)), (0, .ref (ga X.G 162)), (1, .ref (ga X.G 163)), (2, .ref (ga X.G 164)), (3, .ref (ga X.G 165)), (4, .int p5), (5, .int p6), (7, .int x4)]) (pc := 86) F dL_together_86 8 rfl (by rw [ex11]; rfl) (by decide) rfl ?_
        replace h := nm_at ex11 h
        clear ex11
        refine a_goto (tgt := 15) (pc := 89) F dL_together_89 (by decide) ?_
        refine a_lv F [2, 3, 4, 5, 6, 7, 1, 8, 0] rfl ?_
        exact hP5 _ (Option.some.inj h).symm
      · replace h := ite_t (Decidable.not_not.mp q10) h
        clear q10
        refine a_aload_n (pc := 58) F dL_together_58 0 rfl ?_
        refine a_aload_n (pc := 59) F dL_together_59 1 rfl ?_
        refine a_aload_n (pc := 60) F dL_together_60 2 rfl ?_
        refine a_iload (pc := 61) F dL_together_61 4 rfl ?_
        refine a_aload_n (pc := 63) F dL_together_63 3 rfl ?_
        refine a_iload (pc := 64) F dL_together_64 4 rfl ?_
        replace h := gIn_some h
        obtain ⟨g12, h⟩ := h
        refine a_ial (k := 165) (pc := 66) F dL_together_66 kl_165 ks_165 g12 ?_
        refine a_nmi fun x13 ex13 => ?_
        replace h := nm_at ex13 h
        clear ex13
        refine a_iload (pc := 67) F dL_together_67 8 rfl ?_
        replace h := bnd_some h
        obtain ⟨x15, hc14, h⟩ := h
        refine a_callS (pc := 69) (As := [.int x13, .int x7]) (st := [.int p5, .ref (ga X.G 164), .ref (ga X.G 163), .ref (ga X.G 162), .int x6]) F dL_together_69 (m_L_who hc14) cs_RL_8 rfl rfl rfl (Nat.le_of_ble_eq_true rfl) ⟨Nat.le_of_ble_eq_true rfl, Nat.le_of_ble_eq_true rfl⟩ ?_ rfl rfl
        clear hc14
        refine a_iload (pc := 72) F dL_together_72 7 rfl ?_
        replace h := bnd_some h
        obtain ⟨x17, hc16, h⟩ := h
        refine a_callS (pc := 74) (As := [.ref (ga X.G 162), .ref (ga X.G 163), .ref (ga X.G 164), .int p5, .int x15, .int x4]) (st := [.int x6]) F dL_together_74 (m_L_earns hc16) cs_RL_18 rfl rfl rfl (Nat.le_of_ble_eq_true rfl) ⟨Nat.le_of_ble_eq_true rfl, Nat.le_of_ble_eq_true rfl⟩ ?_ rfl rfl
        clear hc16
        refine a_iconst (v := 2) (pc := 77) F dL_together_77 (by decide) ?_
        refine a_idiv (pc := 78) F dL_together_78 (by decide) ?_
        refine a_goto (tgt := 83) (pc := 79) F dL_together_79 (by decide) ?_
        refine a_iadd (pc := 83) F dL_together_83 ?_
        refine a_istore (lv' := [(6, .int (x6 + (x17 / 2))), (0, .ref (ga X.G 162)), (1, .ref (ga X.G 163)), (2, .ref (ga X.G 164)), (3, .ref (ga X.G 165)), (4, .int p5), (5, .int p6), (7, .int x4), (8, .int x7)]) (pc := 84) F dL_together_84 (by decide) rfl ?_
        obtain ⟨x18, ex18⟩ : ∃ x18 : Int32, x18 = x7 + 1 := ⟨_, rfl⟩
        refine a_iinc (v := x18) (lv' := [(8, .int x18), (6, .int (x6 + (x17 / 2))), (0, .ref (ga X.G 162)), (1, .ref (ga X.G 163)), (2, .ref (ga X.G 164)), (3, .ref (ga X.G 165)), (4, .int p5), (5, .int p6), (7, .int x4)]) (pc := 86) F dL_together_86 8 rfl (by rw [ex18]; rfl) (by decide) rfl ?_
        replace h := nm_at ex18 h
        clear ex18
        refine a_goto (tgt := 15) (pc := 89) F dL_together_89 (by decide) ?_
        refine a_lv F [2, 3, 4, 5, 6, 7, 1, 8, 0] rfl ?_
        exact hP5 _ (Option.some.inj h).symm
    · replace h := ite_t (Decidable.not_not.mp q9) h
      clear q9
      refine a_aload_n (pc := 30) F dL_together_30 0 rfl ?_
      refine a_aload_n (pc := 31) F dL_together_31 1 rfl ?_
      refine a_aload_n (pc := 32) F dL_together_32 2 rfl ?_
      refine a_iload (pc := 33) F dL_together_33 4 rfl ?_
      refine a_aload_n (pc := 35) F dL_together_35 3 rfl ?_
      refine a_iload (pc := 36) F dL_together_36 4 rfl ?_
      replace h := gIn_some h
      obtain ⟨g19, h⟩ := h
      refine a_ial (k := 165) (pc := 38) F dL_together_38 kl_165 ks_165 g19 ?_
      refine a_nmi fun x20 ex20 => ?_
      replace h := nm_at ex20 h
      clear ex20
      refine a_iload (pc := 39) F dL_together_39 8 rfl ?_
      replace h := bnd_some h
      obtain ⟨x22, hc21, h⟩ := h
      refine a_callS (pc := 41) (As := [.int x20, .int x7]) (st := [.int p5, .ref (ga X.G 164), .ref (ga X.G 163), .ref (ga X.G 162), .int x6]) F dL_together_41 (m_L_who hc21) cs_RL_8 rfl rfl rfl (Nat.le_of_ble_eq_true rfl) ⟨Nat.le_of_ble_eq_true rfl, Nat.le_of_ble_eq_true rfl⟩ ?_ rfl rfl
      clear hc21
      refine a_iload (pc := 44) F dL_together_44 7 rfl ?_
      replace h := bnd_some h
      obtain ⟨x24, hc23, h⟩ := h
      refine a_callS (pc := 46) (As := [.ref (ga X.G 162), .ref (ga X.G 163), .ref (ga X.G 164), .int p5, .int x22, .int x4]) (st := [.int x6]) F dL_together_46 (m_L_earns hc23) cs_RL_18 rfl rfl rfl (Nat.le_of_ble_eq_true rfl) ⟨Nat.le_of_ble_eq_true rfl, Nat.le_of_ble_eq_true rfl⟩ ?_ rfl rfl
      clear hc23
      refine a_goto (tgt := 83) (pc := 49) F dL_together_49 (by decide) ?_
      refine a_iadd (pc := 83) F dL_together_83 ?_
      refine a_istore (lv' := [(6, .int (x6 + x24)), (0, .ref (ga X.G 162)), (1, .ref (ga X.G 163)), (2, .ref (ga X.G 164)), (3, .ref (ga X.G 165)), (4, .int p5), (5, .int p6), (7, .int x4), (8, .int x7)]) (pc := 84) F dL_together_84 (by decide) rfl ?_
      obtain ⟨x25, ex25⟩ : ∃ x25 : Int32, x25 = x7 + 1 := ⟨_, rfl⟩
      refine a_iinc (v := x25) (lv' := [(8, .int x25), (6, .int (x6 + x24)), (0, .ref (ga X.G 162)), (1, .ref (ga X.G 163)), (2, .ref (ga X.G 164)), (3, .ref (ga X.G 165)), (4, .int p5), (5, .int p6), (7, .int x4)]) (pc := 86) F dL_together_86 8 rfl (by rw [ex25]; rfl) (by decide) rfl ?_
      replace h := nm_at ex25 h
      clear ex25
      refine a_goto (tgt := 15) (pc := 89) F dL_together_89 (by decide) ?_
      refine a_lv F [2, 3, 4, 5, 6, 7, 1, 8, 0] rfl ?_
      exact hP5 _ (Option.some.inj h).symm
def f_L_pays_L12 (p5 : Int32) (p6 : Int32) (x4 : Int32) : (Int32 × Mem) → Option ((Int32 × Mem) ⊕ Mem)
  | (x6, m7) => (if x4 ≤ x6 then some (.inr m7) else gIn p5 8 <| nm (m7.1 165 p5.toNatClampNeg) fun x10 => bnd (f_L_who x10 x6 m7) fun x12 => bnd (f_L_earns p5 x12 x4 m7) fun x14 => gIn ((6 * x12) + 4) 30 <| nm (m7.1 163 ((6 * x12) + 4).toNatClampNeg) fun x16 => (if p6 = 2 then gIn ((6 * x12) + 4) 30 <| nm (si m7 163 ((6 * x12) + 4).toNatClampNeg (x16 + x14)) fun m26 => nm (x6 + 1) fun x27 => some (.inl (x27, m26)) else (if p6 = 1 then gIn ((6 * x12) + 4) 30 <| nm (si m7 163 ((6 * x12) + 4).toNatClampNeg (x16 + (x14 / 2))) fun m23 => nm (x6 + 1) fun x24 => some (.inl (x24, m23)) else gIn ((6 * x12) + 4) 30 <| nm (si m7 163 ((6 * x12) + 4).toNatClampNeg (x16 + 0)) fun m20 => nm (x6 + 1) fun x21 => some (.inl (x21, m20)))))
def f_L_pays (p5 : Int32) (p6 : Int32) (m0 : Mem) : Option (Int32 × Mem) :=
  gIn p5 8 <| nm (m0.1 165 p5.toNatClampNeg) fun x2 => bnd (f_L_size x2 m0) fun x4 => bnd (lp (f_L_pays_L12 p5 p6 x4) 1000000 (0, m0)) (fun m28 => bnd (f_L_together p5 p6 m28) fun x30 => gIn ((6 * p5) + 5) 48 <| nm (m28.1 164 ((6 * p5) + 5).toNatClampNeg) fun x32 => gIn ((6 * p5) + 5) 48 <| nm (si m28 164 ((6 * p5) + 5).toNatClampNeg (x32 + x30)) fun m34 => nm (si m34 162 3 ((m34.1 162 3) + x30)) fun m35 => some (x30, m35))
set_option maxRecDepth 100000 in
set_option maxHeartbeats 4000000 in
theorem m_L_pays {p5 : Int32} {p6 : Int32} {m0 : Mem} {rr : Int32} {mm : Mem} (h : f_L_pays p5 p6 m0 = some (rr, mm)) : Con yL_pays cL_pays 10 (some Jvm.ClassFile.FieldType.int) 2 55 (fun G => [.ref (ga G 162), .ref (ga G 163), .ref (ga G 164), .ref (ga G 165), .int p5, .int p6]) m0 (some (.int rr)) mm := by
  refine con_of (by decide) (fun G => Nat.le_of_ble_eq_true rfl) (fun X F => ?_)
  show WA X 0 0 0 [(0, .ref (ga X.G 162)), (1, .ref (ga X.G 163)), (2, .ref (ga X.G 164)), (3, .ref (ga X.G 165)), (4, .int p5), (5, .int p6)] [] m0 (EQ X (some (.int rr)) mm)
  rw [f_L_pays] at h
  refine a_aload_n (pc := 0) F dL_pays_0 3 rfl ?_
  refine a_iload (pc := 1) F dL_pays_1 4 rfl ?_
  replace h := gIn_some h
  obtain ⟨g1, h⟩ := h
  refine a_ial (k := 165) (pc := 3) F dL_pays_3 kl_165 ks_165 g1 ?_
  refine a_nmi fun x2 ex2 => ?_
  replace h := nm_at ex2 h
  clear ex2
  replace h := bnd_some h
  obtain ⟨x4, hc3, h⟩ := h
  refine a_callS (pc := 4) (As := [.int x2]) (st := []) F dL_pays_4 (m_L_size hc3) cs_RL_14 rfl rfl rfl (Nat.le_of_ble_eq_true rfl) ⟨Nat.le_of_ble_eq_true rfl, Nat.le_of_ble_eq_true rfl⟩ ?_ rfl rfl
  clear hc3
  refine a_istore (lv' := [(6, .int x4), (0, .ref (ga X.G 162)), (1, .ref (ga X.G 163)), (2, .ref (ga X.G 164)), (3, .ref (ga X.G 165)), (4, .int p5), (5, .int p6)]) (pc := 7) F dL_pays_7 (by decide) rfl ?_
  refine a_iconst (v := 0) (pc := 9) F dL_pays_9 (by decide) ?_
  refine a_istore (lv' := [(7, .int 0), (6, .int x4), (0, .ref (ga X.G 162)), (1, .ref (ga X.G 163)), (2, .ref (ga X.G 164)), (3, .ref (ga X.G 165)), (4, .int p5), (5, .int p6)]) (pc := 10) F dL_pays_10 (by decide) rfl ?_
  refine a_lv F [2, 3, 4, 5, 6, 7, 1, 0] rfl ?_
  replace h := bnd_some h
  obtain ⟨m28, hL5, h⟩ := h
  have hE5 : WA X 0 0 87 [(0, .ref (ga X.G 162)), (1, .ref (ga X.G 163)), (2, .ref (ga X.G 164)), (3, .ref (ga X.G 165)), (4, .int p5), (5, .int p6)] [] m28 (EQ X (some (.int rr)) mm) := by
    refine a_aload_n (pc := 87) F dL_pays_87 0 rfl ?_
    refine a_aload_n (pc := 88) F dL_pays_88 1 rfl ?_
    refine a_aload_n (pc := 89) F dL_pays_89 2 rfl ?_
    refine a_aload_n (pc := 90) F dL_pays_90 3 rfl ?_
    refine a_iload (pc := 91) F dL_pays_91 4 rfl ?_
    refine a_iload (pc := 93) F dL_pays_93 5 rfl ?_
    replace h := bnd_some h
    obtain ⟨x30, hc29, h⟩ := h
    refine a_callS (pc := 95) (As := [.ref (ga X.G 162), .ref (ga X.G 163), .ref (ga X.G 164), .ref (ga X.G 165), .int p5, .int p6]) (st := []) F dL_pays_95 (m_L_together hc29) cs_RL_22 rfl rfl rfl (Nat.le_of_ble_eq_true rfl) ⟨Nat.le_of_ble_eq_true rfl, Nat.le_of_ble_eq_true rfl⟩ ?_ rfl rfl
    clear hc29
    refine a_istore (lv' := [(7, .int x30), (0, .ref (ga X.G 162)), (1, .ref (ga X.G 163)), (2, .ref (ga X.G 164)), (3, .ref (ga X.G 165)), (4, .int p5), (5, .int p6)]) (pc := 98) F dL_pays_98 (by decide) rfl ?_
    refine a_aload_n (pc := 100) F dL_pays_100 3 rfl ?_
    refine a_bipush (v := 6) (pc := 101) F dL_pays_101 (by decide) ?_
    refine a_iload (pc := 103) F dL_pays_103 5 rfl ?_
    refine a_imul (pc := 105) F dL_pays_105 ?_
    refine a_iconst (v := 5) (pc := 106) F dL_pays_106 (by decide) ?_
    refine a_iadd (pc := 107) F dL_pays_107 ?_
    refine a_dup2 (pc := 108) F dL_pays_108 rfl rfl ?_
    replace h := gIn_some h
    obtain ⟨g31, h⟩ := h
    refine a_ial (k := 164) (pc := 109) F dL_pays_109 kl_164 ks_164 g31 ?_
    refine a_nmi fun x32 ex32 => ?_
    replace h := nm_at ex32 h
    clear ex32
    refine a_iload (pc := 110) F dL_pays_110 0 rfl ?_
    refine a_iadd (pc := 112) F dL_pays_112 ?_
    replace h := gIn_some h
    obtain ⟨g33, h⟩ := h
    refine a_ias (k := 164) (pc := 113) F dL_pays_113 kl_164 ks_164 g33 ?_
    refine a_nmm fun m34 em34 => ?_
    replace h := nm_at em34 h
    clear em34
    refine a_aload_n (pc := 114) F dL_pays_114 1 rfl ?_
    refine a_iconst (v := 3) (pc := 115) F dL_pays_115 (by decide) ?_
    refine a_dup2 (pc := 116) F dL_pays_116 rfl rfl ?_
    refine a_ialc (k := 162) (pc := 117) F dL_pays_117 kl_162 ks_162 rfl rfl ?_
    refine a_iload (pc := 118) F dL_pays_118 0 rfl ?_
    refine a_iadd (pc := 120) F dL_pays_120 ?_
    refine a_iasc (k := 162) (pc := 121) F dL_pays_121 kl_162 ks_162 rfl rfl ?_
    refine a_nmm fun m35 em35 => ?_
    replace h := nm_at em35 h
    clear em35
    refine a_iload (pc := 122) F dL_pays_122 0 rfl ?_
    cases h
    exact a_iret (pc := 124) F dL_pays_124 ⟨_, rfl, rfl⟩
  clear h
  refine lp_run (P := fun (s : (Int32 × Mem)) => WA X 0 0 12 [(0, .ref (ga X.G 162)), (1, .ref (ga X.G 163)), (2, .ref (ga X.G 164)), (3, .ref (ga X.G 165)), (4, .int p5), (5, .int p6), (6, .int x4), (7, .int s.1)] [] s.2 (EQ X (some (.int rr)) mm)) ?_ _ _ hL5
  clear hL5
  rintro ⟨x6, m7⟩ xo h hP5 hT5
  show WA X 0 0 12 [(0, .ref (ga X.G 162)), (1, .ref (ga X.G 163)), (2, .ref (ga X.G 164)), (3, .ref (ga X.G 165)), (4, .int p5), (5, .int p6), (6, .int x4), (7, .int x6)] [] m7 (EQ X (some (.int rr)) mm)
  rw [f_L_pays_L12] at h
  refine a_iload (pc := 12) F dL_pays_12 7 rfl ?_
  refine a_iload (pc := 14) F dL_pays_14 6 rfl ?_
  refine a_icmp_ge (tgt := 87) (pc := 16) F dL_pays_16 (by decide) (fun q8 => ?_) (fun q8 => ?_)
  · replace h := ite_t q8 h
    clear q8
    refine a_lv F [0, 1, 2, 3, 4, 5] rfl ?_
    cases hT5 _ (Option.some.inj h).symm
    exact hE5
  · replace h := ite_f q8 h
    clear q8
    refine a_aload_n (pc := 19) F dL_pays_19 3 rfl ?_
    refine a_iload (pc := 20) F dL_pays_20 4 rfl ?_
    replace h := gIn_some h
    obtain ⟨g9, h⟩ := h
    refine a_ial (k := 165) (pc := 22) F dL_pays_22 kl_165 ks_165 g9 ?_
    refine a_nmi fun x10 ex10 => ?_
    replace h := nm_at ex10 h
    clear ex10
    refine a_iload (pc := 23) F dL_pays_23 7 rfl ?_
    replace h := bnd_some h
    obtain ⟨x12, hc11, h⟩ := h
    refine a_callS (pc := 25) (As := [.int x10, .int x6]) (st := []) F dL_pays_25 (m_L_who hc11) cs_RL_8 rfl rfl rfl (Nat.le_of_ble_eq_true rfl) ⟨Nat.le_of_ble_eq_true rfl, Nat.le_of_ble_eq_true rfl⟩ ?_ rfl rfl
    clear hc11
    refine a_istore (lv' := [(8, .int x12), (0, .ref (ga X.G 162)), (1, .ref (ga X.G 163)), (2, .ref (ga X.G 164)), (3, .ref (ga X.G 165)), (4, .int p5), (5, .int p6), (6, .int x4), (7, .int x6)]) (pc := 28) F dL_pays_28 (by decide) rfl ?_
    refine a_aload_n (pc := 30) F dL_pays_30 1 rfl ?_
    refine a_aload_n (pc := 31) F dL_pays_31 2 rfl ?_
    refine a_aload_n (pc := 32) F dL_pays_32 3 rfl ?_
    refine a_iload (pc := 33) F dL_pays_33 5 rfl ?_
    refine a_iload (pc := 35) F dL_pays_35 0 rfl ?_
    refine a_iload (pc := 37) F dL_pays_37 7 rfl ?_
    replace h := bnd_some h
    obtain ⟨x14, hc13, h⟩ := h
    refine a_callS (pc := 39) (As := [.ref (ga X.G 162), .ref (ga X.G 163), .ref (ga X.G 164), .int p5, .int x12, .int x4]) (st := []) F dL_pays_39 (m_L_earns hc13) cs_RL_18 rfl rfl rfl (Nat.le_of_ble_eq_true rfl) ⟨Nat.le_of_ble_eq_true rfl, Nat.le_of_ble_eq_true rfl⟩ ?_ rfl rfl
    clear hc13
    refine a_istore (lv' := [(9, .int x14), (8, .int x12), (0, .ref (ga X.G 162)), (1, .ref (ga X.G 163)), (2, .ref (ga X.G 164)), (3, .ref (ga X.G 165)), (4, .int p5), (5, .int p6), (6, .int x4), (7, .int x6)]) (pc := 42) F dL_pays_42 (by decide) rfl ?_
    refine a_aload_n (pc := 44) F dL_pays_44 3 rfl ?_
    refine a_bipush (v := 6) (pc := 45) F dL_pays_45 (by decide) ?_
    refine a_iload (pc := 47) F dL_pays_47 1 rfl ?_
    refine a_imul (pc := 49) F dL_pays_49 ?_
    refine a_iconst (v := 4) (pc := 50) F dL_pays_50 (by decide) ?_
    refine a_iadd (pc := 51) F dL_pays_51 ?_
    refine a_dup2 (pc := 52) F dL_pays_52 rfl rfl ?_
    replace h := gIn_some h
    obtain ⟨g15, h⟩ := h
    refine a_ial (k := 163) (pc := 53) F dL_pays_53 kl_163 ks_163 g15 ?_
    refine a_nmi fun x16 ex16 => ?_
    replace h := nm_at ex16 h
    clear ex16
    refine a_iload (pc := 54) F dL_pays_54 7 rfl ?_
    refine a_iconst (v := 2) (pc := 56) F dL_pays_56 (by decide) ?_
    refine a_icmp_ne (tgt := 65) (pc := 57) F dL_pays_57 (by decide) (fun q17 => ?_) (fun q17 => ?_)
    · replace h := ite_f q17 h
      clear q17
      refine a_iload (pc := 65) F dL_pays_65 7 rfl ?_
      refine a_iconst (v := 1) (pc := 67) F dL_pays_67 (by decide) ?_
      refine a_icmp_ne (tgt := 78) (pc := 68) F dL_pays_68 (by decide) (fun q18 => ?_) (fun q18 => ?_)
      · replace h := ite_f q18 h
        clear q18
        refine a_iconst (v := 0) (pc := 78) F dL_pays_78 (by decide) ?_
        refine a_iadd (pc := 79) F dL_pays_79 ?_
        replace h := gIn_some h
        obtain ⟨g19, h⟩ := h
        refine a_ias (k := 163) (pc := 80) F dL_pays_80 kl_163 ks_163 g19 ?_
        refine a_nmm fun m20 em20 => ?_
        replace h := nm_at em20 h
        clear em20
        obtain ⟨x21, ex21⟩ : ∃ x21 : Int32, x21 = x6 + 1 := ⟨_, rfl⟩
        refine a_iinc (v := x21) (lv' := [(7, .int x21), (9, .int x14), (8, .int x12), (0, .ref (ga X.G 162)), (1, .ref (ga X.G 163)), (2, .ref (ga X.G 164)), (3, .ref (ga X.G 165)), (4, .int p5), (5, .int p6), (6, .int x4)]) (pc := 81) F dL_pays_81 9 rfl (by rw [ex21]; rfl) (by decide) rfl ?_
        replace h := nm_at ex21 h
        clear ex21
        refine a_goto (tgt := 12) (pc := 84) F dL_pays_84 (by decide) ?_
        refine a_lv F [3, 4, 5, 6, 7, 8, 9, 0] rfl ?_
        exact hP5 _ (Option.some.inj h).symm
      · replace h := ite_t (Decidable.not_not.mp q18) h
        clear q18
        refine a_iload (pc := 71) F dL_pays_71 0 rfl ?_
        refine a_iconst (v := 2) (pc := 73) F dL_pays_73 (by decide) ?_
        refine a_idiv (pc := 74) F dL_pays_74 (by decide) ?_
        refine a_goto (tgt := 79) (pc := 75) F dL_pays_75 (by decide) ?_
        refine a_iadd (pc := 79) F dL_pays_79 ?_
        replace h := gIn_some h
        obtain ⟨g22, h⟩ := h
        refine a_ias (k := 163) (pc := 80) F dL_pays_80 kl_163 ks_163 g22 ?_
        refine a_nmm fun m23 em23 => ?_
        replace h := nm_at em23 h
        clear em23
        obtain ⟨x24, ex24⟩ : ∃ x24 : Int32, x24 = x6 + 1 := ⟨_, rfl⟩
        refine a_iinc (v := x24) (lv' := [(7, .int x24), (9, .int x14), (8, .int x12), (0, .ref (ga X.G 162)), (1, .ref (ga X.G 163)), (2, .ref (ga X.G 164)), (3, .ref (ga X.G 165)), (4, .int p5), (5, .int p6), (6, .int x4)]) (pc := 81) F dL_pays_81 9 rfl (by rw [ex24]; rfl) (by decide) rfl ?_
        replace h := nm_at ex24 h
        clear ex24
        refine a_goto (tgt := 12) (pc := 84) F dL_pays_84 (by decide) ?_
        refine a_lv F [3, 4, 5, 6, 7, 8, 9, 0] rfl ?_
        exact hP5 _ (Option.some.inj h).symm
    · replace h := ite_t (Decidable.not_not.mp q17) h
      clear q17
      refine a_iload (pc := 60) F dL_pays_60 0 rfl ?_
      refine a_goto (tgt := 79) (pc := 62) F dL_pays_62 (by decide) ?_
      refine a_iadd (pc := 79) F dL_pays_79 ?_
      replace h := gIn_some h
      obtain ⟨g25, h⟩ := h
      refine a_ias (k := 163) (pc := 80) F dL_pays_80 kl_163 ks_163 g25 ?_
      refine a_nmm fun m26 em26 => ?_
      replace h := nm_at em26 h
      clear em26
      obtain ⟨x27, ex27⟩ : ∃ x27 : Int32, x27 = x6 + 1 := ⟨_, rfl⟩
      refine a_iinc (v := x27) (lv' := [(7, .int x27), (9, .int x14), (8, .int x12), (0, .ref (ga X.G 162)), (1, .ref (ga X.G 163)), (2, .ref (ga X.G 164)), (3, .ref (ga X.G 165)), (4, .int p5), (5, .int p6), (6, .int x4)]) (pc := 81) F dL_pays_81 9 rfl (by rw [ex27]; rfl) (by decide) rfl ?_
      replace h := nm_at ex27 h
      clear ex27
      refine a_goto (tgt := 12) (pc := 84) F dL_pays_84 (by decide) ?_
      refine a_lv F [3, 4, 5, 6, 7, 8, 9, 0] rfl ?_
      exact hP5 _ (Option.some.inj h).symm
def f_L_clash (p2 : Int32) (p3 : Int32) (m0 : Mem) : Option Int32 :=
  gIn ((6 * p2) + 2) 48 <| nm (m0.1 164 ((6 * p2) + 2).toNatClampNeg) fun x2 => gIn ((6 * p3) + 2) 48 <| nm (m0.1 164 ((6 * p3) + 2).toNatClampNeg) fun x4 => gIn ((6 * p3) + 3) 48 <| nm (m0.1 164 ((6 * p3) + 3).toNatClampNeg) fun x6 => (if (x4 + x6) ≤ x2 then some 0 else gIn ((6 * p3) + 2) 48 <| nm (m0.1 164 ((6 * p3) + 2).toNatClampNeg) fun x9 => gIn ((6 * p2) + 2) 48 <| nm (m0.1 164 ((6 * p2) + 2).toNatClampNeg) fun x11 => gIn ((6 * p2) + 3) 48 <| nm (m0.1 164 ((6 * p2) + 3).toNatClampNeg) fun x13 => (if (x11 + x13) ≤ x9 then some 0 else some 1))
set_option maxRecDepth 100000 in
set_option maxHeartbeats 4000000 in
theorem m_L_clash {p2 : Int32} {p3 : Int32} {m0 : Mem} {rr : Int32} (h : f_L_clash p2 p3 m0 = some rr) : Con yL_clash cL_clash 3 (some Jvm.ClassFile.FieldType.boolean) 0 0 (fun G => [.ref (ga G 164), .int p2, .int p3]) m0 (some (.int rr)) m0 := by
  refine con_of (by decide) (fun G => Nat.le_of_ble_eq_true rfl) (fun X F => ?_)
  show WA X 0 0 0 [(0, .ref (ga X.G 164)), (1, .int p2), (2, .int p3)] [] m0 (EQ X (some (.int rr)) m0)
  rw [f_L_clash] at h
  refine a_aload_n (pc := 0) F dL_clash_0 0 rfl ?_
  refine a_bipush (v := 6) (pc := 1) F dL_clash_1 (by decide) ?_
  refine a_iload_n (pc := 3) F dL_clash_3 1 rfl ?_
  refine a_imul (pc := 4) F dL_clash_4 ?_
  refine a_iconst (v := 2) (pc := 5) F dL_clash_5 (by decide) ?_
  refine a_iadd (pc := 6) F dL_clash_6 ?_
  replace h := gIn_some h
  obtain ⟨g1, h⟩ := h
  refine a_ial (k := 164) (pc := 7) F dL_clash_7 kl_164 ks_164 g1 ?_
  refine a_nmi fun x2 ex2 => ?_
  replace h := nm_at ex2 h
  clear ex2
  refine a_aload_n (pc := 8) F dL_clash_8 0 rfl ?_
  refine a_bipush (v := 6) (pc := 9) F dL_clash_9 (by decide) ?_
  refine a_iload_n (pc := 11) F dL_clash_11 2 rfl ?_
  refine a_imul (pc := 12) F dL_clash_12 ?_
  refine a_iconst (v := 2) (pc := 13) F dL_clash_13 (by decide) ?_
  refine a_iadd (pc := 14) F dL_clash_14 ?_
  replace h := gIn_some h
  obtain ⟨g3, h⟩ := h
  refine a_ial (k := 164) (pc := 15) F dL_clash_15 kl_164 ks_164 g3 ?_
  refine a_nmi fun x4 ex4 => ?_
  replace h := nm_at ex4 h
  clear ex4
  refine a_aload_n (pc := 16) F dL_clash_16 0 rfl ?_
  refine a_bipush (v := 6) (pc := 17) F dL_clash_17 (by decide) ?_
  refine a_iload_n (pc := 19) F dL_clash_19 2 rfl ?_
  refine a_imul (pc := 20) F dL_clash_20 ?_
  refine a_iconst (v := 3) (pc := 21) F dL_clash_21 (by decide) ?_
  refine a_iadd (pc := 22) F dL_clash_22 ?_
  replace h := gIn_some h
  obtain ⟨g5, h⟩ := h
  refine a_ial (k := 164) (pc := 23) F dL_clash_23 kl_164 ks_164 g5 ?_
  refine a_nmi fun x6 ex6 => ?_
  replace h := nm_at ex6 h
  clear ex6
  refine a_iadd (pc := 24) F dL_clash_24 ?_
  refine a_icmp_ge (tgt := 60) (pc := 25) F dL_clash_25 (by decide) (fun q7 => ?_) (fun q7 => ?_)
  · replace h := ite_t q7 h
    clear q7
    refine a_iconst (v := 0) (pc := 60) F dL_clash_60 (by decide) ?_
    cases h
    exact a_iret (pc := 61) F dL_clash_61 ⟨_, rfl, rfl⟩
  · replace h := ite_f q7 h
    clear q7
    refine a_aload_n (pc := 28) F dL_clash_28 0 rfl ?_
    refine a_bipush (v := 6) (pc := 29) F dL_clash_29 (by decide) ?_
    refine a_iload_n (pc := 31) F dL_clash_31 2 rfl ?_
    refine a_imul (pc := 32) F dL_clash_32 ?_
    refine a_iconst (v := 2) (pc := 33) F dL_clash_33 (by decide) ?_
    refine a_iadd (pc := 34) F dL_clash_34 ?_
    replace h := gIn_some h
    obtain ⟨g8, h⟩ := h
    refine a_ial (k := 164) (pc := 35) F dL_clash_35 kl_164 ks_164 g8 ?_
    refine a_nmi fun x9 ex9 => ?_
    replace h := nm_at ex9 h
    clear ex9
    refine a_aload_n (pc := 36) F dL_clash_36 0 rfl ?_
    refine a_bipush (v := 6) (pc := 37) F dL_clash_37 (by decide) ?_
    refine a_iload_n (pc := 39) F dL_clash_39 1 rfl ?_
    refine a_imul (pc := 40) F dL_clash_40 ?_
    refine a_iconst (v := 2) (pc := 41) F dL_clash_41 (by decide) ?_
    refine a_iadd (pc := 42) F dL_clash_42 ?_
    replace h := gIn_some h
    obtain ⟨g10, h⟩ := h
    refine a_ial (k := 164) (pc := 43) F dL_clash_43 kl_164 ks_164 g10 ?_
    refine a_nmi fun x11 ex11 => ?_
    replace h := nm_at ex11 h
    clear ex11
    refine a_aload_n (pc := 44) F dL_clash_44 0 rfl ?_
    refine a_bipush (v := 6) (pc := 45) F dL_clash_45 (by decide) ?_
    refine a_iload_n (pc := 47) F dL_clash_47 1 rfl ?_
    refine a_imul (pc := 48) F dL_clash_48 ?_
    refine a_iconst (v := 3) (pc := 49) F dL_clash_49 (by decide) ?_
    refine a_iadd (pc := 50) F dL_clash_50 ?_
    replace h := gIn_some h
    obtain ⟨g12, h⟩ := h
    refine a_ial (k := 164) (pc := 51) F dL_clash_51 kl_164 ks_164 g12 ?_
    refine a_nmi fun x13 ex13 => ?_
    replace h := nm_at ex13 h
    clear ex13
    refine a_iadd (pc := 52) F dL_clash_52 ?_
    refine a_icmp_ge (tgt := 60) (pc := 53) F dL_clash_53 (by decide) (fun q14 => ?_) (fun q14 => ?_)
    · replace h := ite_t q14 h
      clear q14
      refine a_iconst (v := 0) (pc := 60) F dL_clash_60 (by decide) ?_
      cases h
      exact a_iret (pc := 61) F dL_clash_61 ⟨_, rfl, rfl⟩
    · replace h := ite_f q14 h
      clear q14
      refine a_iconst (v := 1) (pc := 56) F dL_clash_56 (by decide) ?_
      refine a_goto (tgt := 61) (pc := 57) F dL_clash_57 (by decide) ?_
      cases h
      exact a_iret (pc := 61) F dL_clash_61 ⟨_, rfl, rfl⟩
def f_L_why_L191 (p5 : Int32) (p6 : Int32) (m0 : Mem) (x48 : Int32) : Int32 → Option (Int32 ⊕ (Unit ⊕ (Int32 ⊕ (Unit ⊕ Int32))))
  | x51 => (if (m0.1 162 1) ≤ x51 then some (.inr (.inl ())) else (if x51 = p5 then nm (x51 + 1) fun x54 => some (.inl x54) else gIn ((6 * x51) + 4) 48 <| nm (m0.1 164 ((6 * x51) + 4).toNatClampNeg) fun x56 => (if x56 = 0 then gIn x51 8 <| nm (m0.1 165 x51.toNatClampNeg) fun x60 => bnd (f_L_who p6 x48 m0) fun x62 => bnd (f_L_has x60 x62 m0) fun x64 => (if x64 = 0 then nm (x51 + 1) fun x66 => some (.inl x66) else bnd (f_L_clash x51 p5 m0) fun x68 => (if x68 = 0 then nm (x51 + 1) fun x70 => some (.inl x70) else some (.inr (.inr (.inr (.inr 5)))))) else nm (x51 + 1) fun x58 => some (.inl x58))))
def f_L_why_L181 (p5 : Int32) (p6 : Int32) (m0 : Mem) (x8 : Int32) : Int32 → Option (Int32 ⊕ (Unit ⊕ Int32))
  | x48 => (if x8 ≤ x48 then some (.inr (.inl ())) else jn (lp (f_L_why_L191 p5 p6 m0 x48) 1000000 0) (fun _ => nm (x48 + 1) fun x71 => some (.inl x71)))
def f_L_why_L136 (p5 : Int32) (p6 : Int32) (m0 : Mem) (x8 : Int32) : Int32 → Option (Int32 ⊕ (Unit ⊕ Int32))
  | x36 => (if x8 ≤ x36 then some (.inr (.inl ())) else bnd (f_L_who p6 x36 m0) fun x39 => gIn ((6 * x39) + 1) 30 <| nm (m0.1 163 ((6 * x39) + 1).toNatClampNeg) fun x41 => gIn (6 * p5) 48 <| nm (m0.1 164 (6 * p5).toNatClampNeg) fun x43 => nm ((x41 >>> (x43 &&& 31)) &&& 1) fun x44 => (if x44 = 0 then some (.inr (.inr 4)) else nm (x36 + 1) fun x46 => some (.inl x46)))
def f_L_why_L88 (p6 : Int32) (m0 : Mem) (x8 : Int32) : Int32 → Option (Int32 ⊕ (Unit ⊕ Int32))
  | x23 => (if x8 ≤ x23 then some (.inr (.inl ())) else bnd (f_L_who p6 x23 m0) fun x26 => gIn (6 * x26) 30 <| nm (m0.1 163 (6 * x26).toNatClampNeg) fun x28 => bnd (f_L_who p6 (x23 - 1) m0) fun x30 => gIn (6 * x30) 30 <| nm (m0.1 163 (6 * x30).toNatClampNeg) fun x32 => (if (x28 &&& x32) = 0 then some (.inr (.inr 3)) else nm (x23 + 1) fun x34 => some (.inl x34)))
def f_L_why (p5 : Int32) (p6 : Int32) (m0 : Mem) : Option Int32 :=
  gIn ((6 * p5) + 4) 48 <| nm (m0.1 164 ((6 * p5) + 4).toNatClampNeg) fun x2 => (if x2 ≤ 0 then gIn ((6 * p5) + 2) 48 <| nm (m0.1 164 ((6 * p5) + 2).toNatClampNeg) fun x5 => (if (m0.1 162 2) < x5 then bnd (f_L_size p6 m0) fun x8 => bnd (f_L_who p6 0 m0) fun x10 => gIn (6 * x10) 30 <| nm (m0.1 163 (6 * x10).toNatClampNeg) fun x12 => gIn ((6 * p5) + 1) 48 <| nm (m0.1 164 ((6 * p5) + 1).toNatClampNeg) fun x14 => nm ((x12 >>> (x14 &&& 31)) &&& 1) fun x15 => (if x15 = 0 then some 3 else bnd (f_L_who p6 (x8 - 1) m0) fun x18 => gIn (6 * x18) 30 <| nm (m0.1 163 (6 * x18).toNatClampNeg) fun x20 => (if (x20 &&& 1) = 0 then some 3 else jn (lp (f_L_why_L88 p6 m0 x8) 1000000 1) (fun _ => jn (lp (f_L_why_L136 p5 p6 m0 x8) 1000000 0) (fun _ => jn (lp (f_L_why_L181 p5 p6 m0 x8) 1000000 0) (fun _ => some 0))))) else some 2) else some 1)
set_option maxRecDepth 100000 in
set_option maxHeartbeats 4000000 in
theorem m_L_why {p5 : Int32} {p6 : Int32} {m0 : Mem} {rr : Int32} (h : f_L_why p5 p6 m0 = some rr) : Con yL_why cL_why 9 (some Jvm.ClassFile.FieldType.int) 2 42 (fun G => [.ref (ga G 162), .ref (ga G 163), .ref (ga G 164), .ref (ga G 165), .int p5, .int p6]) m0 (some (.int rr)) m0 := by
  refine con_of (by decide) (fun G => Nat.le_of_ble_eq_true rfl) (fun X F => ?_)
  show WA X 0 0 0 [(0, .ref (ga X.G 162)), (1, .ref (ga X.G 163)), (2, .ref (ga X.G 164)), (3, .ref (ga X.G 165)), (4, .int p5), (5, .int p6)] [] m0 (EQ X (some (.int rr)) m0)
  rw [f_L_why] at h
  refine a_aload_n (pc := 0) F dL_why_0 2 rfl ?_
  refine a_bipush (v := 6) (pc := 1) F dL_why_1 (by decide) ?_
  refine a_iload (pc := 3) F dL_why_3 4 rfl ?_
  refine a_imul (pc := 5) F dL_why_5 ?_
  refine a_iconst (v := 4) (pc := 6) F dL_why_6 (by decide) ?_
  refine a_iadd (pc := 7) F dL_why_7 ?_
  replace h := gIn_some h
  obtain ⟨g1, h⟩ := h
  refine a_ial (k := 164) (pc := 8) F dL_why_8 kl_164 ks_164 g1 ?_
  refine a_nmi fun x2 ex2 => ?_
  replace h := nm_at ex2 h
  clear ex2
  refine a_if_le (tgt := 14) (pc := 9) F dL_why_9 (by decide) (fun q3 => ?_) (fun q3 => ?_)
  · replace h := ite_t q3 h
    clear q3
    refine a_aload_n (pc := 14) F dL_why_14 2 rfl ?_
    refine a_bipush (v := 6) (pc := 15) F dL_why_15 (by decide) ?_
    refine a_iload (pc := 17) F dL_why_17 4 rfl ?_
    refine a_imul (pc := 19) F dL_why_19 ?_
    refine a_iconst (v := 2) (pc := 20) F dL_why_20 (by decide) ?_
    refine a_iadd (pc := 21) F dL_why_21 ?_
    replace h := gIn_some h
    obtain ⟨g4, h⟩ := h
    refine a_ial (k := 164) (pc := 22) F dL_why_22 kl_164 ks_164 g4 ?_
    refine a_nmi fun x5 ex5 => ?_
    replace h := nm_at ex5 h
    clear ex5
    refine a_aload_n (pc := 23) F dL_why_23 0 rfl ?_
    refine a_iconst (v := 2) (pc := 24) F dL_why_24 (by decide) ?_
    refine a_ialc (k := 162) (pc := 25) F dL_why_25 kl_162 ks_162 rfl rfl ?_
    refine a_icmp_gt (tgt := 31) (pc := 26) F dL_why_26 (by decide) (fun q6 => ?_) (fun q6 => ?_)
    · replace h := ite_t q6 h
      clear q6
      refine a_iload (pc := 31) F dL_why_31 5 rfl ?_
      replace h := bnd_some h
      obtain ⟨x8, hc7, h⟩ := h
      refine a_callS (pc := 33) (As := [.int p6]) (st := []) F dL_why_33 (m_L_size hc7) cs_RL_14 rfl rfl rfl (Nat.le_of_ble_eq_true rfl) ⟨Nat.le_of_ble_eq_true rfl, Nat.le_of_ble_eq_true rfl⟩ ?_ rfl rfl
      clear hc7
      refine a_istore (lv' := [(6, .int x8), (0, .ref (ga X.G 162)), (1, .ref (ga X.G 163)), (2, .ref (ga X.G 164)), (3, .ref (ga X.G 165)), (4, .int p5), (5, .int p6)]) (pc := 36) F dL_why_36 (by decide) rfl ?_
      refine a_aload_n (pc := 38) F dL_why_38 2 rfl ?_
      refine a_bipush (v := 6) (pc := 39) F dL_why_39 (by decide) ?_
      refine a_iload (pc := 41) F dL_why_41 6 rfl ?_
      refine a_iconst (v := 0) (pc := 43) F dL_why_43 (by decide) ?_
      replace h := bnd_some h
      obtain ⟨x10, hc9, h⟩ := h
      refine a_callS (pc := 44) (As := [.int p6, .int 0]) (st := [.int 6, .ref (ga X.G 163)]) F dL_why_44 (m_L_who hc9) cs_RL_8 rfl rfl rfl (Nat.le_of_ble_eq_true rfl) ⟨Nat.le_of_ble_eq_true rfl, Nat.le_of_ble_eq_true rfl⟩ ?_ rfl rfl
      clear hc9
      refine a_imul (pc := 47) F dL_why_47 ?_
      replace h := gIn_some h
      obtain ⟨g11, h⟩ := h
      refine a_ial (k := 163) (pc := 48) F dL_why_48 kl_163 ks_163 g11 ?_
      refine a_nmi fun x12 ex12 => ?_
      replace h := nm_at ex12 h
      clear ex12
      refine a_aload_n (pc := 49) F dL_why_49 3 rfl ?_
      refine a_bipush (v := 6) (pc := 50) F dL_why_50 (by decide) ?_
      refine a_iload (pc := 52) F dL_why_52 5 rfl ?_
      refine a_imul (pc := 54) F dL_why_54 ?_
      refine a_iconst (v := 1) (pc := 55) F dL_why_55 (by decide) ?_
      refine a_iadd (pc := 56) F dL_why_56 ?_
      replace h := gIn_some h
      obtain ⟨g13, h⟩ := h
      refine a_ial (k := 164) (pc := 57) F dL_why_57 kl_164 ks_164 g13 ?_
      refine a_nmi fun x14 ex14 => ?_
      replace h := nm_at ex14 h
      clear ex14
      refine a_ishr (pc := 58) F dL_why_58 ?_
      refine a_iconst (v := 1) (pc := 59) F dL_why_59 (by decide) ?_
      refine a_iand (pc := 60) F dL_why_60 ?_
      refine a_nmi fun x15 ex15 => ?_
      replace h := nm_at ex15 h
      clear ex15
      refine a_if_eq (tgt := 83) (pc := 61) F dL_why_61 (by decide) (fun q16 => ?_) (fun q16 => ?_)
      · replace h := ite_t q16 h
        clear q16
        refine a_iconst (v := 3) (pc := 83) F dL_why_83 (by decide) ?_
        cases h
        exact a_iret (pc := 84) F dL_why_84 ⟨_, rfl, rfl⟩
      · replace h := ite_f q16 h
        clear q16
        refine a_aload_n (pc := 64) F dL_why_64 2 rfl ?_
        refine a_bipush (v := 6) (pc := 65) F dL_why_65 (by decide) ?_
        refine a_iload (pc := 67) F dL_why_67 6 rfl ?_
        refine a_iload (pc := 69) F dL_why_69 0 rfl ?_
        refine a_iconst (v := 1) (pc := 71) F dL_why_71 (by decide) ?_
        refine a_isub (pc := 72) F dL_why_72 ?_
        replace h := bnd_some h
        obtain ⟨x18, hc17, h⟩ := h
        refine a_callS (pc := 73) (As := [.int p6, .int (x8 - 1)]) (st := [.int 6, .ref (ga X.G 163)]) F dL_why_73 (m_L_who hc17) cs_RL_8 rfl rfl rfl (Nat.le_of_ble_eq_true rfl) ⟨Nat.le_of_ble_eq_true rfl, Nat.le_of_ble_eq_true rfl⟩ ?_ rfl rfl
        clear hc17
        refine a_imul (pc := 76) F dL_why_76 ?_
        replace h := gIn_some h
        obtain ⟨g19, h⟩ := h
        refine a_ial (k := 163) (pc := 77) F dL_why_77 kl_163 ks_163 g19 ?_
        refine a_nmi fun x20 ex20 => ?_
        replace h := nm_at ex20 h
        clear ex20
        refine a_iconst (v := 1) (pc := 78) F dL_why_78 (by decide) ?_
        refine a_iand (pc := 79) F dL_why_79 ?_
        refine a_if_ne (tgt := 85) (pc := 80) F dL_why_80 (by decide) (fun q21 => ?_) (fun q21 => ?_)
        · replace h := ite_f q21 h
          clear q21
          refine a_iconst (v := 1) (pc := 85) F dL_why_85 (by decide) ?_
          refine a_istore (lv' := [(7, .int 1), (6, .int x8), (0, .ref (ga X.G 162)), (1, .ref (ga X.G 163)), (2, .ref (ga X.G 164)), (3, .ref (ga X.G 165)), (4, .int p5), (5, .int p6)]) (pc := 86) F dL_why_86 (by decide) rfl ?_
          refine a_lv F [2, 3, 4, 5, 6, 7, 1, 0] rfl ?_
          replace h := jn_some h
          obtain ⟨t22, hL22, hK22, hB22⟩ := h
          have hE22 : ∀ (u : Unit), t22 = .inl u → WA X 0 0 133 [(0, .ref (ga X.G 162)), (1, .ref (ga X.G 163)), (2, .ref (ga X.G 164)), (3, .ref (ga X.G 165)), (4, .int p5), (5, .int p6), (6, .int x8)] [] m0 (EQ X (some (.int rr)) m0) := by
            intro u eo
            have h := hK22 _ eo
            clear hK22 eo
            refine a_iconst (v := 0) (pc := 133) F dL_why_133 (by decide) ?_
            refine a_istore (lv' := [(7, .int 0), (0, .ref (ga X.G 162)), (1, .ref (ga X.G 163)), (2, .ref (ga X.G 164)), (3, .ref (ga X.G 165)), (4, .int p5), (5, .int p6), (6, .int x8)]) (pc := 134) F dL_why_134 (by decide) rfl ?_
            refine a_lv F [1, 2, 3, 4, 5, 6, 7, 0] rfl ?_
            replace h := jn_some h
            obtain ⟨t35, hL35, hK35, hB35⟩ := h
            have hE35 : ∀ (u : Unit), t35 = .inl u → WA X 0 0 178 [(0, .ref (ga X.G 162)), (2, .ref (ga X.G 164)), (3, .ref (ga X.G 165)), (4, .int p5), (5, .int p6), (6, .int x8)] [] m0 (EQ X (some (.int rr)) m0) := by
              intro u eo
              have h := hK35 _ eo
              clear hK35 eo
              refine a_iconst (v := 0) (pc := 178) F dL_why_178 (by decide) ?_
              refine a_istore (lv' := [(7, .int 0), (0, .ref (ga X.G 162)), (2, .ref (ga X.G 164)), (3, .ref (ga X.G 165)), (4, .int p5), (5, .int p6), (6, .int x8)]) (pc := 179) F dL_why_179 (by decide) rfl ?_
              refine a_lv F [1, 2, 3, 4, 5, 6, 0] rfl ?_
              replace h := jn_some h
              obtain ⟨t47, hL47, hK47, hB47⟩ := h
              have hE47 : ∀ (u : Unit), t47 = .inl u → WA X 0 0 260 [] [] m0 (EQ X (some (.int rr)) m0) := by
                intro u eo
                have h := hK47 _ eo
                clear hK47 eo
                refine a_iconst (v := 0) (pc := 260) F dL_why_260 (by decide) ?_
                cases h
                exact a_iret (pc := 261) F dL_why_261 ⟨_, rfl, rfl⟩
              clear hK47
              refine lp_run (P := fun (s : Int32) => WA X 0 0 181 [(0, .ref (ga X.G 162)), (2, .ref (ga X.G 164)), (3, .ref (ga X.G 165)), (4, .int p5), (5, .int p6), (6, .int x8), (7, .int s)] [] m0 (EQ X (some (.int rr)) m0)) ?_ _ _ hL47
              clear hL47
              rintro x48 xo h hP47 hT47
              show WA X 0 0 181 [(0, .ref (ga X.G 162)), (2, .ref (ga X.G 164)), (3, .ref (ga X.G 165)), (4, .int p5), (5, .int p6), (6, .int x8), (7, .int x48)] [] m0 (EQ X (some (.int rr)) m0)
              rw [f_L_why_L181] at h
              refine a_iload (pc := 181) F dL_why_181 6 rfl ?_
              refine a_iload (pc := 183) F dL_why_183 5 rfl ?_
              refine a_icmp_ge (tgt := 260) (pc := 185) F dL_why_185 (by decide) (fun q49 => ?_) (fun q49 => ?_)
              · replace h := ite_t q49 h
                clear q49
                refine a_lv F [] rfl ?_
                exact hE47 _ (hT47 _ (Option.some.inj h).symm).symm
              · replace h := ite_f q49 h
                clear q49
                refine a_iconst (v := 0) (pc := 188) F dL_why_188 (by decide) ?_
                refine a_istore (lv' := [(8, .int 0), (0, .ref (ga X.G 162)), (2, .ref (ga X.G 164)), (3, .ref (ga X.G 165)), (4, .int p5), (5, .int p6), (6, .int x8), (7, .int x48)]) (pc := 189) F dL_why_189 (by decide) rfl ?_
                refine a_lv F [1, 2, 3, 4, 5, 6, 7, 0] rfl ?_
                replace h := jn_some h
                obtain ⟨t50, hL50, hK50, hB50⟩ := h
                have hE50 : ∀ (u : Unit), t50 = .inl u → WA X 0 0 254 [(0, .ref (ga X.G 162)), (2, .ref (ga X.G 164)), (3, .ref (ga X.G 165)), (4, .int p5), (5, .int p6), (6, .int x8), (7, .int x48)] [] m0 (EQ X (some (.int rr)) m0) := by
                  intro u eo
                  have h := hK50 _ eo
                  clear hK50 eo
                  obtain ⟨x71, ex71⟩ : ∃ x71 : Int32, x71 = x48 + 1 := ⟨_, rfl⟩
                  refine a_iinc (v := x71) (lv' := [(7, .int x71), (0, .ref (ga X.G 162)), (2, .ref (ga X.G 164)), (3, .ref (ga X.G 165)), (4, .int p5), (5, .int p6), (6, .int x8)]) (pc := 254) F dL_why_254 6 rfl (by rw [ex71]; rfl) (by decide) rfl ?_
                  replace h := nm_at ex71 h
                  clear ex71
                  refine a_goto (tgt := 181) (pc := 257) F dL_why_257 (by decide) ?_
                  refine a_lv F [1, 2, 3, 4, 5, 6, 0] rfl ?_
                  exact hP47 _ (Option.some.inj h).symm
                clear hK50
                refine lp_run (P := fun (s : Int32) => WA X 0 0 191 [(0, .ref (ga X.G 162)), (2, .ref (ga X.G 164)), (3, .ref (ga X.G 165)), (4, .int p5), (5, .int p6), (6, .int x8), (7, .int x48), (8, .int s)] [] m0 (EQ X (some (.int rr)) m0)) ?_ _ _ hL50
                clear hL50
                rintro x51 xo h hP50 hT50
                show WA X 0 0 191 [(0, .ref (ga X.G 162)), (2, .ref (ga X.G 164)), (3, .ref (ga X.G 165)), (4, .int p5), (5, .int p6), (6, .int x8), (7, .int x48), (8, .int x51)] [] m0 (EQ X (some (.int rr)) m0)
                rw [f_L_why_L191] at h
                refine a_iload (pc := 191) F dL_why_191 7 rfl ?_
                refine a_aload_n (pc := 193) F dL_why_193 0 rfl ?_
                refine a_iconst (v := 1) (pc := 194) F dL_why_194 (by decide) ?_
                refine a_ialc (k := 162) (pc := 195) F dL_why_195 kl_162 ks_162 rfl rfl ?_
                refine a_icmp_ge (tgt := 254) (pc := 196) F dL_why_196 (by decide) (fun q52 => ?_) (fun q52 => ?_)
                · replace h := ite_t q52 h
                  clear q52
                  refine a_lv F [0, 1, 2, 3, 4, 5, 6] rfl ?_
                  exact hE50 _ (hT50 _ (Option.some.inj h).symm).symm
                · replace h := ite_f q52 h
                  clear q52
                  refine a_iload (pc := 199) F dL_why_199 7 rfl ?_
                  refine a_iload (pc := 201) F dL_why_201 3 rfl ?_
                  refine a_icmp_eq (tgt := 248) (pc := 203) F dL_why_203 (by decide) (fun q53 => ?_) (fun q53 => ?_)
                  · replace h := ite_t q53 h
                    clear q53
                    obtain ⟨x54, ex54⟩ : ∃ x54 : Int32, x54 = x51 + 1 := ⟨_, rfl⟩
                    refine a_iinc (v := x54) (lv' := [(8, .int x54), (0, .ref (ga X.G 162)), (2, .ref (ga X.G 164)), (3, .ref (ga X.G 165)), (4, .int p5), (5, .int p6), (6, .int x8), (7, .int x48)]) (pc := 248) F dL_why_248 7 rfl (by rw [ex54]; rfl) (by decide) rfl ?_
                    replace h := nm_at ex54 h
                    clear ex54
                    refine a_goto (tgt := 191) (pc := 251) F dL_why_251 (by decide) ?_
                    refine a_lv F [1, 2, 3, 4, 5, 6, 7, 0] rfl ?_
                    exact hP50 _ (Option.some.inj h).symm
                  · replace h := ite_f q53 h
                    clear q53
                    refine a_aload_n (pc := 206) F dL_why_206 1 rfl ?_
                    refine a_bipush (v := 6) (pc := 207) F dL_why_207 (by decide) ?_
                    refine a_iload (pc := 209) F dL_why_209 7 rfl ?_
                    refine a_imul (pc := 211) F dL_why_211 ?_
                    refine a_iconst (v := 4) (pc := 212) F dL_why_212 (by decide) ?_
                    refine a_iadd (pc := 213) F dL_why_213 ?_
                    replace h := gIn_some h
                    obtain ⟨g55, h⟩ := h
                    refine a_ial (k := 164) (pc := 214) F dL_why_214 kl_164 ks_164 g55 ?_
                    refine a_nmi fun x56 ex56 => ?_
                    replace h := nm_at ex56 h
                    clear ex56
                    refine a_if_ne (tgt := 248) (pc := 215) F dL_why_215 (by decide) (fun q57 => ?_) (fun q57 => ?_)
                    · replace h := ite_f q57 h
                      clear q57
                      obtain ⟨x58, ex58⟩ : ∃ x58 : Int32, x58 = x51 + 1 := ⟨_, rfl⟩
                      refine a_iinc (v := x58) (lv' := [(8, .int x58), (0, .ref (ga X.G 162)), (2, .ref (ga X.G 164)), (3, .ref (ga X.G 165)), (4, .int p5), (5, .int p6), (6, .int x8), (7, .int x48)]) (pc := 248) F dL_why_248 7 rfl (by rw [ex58]; rfl) (by decide) rfl ?_
                      replace h := nm_at ex58 h
                      clear ex58
                      refine a_goto (tgt := 191) (pc := 251) F dL_why_251 (by decide) ?_
                      refine a_lv F [1, 2, 3, 4, 5, 6, 7, 0] rfl ?_
                      exact hP50 _ (Option.some.inj h).symm
                    · replace h := ite_t (Decidable.not_not.mp q57) h
                      clear q57
                      refine a_aload_n (pc := 218) F dL_why_218 2 rfl ?_
                      refine a_iload (pc := 219) F dL_why_219 7 rfl ?_
                      replace h := gIn_some h
                      obtain ⟨g59, h⟩ := h
                      refine a_ial (k := 165) (pc := 221) F dL_why_221 kl_165 ks_165 g59 ?_
                      refine a_nmi fun x60 ex60 => ?_
                      replace h := nm_at ex60 h
                      clear ex60
                      refine a_iload (pc := 222) F dL_why_222 4 rfl ?_
                      refine a_iload (pc := 224) F dL_why_224 6 rfl ?_
                      replace h := bnd_some h
                      obtain ⟨x62, hc61, h⟩ := h
                      refine a_callS (pc := 226) (As := [.int p6, .int x48]) (st := [.int x60]) F dL_why_226 (m_L_who hc61) cs_RL_8 rfl rfl rfl (Nat.le_of_ble_eq_true rfl) ⟨Nat.le_of_ble_eq_true rfl, Nat.le_of_ble_eq_true rfl⟩ ?_ rfl rfl
                      clear hc61
                      replace h := bnd_some h
                      obtain ⟨x64, hc63, h⟩ := h
                      refine a_callS (pc := 229) (As := [.int x60, .int x62]) (st := []) F dL_why_229 (m_L_has hc63) cs_RL_26 rfl rfl rfl (Nat.le_of_ble_eq_true rfl) ⟨Nat.le_of_ble_eq_true rfl, Nat.le_of_ble_eq_true rfl⟩ ?_ rfl rfl
                      clear hc63
                      refine a_if_eq (tgt := 248) (pc := 232) F dL_why_232 (by decide) (fun q65 => ?_) (fun q65 => ?_)
                      · replace h := ite_t q65 h
                        clear q65
                        obtain ⟨x66, ex66⟩ : ∃ x66 : Int32, x66 = x51 + 1 := ⟨_, rfl⟩
                        refine a_iinc (v := x66) (lv' := [(8, .int x66), (0, .ref (ga X.G 162)), (2, .ref (ga X.G 164)), (3, .ref (ga X.G 165)), (4, .int p5), (5, .int p6), (6, .int x8), (7, .int x48)]) (pc := 248) F dL_why_248 7 rfl (by rw [ex66]; rfl) (by decide) rfl ?_
                        replace h := nm_at ex66 h
                        clear ex66
                        refine a_goto (tgt := 191) (pc := 251) F dL_why_251 (by decide) ?_
                        refine a_lv F [1, 2, 3, 4, 5, 6, 7, 0] rfl ?_
                        exact hP50 _ (Option.some.inj h).symm
                      · replace h := ite_f q65 h
                        clear q65
                        refine a_aload_n (pc := 235) F dL_why_235 1 rfl ?_
                        refine a_iload (pc := 236) F dL_why_236 7 rfl ?_
                        refine a_iload (pc := 238) F dL_why_238 3 rfl ?_
                        replace h := bnd_some h
                        obtain ⟨x68, hc67, h⟩ := h
                        refine a_callS (pc := 240) (As := [.ref (ga X.G 164), .int x51, .int p5]) (st := []) F dL_why_240 (m_L_clash hc67) cs_RL_30 rfl rfl rfl (Nat.le_of_ble_eq_true rfl) ⟨Nat.le_of_ble_eq_true rfl, Nat.le_of_ble_eq_true rfl⟩ ?_ rfl rfl
                        clear hc67
                        refine a_if_eq (tgt := 248) (pc := 243) F dL_why_243 (by decide) (fun q69 => ?_) (fun q69 => ?_)
                        · replace h := ite_t q69 h
                          clear q69
                          obtain ⟨x70, ex70⟩ : ∃ x70 : Int32, x70 = x51 + 1 := ⟨_, rfl⟩
                          refine a_iinc (v := x70) (lv' := [(8, .int x70), (0, .ref (ga X.G 162)), (2, .ref (ga X.G 164)), (3, .ref (ga X.G 165)), (4, .int p5), (5, .int p6), (6, .int x8), (7, .int x48)]) (pc := 248) F dL_why_248 7 rfl (by rw [ex70]; rfl) (by decide) rfl ?_
                          replace h := nm_at ex70 h
                          clear ex70
                          refine a_goto (tgt := 191) (pc := 251) F dL_why_251 (by decide) ?_
                          refine a_lv F [1, 2, 3, 4, 5, 6, 7, 0] rfl ?_
                          exact hP50 _ (Option.some.inj h).symm
                        · replace h := ite_f q69 h
                          clear q69
                          refine a_iconst (v := 5) (pc := 246) F dL_why_246 (by decide) ?_
                          replace h := hB50 _ (hT50 _ (Option.some.inj h).symm).symm
                          replace h := hB47 _ (hT47 _ (Option.some.inj h).symm).symm
                          cases h
                          exact a_iret (pc := 247) F dL_why_247 ⟨_, rfl, rfl⟩
            clear hK35
            refine lp_run (P := fun (s : Int32) => WA X 0 0 136 [(0, .ref (ga X.G 162)), (1, .ref (ga X.G 163)), (2, .ref (ga X.G 164)), (3, .ref (ga X.G 165)), (4, .int p5), (5, .int p6), (6, .int x8), (7, .int s)] [] m0 (EQ X (some (.int rr)) m0)) ?_ _ _ hL35
            clear hL35
            rintro x36 xo h hP35 hT35
            show WA X 0 0 136 [(0, .ref (ga X.G 162)), (1, .ref (ga X.G 163)), (2, .ref (ga X.G 164)), (3, .ref (ga X.G 165)), (4, .int p5), (5, .int p6), (6, .int x8), (7, .int x36)] [] m0 (EQ X (some (.int rr)) m0)
            rw [f_L_why_L136] at h
            refine a_iload (pc := 136) F dL_why_136 7 rfl ?_
            refine a_iload (pc := 138) F dL_why_138 6 rfl ?_
            refine a_icmp_ge (tgt := 178) (pc := 140) F dL_why_140 (by decide) (fun q37 => ?_) (fun q37 => ?_)
            · replace h := ite_t q37 h
              clear q37
              refine a_lv F [0, 2, 3, 4, 5, 6] rfl ?_
              exact hE35 _ (hT35 _ (Option.some.inj h).symm).symm
            · replace h := ite_f q37 h
              clear q37
              refine a_aload_n (pc := 143) F dL_why_143 1 rfl ?_
              refine a_bipush (v := 6) (pc := 144) F dL_why_144 (by decide) ?_
              refine a_iload (pc := 146) F dL_why_146 5 rfl ?_
              refine a_iload (pc := 148) F dL_why_148 7 rfl ?_
              replace h := bnd_some h
              obtain ⟨x39, hc38, h⟩ := h
              refine a_callS (pc := 150) (As := [.int p6, .int x36]) (st := [.int 6, .ref (ga X.G 163)]) F dL_why_150 (m_L_who hc38) cs_RL_8 rfl rfl rfl (Nat.le_of_ble_eq_true rfl) ⟨Nat.le_of_ble_eq_true rfl, Nat.le_of_ble_eq_true rfl⟩ ?_ rfl rfl
              clear hc38
              refine a_imul (pc := 153) F dL_why_153 ?_
              refine a_iconst (v := 1) (pc := 154) F dL_why_154 (by decide) ?_
              refine a_iadd (pc := 155) F dL_why_155 ?_
              replace h := gIn_some h
              obtain ⟨g40, h⟩ := h
              refine a_ial (k := 163) (pc := 156) F dL_why_156 kl_163 ks_163 g40 ?_
              refine a_nmi fun x41 ex41 => ?_
              replace h := nm_at ex41 h
              clear ex41
              refine a_aload_n (pc := 157) F dL_why_157 2 rfl ?_
              refine a_bipush (v := 6) (pc := 158) F dL_why_158 (by decide) ?_
              refine a_iload (pc := 160) F dL_why_160 4 rfl ?_
              refine a_imul (pc := 162) F dL_why_162 ?_
              replace h := gIn_some h
              obtain ⟨g42, h⟩ := h
              refine a_ial (k := 164) (pc := 163) F dL_why_163 kl_164 ks_164 g42 ?_
              refine a_nmi fun x43 ex43 => ?_
              replace h := nm_at ex43 h
              clear ex43
              refine a_ishr (pc := 164) F dL_why_164 ?_
              refine a_iconst (v := 1) (pc := 165) F dL_why_165 (by decide) ?_
              refine a_iand (pc := 166) F dL_why_166 ?_
              refine a_nmi fun x44 ex44 => ?_
              replace h := nm_at ex44 h
              clear ex44
              refine a_if_ne (tgt := 172) (pc := 167) F dL_why_167 (by decide) (fun q45 => ?_) (fun q45 => ?_)
              · replace h := ite_f q45 h
                clear q45
                obtain ⟨x46, ex46⟩ : ∃ x46 : Int32, x46 = x36 + 1 := ⟨_, rfl⟩
                refine a_iinc (v := x46) (lv' := [(7, .int x46), (0, .ref (ga X.G 162)), (1, .ref (ga X.G 163)), (2, .ref (ga X.G 164)), (3, .ref (ga X.G 165)), (4, .int p5), (5, .int p6), (6, .int x8)]) (pc := 172) F dL_why_172 7 rfl (by rw [ex46]; rfl) (by decide) rfl ?_
                replace h := nm_at ex46 h
                clear ex46
                refine a_goto (tgt := 136) (pc := 175) F dL_why_175 (by decide) ?_
                refine a_lv F [1, 2, 3, 4, 5, 6, 7, 0] rfl ?_
                exact hP35 _ (Option.some.inj h).symm
              · replace h := ite_t (Decidable.not_not.mp q45) h
                clear q45
                refine a_iconst (v := 4) (pc := 170) F dL_why_170 (by decide) ?_
                replace h := hB35 _ (hT35 _ (Option.some.inj h).symm).symm
                cases h
                exact a_iret (pc := 171) F dL_why_171 ⟨_, rfl, rfl⟩
          clear hK22
          refine lp_run (P := fun (s : Int32) => WA X 0 0 88 [(0, .ref (ga X.G 162)), (1, .ref (ga X.G 163)), (2, .ref (ga X.G 164)), (3, .ref (ga X.G 165)), (4, .int p5), (5, .int p6), (6, .int x8), (7, .int s)] [] m0 (EQ X (some (.int rr)) m0)) ?_ _ _ hL22
          clear hL22
          rintro x23 xo h hP22 hT22
          show WA X 0 0 88 [(0, .ref (ga X.G 162)), (1, .ref (ga X.G 163)), (2, .ref (ga X.G 164)), (3, .ref (ga X.G 165)), (4, .int p5), (5, .int p6), (6, .int x8), (7, .int x23)] [] m0 (EQ X (some (.int rr)) m0)
          rw [f_L_why_L88] at h
          refine a_iload (pc := 88) F dL_why_88 7 rfl ?_
          refine a_iload (pc := 90) F dL_why_90 6 rfl ?_
          refine a_icmp_ge (tgt := 133) (pc := 92) F dL_why_92 (by decide) (fun q24 => ?_) (fun q24 => ?_)
          · replace h := ite_t q24 h
            clear q24
            refine a_lv F [0, 1, 2, 3, 4, 5, 6] rfl ?_
            exact hE22 _ (hT22 _ (Option.some.inj h).symm).symm
          · replace h := ite_f q24 h
            clear q24
            refine a_aload_n (pc := 95) F dL_why_95 1 rfl ?_
            refine a_bipush (v := 6) (pc := 96) F dL_why_96 (by decide) ?_
            refine a_iload (pc := 98) F dL_why_98 5 rfl ?_
            refine a_iload (pc := 100) F dL_why_100 7 rfl ?_
            replace h := bnd_some h
            obtain ⟨x26, hc25, h⟩ := h
            refine a_callS (pc := 102) (As := [.int p6, .int x23]) (st := [.int 6, .ref (ga X.G 163)]) F dL_why_102 (m_L_who hc25) cs_RL_8 rfl rfl rfl (Nat.le_of_ble_eq_true rfl) ⟨Nat.le_of_ble_eq_true rfl, Nat.le_of_ble_eq_true rfl⟩ ?_ rfl rfl
            clear hc25
            refine a_imul (pc := 105) F dL_why_105 ?_
            replace h := gIn_some h
            obtain ⟨g27, h⟩ := h
            refine a_ial (k := 163) (pc := 106) F dL_why_106 kl_163 ks_163 g27 ?_
            refine a_nmi fun x28 ex28 => ?_
            replace h := nm_at ex28 h
            clear ex28
            refine a_aload_n (pc := 107) F dL_why_107 1 rfl ?_
            refine a_bipush (v := 6) (pc := 108) F dL_why_108 (by decide) ?_
            refine a_iload (pc := 110) F dL_why_110 5 rfl ?_
            refine a_iload (pc := 112) F dL_why_112 7 rfl ?_
            refine a_iconst (v := 1) (pc := 114) F dL_why_114 (by decide) ?_
            refine a_isub (pc := 115) F dL_why_115 ?_
            replace h := bnd_some h
            obtain ⟨x30, hc29, h⟩ := h
            refine a_callS (pc := 116) (As := [.int p6, .int (x23 - 1)]) (st := [.int 6, .ref (ga X.G 163), .int x28]) F dL_why_116 (m_L_who hc29) cs_RL_8 rfl rfl rfl (Nat.le_of_ble_eq_true rfl) ⟨Nat.le_of_ble_eq_true rfl, Nat.le_of_ble_eq_true rfl⟩ ?_ rfl rfl
            clear hc29
            refine a_imul (pc := 119) F dL_why_119 ?_
            replace h := gIn_some h
            obtain ⟨g31, h⟩ := h
            refine a_ial (k := 163) (pc := 120) F dL_why_120 kl_163 ks_163 g31 ?_
            refine a_nmi fun x32 ex32 => ?_
            replace h := nm_at ex32 h
            clear ex32
            refine a_iand (pc := 121) F dL_why_121 ?_
            refine a_if_ne (tgt := 127) (pc := 122) F dL_why_122 (by decide) (fun q33 => ?_) (fun q33 => ?_)
            · replace h := ite_f q33 h
              clear q33
              obtain ⟨x34, ex34⟩ : ∃ x34 : Int32, x34 = x23 + 1 := ⟨_, rfl⟩
              refine a_iinc (v := x34) (lv' := [(7, .int x34), (0, .ref (ga X.G 162)), (1, .ref (ga X.G 163)), (2, .ref (ga X.G 164)), (3, .ref (ga X.G 165)), (4, .int p5), (5, .int p6), (6, .int x8)]) (pc := 127) F dL_why_127 7 rfl (by rw [ex34]; rfl) (by decide) rfl ?_
              replace h := nm_at ex34 h
              clear ex34
              refine a_goto (tgt := 88) (pc := 130) F dL_why_130 (by decide) ?_
              refine a_lv F [1, 2, 3, 4, 5, 6, 7, 0] rfl ?_
              exact hP22 _ (Option.some.inj h).symm
            · replace h := ite_t (Decidable.not_not.mp q33) h
              clear q33
              refine a_iconst (v := 3) (pc := 125) F dL_why_125 (by decide) ?_
              replace h := hB22 _ (hT22 _ (Option.some.inj h).symm).symm
              cases h
              exact a_iret (pc := 126) F dL_why_126 ⟨_, rfl, rfl⟩
        · replace h := ite_t (Decidable.not_not.mp q21) h
          clear q21
          refine a_iconst (v := 3) (pc := 83) F dL_why_83 (by decide) ?_
          cases h
          exact a_iret (pc := 84) F dL_why_84 ⟨_, rfl, rfl⟩
    · replace h := ite_f q6 h
      clear q6
      refine a_iconst (v := 2) (pc := 29) F dL_why_29 (by decide) ?_
      cases h
      exact a_iret (pc := 30) F dL_why_30 ⟨_, rfl, rfl⟩
  · replace h := ite_f q3 h
    clear q3
    refine a_iconst (v := 1) (pc := 12) F dL_why_12 (by decide) ?_
    cases h
    exact a_iret (pc := 13) F dL_why_13 ⟨_, rfl, rfl⟩
