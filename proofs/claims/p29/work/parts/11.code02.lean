def f_X7_areRowOfDifferent (p1 : Int32) (p2 : Int32) (p3 : Int32) (m0 : Mem) : Option Int32 :=
  (if p2 = (-1) then (if p3 = (-1) then some 1 else some 0) else (if p1 = p2 then some 0 else (if p1 = p3 then some 0 else (if p2 = p3 then some 0 else some 1))))
set_option maxRecDepth 100000 in
set_option maxHeartbeats 4000000 in
theorem m_X7_areRowOfDifferent {p1 : Int32} {p2 : Int32} {p3 : Int32} {m0 : Mem} {rr : Int32} (h : f_X7_areRowOfDifferent p1 p2 p3 m0 = some rr) : Con yX7_areRowOfDifferent cX7_areRowOfDifferent 3 (some Jvm.ClassFile.FieldType.boolean) 0 0 (fun G => [.int p1, .int p2, .int p3]) m0 (some (.int rr)) m0 := by
  refine con_of (by decide) (fun G => Nat.le_of_ble_eq_true rfl) (fun X F => ?_)
  show WA X 0 0 0 [(0, .int p1), (1, .int p2), (2, .int p3)] [] m0 (EQ X (some (.int rr)) m0)
  rw [f_X7_areRowOfDifferent] at h
  refine a_iload_n (pc := 0) F dX7_areRowOfDifferent_0 1 rfl ?_
  refine a_iconst (v := (-1)) (pc := 1) F dX7_areRowOfDifferent_1 (by decide) ?_
  refine a_icmp_ne (tgt := 16) (pc := 2) F dX7_areRowOfDifferent_2 (by decide) (fun q1 => ?_) (fun q1 => ?_)
  · replace h := ite_f q1 h
    clear q1
    refine a_iload_n (pc := 16) F dX7_areRowOfDifferent_16 0 rfl ?_
    refine a_iload_n (pc := 17) F dX7_areRowOfDifferent_17 1 rfl ?_
    refine a_icmp_eq (tgt := 35) (pc := 18) F dX7_areRowOfDifferent_18 (by decide) (fun q2 => ?_) (fun q2 => ?_)
    · replace h := ite_t q2 h
      clear q2
      refine a_iconst (v := 0) (pc := 35) F dX7_areRowOfDifferent_35 (by decide) ?_
      cases h
      exact a_iret (pc := 36) F dX7_areRowOfDifferent_36 ⟨_, rfl, rfl⟩
    · replace h := ite_f q2 h
      clear q2
      refine a_iload_n (pc := 21) F dX7_areRowOfDifferent_21 0 rfl ?_
      refine a_iload_n (pc := 22) F dX7_areRowOfDifferent_22 2 rfl ?_
      refine a_icmp_eq (tgt := 35) (pc := 23) F dX7_areRowOfDifferent_23 (by decide) (fun q3 => ?_) (fun q3 => ?_)
      · replace h := ite_t q3 h
        clear q3
        refine a_iconst (v := 0) (pc := 35) F dX7_areRowOfDifferent_35 (by decide) ?_
        cases h
        exact a_iret (pc := 36) F dX7_areRowOfDifferent_36 ⟨_, rfl, rfl⟩
      · replace h := ite_f q3 h
        clear q3
        refine a_iload_n (pc := 26) F dX7_areRowOfDifferent_26 1 rfl ?_
        refine a_iload_n (pc := 27) F dX7_areRowOfDifferent_27 2 rfl ?_
        refine a_icmp_eq (tgt := 35) (pc := 28) F dX7_areRowOfDifferent_28 (by decide) (fun q4 => ?_) (fun q4 => ?_)
        · replace h := ite_t q4 h
          clear q4
          refine a_iconst (v := 0) (pc := 35) F dX7_areRowOfDifferent_35 (by decide) ?_
          cases h
          exact a_iret (pc := 36) F dX7_areRowOfDifferent_36 ⟨_, rfl, rfl⟩
        · replace h := ite_f q4 h
          clear q4
          refine a_iconst (v := 1) (pc := 31) F dX7_areRowOfDifferent_31 (by decide) ?_
          refine a_goto (tgt := 36) (pc := 32) F dX7_areRowOfDifferent_32 (by decide) ?_
          cases h
          exact a_iret (pc := 36) F dX7_areRowOfDifferent_36 ⟨_, rfl, rfl⟩
  · replace h := ite_t (Decidable.not_not.mp q1) h
    clear q1
    refine a_iload_n (pc := 5) F dX7_areRowOfDifferent_5 2 rfl ?_
    refine a_iconst (v := (-1)) (pc := 6) F dX7_areRowOfDifferent_6 (by decide) ?_
    refine a_icmp_ne (tgt := 14) (pc := 7) F dX7_areRowOfDifferent_7 (by decide) (fun q5 => ?_) (fun q5 => ?_)
    · replace h := ite_f q5 h
      clear q5
      refine a_iconst (v := 0) (pc := 14) F dX7_areRowOfDifferent_14 (by decide) ?_
      cases h
      exact a_iret (pc := 15) F dX7_areRowOfDifferent_15 ⟨_, rfl, rfl⟩
    · replace h := ite_t (Decidable.not_not.mp q5) h
      clear q5
      refine a_iconst (v := 1) (pc := 10) F dX7_areRowOfDifferent_10 (by decide) ?_
      refine a_goto (tgt := 15) (pc := 11) F dX7_areRowOfDifferent_11 (by decide) ?_
      cases h
      exact a_iret (pc := 15) F dX7_areRowOfDifferent_15 ⟨_, rfl, rfl⟩
def f_X3_isListed (c : Nat) (p1 : Int32) (m0 : Mem) : Option Int32 :=
  gIn p1 30 <| nm (m0.1 (c + 13) p1.toNatClampNeg) fun x2 => (if x2 = 0 then some 1 else some 0)
set_option maxRecDepth 100000 in
set_option maxHeartbeats 4000000 in
theorem m_X3_isListed {c : Nat} {p1 : Int32} (hc : isC c) {m0 : Mem} {rr : Int32} (h : f_X3_isListed c p1 m0 = some rr) : Con yX3_isListed cX3_isListed 2 (some Jvm.ClassFile.FieldType.boolean) 0 0 (fun G => [.ref (ga G (c + 8)), .int p1]) m0 (some (.int rr)) m0 := by
  refine con_of (by decide) (fun G => Nat.le_of_ble_eq_true rfl) (fun X F => ?_)
  show WA X 0 0 0 [(0, .ref (ga X.G (c + 8))), (1, .int p1)] [] m0 (EQ X (some (.int rr)) m0)
  rw [f_X3_isListed] at h
  refine a_aload_n (pc := 0) F dX3_isListed_0 0 rfl ?_
  refine a_getr (k := (c + 8)) (r := (c + 13)) (pc := 1) F dX3_isListed_1 fl_RX3_24 (klC_8 hc) (ksC_8 hc) rfl ?_
  refine a_iload_n (pc := 4) F dX3_isListed_4 1 rfl ?_
  replace h := gIn_some h
  obtain ⟨g1, h⟩ := h
  refine a_ial (k := (c + 13)) (pc := 5) F dX3_isListed_5 (klC_13 hc) (ksC_13 hc) g1 ?_
  refine a_nmi fun x2 ex2 => ?_
  replace h := nm_at ex2 h
  clear ex2
  refine a_if_ne (tgt := 13) (pc := 6) F dX3_isListed_6 (by decide) (fun q3 => ?_) (fun q3 => ?_)
  · replace h := ite_f q3 h
    clear q3
    refine a_iconst (v := 0) (pc := 13) F dX3_isListed_13 (by decide) ?_
    cases h
    exact a_iret (pc := 14) F dX3_isListed_14 ⟨_, rfl, rfl⟩
  · replace h := ite_t (Decidable.not_not.mp q3) h
    clear q3
    refine a_iconst (v := 1) (pc := 9) F dX3_isListed_9 (by decide) ?_
    refine a_goto (tgt := 14) (pc := 10) F dX3_isListed_10 (by decide) ?_
    cases h
    exact a_iret (pc := 14) F dX3_isListed_14 ⟨_, rfl, rfl⟩
def f_X2_hasStarted (c : Nat) (p1 : Int32) (m0 : Mem) : Option Int32 :=
  gIn p1 30 <| nm (m0.1 (c + 11) p1.toNatClampNeg) fun x2 => (if (m0.1 c 3) < x2 then some 0 else some 1)
set_option maxRecDepth 100000 in
set_option maxHeartbeats 4000000 in
theorem m_X2_hasStarted {c : Nat} {p1 : Int32} (hc : isC c) {m0 : Mem} {rr : Int32} (h : f_X2_hasStarted c p1 m0 = some rr) : Con yX2_hasStarted cX2_hasStarted 2 (some Jvm.ClassFile.FieldType.boolean) 0 0 (fun G => [.ref (ga G c), .int p1]) m0 (some (.int rr)) m0 := by
  refine con_of (by decide) (fun G => Nat.le_of_ble_eq_true rfl) (fun X F => ?_)
  show WA X 0 0 0 [(0, .ref (ga X.G c)), (1, .int p1)] [] m0 (EQ X (some (.int rr)) m0)
  rw [f_X2_hasStarted] at h
  refine a_aload_n (pc := 0) F dX2_hasStarted_0 0 rfl ?_
  refine a_getr (k := c) (r := (c + 8)) (pc := 1) F dX2_hasStarted_1 fl_RX2_21 (klC_0 hc) (ksC_0 hc) rfl ?_
  refine a_getr (k := (c + 8)) (r := (c + 11)) (pc := 4) F dX2_hasStarted_4 fl_RX2_63 (klC_8 hc) (ksC_8 hc) rfl ?_
  refine a_iload_n (pc := 7) F dX2_hasStarted_7 1 rfl ?_
  replace h := gIn_some h
  obtain ⟨g1, h⟩ := h
  refine a_ial (k := (c + 11)) (pc := 8) F dX2_hasStarted_8 (klC_11 hc) (ksC_11 hc) g1 ?_
  refine a_nmi fun x2 ex2 => ?_
  replace h := nm_at ex2 h
  clear ex2
  refine a_aload_n (pc := 9) F dX2_hasStarted_9 0 rfl ?_
  refine a_geti (k := c) (pc := 10) F dX2_hasStarted_10 fl_RX2_50 (klC_0 hc) (ksC_0 hc) rfl ?_
  refine a_icmp_gt (tgt := 20) (pc := 13) F dX2_hasStarted_13 (by decide) (fun q3 => ?_) (fun q3 => ?_)
  · replace h := ite_t q3 h
    clear q3
    refine a_iconst (v := 0) (pc := 20) F dX2_hasStarted_20 (by decide) ?_
    cases h
    exact a_iret (pc := 21) F dX2_hasStarted_21 ⟨_, rfl, rfl⟩
  · replace h := ite_f q3 h
    clear q3
    refine a_iconst (v := 1) (pc := 16) F dX2_hasStarted_16 (by decide) ?_
    refine a_goto (tgt := 21) (pc := 17) F dX2_hasStarted_17 (by decide) ?_
    cases h
    exact a_iret (pc := 21) F dX2_hasStarted_21 ⟨_, rfl, rfl⟩
def f_X6_speaks (c : Nat) (p1 : Int32) (p2 : Int32) (m0 : Mem) : Option Int32 :=
  bnd (f_X6_has c p1 m0) fun x2 => (if x2 = 0 then some 0 else gIn p1 10 <| nm (m0.1 (c + 2) p1.toNatClampNeg) fun x5 => nm ((x5 >>> (p2 &&& 31)) &&& 1) fun x6 => (if x6 = 0 then some 0 else some 1))
set_option maxRecDepth 100000 in
set_option maxHeartbeats 4000000 in
theorem m_X6_speaks {c : Nat} {p1 : Int32} {p2 : Int32} (hc : isC c) {m0 : Mem} {rr : Int32} (h : f_X6_speaks c p1 p2 m0 = some rr) : Con yX6_speaks cX6_speaks 3 (some Jvm.ClassFile.FieldType.boolean) 1 21 (fun G => [.ref (ga G (c + 1)), .int p1, .int p2]) m0 (some (.int rr)) m0 := by
  refine con_of (by decide) (fun G => Nat.le_of_ble_eq_true rfl) (fun X F => ?_)
  show WA X 0 0 0 [(0, .ref (ga X.G (c + 1))), (1, .int p1), (2, .int p2)] [] m0 (EQ X (some (.int rr)) m0)
  rw [f_X6_speaks] at h
  refine a_aload_n (pc := 0) F dX6_speaks_0 0 rfl ?_
  refine a_iload_n (pc := 1) F dX6_speaks_1 1 rfl ?_
  replace h := bnd_some h
  obtain ⟨x2, hc1, h⟩ := h
  refine a_callV (pc := 2) (k := (c + 1)) (As := [.int p1]) (st := []) F dX6_speaks_2 (m_X6_has hc hc1) cv_RX6_40 (klC_1 hc) (ksC_1 hc) ⟨_, _, rfl⟩ rfl rfl rfl (Nat.le_of_ble_eq_true rfl) ⟨Nat.le_of_ble_eq_true rfl, Nat.le_of_ble_eq_true rfl⟩ ?_ rfl rfl
  clear hc1
  refine a_if_eq (tgt := 25) (pc := 5) F dX6_speaks_5 (by decide) (fun q3 => ?_) (fun q3 => ?_)
  · replace h := ite_t q3 h
    clear q3
    refine a_iconst (v := 0) (pc := 25) F dX6_speaks_25 (by decide) ?_
    cases h
    exact a_iret (pc := 26) F dX6_speaks_26 ⟨_, rfl, rfl⟩
  · replace h := ite_f q3 h
    clear q3
    refine a_aload_n (pc := 8) F dX6_speaks_8 0 rfl ?_
    refine a_getr (k := (c + 1)) (r := (c + 2)) (pc := 9) F dX6_speaks_9 fl_RX6_9 (klC_1 hc) (ksC_1 hc) rfl ?_
    refine a_iload_n (pc := 12) F dX6_speaks_12 1 rfl ?_
    replace h := gIn_some h
    obtain ⟨g4, h⟩ := h
    refine a_ial (k := (c + 2)) (pc := 13) F dX6_speaks_13 (klC_2 hc) (ksC_2 hc) g4 ?_
    refine a_nmi fun x5 ex5 => ?_
    replace h := nm_at ex5 h
    clear ex5
    refine a_iload_n (pc := 14) F dX6_speaks_14 2 rfl ?_
    refine a_ishr (pc := 15) F dX6_speaks_15 ?_
    refine a_iconst (v := 1) (pc := 16) F dX6_speaks_16 (by decide) ?_
    refine a_iand (pc := 17) F dX6_speaks_17 ?_
    refine a_nmi fun x6 ex6 => ?_
    replace h := nm_at ex6 h
    clear ex6
    refine a_if_eq (tgt := 25) (pc := 18) F dX6_speaks_18 (by decide) (fun q7 => ?_) (fun q7 => ?_)
    · replace h := ite_t q7 h
      clear q7
      refine a_iconst (v := 0) (pc := 25) F dX6_speaks_25 (by decide) ?_
      cases h
      exact a_iret (pc := 26) F dX6_speaks_26 ⟨_, rfl, rfl⟩
    · replace h := ite_f q7 h
      clear q7
      refine a_iconst (v := 1) (pc := 21) F dX6_speaks_21 (by decide) ?_
      refine a_goto (tgt := 26) (pc := 22) F dX6_speaks_22 (by decide) ?_
      cases h
      exact a_iret (pc := 26) F dX6_speaks_26 ⟨_, rfl, rfl⟩
def f_X6_shareLanguage (c : Nat) (p1 : Int32) (p2 : Int32) (m0 : Mem) : Option Int32 :=
  bnd (f_X6_has c p1 m0) fun x2 => (if x2 = 0 then some 0 else bnd (f_X6_has c p2 m0) fun x5 => (if x5 = 0 then some 0 else gIn p1 10 <| nm (m0.1 (c + 2) p1.toNatClampNeg) fun x8 => gIn p2 10 <| nm (m0.1 (c + 2) p2.toNatClampNeg) fun x10 => (if (x8 &&& x10) = 0 then some 0 else some 1)))
set_option maxRecDepth 100000 in
set_option maxHeartbeats 4000000 in
theorem m_X6_shareLanguage {c : Nat} {p1 : Int32} {p2 : Int32} (hc : isC c) {m0 : Mem} {rr : Int32} (h : f_X6_shareLanguage c p1 p2 m0 = some rr) : Con yX6_shareLanguage cX6_shareLanguage 3 (some Jvm.ClassFile.FieldType.boolean) 1 21 (fun G => [.ref (ga G (c + 1)), .int p1, .int p2]) m0 (some (.int rr)) m0 := by
  refine con_of (by decide) (fun G => Nat.le_of_ble_eq_true rfl) (fun X F => ?_)
  show WA X 0 0 0 [(0, .ref (ga X.G (c + 1))), (1, .int p1), (2, .int p2)] [] m0 (EQ X (some (.int rr)) m0)
  rw [f_X6_shareLanguage] at h
  refine a_aload_n (pc := 0) F dX6_shareLanguage_0 0 rfl ?_
  refine a_iload_n (pc := 1) F dX6_shareLanguage_1 1 rfl ?_
  replace h := bnd_some h
  obtain ⟨x2, hc1, h⟩ := h
  refine a_callV (pc := 2) (k := (c + 1)) (As := [.int p1]) (st := []) F dX6_shareLanguage_2 (m_X6_has hc hc1) cv_RX6_40 (klC_1 hc) (ksC_1 hc) ⟨_, _, rfl⟩ rfl rfl rfl (Nat.le_of_ble_eq_true rfl) ⟨Nat.le_of_ble_eq_true rfl, Nat.le_of_ble_eq_true rfl⟩ ?_ rfl rfl
  clear hc1
  refine a_if_eq (tgt := 36) (pc := 5) F dX6_shareLanguage_5 (by decide) (fun q3 => ?_) (fun q3 => ?_)
  · replace h := ite_t q3 h
    clear q3
    refine a_iconst (v := 0) (pc := 36) F dX6_shareLanguage_36 (by decide) ?_
    cases h
    exact a_iret (pc := 37) F dX6_shareLanguage_37 ⟨_, rfl, rfl⟩
  · replace h := ite_f q3 h
    clear q3
    refine a_aload_n (pc := 8) F dX6_shareLanguage_8 0 rfl ?_
    refine a_iload_n (pc := 9) F dX6_shareLanguage_9 2 rfl ?_
    replace h := bnd_some h
    obtain ⟨x5, hc4, h⟩ := h
    refine a_callV (pc := 10) (k := (c + 1)) (As := [.int p2]) (st := []) F dX6_shareLanguage_10 (m_X6_has hc hc4) cv_RX6_40 (klC_1 hc) (ksC_1 hc) ⟨_, _, rfl⟩ rfl rfl rfl (Nat.le_of_ble_eq_true rfl) ⟨Nat.le_of_ble_eq_true rfl, Nat.le_of_ble_eq_true rfl⟩ ?_ rfl rfl
    clear hc4
    refine a_if_eq (tgt := 36) (pc := 13) F dX6_shareLanguage_13 (by decide) (fun q6 => ?_) (fun q6 => ?_)
    · replace h := ite_t q6 h
      clear q6
      refine a_iconst (v := 0) (pc := 36) F dX6_shareLanguage_36 (by decide) ?_
      cases h
      exact a_iret (pc := 37) F dX6_shareLanguage_37 ⟨_, rfl, rfl⟩
    · replace h := ite_f q6 h
      clear q6
      refine a_aload_n (pc := 16) F dX6_shareLanguage_16 0 rfl ?_
      refine a_getr (k := (c + 1)) (r := (c + 2)) (pc := 17) F dX6_shareLanguage_17 fl_RX6_9 (klC_1 hc) (ksC_1 hc) rfl ?_
      refine a_iload_n (pc := 20) F dX6_shareLanguage_20 1 rfl ?_
      replace h := gIn_some h
      obtain ⟨g7, h⟩ := h
      refine a_ial (k := (c + 2)) (pc := 21) F dX6_shareLanguage_21 (klC_2 hc) (ksC_2 hc) g7 ?_
      refine a_nmi fun x8 ex8 => ?_
      replace h := nm_at ex8 h
      clear ex8
      refine a_aload_n (pc := 22) F dX6_shareLanguage_22 0 rfl ?_
      refine a_getr (k := (c + 1)) (r := (c + 2)) (pc := 23) F dX6_shareLanguage_23 fl_RX6_9 (klC_1 hc) (ksC_1 hc) rfl ?_
      refine a_iload_n (pc := 26) F dX6_shareLanguage_26 2 rfl ?_
      replace h := gIn_some h
      obtain ⟨g9, h⟩ := h
      refine a_ial (k := (c + 2)) (pc := 27) F dX6_shareLanguage_27 (klC_2 hc) (ksC_2 hc) g9 ?_
      refine a_nmi fun x10 ex10 => ?_
      replace h := nm_at ex10 h
      clear ex10
      refine a_iand (pc := 28) F dX6_shareLanguage_28 ?_
      refine a_if_eq (tgt := 36) (pc := 29) F dX6_shareLanguage_29 (by decide) (fun q11 => ?_) (fun q11 => ?_)
      · replace h := ite_t q11 h
        clear q11
        refine a_iconst (v := 0) (pc := 36) F dX6_shareLanguage_36 (by decide) ?_
        cases h
        exact a_iret (pc := 37) F dX6_shareLanguage_37 ⟨_, rfl, rfl⟩
      · replace h := ite_f q11 h
        clear q11
        refine a_iconst (v := 1) (pc := 32) F dX6_shareLanguage_32 (by decide) ?_
        refine a_goto (tgt := 37) (pc := 33) F dX6_shareLanguage_33 (by decide) ?_
        cases h
        exact a_iret (pc := 37) F dX6_shareLanguage_37 ⟨_, rfl, rfl⟩
def f_X6_leadToCourt (c : Nat) (p1 : Int32) (p2 : Int32) (p3 : Int32) (p4 : Int32) (m0 : Mem) : Option Int32 :=
  bnd ((if p4 = (-1) then (if p3 = (-1) then some p2 else some p3) else some p4)) (fun (x4 : Int32) => bnd (f_X6_speaks c p2 p1 m0) fun x6 => (if x6 = 0 then some 0 else (if p3 = (-1) then (if p4 = (-1) then bnd (f_X6_speaks c x4 0 m0) fun x11 => (if x11 = 0 then some 0 else some 1) else bnd (f_X6_shareLanguage c p3 p4 m0) fun x14 => (if x14 = 0 then some 0 else bnd (f_X6_speaks c x4 0 m0) fun x17 => (if x17 = 0 then some 0 else some 1))) else bnd (f_X6_shareLanguage c p2 p3 m0) fun x20 => (if x20 = 0 then some 0 else (if p4 = (-1) then bnd (f_X6_speaks c x4 0 m0) fun x24 => (if x24 = 0 then some 0 else some 1) else bnd (f_X6_shareLanguage c p3 p4 m0) fun x27 => (if x27 = 0 then some 0 else bnd (f_X6_speaks c x4 0 m0) fun x30 => (if x30 = 0 then some 0 else some 1)))))))
set_option maxRecDepth 100000 in
set_option maxHeartbeats 4000000 in
theorem m_X6_leadToCourt {c : Nat} {p1 : Int32} {p2 : Int32} {p3 : Int32} {p4 : Int32} (hc : isC c) {m0 : Mem} {rr : Int32} (h : f_X6_leadToCourt c p1 p2 p3 p4 m0 = some rr) : Con yX6_leadToCourt cX6_leadToCourt 6 (some Jvm.ClassFile.FieldType.boolean) 2 43 (fun G => [.ref (ga G (c + 1)), .int p1, .int p2, .int p3, .int p4]) m0 (some (.int rr)) m0 := by
  refine con_of (by decide) (fun G => Nat.le_of_ble_eq_true rfl) (fun X F => ?_)
  show WA X 0 0 0 [(0, .ref (ga X.G (c + 1))), (1, .int p1), (2, .int p2), (3, .int p3), (4, .int p4)] [] m0 (EQ X (some (.int rr)) m0)
  rw [f_X6_leadToCourt] at h
  refine a_iload (pc := 0) F dX6_leadToCourt_0 4 rfl ?_
  refine a_iconst (v := (-1)) (pc := 2) F dX6_leadToCourt_2 (by decide) ?_
  replace h := bnd_some h
  obtain ⟨x4, hR1, h⟩ := h
  have hJ1 : WA X 0 0 21 [(0, .ref (ga X.G (c + 1))), (1, .int p1), (2, .int p2), (3, .int p3), (4, .int p4)] [.int x4] m0 (EQ X (some (.int rr)) m0) := by
    refine a_istore (lv' := [(5, .int x4), (0, .ref (ga X.G (c + 1))), (1, .int p1), (2, .int p2), (3, .int p3), (4, .int p4)]) (pc := 21) F dX6_leadToCourt_21 (by decide) rfl ?_
    refine a_aload_n (pc := 23) F dX6_leadToCourt_23 1 rfl ?_
    refine a_iload_n (pc := 24) F dX6_leadToCourt_24 3 rfl ?_
    refine a_iload_n (pc := 25) F dX6_leadToCourt_25 2 rfl ?_
    replace h := bnd_some h
    obtain ⟨x6, hc5, h⟩ := h
    refine a_callV (pc := 26) (k := (c + 1)) (As := [.int p2, .int p1]) (st := []) F dX6_leadToCourt_26 (m_X6_speaks hc hc5) cv_RX6_44 (klC_1 hc) (ksC_1 hc) ⟨_, _, rfl⟩ rfl rfl rfl (Nat.le_of_ble_eq_true rfl) ⟨Nat.le_of_ble_eq_true rfl, Nat.le_of_ble_eq_true rfl⟩ ?_ rfl rfl
    clear hc5
    refine a_if_eq (tgt := 76) (pc := 29) F dX6_leadToCourt_29 (by decide) (fun q7 => ?_) (fun q7 => ?_)
    · replace h := ite_t q7 h
      clear q7
      refine a_iconst (v := 0) (pc := 76) F dX6_leadToCourt_76 (by decide) ?_
      cases h
      exact a_iret (pc := 77) F dX6_leadToCourt_77 ⟨_, rfl, rfl⟩
    · replace h := ite_f q7 h
      clear q7
      refine a_iload_n (pc := 32) F dX6_leadToCourt_32 4 rfl ?_
      refine a_iconst (v := (-1)) (pc := 33) F dX6_leadToCourt_33 (by decide) ?_
      refine a_icmp_eq (tgt := 46) (pc := 34) F dX6_leadToCourt_34 (by decide) (fun q8 => ?_) (fun q8 => ?_)
      · replace h := ite_t q8 h
        clear q8
        refine a_iload (pc := 46) F dX6_leadToCourt_46 5 rfl ?_
        refine a_iconst (v := (-1)) (pc := 48) F dX6_leadToCourt_48 (by decide) ?_
        refine a_icmp_eq (tgt := 62) (pc := 49) F dX6_leadToCourt_49 (by decide) (fun q9 => ?_) (fun q9 => ?_)
        · replace h := ite_t q9 h
          clear q9
          refine a_aload_n (pc := 62) F dX6_leadToCourt_62 1 rfl ?_
          refine a_iload (pc := 63) F dX6_leadToCourt_63 0 rfl ?_
          refine a_iconst (v := 0) (pc := 65) F dX6_leadToCourt_65 (by decide) ?_
          replace h := bnd_some h
          obtain ⟨x11, hc10, h⟩ := h
          refine a_callV (pc := 66) (k := (c + 1)) (As := [.int x4, .int 0]) (st := []) F dX6_leadToCourt_66 (m_X6_speaks hc hc10) cv_RX6_44 (klC_1 hc) (ksC_1 hc) ⟨_, _, rfl⟩ rfl rfl rfl (Nat.le_of_ble_eq_true rfl) ⟨Nat.le_of_ble_eq_true rfl, Nat.le_of_ble_eq_true rfl⟩ ?_ rfl rfl
          clear hc10
          refine a_if_eq (tgt := 76) (pc := 69) F dX6_leadToCourt_69 (by decide) (fun q12 => ?_) (fun q12 => ?_)
          · replace h := ite_t q12 h
            clear q12
            refine a_iconst (v := 0) (pc := 76) F dX6_leadToCourt_76 (by decide) ?_
            cases h
            exact a_iret (pc := 77) F dX6_leadToCourt_77 ⟨_, rfl, rfl⟩
          · replace h := ite_f q12 h
            clear q12
            refine a_iconst (v := 1) (pc := 72) F dX6_leadToCourt_72 (by decide) ?_
            refine a_goto (tgt := 77) (pc := 73) F dX6_leadToCourt_73 (by decide) ?_
            cases h
            exact a_iret (pc := 77) F dX6_leadToCourt_77 ⟨_, rfl, rfl⟩
        · replace h := ite_f q9 h
          clear q9
          refine a_aload_n (pc := 52) F dX6_leadToCourt_52 1 rfl ?_
          refine a_iload_n (pc := 53) F dX6_leadToCourt_53 4 rfl ?_
          refine a_iload (pc := 54) F dX6_leadToCourt_54 5 rfl ?_
          replace h := bnd_some h
          obtain ⟨x14, hc13, h⟩ := h
          refine a_callV (pc := 56) (k := (c + 1)) (As := [.int p3, .int p4]) (st := []) F dX6_leadToCourt_56 (m_X6_shareLanguage hc hc13) cv_RX6_48 (klC_1 hc) (ksC_1 hc) ⟨_, _, rfl⟩ rfl rfl rfl (Nat.le_of_ble_eq_true rfl) ⟨Nat.le_of_ble_eq_true rfl, Nat.le_of_ble_eq_true rfl⟩ ?_ rfl rfl
          clear hc13
          refine a_if_eq (tgt := 76) (pc := 59) F dX6_leadToCourt_59 (by decide) (fun q15 => ?_) (fun q15 => ?_)
          · replace h := ite_t q15 h
            clear q15
            refine a_iconst (v := 0) (pc := 76) F dX6_leadToCourt_76 (by decide) ?_
            cases h
            exact a_iret (pc := 77) F dX6_leadToCourt_77 ⟨_, rfl, rfl⟩
          · replace h := ite_f q15 h
            clear q15
            refine a_aload_n (pc := 62) F dX6_leadToCourt_62 1 rfl ?_
            refine a_iload (pc := 63) F dX6_leadToCourt_63 0 rfl ?_
            refine a_iconst (v := 0) (pc := 65) F dX6_leadToCourt_65 (by decide) ?_
            replace h := bnd_some h
            obtain ⟨x17, hc16, h⟩ := h
            refine a_callV (pc := 66) (k := (c + 1)) (As := [.int x4, .int 0]) (st := []) F dX6_leadToCourt_66 (m_X6_speaks hc hc16) cv_RX6_44 (klC_1 hc) (ksC_1 hc) ⟨_, _, rfl⟩ rfl rfl rfl (Nat.le_of_ble_eq_true rfl) ⟨Nat.le_of_ble_eq_true rfl, Nat.le_of_ble_eq_true rfl⟩ ?_ rfl rfl
            clear hc16
            refine a_if_eq (tgt := 76) (pc := 69) F dX6_leadToCourt_69 (by decide) (fun q18 => ?_) (fun q18 => ?_)
            · replace h := ite_t q18 h
              clear q18
              refine a_iconst (v := 0) (pc := 76) F dX6_leadToCourt_76 (by decide) ?_
              cases h
              exact a_iret (pc := 77) F dX6_leadToCourt_77 ⟨_, rfl, rfl⟩
            · replace h := ite_f q18 h
              clear q18
              refine a_iconst (v := 1) (pc := 72) F dX6_leadToCourt_72 (by decide) ?_
              refine a_goto (tgt := 77) (pc := 73) F dX6_leadToCourt_73 (by decide) ?_
              cases h
              exact a_iret (pc := 77) F dX6_leadToCourt_77 ⟨_, rfl, rfl⟩
      · replace h := ite_f q8 h
        clear q8
        refine a_aload_n (pc := 37) F dX6_leadToCourt_37 1 rfl ?_
        refine a_iload_n (pc := 38) F dX6_leadToCourt_38 3 rfl ?_
        refine a_iload_n (pc := 39) F dX6_leadToCourt_39 4 rfl ?_
        replace h := bnd_some h
        obtain ⟨x20, hc19, h⟩ := h
        refine a_callV (pc := 40) (k := (c + 1)) (As := [.int p2, .int p3]) (st := []) F dX6_leadToCourt_40 (m_X6_shareLanguage hc hc19) cv_RX6_48 (klC_1 hc) (ksC_1 hc) ⟨_, _, rfl⟩ rfl rfl rfl (Nat.le_of_ble_eq_true rfl) ⟨Nat.le_of_ble_eq_true rfl, Nat.le_of_ble_eq_true rfl⟩ ?_ rfl rfl
        clear hc19
        refine a_if_eq (tgt := 76) (pc := 43) F dX6_leadToCourt_43 (by decide) (fun q21 => ?_) (fun q21 => ?_)
        · replace h := ite_t q21 h
          clear q21
          refine a_iconst (v := 0) (pc := 76) F dX6_leadToCourt_76 (by decide) ?_
          cases h
          exact a_iret (pc := 77) F dX6_leadToCourt_77 ⟨_, rfl, rfl⟩
        · replace h := ite_f q21 h
          clear q21
          refine a_iload (pc := 46) F dX6_leadToCourt_46 5 rfl ?_
          refine a_iconst (v := (-1)) (pc := 48) F dX6_leadToCourt_48 (by decide) ?_
          refine a_icmp_eq (tgt := 62) (pc := 49) F dX6_leadToCourt_49 (by decide) (fun q22 => ?_) (fun q22 => ?_)
          · replace h := ite_t q22 h
            clear q22
            refine a_aload_n (pc := 62) F dX6_leadToCourt_62 1 rfl ?_
            refine a_iload (pc := 63) F dX6_leadToCourt_63 0 rfl ?_
            refine a_iconst (v := 0) (pc := 65) F dX6_leadToCourt_65 (by decide) ?_
            replace h := bnd_some h
            obtain ⟨x24, hc23, h⟩ := h
            refine a_callV (pc := 66) (k := (c + 1)) (As := [.int x4, .int 0]) (st := []) F dX6_leadToCourt_66 (m_X6_speaks hc hc23) cv_RX6_44 (klC_1 hc) (ksC_1 hc) ⟨_, _, rfl⟩ rfl rfl rfl (Nat.le_of_ble_eq_true rfl) ⟨Nat.le_of_ble_eq_true rfl, Nat.le_of_ble_eq_true rfl⟩ ?_ rfl rfl
            clear hc23
            refine a_if_eq (tgt := 76) (pc := 69) F dX6_leadToCourt_69 (by decide) (fun q25 => ?_) (fun q25 => ?_)
            · replace h := ite_t q25 h
              clear q25
              refine a_iconst (v := 0) (pc := 76) F dX6_leadToCourt_76 (by decide) ?_
              cases h
              exact a_iret (pc := 77) F dX6_leadToCourt_77 ⟨_, rfl, rfl⟩
            · replace h := ite_f q25 h
              clear q25
              refine a_iconst (v := 1) (pc := 72) F dX6_leadToCourt_72 (by decide) ?_
              refine a_goto (tgt := 77) (pc := 73) F dX6_leadToCourt_73 (by decide) ?_
              cases h
              exact a_iret (pc := 77) F dX6_leadToCourt_77 ⟨_, rfl, rfl⟩
          · replace h := ite_f q22 h
            clear q22
            refine a_aload_n (pc := 52) F dX6_leadToCourt_52 1 rfl ?_
            refine a_iload_n (pc := 53) F dX6_leadToCourt_53 4 rfl ?_
            refine a_iload (pc := 54) F dX6_leadToCourt_54 5 rfl ?_
            replace h := bnd_some h
            obtain ⟨x27, hc26, h⟩ := h
            refine a_callV (pc := 56) (k := (c + 1)) (As := [.int p3, .int p4]) (st := []) F dX6_leadToCourt_56 (m_X6_shareLanguage hc hc26) cv_RX6_48 (klC_1 hc) (ksC_1 hc) ⟨_, _, rfl⟩ rfl rfl rfl (Nat.le_of_ble_eq_true rfl) ⟨Nat.le_of_ble_eq_true rfl, Nat.le_of_ble_eq_true rfl⟩ ?_ rfl rfl
            clear hc26
            refine a_if_eq (tgt := 76) (pc := 59) F dX6_leadToCourt_59 (by decide) (fun q28 => ?_) (fun q28 => ?_)
            · replace h := ite_t q28 h
              clear q28
              refine a_iconst (v := 0) (pc := 76) F dX6_leadToCourt_76 (by decide) ?_
              cases h
              exact a_iret (pc := 77) F dX6_leadToCourt_77 ⟨_, rfl, rfl⟩
            · replace h := ite_f q28 h
              clear q28
              refine a_aload_n (pc := 62) F dX6_leadToCourt_62 1 rfl ?_
              refine a_iload (pc := 63) F dX6_leadToCourt_63 0 rfl ?_
              refine a_iconst (v := 0) (pc := 65) F dX6_leadToCourt_65 (by decide) ?_
              replace h := bnd_some h
              obtain ⟨x30, hc29, h⟩ := h
              refine a_callV (pc := 66) (k := (c + 1)) (As := [.int x4, .int 0]) (st := []) F dX6_leadToCourt_66 (m_X6_speaks hc hc29) cv_RX6_44 (klC_1 hc) (ksC_1 hc) ⟨_, _, rfl⟩ rfl rfl rfl (Nat.le_of_ble_eq_true rfl) ⟨Nat.le_of_ble_eq_true rfl, Nat.le_of_ble_eq_true rfl⟩ ?_ rfl rfl
              clear hc29
              refine a_if_eq (tgt := 76) (pc := 69) F dX6_leadToCourt_69 (by decide) (fun q31 => ?_) (fun q31 => ?_)
              · replace h := ite_t q31 h
                clear q31
                refine a_iconst (v := 0) (pc := 76) F dX6_leadToCourt_76 (by decide) ?_
                cases h
                exact a_iret (pc := 77) F dX6_leadToCourt_77 ⟨_, rfl, rfl⟩
              · replace h := ite_f q31 h
                clear q31
                refine a_iconst (v := 1) (pc := 72) F dX6_leadToCourt_72 (by decide) ?_
                refine a_goto (tgt := 77) (pc := 73) F dX6_leadToCourt_73 (by decide) ?_
                cases h
                exact a_iret (pc := 77) F dX6_leadToCourt_77 ⟨_, rfl, rfl⟩
  clear h
  have h := hR1
  clear hR1
  refine a_icmp_eq (tgt := 11) (pc := 3) F dX6_leadToCourt_3 (by decide) (fun q2 => ?_) (fun q2 => ?_)
  · replace h := ite_t q2 h
    clear q2
    refine a_iload_n (pc := 11) F dX6_leadToCourt_11 3 rfl ?_
    refine a_iconst (v := (-1)) (pc := 12) F dX6_leadToCourt_12 (by decide) ?_
    refine a_icmp_eq (tgt := 20) (pc := 13) F dX6_leadToCourt_13 (by decide) (fun q3 => ?_) (fun q3 => ?_)
    · replace h := ite_t q3 h
      clear q3
      refine a_iload_n (pc := 20) F dX6_leadToCourt_20 2 rfl ?_
      cases h
      exact hJ1
    · replace h := ite_f q3 h
      clear q3
      refine a_iload_n (pc := 16) F dX6_leadToCourt_16 3 rfl ?_
      refine a_goto (tgt := 21) (pc := 17) F dX6_leadToCourt_17 (by decide) ?_
      cases h
      exact hJ1
  · replace h := ite_f q2 h
    clear q2
    refine a_iload (pc := 6) F dX6_leadToCourt_6 4 rfl ?_
    refine a_goto (tgt := 21) (pc := 8) F dX6_leadToCourt_8 (by decide) ?_
    cases h
    exact hJ1
def f_X6_certifiedFor_L4 (c : Nat) (p1 : Int32) (m0 : Mem) : (Int32 × Int32) → Option ((Int32 × Int32) ⊕ Int32)
  | (x2, x3) => (if (m0.1 (c + 1) 0) ≤ x3 then some (.inr x2) else gIn x3 10 <| nm (m0.1 (c + 3) x3.toNatClampNeg) fun x6 => nm ((x6 >>> (p1 &&& 31)) &&& 1) fun x7 => (if x7 = 0 then nm (x3 + 1) fun x9 => some (.inl (x2, x9)) else bnd (f_X7_bitOf x3 m0) fun x11 => nm (x3 + 1) fun x12 => some (.inl (x2 ||| x11, x12))))
def f_X6_certifiedFor (c : Nat) (p1 : Int32) (m0 : Mem) : Option Int32 :=
  bnd (lp (f_X6_certifiedFor_L4 c p1 m0) 1000000 (0, 0)) (fun x13 => some x13)
set_option maxRecDepth 100000 in
set_option maxHeartbeats 4000000 in
theorem m_X6_certifiedFor {c : Nat} {p1 : Int32} (hc : isC c) {m0 : Mem} {rr : Int32} (h : f_X6_certifiedFor c p1 m0 = some rr) : Con yX6_certifiedFor cX6_certifiedFor 4 (some Jvm.ClassFile.FieldType.int) 1 20 (fun G => [.ref (ga G (c + 1)), .int p1]) m0 (some (.int rr)) m0 := by
  refine con_of (by decide) (fun G => Nat.le_of_ble_eq_true rfl) (fun X F => ?_)
  show WA X 0 0 0 [(0, .ref (ga X.G (c + 1))), (1, .int p1)] [] m0 (EQ X (some (.int rr)) m0)
  rw [f_X6_certifiedFor] at h
  refine a_iconst (v := 0) (pc := 0) F dX6_certifiedFor_0 (by decide) ?_
  refine a_istore_n (lv' := [(2, .int 0), (0, .ref (ga X.G (c + 1))), (1, .int p1)]) (pc := 1) F dX6_certifiedFor_1 (by decide) rfl ?_
  refine a_iconst (v := 0) (pc := 2) F dX6_certifiedFor_2 (by decide) ?_
  refine a_istore_n (lv' := [(3, .int 0), (2, .int 0), (0, .ref (ga X.G (c + 1))), (1, .int p1)]) (pc := 3) F dX6_certifiedFor_3 (by decide) rfl ?_
  refine a_lv F [2, 3, 1, 0] rfl ?_
  replace h := bnd_some h
  obtain ⟨x13, hL1, h⟩ := h
  have hE1 : WA X 0 0 38 [(2, .int x13)] [] m0 (EQ X (some (.int rr)) m0) := by
    refine a_iload_n (pc := 38) F dX6_certifiedFor_38 0 rfl ?_
    cases h
    exact a_iret (pc := 39) F dX6_certifiedFor_39 ⟨_, rfl, rfl⟩
  clear h
  refine lp_run (P := fun (s : (Int32 × Int32)) => WA X 0 0 4 [(0, .ref (ga X.G (c + 1))), (1, .int p1), (2, .int s.1), (3, .int s.2)] [] m0 (EQ X (some (.int rr)) m0)) ?_ _ _ hL1
  clear hL1
  rintro ⟨x2, x3⟩ xo h hP1 hT1
  show WA X 0 0 4 [(0, .ref (ga X.G (c + 1))), (1, .int p1), (2, .int x2), (3, .int x3)] [] m0 (EQ X (some (.int rr)) m0)
  rw [f_X6_certifiedFor_L4] at h
  refine a_iload_n (pc := 4) F dX6_certifiedFor_4 3 rfl ?_
  refine a_aload_n (pc := 5) F dX6_certifiedFor_5 0 rfl ?_
  refine a_geti (k := (c + 1)) (pc := 6) F dX6_certifiedFor_6 fl_RX6_30 (klC_1 hc) (ksC_1 hc) rfl ?_
  refine a_icmp_ge (tgt := 38) (pc := 9) F dX6_certifiedFor_9 (by decide) (fun q4 => ?_) (fun q4 => ?_)
  · replace h := ite_t q4 h
    clear q4
    refine a_lv F [2] rfl ?_
    cases hT1 _ (Option.some.inj h).symm
    exact hE1
  · replace h := ite_f q4 h
    clear q4
    refine a_aload_n (pc := 12) F dX6_certifiedFor_12 0 rfl ?_
    refine a_getr (k := (c + 1)) (r := (c + 3)) (pc := 13) F dX6_certifiedFor_13 fl_RX6_15 (klC_1 hc) (ksC_1 hc) rfl ?_
    refine a_iload_n (pc := 16) F dX6_certifiedFor_16 3 rfl ?_
    replace h := gIn_some h
    obtain ⟨g5, h⟩ := h
    refine a_ial (k := (c + 3)) (pc := 17) F dX6_certifiedFor_17 (klC_3 hc) (ksC_3 hc) g5 ?_
    refine a_nmi fun x6 ex6 => ?_
    replace h := nm_at ex6 h
    clear ex6
    refine a_iload_n (pc := 18) F dX6_certifiedFor_18 1 rfl ?_
    refine a_ishr (pc := 19) F dX6_certifiedFor_19 ?_
    refine a_iconst (v := 1) (pc := 20) F dX6_certifiedFor_20 (by decide) ?_
    refine a_iand (pc := 21) F dX6_certifiedFor_21 ?_
    refine a_nmi fun x7 ex7 => ?_
    replace h := nm_at ex7 h
    clear ex7
    refine a_if_eq (tgt := 32) (pc := 22) F dX6_certifiedFor_22 (by decide) (fun q8 => ?_) (fun q8 => ?_)
    · replace h := ite_t q8 h
      clear q8
      obtain ⟨x9, ex9⟩ : ∃ x9 : Int32, x9 = x3 + 1 := ⟨_, rfl⟩
      refine a_iinc (v := x9) (lv' := [(3, .int x9), (0, .ref (ga X.G (c + 1))), (1, .int p1), (2, .int x2)]) (pc := 32) F dX6_certifiedFor_32 3 rfl (by rw [ex9]; rfl) (by decide) rfl ?_
      replace h := nm_at ex9 h
      clear ex9
      refine a_goto (tgt := 4) (pc := 35) F dX6_certifiedFor_35 (by decide) ?_
      refine a_lv F [1, 2, 3, 0] rfl ?_
      exact hP1 _ (Option.some.inj h).symm
    · replace h := ite_f q8 h
      clear q8
      refine a_iload_n (pc := 25) F dX6_certifiedFor_25 2 rfl ?_
      refine a_iload_n (pc := 26) F dX6_certifiedFor_26 3 rfl ?_
      replace h := bnd_some h
      obtain ⟨x11, hc10, h⟩ := h
      refine a_callSN (pc := 27) (As := [.int x3]) (st := [.int x2]) F dX6_certifiedFor_27 (m_X7_bitOf hc10) cn_RX6_51 rfl rfl rfl (Nat.le_of_ble_eq_true rfl) ⟨Nat.le_of_ble_eq_true rfl, Nat.le_of_ble_eq_true rfl⟩ ?_ rfl rfl
      clear hc10
      refine a_ior (pc := 30) F dX6_certifiedFor_30 ?_
      refine a_istore_n (lv' := [(2, .int (x2 ||| x11)), (0, .ref (ga X.G (c + 1))), (1, .int p1), (3, .int x3)]) (pc := 31) F dX6_certifiedFor_31 (by decide) rfl ?_
      obtain ⟨x12, ex12⟩ : ∃ x12 : Int32, x12 = x3 + 1 := ⟨_, rfl⟩
      refine a_iinc (v := x12) (lv' := [(3, .int x12), (2, .int (x2 ||| x11)), (0, .ref (ga X.G (c + 1))), (1, .int p1)]) (pc := 32) F dX6_certifiedFor_32 3 rfl (by rw [ex12]; rfl) (by decide) rfl ?_
      replace h := nm_at ex12 h
      clear ex12
      refine a_goto (tgt := 4) (pc := 35) F dX6_certifiedFor_35 (by decide) ?_
      refine a_lv F [2, 3, 1, 0] rfl ?_
      exact hP1 _ (Option.some.inj h).symm
def f_X3_end (c : Nat) (p1 : Int32) (m0 : Mem) : Option Int32 :=
  gIn p1 30 <| nm (m0.1 (c + 11) p1.toNatClampNeg) fun x2 => gIn p1 30 <| nm (m0.1 (c + 12) p1.toNatClampNeg) fun x4 => some (x2 + x4)
set_option maxRecDepth 100000 in
set_option maxHeartbeats 4000000 in
theorem m_X3_end {c : Nat} {p1 : Int32} (hc : isC c) {m0 : Mem} {rr : Int32} (h : f_X3_end c p1 m0 = some rr) : Con yX3_end cX3_end 2 (some Jvm.ClassFile.FieldType.int) 0 0 (fun G => [.ref (ga G (c + 8)), .int p1]) m0 (some (.int rr)) m0 := by
  refine con_of (by decide) (fun G => Nat.le_of_ble_eq_true rfl) (fun X F => ?_)
  show WA X 0 0 0 [(0, .ref (ga X.G (c + 8))), (1, .int p1)] [] m0 (EQ X (some (.int rr)) m0)
  rw [f_X3_end] at h
  refine a_aload_n (pc := 0) F dX3_end_0 0 rfl ?_
  refine a_getr (k := (c + 8)) (r := (c + 11)) (pc := 1) F dX3_end_1 fl_RX3_18 (klC_8 hc) (ksC_8 hc) rfl ?_
  refine a_iload_n (pc := 4) F dX3_end_4 1 rfl ?_
  replace h := gIn_some h
  obtain ⟨g1, h⟩ := h
  refine a_ial (k := (c + 11)) (pc := 5) F dX3_end_5 (klC_11 hc) (ksC_11 hc) g1 ?_
  refine a_nmi fun x2 ex2 => ?_
  replace h := nm_at ex2 h
  clear ex2
  refine a_aload_n (pc := 6) F dX3_end_6 0 rfl ?_
  refine a_getr (k := (c + 8)) (r := (c + 12)) (pc := 7) F dX3_end_7 fl_RX3_21 (klC_8 hc) (ksC_8 hc) rfl ?_
  refine a_iload_n (pc := 10) F dX3_end_10 1 rfl ?_
  replace h := gIn_some h
  obtain ⟨g3, h⟩ := h
  refine a_ial (k := (c + 12)) (pc := 11) F dX3_end_11 (klC_12 hc) (ksC_12 hc) g3 ?_
  refine a_nmi fun x4 ex4 => ?_
  replace h := nm_at ex4 h
  clear ex4
  refine a_iadd (pc := 12) F dX3_end_12 ?_
  cases h
  exact a_iret (pc := 13) F dX3_end_13 ⟨_, rfl, rfl⟩
def f_X3_listedAndClashing (c : Nat) (p1 : Int32) (p2 : Int32) (m0 : Mem) : Option Int32 :=
  (if p1 = p2 then some 0 else bnd (f_X3_isListed c p1 m0) fun x3 => (if x3 = 0 then some 0 else gIn p1 30 <| nm (m0.1 (c + 11) p1.toNatClampNeg) fun x6 => bnd (f_X3_end c p2 m0) fun x8 => (if x8 ≤ x6 then some 0 else gIn p2 30 <| nm (m0.1 (c + 11) p2.toNatClampNeg) fun x11 => bnd (f_X3_end c p1 m0) fun x13 => (if x13 ≤ x11 then some 0 else some 1))))
set_option maxRecDepth 100000 in
set_option maxHeartbeats 4000000 in
theorem m_X3_listedAndClashing {c : Nat} {p1 : Int32} {p2 : Int32} (hc : isC c) {m0 : Mem} {rr : Int32} (h : f_X3_listedAndClashing c p1 p2 m0 = some rr) : Con yX3_listedAndClashing cX3_listedAndClashing 3 (some Jvm.ClassFile.FieldType.boolean) 1 21 (fun G => [.ref (ga G (c + 8)), .int p1, .int p2]) m0 (some (.int rr)) m0 := by
  refine con_of (by decide) (fun G => Nat.le_of_ble_eq_true rfl) (fun X F => ?_)
  show WA X 0 0 0 [(0, .ref (ga X.G (c + 8))), (1, .int p1), (2, .int p2)] [] m0 (EQ X (some (.int rr)) m0)
  rw [f_X3_listedAndClashing] at h
  refine a_iload_n (pc := 0) F dX3_listedAndClashing_0 1 rfl ?_
  refine a_iload_n (pc := 1) F dX3_listedAndClashing_1 2 rfl ?_
  refine a_icmp_eq (tgt := 45) (pc := 2) F dX3_listedAndClashing_2 (by decide) (fun q1 => ?_) (fun q1 => ?_)
  · replace h := ite_t q1 h
    clear q1
    refine a_iconst (v := 0) (pc := 45) F dX3_listedAndClashing_45 (by decide) ?_
    cases h
    exact a_iret (pc := 46) F dX3_listedAndClashing_46 ⟨_, rfl, rfl⟩
  · replace h := ite_f q1 h
    clear q1
    refine a_aload_n (pc := 5) F dX3_listedAndClashing_5 0 rfl ?_
    refine a_iload_n (pc := 6) F dX3_listedAndClashing_6 1 rfl ?_
    replace h := bnd_some h
    obtain ⟨x3, hc2, h⟩ := h
    refine a_callV (pc := 7) (k := (c + 8)) (As := [.int p1]) (st := []) F dX3_listedAndClashing_7 (m_X3_isListed hc hc2) cv_RX3_70 (klC_8 hc) (ksC_8 hc) ⟨_, _, rfl⟩ rfl rfl rfl (Nat.le_of_ble_eq_true rfl) ⟨Nat.le_of_ble_eq_true rfl, Nat.le_of_ble_eq_true rfl⟩ ?_ rfl rfl
    clear hc2
    refine a_if_eq (tgt := 45) (pc := 10) F dX3_listedAndClashing_10 (by decide) (fun q4 => ?_) (fun q4 => ?_)
    · replace h := ite_t q4 h
      clear q4
      refine a_iconst (v := 0) (pc := 45) F dX3_listedAndClashing_45 (by decide) ?_
      cases h
      exact a_iret (pc := 46) F dX3_listedAndClashing_46 ⟨_, rfl, rfl⟩
    · replace h := ite_f q4 h
      clear q4
      refine a_aload_n (pc := 13) F dX3_listedAndClashing_13 0 rfl ?_
      refine a_getr (k := (c + 8)) (r := (c + 11)) (pc := 14) F dX3_listedAndClashing_14 fl_RX3_18 (klC_8 hc) (ksC_8 hc) rfl ?_
      refine a_iload_n (pc := 17) F dX3_listedAndClashing_17 1 rfl ?_
      replace h := gIn_some h
      obtain ⟨g5, h⟩ := h
      refine a_ial (k := (c + 11)) (pc := 18) F dX3_listedAndClashing_18 (klC_11 hc) (ksC_11 hc) g5 ?_
      refine a_nmi fun x6 ex6 => ?_
      replace h := nm_at ex6 h
      clear ex6
      refine a_aload_n (pc := 19) F dX3_listedAndClashing_19 0 rfl ?_
      refine a_iload_n (pc := 20) F dX3_listedAndClashing_20 2 rfl ?_
      replace h := bnd_some h
      obtain ⟨x8, hc7, h⟩ := h
      refine a_callV (pc := 21) (k := (c + 8)) (As := [.int p2]) (st := [.int x6]) F dX3_listedAndClashing_21 (m_X3_end hc hc7) cv_RX3_73 (klC_8 hc) (ksC_8 hc) ⟨_, _, rfl⟩ rfl rfl rfl (Nat.le_of_ble_eq_true rfl) ⟨Nat.le_of_ble_eq_true rfl, Nat.le_of_ble_eq_true rfl⟩ ?_ rfl rfl
      clear hc7
      refine a_icmp_ge (tgt := 45) (pc := 24) F dX3_listedAndClashing_24 (by decide) (fun q9 => ?_) (fun q9 => ?_)
      · replace h := ite_t q9 h
        clear q9
        refine a_iconst (v := 0) (pc := 45) F dX3_listedAndClashing_45 (by decide) ?_
        cases h
        exact a_iret (pc := 46) F dX3_listedAndClashing_46 ⟨_, rfl, rfl⟩
      · replace h := ite_f q9 h
        clear q9
        refine a_aload_n (pc := 27) F dX3_listedAndClashing_27 0 rfl ?_
        refine a_getr (k := (c + 8)) (r := (c + 11)) (pc := 28) F dX3_listedAndClashing_28 fl_RX3_18 (klC_8 hc) (ksC_8 hc) rfl ?_
        refine a_iload_n (pc := 31) F dX3_listedAndClashing_31 2 rfl ?_
        replace h := gIn_some h
        obtain ⟨g10, h⟩ := h
        refine a_ial (k := (c + 11)) (pc := 32) F dX3_listedAndClashing_32 (klC_11 hc) (ksC_11 hc) g10 ?_
        refine a_nmi fun x11 ex11 => ?_
        replace h := nm_at ex11 h
        clear ex11
        refine a_aload_n (pc := 33) F dX3_listedAndClashing_33 0 rfl ?_
        refine a_iload_n (pc := 34) F dX3_listedAndClashing_34 1 rfl ?_
        replace h := bnd_some h
        obtain ⟨x13, hc12, h⟩ := h
        refine a_callV (pc := 35) (k := (c + 8)) (As := [.int p1]) (st := [.int x11]) F dX3_listedAndClashing_35 (m_X3_end hc hc12) cv_RX3_73 (klC_8 hc) (ksC_8 hc) ⟨_, _, rfl⟩ rfl rfl rfl (Nat.le_of_ble_eq_true rfl) ⟨Nat.le_of_ble_eq_true rfl, Nat.le_of_ble_eq_true rfl⟩ ?_ rfl rfl
        clear hc12
        refine a_icmp_ge (tgt := 45) (pc := 38) F dX3_listedAndClashing_38 (by decide) (fun q14 => ?_) (fun q14 => ?_)
        · replace h := ite_t q14 h
          clear q14
          refine a_iconst (v := 0) (pc := 45) F dX3_listedAndClashing_45 (by decide) ?_
          cases h
          exact a_iret (pc := 46) F dX3_listedAndClashing_46 ⟨_, rfl, rfl⟩
        · replace h := ite_f q14 h
          clear q14
          refine a_iconst (v := 1) (pc := 41) F dX3_listedAndClashing_41 (by decide) ?_
          refine a_goto (tgt := 46) (pc := 42) F dX3_listedAndClashing_42 (by decide) ?_
          cases h
          exact a_iret (pc := 46) F dX3_listedAndClashing_46 ⟨_, rfl, rfl⟩
def f_X3_busyFor_L4 (c : Nat) (p1 : Int32) (m0 : Mem) : (Int32 × Int32) → Option ((Int32 × Int32) ⊕ Int32)
  | (x2, x3) => (if (m0.1 (c + 8) 0) ≤ x3 then some (.inr x2) else bnd (f_X3_listedAndClashing c x3 p1 m0) fun x6 => (if x6 = 0 then nm (x3 + 1) fun x8 => some (.inl (x2, x8)) else gIn x3 30 <| nm (m0.1 (c + 16) x3.toNatClampNeg) fun x10 => nm (x3 + 1) fun x11 => some (.inl (x2 ||| x10, x11))))
def f_X3_busyFor (c : Nat) (p1 : Int32) (m0 : Mem) : Option Int32 :=
  bnd (lp (f_X3_busyFor_L4 c p1 m0) 1000000 (0, 0)) (fun x12 => some x12)
set_option maxRecDepth 100000 in
set_option maxHeartbeats 4000000 in
theorem m_X3_busyFor {c : Nat} {p1 : Int32} (hc : isC c) {m0 : Mem} {rr : Int32} (h : f_X3_busyFor c p1 m0 = some rr) : Con yX3_busyFor cX3_busyFor 4 (some Jvm.ClassFile.FieldType.int) 2 43 (fun G => [.ref (ga G (c + 8)), .int p1]) m0 (some (.int rr)) m0 := by
  refine con_of (by decide) (fun G => Nat.le_of_ble_eq_true rfl) (fun X F => ?_)
  show WA X 0 0 0 [(0, .ref (ga X.G (c + 8))), (1, .int p1)] [] m0 (EQ X (some (.int rr)) m0)
  rw [f_X3_busyFor] at h
  refine a_iconst (v := 0) (pc := 0) F dX3_busyFor_0 (by decide) ?_
  refine a_istore_n (lv' := [(2, .int 0), (0, .ref (ga X.G (c + 8))), (1, .int p1)]) (pc := 1) F dX3_busyFor_1 (by decide) rfl ?_
  refine a_iconst (v := 0) (pc := 2) F dX3_busyFor_2 (by decide) ?_
  refine a_istore_n (lv' := [(3, .int 0), (2, .int 0), (0, .ref (ga X.G (c + 8))), (1, .int p1)]) (pc := 3) F dX3_busyFor_3 (by decide) rfl ?_
  refine a_lv F [2, 3, 1, 0] rfl ?_
  replace h := bnd_some h
  obtain ⟨x12, hL1, h⟩ := h
  have hE1 : WA X 0 0 36 [(2, .int x12)] [] m0 (EQ X (some (.int rr)) m0) := by
    refine a_iload_n (pc := 36) F dX3_busyFor_36 0 rfl ?_
    cases h
    exact a_iret (pc := 37) F dX3_busyFor_37 ⟨_, rfl, rfl⟩
  clear h
  refine lp_run (P := fun (s : (Int32 × Int32)) => WA X 0 0 4 [(0, .ref (ga X.G (c + 8))), (1, .int p1), (2, .int s.1), (3, .int s.2)] [] m0 (EQ X (some (.int rr)) m0)) ?_ _ _ hL1
  clear hL1
  rintro ⟨x2, x3⟩ xo h hP1 hT1
  show WA X 0 0 4 [(0, .ref (ga X.G (c + 8))), (1, .int p1), (2, .int x2), (3, .int x3)] [] m0 (EQ X (some (.int rr)) m0)
  rw [f_X3_busyFor_L4] at h
  refine a_iload_n (pc := 4) F dX3_busyFor_4 3 rfl ?_
  refine a_aload_n (pc := 5) F dX3_busyFor_5 0 rfl ?_
  refine a_geti (k := (c + 8)) (pc := 6) F dX3_busyFor_6 fl_RX3_39 (klC_8 hc) (ksC_8 hc) rfl ?_
  refine a_icmp_ge (tgt := 36) (pc := 9) F dX3_busyFor_9 (by decide) (fun q4 => ?_) (fun q4 => ?_)
  · replace h := ite_t q4 h
    clear q4
    refine a_lv F [2] rfl ?_
    cases hT1 _ (Option.some.inj h).symm
    exact hE1
  · replace h := ite_f q4 h
    clear q4
    refine a_aload_n (pc := 12) F dX3_busyFor_12 0 rfl ?_
    refine a_iload_n (pc := 13) F dX3_busyFor_13 3 rfl ?_
    refine a_iload_n (pc := 14) F dX3_busyFor_14 1 rfl ?_
    replace h := bnd_some h
    obtain ⟨x6, hc5, h⟩ := h
    refine a_callV (pc := 15) (k := (c + 8)) (As := [.int x3, .int p1]) (st := []) F dX3_busyFor_15 (m_X3_listedAndClashing hc hc5) cv_RX3_76 (klC_8 hc) (ksC_8 hc) ⟨_, _, rfl⟩ rfl rfl rfl (Nat.le_of_ble_eq_true rfl) ⟨Nat.le_of_ble_eq_true rfl, Nat.le_of_ble_eq_true rfl⟩ ?_ rfl rfl
    clear hc5
    refine a_if_eq (tgt := 30) (pc := 18) F dX3_busyFor_18 (by decide) (fun q7 => ?_) (fun q7 => ?_)
    · replace h := ite_t q7 h
      clear q7
      obtain ⟨x8, ex8⟩ : ∃ x8 : Int32, x8 = x3 + 1 := ⟨_, rfl⟩
      refine a_iinc (v := x8) (lv' := [(3, .int x8), (0, .ref (ga X.G (c + 8))), (1, .int p1), (2, .int x2)]) (pc := 30) F dX3_busyFor_30 3 rfl (by rw [ex8]; rfl) (by decide) rfl ?_
      replace h := nm_at ex8 h
      clear ex8
      refine a_goto (tgt := 4) (pc := 33) F dX3_busyFor_33 (by decide) ?_
      refine a_lv F [1, 2, 3, 0] rfl ?_
      exact hP1 _ (Option.some.inj h).symm
    · replace h := ite_f q7 h
      clear q7
      refine a_iload_n (pc := 21) F dX3_busyFor_21 2 rfl ?_
      refine a_aload_n (pc := 22) F dX3_busyFor_22 0 rfl ?_
      refine a_getr (k := (c + 8)) (r := (c + 16)) (pc := 23) F dX3_busyFor_23 fl_RX3_33 (klC_8 hc) (ksC_8 hc) rfl ?_
      refine a_iload_n (pc := 26) F dX3_busyFor_26 3 rfl ?_
      replace h := gIn_some h
      obtain ⟨g9, h⟩ := h
      refine a_ial (k := (c + 16)) (pc := 27) F dX3_busyFor_27 (klC_16 hc) (ksC_16 hc) g9 ?_
      refine a_nmi fun x10 ex10 => ?_
      replace h := nm_at ex10 h
      clear ex10
      refine a_ior (pc := 28) F dX3_busyFor_28 ?_
      refine a_istore_n (lv' := [(2, .int (x2 ||| x10)), (0, .ref (ga X.G (c + 8))), (1, .int p1), (3, .int x3)]) (pc := 29) F dX3_busyFor_29 (by decide) rfl ?_
      obtain ⟨x11, ex11⟩ : ∃ x11 : Int32, x11 = x3 + 1 := ⟨_, rfl⟩
      refine a_iinc (v := x11) (lv' := [(3, .int x11), (2, .int (x2 ||| x10)), (0, .ref (ga X.G (c + 8))), (1, .int p1)]) (pc := 30) F dX3_busyFor_30 3 rfl (by rw [ex11]; rfl) (by decide) rfl ?_
      replace h := nm_at ex11 h
      clear ex11
      refine a_goto (tgt := 4) (pc := 33) F dX3_busyFor_33 (by decide) ?_
      refine a_lv F [2, 3, 1, 0] rfl ?_
      exact hP1 _ (Option.some.inj h).symm
def f_X2_reasonAgainst (c : Nat) (p1 : Int32) (p2 : Int32) (p3 : Int32) (p4 : Int32) (m0 : Mem) : Option Int32 :=
  bnd (f_X3_isListed c p1 m0) fun x2 => (if x2 = 0 then some 1 else bnd (f_X2_hasStarted c p1 m0) fun x5 => (if x5 = 0 then gIn p1 30 <| nm (m0.1 (c + 10) p1.toNatClampNeg) fun x8 => bnd (f_X6_leadToCourt c x8 p2 p3 p4 m0) fun x10 => (if x10 = 0 then some 3 else bnd (f_X7_maskOf p2 p3 p4 m0) fun x13 => gIn p1 30 <| nm (m0.1 (c + 9) p1.toNatClampNeg) fun x15 => bnd (f_X6_certifiedFor c x15 m0) fun x17 => (if (x13 &&& (x17 ^^^ (-1))) = 0 then bnd (f_X3_busyFor c p1 m0) fun x20 => (if (x13 &&& x20) = 0 then some 0 else some 5) else some 4)) else some 2))
set_option maxRecDepth 100000 in
set_option maxHeartbeats 4000000 in
theorem m_X2_reasonAgainst {c : Nat} {p1 : Int32} {p2 : Int32} {p3 : Int32} {p4 : Int32} (hc : isC c) {m0 : Mem} {rr : Int32} (h : f_X2_reasonAgainst c p1 p2 p3 p4 m0 = some rr) : Con yX2_reasonAgainst cX2_reasonAgainst 6 (some Jvm.ClassFile.FieldType.int) 3 68 (fun G => [.ref (ga G c), .int p1, .int p2, .int p3, .int p4]) m0 (some (.int rr)) m0 := by
  refine con_of (by decide) (fun G => Nat.le_of_ble_eq_true rfl) (fun X F => ?_)
  show WA X 0 0 0 [(0, .ref (ga X.G c)), (1, .int p1), (2, .int p2), (3, .int p3), (4, .int p4)] [] m0 (EQ X (some (.int rr)) m0)
  rw [f_X2_reasonAgainst] at h
  refine a_aload_n (pc := 0) F dX2_reasonAgainst_0 0 rfl ?_
  refine a_getr (k := c) (r := (c + 8)) (pc := 1) F dX2_reasonAgainst_1 fl_RX2_21 (klC_0 hc) (ksC_0 hc) rfl ?_
  refine a_iload_n (pc := 4) F dX2_reasonAgainst_4 1 rfl ?_
  replace h := bnd_some h
  obtain ⟨x2, hc1, h⟩ := h
  refine a_callV (pc := 5) (k := (c + 8)) (As := [.int p1]) (st := []) F dX2_reasonAgainst_5 (m_X3_isListed hc hc1) cv_RX2_66 (klC_8 hc) (ksC_8 hc) ⟨_, _, rfl⟩ rfl rfl rfl (Nat.le_of_ble_eq_true rfl) ⟨Nat.le_of_ble_eq_true rfl, Nat.le_of_ble_eq_true rfl⟩ ?_ rfl rfl
  clear hc1
  refine a_if_ne (tgt := 13) (pc := 8) F dX2_reasonAgainst_8 (by decide) (fun q3 => ?_) (fun q3 => ?_)
  · replace h := ite_f q3 h
    clear q3
    refine a_aload_n (pc := 13) F dX2_reasonAgainst_13 0 rfl ?_
    refine a_iload_n (pc := 14) F dX2_reasonAgainst_14 1 rfl ?_
    replace h := bnd_some h
    obtain ⟨x5, hc4, h⟩ := h
    refine a_callV (pc := 15) (k := c) (As := [.int p1]) (st := []) F dX2_reasonAgainst_15 (m_X2_hasStarted hc hc4) cv_RX2_70 (klC_0 hc) (ksC_0 hc) ⟨_, _, rfl⟩ rfl rfl rfl (Nat.le_of_ble_eq_true rfl) ⟨Nat.le_of_ble_eq_true rfl, Nat.le_of_ble_eq_true rfl⟩ ?_ rfl rfl
    clear hc4
    refine a_if_eq (tgt := 23) (pc := 18) F dX2_reasonAgainst_18 (by decide) (fun q6 => ?_) (fun q6 => ?_)
    · replace h := ite_t q6 h
      clear q6
      refine a_aload_n (pc := 23) F dX2_reasonAgainst_23 0 rfl ?_
      refine a_getr (k := c) (r := (c + 1)) (pc := 24) F dX2_reasonAgainst_24 fl_RX2_12 (klC_0 hc) (ksC_0 hc) rfl ?_
      refine a_aload_n (pc := 27) F dX2_reasonAgainst_27 0 rfl ?_
      refine a_getr (k := c) (r := (c + 8)) (pc := 28) F dX2_reasonAgainst_28 fl_RX2_21 (klC_0 hc) (ksC_0 hc) rfl ?_
      refine a_getr (k := (c + 8)) (r := (c + 10)) (pc := 31) F dX2_reasonAgainst_31 fl_RX2_73 (klC_8 hc) (ksC_8 hc) rfl ?_
      refine a_iload_n (pc := 34) F dX2_reasonAgainst_34 1 rfl ?_
      replace h := gIn_some h
      obtain ⟨g7, h⟩ := h
      refine a_ial (k := (c + 10)) (pc := 35) F dX2_reasonAgainst_35 (klC_10 hc) (ksC_10 hc) g7 ?_
      refine a_nmi fun x8 ex8 => ?_
      replace h := nm_at ex8 h
      clear ex8
      refine a_iload_n (pc := 36) F dX2_reasonAgainst_36 2 rfl ?_
      refine a_iload_n (pc := 37) F dX2_reasonAgainst_37 3 rfl ?_
      refine a_iload (pc := 38) F dX2_reasonAgainst_38 4 rfl ?_
      replace h := bnd_some h
      obtain ⟨x10, hc9, h⟩ := h
      refine a_callV (pc := 40) (k := (c + 1)) (As := [.int x8, .int p2, .int p3, .int p4]) (st := []) F dX2_reasonAgainst_40 (m_X6_leadToCourt hc hc9) cv_RX2_76 (klC_1 hc) (ksC_1 hc) ⟨_, _, rfl⟩ rfl rfl rfl (Nat.le_of_ble_eq_true rfl) ⟨Nat.le_of_ble_eq_true rfl, Nat.le_of_ble_eq_true rfl⟩ ?_ rfl rfl
      clear hc9
      refine a_if_ne (tgt := 48) (pc := 43) F dX2_reasonAgainst_43 (by decide) (fun q11 => ?_) (fun q11 => ?_)
      · replace h := ite_f q11 h
        clear q11
        refine a_iload_n (pc := 48) F dX2_reasonAgainst_48 2 rfl ?_
        refine a_iload_n (pc := 49) F dX2_reasonAgainst_49 3 rfl ?_
        refine a_iload (pc := 50) F dX2_reasonAgainst_50 4 rfl ?_
        replace h := bnd_some h
        obtain ⟨x13, hc12, h⟩ := h
        refine a_callSN (pc := 52) (As := [.int p2, .int p3, .int p4]) (st := []) F dX2_reasonAgainst_52 (m_X7_maskOf hc12) cn_RX2_80 rfl rfl rfl (Nat.le_of_ble_eq_true rfl) ⟨Nat.le_of_ble_eq_true rfl, Nat.le_of_ble_eq_true rfl⟩ ?_ rfl rfl
        clear hc12
        refine a_istore (lv' := [(5, .int x13), (0, .ref (ga X.G c)), (1, .int p1), (2, .int p2), (3, .int p3), (4, .int p4)]) (pc := 55) F dX2_reasonAgainst_55 (by decide) rfl ?_
        refine a_iload (pc := 57) F dX2_reasonAgainst_57 0 rfl ?_
        refine a_aload_n (pc := 59) F dX2_reasonAgainst_59 1 rfl ?_
        refine a_getr (k := c) (r := (c + 1)) (pc := 60) F dX2_reasonAgainst_60 fl_RX2_12 (klC_0 hc) (ksC_0 hc) rfl ?_
        refine a_aload_n (pc := 63) F dX2_reasonAgainst_63 1 rfl ?_
        refine a_getr (k := c) (r := (c + 8)) (pc := 64) F dX2_reasonAgainst_64 fl_RX2_21 (klC_0 hc) (ksC_0 hc) rfl ?_
        refine a_getr (k := (c + 8)) (r := (c + 9)) (pc := 67) F dX2_reasonAgainst_67 fl_RX2_84 (klC_8 hc) (ksC_8 hc) rfl ?_
        refine a_iload_n (pc := 70) F dX2_reasonAgainst_70 2 rfl ?_
        replace h := gIn_some h
        obtain ⟨g14, h⟩ := h
        refine a_ial (k := (c + 9)) (pc := 71) F dX2_reasonAgainst_71 (klC_9 hc) (ksC_9 hc) g14 ?_
        refine a_nmi fun x15 ex15 => ?_
        replace h := nm_at ex15 h
        clear ex15
        replace h := bnd_some h
        obtain ⟨x17, hc16, h⟩ := h
        refine a_callV (pc := 72) (k := (c + 1)) (As := [.int x15]) (st := [.int x13]) F dX2_reasonAgainst_72 (m_X6_certifiedFor hc hc16) cv_RX2_87 (klC_1 hc) (ksC_1 hc) ⟨_, _, rfl⟩ rfl rfl rfl (Nat.le_of_ble_eq_true rfl) ⟨Nat.le_of_ble_eq_true rfl, Nat.le_of_ble_eq_true rfl⟩ ?_ rfl rfl
        clear hc16
        refine a_iconst (v := (-1)) (pc := 75) F dX2_reasonAgainst_75 (by decide) ?_
        refine a_ixor (pc := 76) F dX2_reasonAgainst_76 ?_
        refine a_iand (pc := 77) F dX2_reasonAgainst_77 ?_
        refine a_if_eq (tgt := 83) (pc := 78) F dX2_reasonAgainst_78 (by decide) (fun q18 => ?_) (fun q18 => ?_)
        · replace h := ite_t q18 h
          clear q18
          refine a_iload (pc := 83) F dX2_reasonAgainst_83 0 rfl ?_
          refine a_aload_n (pc := 85) F dX2_reasonAgainst_85 1 rfl ?_
          refine a_getr (k := c) (r := (c + 8)) (pc := 86) F dX2_reasonAgainst_86 fl_RX2_21 (klC_0 hc) (ksC_0 hc) rfl ?_
          refine a_iload_n (pc := 89) F dX2_reasonAgainst_89 2 rfl ?_
          replace h := bnd_some h
          obtain ⟨x20, hc19, h⟩ := h
          refine a_callV (pc := 90) (k := (c + 8)) (As := [.int p1]) (st := [.int x13]) F dX2_reasonAgainst_90 (m_X3_busyFor hc hc19) cv_RX2_91 (klC_8 hc) (ksC_8 hc) ⟨_, _, rfl⟩ rfl rfl rfl (Nat.le_of_ble_eq_true rfl) ⟨Nat.le_of_ble_eq_true rfl, Nat.le_of_ble_eq_true rfl⟩ ?_ rfl rfl
          clear hc19
          refine a_iand (pc := 93) F dX2_reasonAgainst_93 ?_
          refine a_if_eq (tgt := 101) (pc := 94) F dX2_reasonAgainst_94 (by decide) (fun q21 => ?_) (fun q21 => ?_)
          · replace h := ite_t q21 h
            clear q21
            refine a_iconst (v := 0) (pc := 101) F dX2_reasonAgainst_101 (by decide) ?_
            cases h
            exact a_iret (pc := 102) F dX2_reasonAgainst_102 ⟨_, rfl, rfl⟩
          · replace h := ite_f q21 h
            clear q21
            refine a_iconst (v := 5) (pc := 97) F dX2_reasonAgainst_97 (by decide) ?_
            refine a_goto (tgt := 102) (pc := 98) F dX2_reasonAgainst_98 (by decide) ?_
            cases h
            exact a_iret (pc := 102) F dX2_reasonAgainst_102 ⟨_, rfl, rfl⟩
        · replace h := ite_f q18 h
          clear q18
          refine a_iconst (v := 4) (pc := 81) F dX2_reasonAgainst_81 (by decide) ?_
          cases h
          exact a_iret (pc := 82) F dX2_reasonAgainst_82 ⟨_, rfl, rfl⟩
      · replace h := ite_t (Decidable.not_not.mp q11) h
        clear q11
        refine a_iconst (v := 3) (pc := 46) F dX2_reasonAgainst_46 (by decide) ?_
        cases h
        exact a_iret (pc := 47) F dX2_reasonAgainst_47 ⟨_, rfl, rfl⟩
    · replace h := ite_f q6 h
      clear q6
      refine a_iconst (v := 2) (pc := 21) F dX2_reasonAgainst_21 (by decide) ?_
      cases h
      exact a_iret (pc := 22) F dX2_reasonAgainst_22 ⟨_, rfl, rfl⟩
  · replace h := ite_t (Decidable.not_not.mp q3) h
    clear q3
    refine a_iconst (v := 1) (pc := 11) F dX2_reasonAgainst_11 (by decide) ?_
    cases h
    exact a_iret (pc := 12) F dX2_reasonAgainst_12 ⟨_, rfl, rfl⟩
def f_X3_member (c : Nat) (p1 : Int32) (p2 : Int32) (m0 : Mem) : Option Int32 :=
  (if p1 < 0 then some (-1) else (if (m0.1 (c + 8) 0) ≤ p1 then some (-1) else (if p2 < 0 then some (-1) else (if p2 < 3 then gIn ((p1 * 3) + p2) 90 <| nm (m0.1 (c + 17) ((p1 * 3) + p2).toNatClampNeg) fun x6 => some x6 else some (-1)))))
set_option maxRecDepth 100000 in
set_option maxHeartbeats 4000000 in
theorem m_X3_member {c : Nat} {p1 : Int32} {p2 : Int32} (hc : isC c) {m0 : Mem} {rr : Int32} (h : f_X3_member c p1 p2 m0 = some rr) : Con yX3_member cX3_member 3 (some Jvm.ClassFile.FieldType.int) 0 0 (fun G => [.ref (ga G (c + 8)), .int p1, .int p2]) m0 (some (.int rr)) m0 := by
  refine con_of (by decide) (fun G => Nat.le_of_ble_eq_true rfl) (fun X F => ?_)
  show WA X 0 0 0 [(0, .ref (ga X.G (c + 8))), (1, .int p1), (2, .int p2)] [] m0 (EQ X (some (.int rr)) m0)
  rw [f_X3_member] at h
  refine a_iload_n (pc := 0) F dX3_member_0 1 rfl ?_
  refine a_if_lt (tgt := 21) (pc := 1) F dX3_member_1 (by decide) (fun q1 => ?_) (fun q1 => ?_)
  · replace h := ite_t q1 h
    clear q1
    refine a_iconst (v := (-1)) (pc := 21) F dX3_member_21 (by decide) ?_
    cases h
    exact a_iret (pc := 22) F dX3_member_22 ⟨_, rfl, rfl⟩
  · replace h := ite_f q1 h
    clear q1
    refine a_iload_n (pc := 4) F dX3_member_4 1 rfl ?_
    refine a_aload_n (pc := 5) F dX3_member_5 0 rfl ?_
    refine a_geti (k := (c + 8)) (pc := 6) F dX3_member_6 fl_RX3_39 (klC_8 hc) (ksC_8 hc) rfl ?_
    refine a_icmp_ge (tgt := 21) (pc := 9) F dX3_member_9 (by decide) (fun q2 => ?_) (fun q2 => ?_)
    · replace h := ite_t q2 h
      clear q2
      refine a_iconst (v := (-1)) (pc := 21) F dX3_member_21 (by decide) ?_
      cases h
      exact a_iret (pc := 22) F dX3_member_22 ⟨_, rfl, rfl⟩
    · replace h := ite_f q2 h
      clear q2
      refine a_iload_n (pc := 12) F dX3_member_12 2 rfl ?_
      refine a_if_lt (tgt := 21) (pc := 13) F dX3_member_13 (by decide) (fun q3 => ?_) (fun q3 => ?_)
      · replace h := ite_t q3 h
        clear q3
        refine a_iconst (v := (-1)) (pc := 21) F dX3_member_21 (by decide) ?_
        cases h
        exact a_iret (pc := 22) F dX3_member_22 ⟨_, rfl, rfl⟩
      · replace h := ite_f q3 h
        clear q3
        refine a_iload_n (pc := 16) F dX3_member_16 2 rfl ?_
        refine a_iconst (v := 3) (pc := 17) F dX3_member_17 (by decide) ?_
        refine a_icmp_lt (tgt := 23) (pc := 18) F dX3_member_18 (by decide) (fun q4 => ?_) (fun q4 => ?_)
        · replace h := ite_t q4 h
          clear q4
          refine a_aload_n (pc := 23) F dX3_member_23 0 rfl ?_
          refine a_getr (k := (c + 8)) (r := (c + 17)) (pc := 24) F dX3_member_24 fl_RX3_36 (klC_8 hc) (ksC_8 hc) rfl ?_
          refine a_iload_n (pc := 27) F dX3_member_27 1 rfl ?_
          refine a_iconst (v := 3) (pc := 28) F dX3_member_28 (by decide) ?_
          refine a_imul (pc := 29) F dX3_member_29 ?_
          refine a_iload_n (pc := 30) F dX3_member_30 2 rfl ?_
          refine a_iadd (pc := 31) F dX3_member_31 ?_
          replace h := gIn_some h
          obtain ⟨g5, h⟩ := h
          refine a_ial (k := (c + 17)) (pc := 32) F dX3_member_32 (klC_17 hc) (ksC_17 hc) g5 ?_
          refine a_nmi fun x6 ex6 => ?_
          replace h := nm_at ex6 h
          clear ex6
          cases h
          exact a_iret (pc := 33) F dX3_member_33 ⟨_, rfl, rfl⟩
        · replace h := ite_f q4 h
          clear q4
          refine a_iconst (v := (-1)) (pc := 21) F dX3_member_21 (by decide) ?_
          cases h
          exact a_iret (pc := 22) F dX3_member_22 ⟨_, rfl, rfl⟩
def f_X2_earns (c : Nat) (p1 : Int32) (p2 : Int32) (p3 : Int32) (m0 : Mem) : Option Int32 :=
  (if p1 < 0 then some 0 else (if p1 < (m0.1 (c + 1) 0) then gIn p1 10 <| nm (m0.1 (c + 4) p1.toNatClampNeg) fun x4 => gIn p2 30 <| nm (m0.1 (c + 12) p2.toNatClampNeg) fun x6 => (if p3 = 0 then some (((x4 * x6) + 9) / 10) else nm (100 + (m0.1 (c + 18) 6)) fun x8 => nm ((((x4 * x6) + 9) / 10) * x8) fun x9 => some (x9 / 100)) else some 0))
set_option maxRecDepth 100000 in
set_option maxHeartbeats 4000000 in
theorem m_X2_earns {c : Nat} {p1 : Int32} {p2 : Int32} {p3 : Int32} (hc : isC c) {m0 : Mem} {rr : Int32} (h : f_X2_earns c p1 p2 p3 m0 = some rr) : Con yX2_earns cX2_earns 5 (some Jvm.ClassFile.FieldType.int) 0 0 (fun G => [.ref (ga G c), .int p1, .int p2, .int p3]) m0 (some (.int rr)) m0 := by
  refine con_of (by decide) (fun G => Nat.le_of_ble_eq_true rfl) (fun X F => ?_)
  show WA X 0 0 0 [(0, .ref (ga X.G c)), (1, .int p1), (2, .int p2), (3, .int p3)] [] m0 (EQ X (some (.int rr)) m0)
  rw [f_X2_earns] at h
  refine a_iload_n (pc := 0) F dX2_earns_0 1 rfl ?_
  refine a_if_lt (tgt := 15) (pc := 1) F dX2_earns_1 (by decide) (fun q1 => ?_) (fun q1 => ?_)
  · replace h := ite_t q1 h
    clear q1
    refine a_iconst (v := 0) (pc := 15) F dX2_earns_15 (by decide) ?_
    cases h
    exact a_iret (pc := 16) F dX2_earns_16 ⟨_, rfl, rfl⟩
  · replace h := ite_f q1 h
    clear q1
    refine a_iload_n (pc := 4) F dX2_earns_4 1 rfl ?_
    refine a_aload_n (pc := 5) F dX2_earns_5 0 rfl ?_
    refine a_getr (k := c) (r := (c + 1)) (pc := 6) F dX2_earns_6 fl_RX2_12 (klC_0 hc) (ksC_0 hc) rfl ?_
    refine a_geti (k := (c + 1)) (pc := 9) F dX2_earns_9 fl_RX2_94 (klC_1 hc) (ksC_1 hc) rfl ?_
    refine a_icmp_lt (tgt := 17) (pc := 12) F dX2_earns_12 (by decide) (fun q2 => ?_) (fun q2 => ?_)
    · replace h := ite_t q2 h
      clear q2
      refine a_aload_n (pc := 17) F dX2_earns_17 0 rfl ?_
      refine a_getr (k := c) (r := (c + 1)) (pc := 18) F dX2_earns_18 fl_RX2_12 (klC_0 hc) (ksC_0 hc) rfl ?_
      refine a_getr (k := (c + 1)) (r := (c + 4)) (pc := 21) F dX2_earns_21 fl_RX2_97 (klC_1 hc) (ksC_1 hc) rfl ?_
      refine a_iload_n (pc := 24) F dX2_earns_24 1 rfl ?_
      replace h := gIn_some h
      obtain ⟨g3, h⟩ := h
      refine a_ial (k := (c + 4)) (pc := 25) F dX2_earns_25 (klC_4 hc) (ksC_4 hc) g3 ?_
      refine a_nmi fun x4 ex4 => ?_
      replace h := nm_at ex4 h
      clear ex4
      refine a_aload_n (pc := 26) F dX2_earns_26 0 rfl ?_
      refine a_getr (k := c) (r := (c + 8)) (pc := 27) F dX2_earns_27 fl_RX2_21 (klC_0 hc) (ksC_0 hc) rfl ?_
      refine a_getr (k := (c + 8)) (r := (c + 12)) (pc := 30) F dX2_earns_30 fl_RX2_100 (klC_8 hc) (ksC_8 hc) rfl ?_
      refine a_iload_n (pc := 33) F dX2_earns_33 2 rfl ?_
      replace h := gIn_some h
      obtain ⟨g5, h⟩ := h
      refine a_ial (k := (c + 12)) (pc := 34) F dX2_earns_34 (klC_12 hc) (ksC_12 hc) g5 ?_
      refine a_nmi fun x6 ex6 => ?_
      replace h := nm_at ex6 h
      clear ex6
      refine a_imul (pc := 35) F dX2_earns_35 ?_
      refine a_bipush (v := 9) (pc := 36) F dX2_earns_36 (by decide) ?_
      refine a_iadd (pc := 38) F dX2_earns_38 ?_
      refine a_bipush (v := 10) (pc := 39) F dX2_earns_39 (by decide) ?_
      refine a_idiv (pc := 41) F dX2_earns_41 (by decide) ?_
      refine a_istore (lv' := [(4, .int (((x4 * x6) + 9) / 10)), (0, .ref (ga X.G c)), (1, .int p1), (2, .int p2), (3, .int p3)]) (pc := 42) F dX2_earns_42 (by decide) rfl ?_
      refine a_iload_n (pc := 44) F dX2_earns_44 4 rfl ?_
      refine a_if_eq (tgt := 67) (pc := 45) F dX2_earns_45 (by decide) (fun q7 => ?_) (fun q7 => ?_)
      · replace h := ite_t q7 h
        clear q7
        refine a_iload (pc := 67) F dX2_earns_67 0 rfl ?_
        cases h
        exact a_iret (pc := 69) F dX2_earns_69 ⟨_, rfl, rfl⟩
      · replace h := ite_f q7 h
        clear q7
        refine a_iload (pc := 48) F dX2_earns_48 0 rfl ?_
        refine a_bipush (v := 100) (pc := 50) F dX2_earns_50 (by decide) ?_
        refine a_aload_n (pc := 52) F dX2_earns_52 1 rfl ?_
        refine a_getr (k := c) (r := (c + 18)) (pc := 53) F dX2_earns_53 fl_RX2_34 (klC_0 hc) (ksC_0 hc) rfl ?_
        refine a_bipush (v := 6) (pc := 56) F dX2_earns_56 (by decide) ?_
        refine a_ialc (k := (c + 18)) (pc := 58) F dX2_earns_58 (klC_18 hc) (ksC_18 hc) rfl rfl ?_
        refine a_iadd (pc := 59) F dX2_earns_59 ?_
        refine a_nmi fun x8 ex8 => ?_
        replace h := nm_at ex8 h
        clear ex8
        refine a_imul (pc := 60) F dX2_earns_60 ?_
        refine a_nmi fun x9 ex9 => ?_
        replace h := nm_at ex9 h
        clear ex9
        refine a_bipush (v := 100) (pc := 61) F dX2_earns_61 (by decide) ?_
        refine a_idiv (pc := 63) F dX2_earns_63 (by decide) ?_
        refine a_goto (tgt := 69) (pc := 64) F dX2_earns_64 (by decide) ?_
        cases h
        exact a_iret (pc := 69) F dX2_earns_69 ⟨_, rfl, rfl⟩
    · replace h := ite_f q2 h
      clear q2
      refine a_iconst (v := 0) (pc := 15) F dX2_earns_15 (by decide) ?_
      cases h
      exact a_iret (pc := 16) F dX2_earns_16 ⟨_, rfl, rfl⟩
def f_X2_payOf (c : Nat) (p1 : Int32) (p2 : Int32) (p3 : Int32) (m0 : Mem) : Option Int32 :=
  bnd (f_X3_member c p1 p2 m0) fun x2 => gIn p1 30 <| nm (m0.1 (c + 14) p1.toNatClampNeg) fun x4 => bnd ((if x4 ≤ 1 then some 0 else some 1)) (fun (x7 : Int32) => bnd (f_X2_earns c x2 p1 x7 m0) fun x9 => some ((x9 * p3) / 2))
set_option maxRecDepth 100000 in
set_option maxHeartbeats 4000000 in
theorem m_X2_payOf {c : Nat} {p1 : Int32} {p2 : Int32} {p3 : Int32} (hc : isC c) {m0 : Mem} {rr : Int32} (h : f_X2_payOf c p1 p2 p3 m0 = some rr) : Con yX2_payOf cX2_payOf 4 (some Jvm.ClassFile.FieldType.int) 1 24 (fun G => [.ref (ga G c), .int p1, .int p2, .int p3]) m0 (some (.int rr)) m0 := by
  refine con_of (by decide) (fun G => Nat.le_of_ble_eq_true rfl) (fun X F => ?_)
  show WA X 0 0 0 [(0, .ref (ga X.G c)), (1, .int p1), (2, .int p2), (3, .int p3)] [] m0 (EQ X (some (.int rr)) m0)
  rw [f_X2_payOf] at h
  refine a_aload_n (pc := 0) F dX2_payOf_0 0 rfl ?_
  refine a_aload_n (pc := 1) F dX2_payOf_1 0 rfl ?_
  refine a_getr (k := c) (r := (c + 8)) (pc := 2) F dX2_payOf_2 fl_RX2_21 (klC_0 hc) (ksC_0 hc) rfl ?_
  refine a_iload_n (pc := 5) F dX2_payOf_5 1 rfl ?_
  refine a_iload_n (pc := 6) F dX2_payOf_6 2 rfl ?_
  replace h := bnd_some h
  obtain ⟨x2, hc1, h⟩ := h
  refine a_callV (pc := 7) (k := (c + 8)) (As := [.int p1, .int p2]) (st := [.ref (ga X.G c)]) F dX2_payOf_7 (m_X3_member hc hc1) cv_RX2_103 (klC_8 hc) (ksC_8 hc) ⟨_, _, rfl⟩ rfl rfl rfl (Nat.le_of_ble_eq_true rfl) ⟨Nat.le_of_ble_eq_true rfl, Nat.le_of_ble_eq_true rfl⟩ ?_ rfl rfl
  clear hc1
  refine a_iload_n (pc := 10) F dX2_payOf_10 1 rfl ?_
  refine a_aload_n (pc := 11) F dX2_payOf_11 0 rfl ?_
  refine a_getr (k := c) (r := (c + 8)) (pc := 12) F dX2_payOf_12 fl_RX2_21 (klC_0 hc) (ksC_0 hc) rfl ?_
  refine a_getr (k := (c + 8)) (r := (c + 14)) (pc := 15) F dX2_payOf_15 fl_RX2_107 (klC_8 hc) (ksC_8 hc) rfl ?_
  refine a_iload_n (pc := 18) F dX2_payOf_18 1 rfl ?_
  replace h := gIn_some h
  obtain ⟨g3, h⟩ := h
  refine a_ial (k := (c + 14)) (pc := 19) F dX2_payOf_19 (klC_14 hc) (ksC_14 hc) g3 ?_
  refine a_nmi fun x4 ex4 => ?_
  replace h := nm_at ex4 h
  clear ex4
  refine a_iconst (v := 1) (pc := 20) F dX2_payOf_20 (by decide) ?_
  replace h := bnd_some h
  obtain ⟨x7, hR5, h⟩ := h
  have hJ5 : WA X 0 0 29 [(3, .int p3)] [.int x7, .int p1, .int x2, .ref (ga X.G c)] m0 (EQ X (some (.int rr)) m0) := by
    replace h := bnd_some h
    obtain ⟨x9, hc8, h⟩ := h
    refine a_callV (pc := 29) (k := c) (As := [.int x2, .int p1, .int x7]) (st := []) F dX2_payOf_29 (m_X2_earns hc hc8) cv_RX2_110 (klC_0 hc) (ksC_0 hc) ⟨_, _, rfl⟩ rfl rfl rfl (Nat.le_of_ble_eq_true rfl) ⟨Nat.le_of_ble_eq_true rfl, Nat.le_of_ble_eq_true rfl⟩ ?_ rfl rfl
    clear hc8
    refine a_iload_n (pc := 32) F dX2_payOf_32 0 rfl ?_
    refine a_imul (pc := 33) F dX2_payOf_33 ?_
    refine a_iconst (v := 2) (pc := 34) F dX2_payOf_34 (by decide) ?_
    refine a_idiv (pc := 35) F dX2_payOf_35 (by decide) ?_
    cases h
    exact a_iret (pc := 36) F dX2_payOf_36 ⟨_, rfl, rfl⟩
  clear h
  have h := hR5
  clear hR5
  refine a_icmp_le (tgt := 28) (pc := 21) F dX2_payOf_21 (by decide) (fun q6 => ?_) (fun q6 => ?_)
  · replace h := ite_t q6 h
    clear q6
    refine a_iconst (v := 0) (pc := 28) F dX2_payOf_28 (by decide) ?_
    refine a_lv F [3] rfl ?_
    cases h
    exact hJ5
  · replace h := ite_f q6 h
    clear q6
    refine a_iconst (v := 1) (pc := 24) F dX2_payOf_24 (by decide) ?_
    refine a_goto (tgt := 29) (pc := 25) F dX2_payOf_25 (by decide) ?_
    refine a_lv F [3] rfl ?_
    cases h
    exact hJ5
def f_X2_chainPay_L5 (c : Nat) (p1 : Int32) (p2 : Int32) (m0 : Mem) : (Int32 × Int32) → Option ((Int32 × Int32) ⊕ Int32)
  | (x2, x3) => gIn p1 30 <| nm (m0.1 (c + 14) p1.toNatClampNeg) fun x5 => (if x5 ≤ x3 then some (.inr x2) else bnd (f_X2_payOf c p1 x3 p2 m0) fun x8 => nm (x3 + 1) fun x9 => some (.inl (x2 + x8, x9)))
def f_X2_chainPay (c : Nat) (p1 : Int32) (p2 : Int32) (m0 : Mem) : Option Int32 :=
  bnd (lp (f_X2_chainPay_L5 c p1 p2 m0) 1000000 (0, 0)) (fun x10 => some x10)
set_option maxRecDepth 100000 in
set_option maxHeartbeats 4000000 in
theorem m_X2_chainPay {c : Nat} {p1 : Int32} {p2 : Int32} (hc : isC c) {m0 : Mem} {rr : Int32} (h : f_X2_chainPay c p1 p2 m0 = some rr) : Con yX2_chainPay cX2_chainPay 5 (some Jvm.ClassFile.FieldType.int) 2 47 (fun G => [.ref (ga G c), .int p1, .int p2]) m0 (some (.int rr)) m0 := by
  refine con_of (by decide) (fun G => Nat.le_of_ble_eq_true rfl) (fun X F => ?_)
  show WA X 0 0 0 [(0, .ref (ga X.G c)), (1, .int p1), (2, .int p2)] [] m0 (EQ X (some (.int rr)) m0)
  rw [f_X2_chainPay] at h
  refine a_iconst (v := 0) (pc := 0) F dX2_chainPay_0 (by decide) ?_
  refine a_istore_n (lv' := [(3, .int 0), (0, .ref (ga X.G c)), (1, .int p1), (2, .int p2)]) (pc := 1) F dX2_chainPay_1 (by decide) rfl ?_
  refine a_iconst (v := 0) (pc := 2) F dX2_chainPay_2 (by decide) ?_
  refine a_istore (lv' := [(4, .int 0), (3, .int 0), (0, .ref (ga X.G c)), (1, .int p1), (2, .int p2)]) (pc := 3) F dX2_chainPay_3 (by decide) rfl ?_
  refine a_lv F [2, 3, 4, 1, 0] rfl ?_
  replace h := bnd_some h
  obtain ⟨x10, hL1, h⟩ := h
  have hE1 : WA X 0 0 36 [(3, .int x10)] [] m0 (EQ X (some (.int rr)) m0) := by
    refine a_iload_n (pc := 36) F dX2_chainPay_36 0 rfl ?_
    cases h
    exact a_iret (pc := 37) F dX2_chainPay_37 ⟨_, rfl, rfl⟩
  clear h
  refine lp_run (P := fun (s : (Int32 × Int32)) => WA X 0 0 5 [(0, .ref (ga X.G c)), (1, .int p1), (2, .int p2), (3, .int s.1), (4, .int s.2)] [] m0 (EQ X (some (.int rr)) m0)) ?_ _ _ hL1
  clear hL1
  rintro ⟨x2, x3⟩ xo h hP1 hT1
  show WA X 0 0 5 [(0, .ref (ga X.G c)), (1, .int p1), (2, .int p2), (3, .int x2), (4, .int x3)] [] m0 (EQ X (some (.int rr)) m0)
  rw [f_X2_chainPay_L5] at h
  refine a_iload (pc := 5) F dX2_chainPay_5 4 rfl ?_
  refine a_aload_n (pc := 7) F dX2_chainPay_7 0 rfl ?_
  refine a_getr (k := c) (r := (c + 8)) (pc := 8) F dX2_chainPay_8 fl_RX2_21 (klC_0 hc) (ksC_0 hc) rfl ?_
  refine a_getr (k := (c + 8)) (r := (c + 14)) (pc := 11) F dX2_chainPay_11 fl_RX2_107 (klC_8 hc) (ksC_8 hc) rfl ?_
  refine a_iload_n (pc := 14) F dX2_chainPay_14 1 rfl ?_
  replace h := gIn_some h
  obtain ⟨g4, h⟩ := h
  refine a_ial (k := (c + 14)) (pc := 15) F dX2_chainPay_15 (klC_14 hc) (ksC_14 hc) g4 ?_
  refine a_nmi fun x5 ex5 => ?_
  replace h := nm_at ex5 h
  clear ex5
  refine a_icmp_ge (tgt := 36) (pc := 16) F dX2_chainPay_16 (by decide) (fun q6 => ?_) (fun q6 => ?_)
  · replace h := ite_t q6 h
    clear q6
    refine a_lv F [3] rfl ?_
    cases hT1 _ (Option.some.inj h).symm
    exact hE1
  · replace h := ite_f q6 h
    clear q6
    refine a_iload_n (pc := 19) F dX2_chainPay_19 3 rfl ?_
    refine a_aload_n (pc := 20) F dX2_chainPay_20 0 rfl ?_
    refine a_iload_n (pc := 21) F dX2_chainPay_21 1 rfl ?_
    refine a_iload (pc := 22) F dX2_chainPay_22 4 rfl ?_
    refine a_iload_n (pc := 24) F dX2_chainPay_24 2 rfl ?_
    replace h := bnd_some h
    obtain ⟨x8, hc7, h⟩ := h
    refine a_callV (pc := 25) (k := c) (As := [.int p1, .int x3, .int p2]) (st := [.int x2]) F dX2_chainPay_25 (m_X2_payOf hc hc7) cv_RX2_114 (klC_0 hc) (ksC_0 hc) ⟨_, _, rfl⟩ rfl rfl rfl (Nat.le_of_ble_eq_true rfl) ⟨Nat.le_of_ble_eq_true rfl, Nat.le_of_ble_eq_true rfl⟩ ?_ rfl rfl
    clear hc7
    refine a_iadd (pc := 28) F dX2_chainPay_28 ?_
    refine a_istore_n (lv' := [(3, .int (x2 + x8)), (0, .ref (ga X.G c)), (1, .int p1), (2, .int p2), (4, .int x3)]) (pc := 29) F dX2_chainPay_29 (by decide) rfl ?_
    obtain ⟨x9, ex9⟩ : ∃ x9 : Int32, x9 = x3 + 1 := ⟨_, rfl⟩
    refine a_iinc (v := x9) (lv' := [(4, .int x9), (3, .int (x2 + x8)), (0, .ref (ga X.G c)), (1, .int p1), (2, .int p2)]) (pc := 30) F dX2_chainPay_30 4 rfl (by rw [ex9]; rfl) (by decide) rfl ?_
    replace h := nm_at ex9 h
    clear ex9
    refine a_goto (tgt := 5) (pc := 33) F dX2_chainPay_33 (by decide) ?_
    refine a_lv F [2, 3, 4, 1, 0] rfl ?_
    exact hP1 _ (Option.some.inj h).symm
def f_X7_assign (p1 : Int32) (p2 : Int32) (p3 : Int32) (p4 : Int32) (m0 : Mem) : Option (Int32 × Mem) :=
  bnd (f_X3_has 1 p1 m0) fun x2 => jn ((if x2 = 0 then some (.inl m0) else bnd (f_X7_nameInterpreters p2 p3 p4 m0) fun x6 => (if x6 = 0 then some (.inl m0) else bnd (f_X7_areRowOfDifferent p2 p3 p4 m0) fun x9 => (if x9 = 0 then none else bnd (f_X2_reasonAgainst 1 p1 p2 p3 p4 m0) fun x12 => (if x12 = 0 then bnd (f_X4_save 1 m0) fun m15 => bnd (f_X3_giveChain 1 p1 p2 p3 p4 m15) fun m17 => bnd (f_X2_chainPay 1 p1 2 m17) fun x19 => some (.inr (x19, m17)) else none))))) (fun (m20 : Mem) => none)
set_option maxRecDepth 100000 in
set_option maxHeartbeats 4000000 in
theorem m_X7_assign {p1 : Int32} {p2 : Int32} {p3 : Int32} {p4 : Int32} {m0 : Mem} {rr : Int32} {mm : Mem} (h : f_X7_assign p1 p2 p3 p4 m0 = some (rr, mm)) : Con yX7_assign cX7_assign 5 (some Jvm.ClassFile.FieldType.int) 4 104 (fun G => [.ref (ga G 0), .int p1, .int p2, .int p3, .int p4]) m0 (some (.int rr)) mm := by
  refine con_of (by decide) (fun G => Nat.le_of_ble_eq_true rfl) (fun X F => ?_)
  show WA X 0 0 0 [(0, .ref (ga X.G 0)), (1, .int p1), (2, .int p2), (3, .int p3), (4, .int p4)] [] m0 (EQ X (some (.int rr)) mm)
  rw [f_X7_assign] at h
  refine a_aload_n (pc := 0) F dX7_assign_0 0 rfl ?_
  refine a_getr (k := 0) (r := 1) (pc := 1) F dX7_assign_1 fl_RX7_10 kl_0 ks_0 rfl ?_
  refine a_getr (k := 1) (r := (1 + 8)) (pc := 4) F dX7_assign_4 fl_RX7_89 (klC_0 isC_1) (ksC_0 isC_1) rfl ?_
  refine a_iload_n (pc := 7) F dX7_assign_7 1 rfl ?_
  replace h := bnd_some h
  obtain ⟨x2, hc1, h⟩ := h
  refine a_callV (pc := 8) (k := (1 + 8)) (As := [.int p1]) (st := []) F dX7_assign_8 (m_X3_has isC_1 hc1) cv_RX7_133 (klC_8 isC_1) (ksC_8 isC_1) ⟨_, _, rfl⟩ rfl rfl rfl (Nat.le_of_ble_eq_true rfl) ⟨Nat.le_of_ble_eq_true rfl, Nat.le_of_ble_eq_true rfl⟩ ?_ rfl rfl
  clear hc1
  replace h := jn_some h
  obtain ⟨o3, hR3, hK3, hB3⟩ := h
  have hJ3 : ∀ (m20 : Mem), o3 = .inl m20 → WA X 0 0 25 [] [] m20 (EQ X (some (.int rr)) mm) := by
    intro m20 eo
    have h := hK3 _ eo
    clear hK3 eo
    cases h
  clear hK3
  have h := hR3
  clear hR3
  refine a_if_eq (tgt := 25) (pc := 11) F dX7_assign_11 (by decide) (fun q4 => ?_) (fun q4 => ?_)
  · replace h := ite_t q4 h
    clear q4
    refine a_lv F [] rfl ?_
    exact hJ3 _ (Option.some.inj h).symm
  · replace h := ite_f q4 h
    clear q4
    refine a_aload_n (pc := 14) F dX7_assign_14 0 rfl ?_
    refine a_iload_n (pc := 15) F dX7_assign_15 2 rfl ?_
    refine a_iload_n (pc := 16) F dX7_assign_16 3 rfl ?_
    refine a_iload (pc := 17) F dX7_assign_17 4 rfl ?_
    replace h := bnd_some h
    obtain ⟨x6, hc5, h⟩ := h
    refine a_callV (pc := 19) (k := 0) (As := [.int p2, .int p3, .int p4]) (st := []) F dX7_assign_19 (m_X7_nameInterpreters hc5) cv_RX7_134 kl_0 ks_0 ⟨_, _, rfl⟩ rfl rfl rfl (Nat.le_of_ble_eq_true rfl) ⟨Nat.le_of_ble_eq_true rfl, Nat.le_of_ble_eq_true rfl⟩ ?_ rfl rfl
    clear hc5
    refine a_if_ne (tgt := 35) (pc := 22) F dX7_assign_22 (by decide) (fun q7 => ?_) (fun q7 => ?_)
    · replace h := ite_f q7 h
      clear q7
      refine a_iload_n (pc := 35) F dX7_assign_35 2 rfl ?_
      refine a_iload_n (pc := 36) F dX7_assign_36 3 rfl ?_
      refine a_iload (pc := 37) F dX7_assign_37 4 rfl ?_
      replace h := bnd_some h
      obtain ⟨x9, hc8, h⟩ := h
      refine a_callS (pc := 39) (As := [.int p2, .int p3, .int p4]) (st := []) F dX7_assign_39 (m_X7_areRowOfDifferent hc8) cs_RX7_139 rfl rfl rfl (Nat.le_of_ble_eq_true rfl) ⟨Nat.le_of_ble_eq_true rfl, Nat.le_of_ble_eq_true rfl⟩ ?_ rfl rfl
      clear hc8
      refine a_if_ne (tgt := 55) (pc := 42) F dX7_assign_42 (by decide) (fun q10 => ?_) (fun q10 => ?_)
      · replace h := ite_f q10 h
        clear q10
        refine a_aload_n (pc := 55) F dX7_assign_55 0 rfl ?_
        refine a_getr (k := 0) (r := 1) (pc := 56) F dX7_assign_56 fl_RX7_10 kl_0 ks_0 rfl ?_
        refine a_iload_n (pc := 59) F dX7_assign_59 1 rfl ?_
        refine a_iload_n (pc := 60) F dX7_assign_60 2 rfl ?_
        refine a_iload_n (pc := 61) F dX7_assign_61 3 rfl ?_
        refine a_iload (pc := 62) F dX7_assign_62 4 rfl ?_
        replace h := bnd_some h
        obtain ⟨x12, hc11, h⟩ := h
        refine a_callV (pc := 64) (k := 1) (As := [.int p1, .int p2, .int p3, .int p4]) (st := []) F dX7_assign_64 (m_X2_reasonAgainst isC_1 hc11) cv_RX7_144 (klC_0 isC_1) (ksC_0 isC_1) ⟨_, _, rfl⟩ rfl rfl rfl (Nat.le_of_ble_eq_true rfl) ⟨Nat.le_of_ble_eq_true rfl, Nat.le_of_ble_eq_true rfl⟩ ?_ rfl rfl
        clear hc11
        refine a_if_eq (tgt := 80) (pc := 67) F dX7_assign_67 (by decide) (fun q13 => ?_) (fun q13 => ?_)
        · replace h := ite_t q13 h
          clear q13
          refine a_aload_n (pc := 80) F dX7_assign_80 0 rfl ?_
          refine a_getr (k := 0) (r := 39) (pc := 81) F dX7_assign_81 fl_RX7_22 kl_0 ks_0 rfl ?_
          refine a_aload_n (pc := 84) F dX7_assign_84 0 rfl ?_
          refine a_getr (k := 0) (r := 1) (pc := 85) F dX7_assign_85 fl_RX7_10 kl_0 ks_0 rfl ?_
          replace h := bnd_some h
          obtain ⟨m15, hc14, h⟩ := h
          refine a_callV (pc := 88) (k := 39) (As := [.ref (ga X.G 1)]) (st := []) F dX7_assign_88 (m_X4_save isC_1 hc14) cv_RX7_79 kl_39 ks_39 ⟨_, _, rfl⟩ rfl rfl rfl (Nat.le_of_ble_eq_true rfl) ⟨Nat.le_of_ble_eq_true rfl, Nat.le_of_ble_eq_true rfl⟩ ?_ rfl rfl
          clear hc14
          refine a_aload_n (pc := 91) F dX7_assign_91 0 rfl ?_
          refine a_getr (k := 0) (r := 1) (pc := 92) F dX7_assign_92 fl_RX7_10 kl_0 ks_0 rfl ?_
          refine a_getr (k := 1) (r := (1 + 8)) (pc := 95) F dX7_assign_95 fl_RX7_89 (klC_0 isC_1) (ksC_0 isC_1) rfl ?_
          refine a_iload_n (pc := 98) F dX7_assign_98 1 rfl ?_
          refine a_iload_n (pc := 99) F dX7_assign_99 2 rfl ?_
          refine a_iload_n (pc := 100) F dX7_assign_100 3 rfl ?_
          refine a_iload (pc := 101) F dX7_assign_101 4 rfl ?_
          replace h := bnd_some h
          obtain ⟨m17, hc16, h⟩ := h
          refine a_callV (pc := 103) (k := (1 + 8)) (As := [.int p1, .int p2, .int p3, .int p4]) (st := []) F dX7_assign_103 (m_X3_giveChain isC_1 hc16) cv_RX7_149 (klC_8 isC_1) (ksC_8 isC_1) ⟨_, _, rfl⟩ rfl rfl rfl (Nat.le_of_ble_eq_true rfl) ⟨Nat.le_of_ble_eq_true rfl, Nat.le_of_ble_eq_true rfl⟩ ?_ rfl rfl
          clear hc16
          refine a_aload_n (pc := 106) F dX7_assign_106 0 rfl ?_
          refine a_getr (k := 0) (r := 1) (pc := 107) F dX7_assign_107 fl_RX7_10 kl_0 ks_0 rfl ?_
          refine a_iload_n (pc := 110) F dX7_assign_110 1 rfl ?_
          refine a_iconst (v := 2) (pc := 111) F dX7_assign_111 (by decide) ?_
          replace h := bnd_some h
          obtain ⟨x19, hc18, h⟩ := h
          refine a_callV (pc := 112) (k := 1) (As := [.int p1, .int 2]) (st := []) F dX7_assign_112 (m_X2_chainPay isC_1 hc18) cv_RX7_153 (klC_0 isC_1) (ksC_0 isC_1) ⟨_, _, rfl⟩ rfl rfl rfl (Nat.le_of_ble_eq_true rfl) ⟨Nat.le_of_ble_eq_true rfl, Nat.le_of_ble_eq_true rfl⟩ ?_ rfl rfl
          clear hc18
          replace h := hB3 _ (Option.some.inj h).symm
          cases h
          exact a_iret (pc := 115) F dX7_assign_115 ⟨_, rfl, rfl⟩
        · replace h := ite_f q13 h
          clear q13
          cases h
      · replace h := ite_t (Decidable.not_not.mp q10) h
        clear q10
        cases h
    · replace h := ite_t (Decidable.not_not.mp q7) h
      clear q7
      refine a_lv F [] rfl ?_
      exact hJ3 _ (Option.some.inj h).symm
def f_X2_isAhead (c : Nat) (p1 : Int32) (m0 : Mem) : Option Int32 :=
  bnd (f_X3_isListed c p1 m0) fun x2 => (if x2 = 0 then some 0 else bnd (f_X2_hasStarted c p1 m0) fun x5 => (if x5 = 0 then some 1 else some 0))
set_option maxRecDepth 100000 in
set_option maxHeartbeats 4000000 in
theorem m_X2_isAhead {c : Nat} {p1 : Int32} (hc : isC c) {m0 : Mem} {rr : Int32} (h : f_X2_isAhead c p1 m0 = some rr) : Con yX2_isAhead cX2_isAhead 2 (some Jvm.ClassFile.FieldType.boolean) 1 21 (fun G => [.ref (ga G c), .int p1]) m0 (some (.int rr)) m0 := by
  refine con_of (by decide) (fun G => Nat.le_of_ble_eq_true rfl) (fun X F => ?_)
  show WA X 0 0 0 [(0, .ref (ga X.G c)), (1, .int p1)] [] m0 (EQ X (some (.int rr)) m0)
  rw [f_X2_isAhead] at h
  refine a_aload_n (pc := 0) F dX2_isAhead_0 0 rfl ?_
  refine a_getr (k := c) (r := (c + 8)) (pc := 1) F dX2_isAhead_1 fl_RX2_21 (klC_0 hc) (ksC_0 hc) rfl ?_
  refine a_iload_n (pc := 4) F dX2_isAhead_4 1 rfl ?_
  replace h := bnd_some h
  obtain ⟨x2, hc1, h⟩ := h
  refine a_callV (pc := 5) (k := (c + 8)) (As := [.int p1]) (st := []) F dX2_isAhead_5 (m_X3_isListed hc hc1) cv_RX2_66 (klC_8 hc) (ksC_8 hc) ⟨_, _, rfl⟩ rfl rfl rfl (Nat.le_of_ble_eq_true rfl) ⟨Nat.le_of_ble_eq_true rfl, Nat.le_of_ble_eq_true rfl⟩ ?_ rfl rfl
  clear hc1
  refine a_if_eq (tgt := 23) (pc := 8) F dX2_isAhead_8 (by decide) (fun q3 => ?_) (fun q3 => ?_)
  · replace h := ite_t q3 h
    clear q3
    refine a_iconst (v := 0) (pc := 23) F dX2_isAhead_23 (by decide) ?_
    cases h
    exact a_iret (pc := 24) F dX2_isAhead_24 ⟨_, rfl, rfl⟩
  · replace h := ite_f q3 h
    clear q3
    refine a_aload_n (pc := 11) F dX2_isAhead_11 0 rfl ?_
    refine a_iload_n (pc := 12) F dX2_isAhead_12 1 rfl ?_
    replace h := bnd_some h
    obtain ⟨x5, hc4, h⟩ := h
    refine a_callV (pc := 13) (k := c) (As := [.int p1]) (st := []) F dX2_isAhead_13 (m_X2_hasStarted hc hc4) cv_RX2_70 (klC_0 hc) (ksC_0 hc) ⟨_, _, rfl⟩ rfl rfl rfl (Nat.le_of_ble_eq_true rfl) ⟨Nat.le_of_ble_eq_true rfl, Nat.le_of_ble_eq_true rfl⟩ ?_ rfl rfl
    clear hc4
    refine a_if_ne (tgt := 23) (pc := 16) F dX2_isAhead_16 (by decide) (fun q6 => ?_) (fun q6 => ?_)
    · replace h := ite_f q6 h
      clear q6
      refine a_iconst (v := 0) (pc := 23) F dX2_isAhead_23 (by decide) ?_
      cases h
      exact a_iret (pc := 24) F dX2_isAhead_24 ⟨_, rfl, rfl⟩
    · replace h := ite_t (Decidable.not_not.mp q6) h
      clear q6
      refine a_iconst (v := 1) (pc := 19) F dX2_isAhead_19 (by decide) ?_
      refine a_goto (tgt := 24) (pc := 20) F dX2_isAhead_20 (by decide) ?_
      cases h
      exact a_iret (pc := 24) F dX2_isAhead_24 ⟨_, rfl, rfl⟩
def f_X7_release (p1 : Int32) (m0 : Mem) : Option (Int32 × Mem) :=
  bnd (f_X3_has 1 p1 m0) fun x2 => (if x2 = 0 then none else bnd (f_X2_isAhead 1 p1 m0) fun x5 => (if x5 = 0 then none else bnd (f_X4_save 1 m0) fun m8 => gIn p1 30 <| nm (m8.1 (1 + 14) p1.toNatClampNeg) fun x10 => bnd (f_X3_giveChain 1 p1 (-1) (-1) (-1) m8) fun m12 => some (x10, m12)))
set_option maxRecDepth 100000 in
set_option maxHeartbeats 4000000 in
theorem m_X7_release {p1 : Int32} {m0 : Mem} {rr : Int32} {mm : Mem} (h : f_X7_release p1 m0 = some (rr, mm)) : Con yX7_release cX7_release 3 (some Jvm.ClassFile.FieldType.int) 4 104 (fun G => [.ref (ga G 0), .int p1]) m0 (some (.int rr)) mm := by
  refine con_of (by decide) (fun G => Nat.le_of_ble_eq_true rfl) (fun X F => ?_)
  show WA X 0 0 0 [(0, .ref (ga X.G 0)), (1, .int p1)] [] m0 (EQ X (some (.int rr)) mm)
  rw [f_X7_release] at h
  refine a_aload_n (pc := 0) F dX7_release_0 0 rfl ?_
  refine a_getr (k := 0) (r := 1) (pc := 1) F dX7_release_1 fl_RX7_10 kl_0 ks_0 rfl ?_
  refine a_getr (k := 1) (r := (1 + 8)) (pc := 4) F dX7_release_4 fl_RX7_89 (klC_0 isC_1) (ksC_0 isC_1) rfl ?_
  refine a_iload_n (pc := 7) F dX7_release_7 1 rfl ?_
  replace h := bnd_some h
  obtain ⟨x2, hc1, h⟩ := h
  refine a_callV (pc := 8) (k := (1 + 8)) (As := [.int p1]) (st := []) F dX7_release_8 (m_X3_has isC_1 hc1) cv_RX7_133 (klC_8 isC_1) (ksC_8 isC_1) ⟨_, _, rfl⟩ rfl rfl rfl (Nat.le_of_ble_eq_true rfl) ⟨Nat.le_of_ble_eq_true rfl, Nat.le_of_ble_eq_true rfl⟩ ?_ rfl rfl
  clear hc1
  refine a_if_ne (tgt := 24) (pc := 11) F dX7_release_11 (by decide) (fun q3 => ?_) (fun q3 => ?_)
  · replace h := ite_f q3 h
    clear q3
    refine a_aload_n (pc := 24) F dX7_release_24 0 rfl ?_
    refine a_getr (k := 0) (r := 1) (pc := 25) F dX7_release_25 fl_RX7_10 kl_0 ks_0 rfl ?_
    refine a_iload_n (pc := 28) F dX7_release_28 1 rfl ?_
    replace h := bnd_some h
    obtain ⟨x5, hc4, h⟩ := h
    refine a_callV (pc := 29) (k := 1) (As := [.int p1]) (st := []) F dX7_release_29 (m_X2_isAhead isC_1 hc4) cv_RX7_159 (klC_0 isC_1) (ksC_0 isC_1) ⟨_, _, rfl⟩ rfl rfl rfl (Nat.le_of_ble_eq_true rfl) ⟨Nat.le_of_ble_eq_true rfl, Nat.le_of_ble_eq_true rfl⟩ ?_ rfl rfl
    clear hc4
    refine a_if_ne (tgt := 45) (pc := 32) F dX7_release_32 (by decide) (fun q6 => ?_) (fun q6 => ?_)
    · replace h := ite_f q6 h
      clear q6
      refine a_aload_n (pc := 45) F dX7_release_45 0 rfl ?_
      refine a_getr (k := 0) (r := 39) (pc := 46) F dX7_release_46 fl_RX7_22 kl_0 ks_0 rfl ?_
      refine a_aload_n (pc := 49) F dX7_release_49 0 rfl ?_
      refine a_getr (k := 0) (r := 1) (pc := 50) F dX7_release_50 fl_RX7_10 kl_0 ks_0 rfl ?_
      replace h := bnd_some h
      obtain ⟨m8, hc7, h⟩ := h
      refine a_callV (pc := 53) (k := 39) (As := [.ref (ga X.G 1)]) (st := []) F dX7_release_53 (m_X4_save isC_1 hc7) cv_RX7_79 kl_39 ks_39 ⟨_, _, rfl⟩ rfl rfl rfl (Nat.le_of_ble_eq_true rfl) ⟨Nat.le_of_ble_eq_true rfl, Nat.le_of_ble_eq_true rfl⟩ ?_ rfl rfl
      clear hc7
      refine a_aload_n (pc := 56) F dX7_release_56 0 rfl ?_
      refine a_getr (k := 0) (r := 1) (pc := 57) F dX7_release_57 fl_RX7_10 kl_0 ks_0 rfl ?_
      refine a_getr (k := 1) (r := (1 + 8)) (pc := 60) F dX7_release_60 fl_RX7_89 (klC_0 isC_1) (ksC_0 isC_1) rfl ?_
      refine a_getr (k := (1 + 8)) (r := (1 + 14)) (pc := 63) F dX7_release_63 fl_RX7_164 (klC_8 isC_1) (ksC_8 isC_1) rfl ?_
      refine a_iload_n (pc := 66) F dX7_release_66 1 rfl ?_
      replace h := gIn_some h
      obtain ⟨g9, h⟩ := h
      refine a_ial (k := (1 + 14)) (pc := 67) F dX7_release_67 (klC_14 isC_1) (ksC_14 isC_1) g9 ?_
      refine a_nmi fun x10 ex10 => ?_
      replace h := nm_at ex10 h
      clear ex10
      refine a_istore_n (lv' := [(2, .int x10), (0, .ref (ga X.G 0)), (1, .int p1)]) (pc := 68) F dX7_release_68 (by decide) rfl ?_
      refine a_aload_n (pc := 69) F dX7_release_69 1 rfl ?_
      refine a_getr (k := 0) (r := 1) (pc := 70) F dX7_release_70 fl_RX7_10 kl_0 ks_0 rfl ?_
      refine a_getr (k := 1) (r := (1 + 8)) (pc := 73) F dX7_release_73 fl_RX7_89 (klC_0 isC_1) (ksC_0 isC_1) rfl ?_
      refine a_iload_n (pc := 76) F dX7_release_76 2 rfl ?_
      refine a_iconst (v := (-1)) (pc := 77) F dX7_release_77 (by decide) ?_
      refine a_iconst (v := (-1)) (pc := 78) F dX7_release_78 (by decide) ?_
      refine a_iconst (v := (-1)) (pc := 79) F dX7_release_79 (by decide) ?_
      replace h := bnd_some h
      obtain ⟨m12, hc11, h⟩ := h
      refine a_callV (pc := 80) (k := (1 + 8)) (As := [.int p1, .int (-1), .int (-1), .int (-1)]) (st := []) F dX7_release_80 (m_X3_giveChain isC_1 hc11) cv_RX7_149 (klC_8 isC_1) (ksC_8 isC_1) ⟨_, _, rfl⟩ rfl rfl rfl (Nat.le_of_ble_eq_true rfl) ⟨Nat.le_of_ble_eq_true rfl, Nat.le_of_ble_eq_true rfl⟩ ?_ rfl rfl
      clear hc11
      refine a_iload_n (pc := 83) F dX7_release_83 0 rfl ?_
      cases h
      exact a_iret (pc := 84) F dX7_release_84 ⟨_, rfl, rfl⟩
    · replace h := ite_t (Decidable.not_not.mp q6) h
      clear q6
      cases h
  · replace h := ite_t (Decidable.not_not.mp q3) h
    clear q3
    cases h
def f_X3_holds (c : Nat) (p1 : Int32) (p2 : Int32) (m0 : Mem) : Option Int32 :=
  gIn p1 30 <| nm (m0.1 (c + 16) p1.toNatClampNeg) fun x2 => bnd (f_X7_bitOf p2 m0) fun x4 => (if (x2 &&& x4) = 0 then some 0 else some 1)
set_option maxRecDepth 100000 in
set_option maxHeartbeats 4000000 in
theorem m_X3_holds {c : Nat} {p1 : Int32} {p2 : Int32} (hc : isC c) {m0 : Mem} {rr : Int32} (h : f_X3_holds c p1 p2 m0 = some rr) : Con yX3_holds cX3_holds 3 (some Jvm.ClassFile.FieldType.boolean) 1 20 (fun G => [.ref (ga G (c + 8)), .int p1, .int p2]) m0 (some (.int rr)) m0 := by
  refine con_of (by decide) (fun G => Nat.le_of_ble_eq_true rfl) (fun X F => ?_)
  show WA X 0 0 0 [(0, .ref (ga X.G (c + 8))), (1, .int p1), (2, .int p2)] [] m0 (EQ X (some (.int rr)) m0)
  rw [f_X3_holds] at h
  refine a_aload_n (pc := 0) F dX3_holds_0 0 rfl ?_
  refine a_getr (k := (c + 8)) (r := (c + 16)) (pc := 1) F dX3_holds_1 fl_RX3_33 (klC_8 hc) (ksC_8 hc) rfl ?_
  refine a_iload_n (pc := 4) F dX3_holds_4 1 rfl ?_
  replace h := gIn_some h
  obtain ⟨g1, h⟩ := h
  refine a_ial (k := (c + 16)) (pc := 5) F dX3_holds_5 (klC_16 hc) (ksC_16 hc) g1 ?_
  refine a_nmi fun x2 ex2 => ?_
  replace h := nm_at ex2 h
  clear ex2
  refine a_iload_n (pc := 6) F dX3_holds_6 2 rfl ?_
  replace h := bnd_some h
  obtain ⟨x4, hc3, h⟩ := h
  refine a_callSN (pc := 7) (As := [.int p2]) (st := [.int x2]) F dX3_holds_7 (m_X7_bitOf hc3) cn_RX3_53 rfl rfl rfl (Nat.le_of_ble_eq_true rfl) ⟨Nat.le_of_ble_eq_true rfl, Nat.le_of_ble_eq_true rfl⟩ ?_ rfl rfl
  clear hc3
  refine a_iand (pc := 10) F dX3_holds_10 ?_
  refine a_if_eq (tgt := 18) (pc := 11) F dX3_holds_11 (by decide) (fun q5 => ?_) (fun q5 => ?_)
  · replace h := ite_t q5 h
    clear q5
    refine a_iconst (v := 0) (pc := 18) F dX3_holds_18 (by decide) ?_
    cases h
    exact a_iret (pc := 19) F dX3_holds_19 ⟨_, rfl, rfl⟩
  · replace h := ite_f q5 h
    clear q5
    refine a_iconst (v := 1) (pc := 14) F dX3_holds_14 (by decide) ?_
    refine a_goto (tgt := 19) (pc := 15) F dX3_holds_15 (by decide) ?_
    cases h
    exact a_iret (pc := 19) F dX3_holds_19 ⟨_, rfl, rfl⟩
