def f_X8_working_L4 (m0 : Mem) : (Int32 × Int32) → Option ((Int32 × Int32) ⊕ Int32)
  | (x2, x3) => (if (m0.1 163 7) ≤ x3 then some (.inr x2) else bnd (f_X8_worksIn x3 m0) fun x6 => (if x6 = (-1) then nm (x3 + 1) fun x9 => some (.inl (x2 + 0, x9)) else nm (x3 + 1) fun x8 => some (.inl (x2 + 1, x8))))
def f_X8_working (m0 : Mem) : Option Int32 :=
  bnd (lp (f_X8_working_L4 m0) 1000000 (0, 0)) (fun x10 => some x10)
set_option maxRecDepth 100000 in
set_option maxHeartbeats 4000000 in
theorem m_X8_working {m0 : Mem} {rr : Int32} (h : f_X8_working m0 = some rr) : Con yX8_working cX8_working 3 (some Jvm.ClassFile.FieldType.int) 3 69 (fun G => [.ref (ga G 162)]) m0 (some (.int rr)) m0 := by
  refine con_of (by decide) (fun G => Nat.le_of_ble_eq_true rfl) (fun X F => ?_)
  show WA X 0 0 0 [(0, .ref (ga X.G 162))] [] m0 (EQ X (some (.int rr)) m0)
  rw [f_X8_working] at h
  refine a_iconst (v := 0) (pc := 0) F dX8_working_0 (by decide) ?_
  refine a_istore_n (lv' := [(1, .int 0), (0, .ref (ga X.G 162))]) (pc := 1) F dX8_working_1 (by decide) rfl ?_
  refine a_iconst (v := 0) (pc := 2) F dX8_working_2 (by decide) ?_
  refine a_istore_n (lv' := [(2, .int 0), (1, .int 0), (0, .ref (ga X.G 162))]) (pc := 3) F dX8_working_3 (by decide) rfl ?_
  refine a_lv F [2, 1, 0] rfl ?_
  replace h := bnd_some h
  obtain ⟨x10, hL1, h⟩ := h
  have hE1 : WA X 0 0 38 [(1, .int x10)] [] m0 (EQ X (some (.int rr)) m0) := by
    refine a_iload_n (pc := 38) F dX8_working_38 0 rfl ?_
    cases h
    exact a_iret (pc := 39) F dX8_working_39 ⟨_, rfl, rfl⟩
  clear h
  refine lp_run (P := fun (s : (Int32 × Int32)) => WA X 0 0 4 [(0, .ref (ga X.G 162)), (1, .int s.1), (2, .int s.2)] [] m0 (EQ X (some (.int rr)) m0)) ?_ _ _ hL1
  clear hL1
  rintro ⟨x2, x3⟩ xo h hP1 hT1
  show WA X 0 0 4 [(0, .ref (ga X.G 162)), (1, .int x2), (2, .int x3)] [] m0 (EQ X (some (.int rr)) m0)
  rw [f_X8_working_L4] at h
  refine a_iload_n (pc := 4) F dX8_working_4 2 rfl ?_
  refine a_aload_n (pc := 5) F dX8_working_5 0 rfl ?_
  refine a_getr (k := 162) (r := 163) (pc := 6) F dX8_working_6 fl_RX8_7 kl_162 ks_162 rfl ?_
  refine a_bipush (v := 7) (pc := 9) F dX8_working_9 (by decide) ?_
  refine a_ialc (k := 163) (pc := 11) F dX8_working_11 kl_163 ks_163 rfl rfl ?_
  refine a_icmp_ge (tgt := 38) (pc := 12) F dX8_working_12 (by decide) (fun q4 => ?_) (fun q4 => ?_)
  · replace h := ite_t q4 h
    clear q4
    refine a_lv F [1] rfl ?_
    cases hT1 _ (Option.some.inj h).symm
    exact hE1
  · replace h := ite_f q4 h
    clear q4
    refine a_iload_n (pc := 15) F dX8_working_15 1 rfl ?_
    refine a_aload_n (pc := 16) F dX8_working_16 0 rfl ?_
    refine a_iload_n (pc := 17) F dX8_working_17 2 rfl ?_
    replace h := bnd_some h
    obtain ⟨x6, hc5, h⟩ := h
    refine a_callV (pc := 18) (k := 162) (As := [.int x3]) (st := [.int x2]) F dX8_working_18 (m_X8_worksIn hc5) cv_RX8_134 kl_162 ks_162 ⟨_, _, rfl⟩ rfl rfl rfl (Nat.le_of_ble_eq_true rfl) ⟨Nat.le_of_ble_eq_true rfl, Nat.le_of_ble_eq_true rfl⟩ ?_ rfl rfl
    clear hc5
    refine a_iconst (v := (-1)) (pc := 21) F dX8_working_21 (by decide) ?_
    refine a_icmp_ne (tgt := 29) (pc := 22) F dX8_working_22 (by decide) (fun q7 => ?_) (fun q7 => ?_)
    · replace h := ite_f q7 h
      clear q7
      refine a_iconst (v := 1) (pc := 29) F dX8_working_29 (by decide) ?_
      refine a_iadd (pc := 30) F dX8_working_30 ?_
      refine a_istore_n (lv' := [(1, .int (x2 + 1)), (0, .ref (ga X.G 162)), (2, .int x3)]) (pc := 31) F dX8_working_31 (by decide) rfl ?_
      obtain ⟨x8, ex8⟩ : ∃ x8 : Int32, x8 = x3 + 1 := ⟨_, rfl⟩
      refine a_iinc (v := x8) (lv' := [(2, .int x8), (1, .int (x2 + 1)), (0, .ref (ga X.G 162))]) (pc := 32) F dX8_working_32 2 rfl (by rw [ex8]; rfl) (by decide) rfl ?_
      replace h := nm_at ex8 h
      clear ex8
      refine a_goto (tgt := 4) (pc := 35) F dX8_working_35 (by decide) ?_
      refine a_lv F [2, 1, 0] rfl ?_
      exact hP1 _ (Option.some.inj h).symm
    · replace h := ite_t (Decidable.not_not.mp q7) h
      clear q7
      refine a_iconst (v := 0) (pc := 25) F dX8_working_25 (by decide) ?_
      refine a_goto (tgt := 30) (pc := 26) F dX8_working_26 (by decide) ?_
      refine a_iadd (pc := 30) F dX8_working_30 ?_
      refine a_istore_n (lv' := [(1, .int (x2 + 0)), (0, .ref (ga X.G 162)), (2, .int x3)]) (pc := 31) F dX8_working_31 (by decide) rfl ?_
      obtain ⟨x9, ex9⟩ : ∃ x9 : Int32, x9 = x3 + 1 := ⟨_, rfl⟩
      refine a_iinc (v := x9) (lv' := [(2, .int x9), (1, .int (x2 + 0)), (0, .ref (ga X.G 162))]) (pc := 32) F dX8_working_32 2 rfl (by rw [ex9]; rfl) (by decide) rfl ?_
      replace h := nm_at ex9 h
      clear ex9
      refine a_goto (tgt := 4) (pc := 35) F dX8_working_35 (by decide) ?_
      refine a_lv F [2, 1, 0] rfl ?_
      exact hP1 _ (Option.some.inj h).symm
def f_X8_counted (p1 : Int32) (m0 : Mem) : Option Int32 :=
  (if p1 = 0 then gIn (7 + p1) 373 <| nm (m0.1 163 (7 + p1).toNatClampNeg) fun x3 => some x3 else (if p1 = 1 then gIn (7 + p1) 373 <| nm (m0.1 163 (7 + p1).toNatClampNeg) fun x6 => some x6 else (if p1 = 2 then gIn (7 + p1) 373 <| nm (m0.1 163 (7 + p1).toNatClampNeg) fun x9 => some x9 else (if p1 = 3 then bnd (f_X8_hearingsIn 0 0 m0) fun x12 => some x12 else (if p1 = 4 then bnd (f_X8_hearingsIn 0 1 m0) fun x15 => some x15 else (if p1 = 5 then bnd (f_X8_hearingsIn (p1 - 4) 0 m0) fun x18 => some x18 else (if p1 = 6 then bnd (f_X8_hearingsIn (p1 - 4) 0 m0) fun x21 => some x21 else (if p1 = 7 then bnd (f_X8_hearingsIn (p1 - 4) 0 m0) fun x24 => some x24 else (if p1 = 8 then gIn ((10 + p1) - 8) 373 <| nm (m0.1 163 ((10 + p1) - 8).toNatClampNeg) fun x27 => some x27 else (if p1 = 9 then gIn ((10 + p1) - 8) 373 <| nm (m0.1 163 ((10 + p1) - 8).toNatClampNeg) fun x30 => some x30 else (if p1 = 10 then gIn ((10 + p1) - 8) 373 <| nm (m0.1 163 ((10 + p1) - 8).toNatClampNeg) fun x33 => some x33 else (if p1 = 11 then bnd (f_X8_working m0) fun x36 => some x36 else some (m0.1 162 1)))))))))))))
set_option maxRecDepth 100000 in
set_option maxHeartbeats 4000000 in
theorem m_X8_counted {p1 : Int32} {m0 : Mem} {rr : Int32} (h : f_X8_counted p1 m0 = some rr) : Con yX8_counted cX8_counted 2 (some Jvm.ClassFile.FieldType.int) 4 91 (fun G => [.ref (ga G 162), .int p1]) m0 (some (.int rr)) m0 := by
  refine con_of (by decide) (fun G => Nat.le_of_ble_eq_true rfl) (fun X F => ?_)
  show WA X 0 0 0 [(0, .ref (ga X.G 162)), (1, .int p1)] [] m0 (EQ X (some (.int rr)) m0)
  rw [f_X8_counted] at h
  refine a_iload_n (pc := 0) F dX8_counted_0 1 rfl ?_
  by_cases q1 : p1 = 0
  · replace h := ite_t q1 h
    refine a_swin (pc := 1) (tgt := 64) F dX8_counted_1 (by rw [q1]; decide) (by rw [q1]; decide) (by rw [q1]; rfl) (by decide) ?_
    clear q1
    refine a_aload_n (pc := 64) F dX8_counted_64 0 rfl ?_
    refine a_getr (k := 162) (r := 163) (pc := 65) F dX8_counted_65 fl_RX8_7 kl_162 ks_162 rfl ?_
    refine a_bipush (v := 7) (pc := 68) F dX8_counted_68 (by decide) ?_
    refine a_iload_n (pc := 70) F dX8_counted_70 1 rfl ?_
    refine a_iadd (pc := 71) F dX8_counted_71 ?_
    replace h := gIn_some h
    obtain ⟨g2, h⟩ := h
    refine a_ial (k := 163) (pc := 72) F dX8_counted_72 kl_163 ks_163 g2 ?_
    refine a_nmi fun x3 ex3 => ?_
    replace h := nm_at ex3 h
    clear ex3
    cases h
    exact a_iret (pc := 73) F dX8_counted_73 ⟨_, rfl, rfl⟩
  replace h := ite_f q1 h
  by_cases q4 : p1 = 1
  · replace h := ite_t q4 h
    refine a_swin (pc := 1) (tgt := 64) F dX8_counted_1 (by rw [q4]; decide) (by rw [q4]; decide) (by rw [q4]; rfl) (by decide) ?_
    clear q4
    refine a_aload_n (pc := 64) F dX8_counted_64 0 rfl ?_
    refine a_getr (k := 162) (r := 163) (pc := 65) F dX8_counted_65 fl_RX8_7 kl_162 ks_162 rfl ?_
    refine a_bipush (v := 7) (pc := 68) F dX8_counted_68 (by decide) ?_
    refine a_iload_n (pc := 70) F dX8_counted_70 1 rfl ?_
    refine a_iadd (pc := 71) F dX8_counted_71 ?_
    replace h := gIn_some h
    obtain ⟨g5, h⟩ := h
    refine a_ial (k := 163) (pc := 72) F dX8_counted_72 kl_163 ks_163 g5 ?_
    refine a_nmi fun x6 ex6 => ?_
    replace h := nm_at ex6 h
    clear ex6
    cases h
    exact a_iret (pc := 73) F dX8_counted_73 ⟨_, rfl, rfl⟩
  replace h := ite_f q4 h
  by_cases q7 : p1 = 2
  · replace h := ite_t q7 h
    refine a_swin (pc := 1) (tgt := 64) F dX8_counted_1 (by rw [q7]; decide) (by rw [q7]; decide) (by rw [q7]; rfl) (by decide) ?_
    clear q7
    refine a_aload_n (pc := 64) F dX8_counted_64 0 rfl ?_
    refine a_getr (k := 162) (r := 163) (pc := 65) F dX8_counted_65 fl_RX8_7 kl_162 ks_162 rfl ?_
    refine a_bipush (v := 7) (pc := 68) F dX8_counted_68 (by decide) ?_
    refine a_iload_n (pc := 70) F dX8_counted_70 1 rfl ?_
    refine a_iadd (pc := 71) F dX8_counted_71 ?_
    replace h := gIn_some h
    obtain ⟨g8, h⟩ := h
    refine a_ial (k := 163) (pc := 72) F dX8_counted_72 kl_163 ks_163 g8 ?_
    refine a_nmi fun x9 ex9 => ?_
    replace h := nm_at ex9 h
    clear ex9
    cases h
    exact a_iret (pc := 73) F dX8_counted_73 ⟨_, rfl, rfl⟩
  replace h := ite_f q7 h
  by_cases q10 : p1 = 3
  · replace h := ite_t q10 h
    refine a_swin (pc := 1) (tgt := 74) F dX8_counted_1 (by rw [q10]; decide) (by rw [q10]; decide) (by rw [q10]; rfl) (by decide) ?_
    clear q10
    refine a_aload_n (pc := 74) F dX8_counted_74 0 rfl ?_
    refine a_iconst (v := 0) (pc := 75) F dX8_counted_75 (by decide) ?_
    refine a_iconst (v := 0) (pc := 76) F dX8_counted_76 (by decide) ?_
    replace h := bnd_some h
    obtain ⟨x12, hc11, h⟩ := h
    refine a_callV (pc := 77) (k := 162) (As := [.int 0, .int 0]) (st := []) F dX8_counted_77 (m_X8_hearingsIn hc11) cv_RX8_192 kl_162 ks_162 ⟨_, _, rfl⟩ rfl rfl rfl (Nat.le_of_ble_eq_true rfl) ⟨Nat.le_of_ble_eq_true rfl, Nat.le_of_ble_eq_true rfl⟩ ?_ rfl rfl
    clear hc11
    cases h
    exact a_iret (pc := 80) F dX8_counted_80 ⟨_, rfl, rfl⟩
  replace h := ite_f q10 h
  by_cases q13 : p1 = 4
  · replace h := ite_t q13 h
    refine a_swin (pc := 1) (tgt := 81) F dX8_counted_1 (by rw [q13]; decide) (by rw [q13]; decide) (by rw [q13]; rfl) (by decide) ?_
    clear q13
    refine a_aload_n (pc := 81) F dX8_counted_81 0 rfl ?_
    refine a_iconst (v := 0) (pc := 82) F dX8_counted_82 (by decide) ?_
    refine a_iconst (v := 1) (pc := 83) F dX8_counted_83 (by decide) ?_
    replace h := bnd_some h
    obtain ⟨x15, hc14, h⟩ := h
    refine a_callV (pc := 84) (k := 162) (As := [.int 0, .int 1]) (st := []) F dX8_counted_84 (m_X8_hearingsIn hc14) cv_RX8_192 kl_162 ks_162 ⟨_, _, rfl⟩ rfl rfl rfl (Nat.le_of_ble_eq_true rfl) ⟨Nat.le_of_ble_eq_true rfl, Nat.le_of_ble_eq_true rfl⟩ ?_ rfl rfl
    clear hc14
    cases h
    exact a_iret (pc := 87) F dX8_counted_87 ⟨_, rfl, rfl⟩
  replace h := ite_f q13 h
  by_cases q16 : p1 = 5
  · replace h := ite_t q16 h
    refine a_swin (pc := 1) (tgt := 88) F dX8_counted_1 (by rw [q16]; decide) (by rw [q16]; decide) (by rw [q16]; rfl) (by decide) ?_
    clear q16
    refine a_aload_n (pc := 88) F dX8_counted_88 0 rfl ?_
    refine a_iload_n (pc := 89) F dX8_counted_89 1 rfl ?_
    refine a_iconst (v := 4) (pc := 90) F dX8_counted_90 (by decide) ?_
    refine a_isub (pc := 91) F dX8_counted_91 ?_
    refine a_iconst (v := 0) (pc := 92) F dX8_counted_92 (by decide) ?_
    replace h := bnd_some h
    obtain ⟨x18, hc17, h⟩ := h
    refine a_callV (pc := 93) (k := 162) (As := [.int (p1 - 4), .int 0]) (st := []) F dX8_counted_93 (m_X8_hearingsIn hc17) cv_RX8_192 kl_162 ks_162 ⟨_, _, rfl⟩ rfl rfl rfl (Nat.le_of_ble_eq_true rfl) ⟨Nat.le_of_ble_eq_true rfl, Nat.le_of_ble_eq_true rfl⟩ ?_ rfl rfl
    clear hc17
    cases h
    exact a_iret (pc := 96) F dX8_counted_96 ⟨_, rfl, rfl⟩
  replace h := ite_f q16 h
  by_cases q19 : p1 = 6
  · replace h := ite_t q19 h
    refine a_swin (pc := 1) (tgt := 88) F dX8_counted_1 (by rw [q19]; decide) (by rw [q19]; decide) (by rw [q19]; rfl) (by decide) ?_
    clear q19
    refine a_aload_n (pc := 88) F dX8_counted_88 0 rfl ?_
    refine a_iload_n (pc := 89) F dX8_counted_89 1 rfl ?_
    refine a_iconst (v := 4) (pc := 90) F dX8_counted_90 (by decide) ?_
    refine a_isub (pc := 91) F dX8_counted_91 ?_
    refine a_iconst (v := 0) (pc := 92) F dX8_counted_92 (by decide) ?_
    replace h := bnd_some h
    obtain ⟨x21, hc20, h⟩ := h
    refine a_callV (pc := 93) (k := 162) (As := [.int (p1 - 4), .int 0]) (st := []) F dX8_counted_93 (m_X8_hearingsIn hc20) cv_RX8_192 kl_162 ks_162 ⟨_, _, rfl⟩ rfl rfl rfl (Nat.le_of_ble_eq_true rfl) ⟨Nat.le_of_ble_eq_true rfl, Nat.le_of_ble_eq_true rfl⟩ ?_ rfl rfl
    clear hc20
    cases h
    exact a_iret (pc := 96) F dX8_counted_96 ⟨_, rfl, rfl⟩
  replace h := ite_f q19 h
  by_cases q22 : p1 = 7
  · replace h := ite_t q22 h
    refine a_swin (pc := 1) (tgt := 88) F dX8_counted_1 (by rw [q22]; decide) (by rw [q22]; decide) (by rw [q22]; rfl) (by decide) ?_
    clear q22
    refine a_aload_n (pc := 88) F dX8_counted_88 0 rfl ?_
    refine a_iload_n (pc := 89) F dX8_counted_89 1 rfl ?_
    refine a_iconst (v := 4) (pc := 90) F dX8_counted_90 (by decide) ?_
    refine a_isub (pc := 91) F dX8_counted_91 ?_
    refine a_iconst (v := 0) (pc := 92) F dX8_counted_92 (by decide) ?_
    replace h := bnd_some h
    obtain ⟨x24, hc23, h⟩ := h
    refine a_callV (pc := 93) (k := 162) (As := [.int (p1 - 4), .int 0]) (st := []) F dX8_counted_93 (m_X8_hearingsIn hc23) cv_RX8_192 kl_162 ks_162 ⟨_, _, rfl⟩ rfl rfl rfl (Nat.le_of_ble_eq_true rfl) ⟨Nat.le_of_ble_eq_true rfl, Nat.le_of_ble_eq_true rfl⟩ ?_ rfl rfl
    clear hc23
    cases h
    exact a_iret (pc := 96) F dX8_counted_96 ⟨_, rfl, rfl⟩
  replace h := ite_f q22 h
  by_cases q25 : p1 = 8
  · replace h := ite_t q25 h
    refine a_swin (pc := 1) (tgt := 97) F dX8_counted_1 (by rw [q25]; decide) (by rw [q25]; decide) (by rw [q25]; rfl) (by decide) ?_
    clear q25
    refine a_aload_n (pc := 97) F dX8_counted_97 0 rfl ?_
    refine a_getr (k := 162) (r := 163) (pc := 98) F dX8_counted_98 fl_RX8_7 kl_162 ks_162 rfl ?_
    refine a_bipush (v := 10) (pc := 101) F dX8_counted_101 (by decide) ?_
    refine a_iload_n (pc := 103) F dX8_counted_103 1 rfl ?_
    refine a_iadd (pc := 104) F dX8_counted_104 ?_
    refine a_bipush (v := 8) (pc := 105) F dX8_counted_105 (by decide) ?_
    refine a_isub (pc := 107) F dX8_counted_107 ?_
    replace h := gIn_some h
    obtain ⟨g26, h⟩ := h
    refine a_ial (k := 163) (pc := 108) F dX8_counted_108 kl_163 ks_163 g26 ?_
    refine a_nmi fun x27 ex27 => ?_
    replace h := nm_at ex27 h
    clear ex27
    cases h
    exact a_iret (pc := 109) F dX8_counted_109 ⟨_, rfl, rfl⟩
  replace h := ite_f q25 h
  by_cases q28 : p1 = 9
  · replace h := ite_t q28 h
    refine a_swin (pc := 1) (tgt := 97) F dX8_counted_1 (by rw [q28]; decide) (by rw [q28]; decide) (by rw [q28]; rfl) (by decide) ?_
    clear q28
    refine a_aload_n (pc := 97) F dX8_counted_97 0 rfl ?_
    refine a_getr (k := 162) (r := 163) (pc := 98) F dX8_counted_98 fl_RX8_7 kl_162 ks_162 rfl ?_
    refine a_bipush (v := 10) (pc := 101) F dX8_counted_101 (by decide) ?_
    refine a_iload_n (pc := 103) F dX8_counted_103 1 rfl ?_
    refine a_iadd (pc := 104) F dX8_counted_104 ?_
    refine a_bipush (v := 8) (pc := 105) F dX8_counted_105 (by decide) ?_
    refine a_isub (pc := 107) F dX8_counted_107 ?_
    replace h := gIn_some h
    obtain ⟨g29, h⟩ := h
    refine a_ial (k := 163) (pc := 108) F dX8_counted_108 kl_163 ks_163 g29 ?_
    refine a_nmi fun x30 ex30 => ?_
    replace h := nm_at ex30 h
    clear ex30
    cases h
    exact a_iret (pc := 109) F dX8_counted_109 ⟨_, rfl, rfl⟩
  replace h := ite_f q28 h
  by_cases q31 : p1 = 10
  · replace h := ite_t q31 h
    refine a_swin (pc := 1) (tgt := 97) F dX8_counted_1 (by rw [q31]; decide) (by rw [q31]; decide) (by rw [q31]; rfl) (by decide) ?_
    clear q31
    refine a_aload_n (pc := 97) F dX8_counted_97 0 rfl ?_
    refine a_getr (k := 162) (r := 163) (pc := 98) F dX8_counted_98 fl_RX8_7 kl_162 ks_162 rfl ?_
    refine a_bipush (v := 10) (pc := 101) F dX8_counted_101 (by decide) ?_
    refine a_iload_n (pc := 103) F dX8_counted_103 1 rfl ?_
    refine a_iadd (pc := 104) F dX8_counted_104 ?_
    refine a_bipush (v := 8) (pc := 105) F dX8_counted_105 (by decide) ?_
    refine a_isub (pc := 107) F dX8_counted_107 ?_
    replace h := gIn_some h
    obtain ⟨g32, h⟩ := h
    refine a_ial (k := 163) (pc := 108) F dX8_counted_108 kl_163 ks_163 g32 ?_
    refine a_nmi fun x33 ex33 => ?_
    replace h := nm_at ex33 h
    clear ex33
    cases h
    exact a_iret (pc := 109) F dX8_counted_109 ⟨_, rfl, rfl⟩
  replace h := ite_f q31 h
  by_cases q34 : p1 = 11
  · replace h := ite_t q34 h
    refine a_swin (pc := 1) (tgt := 110) F dX8_counted_1 (by rw [q34]; decide) (by rw [q34]; decide) (by rw [q34]; rfl) (by decide) ?_
    clear q34
    refine a_aload_n (pc := 110) F dX8_counted_110 0 rfl ?_
    replace h := bnd_some h
    obtain ⟨x36, hc35, h⟩ := h
    refine a_callV (pc := 111) (k := 162) (As := []) (st := []) F dX8_counted_111 (m_X8_working hc35) cv_RX8_196 kl_162 ks_162 ⟨_, _, rfl⟩ rfl rfl rfl (Nat.le_of_ble_eq_true rfl) ⟨Nat.le_of_ble_eq_true rfl, Nat.le_of_ble_eq_true rfl⟩ ?_ rfl rfl
    clear hc35
    cases h
    exact a_iret (pc := 114) F dX8_counted_114 ⟨_, rfl, rfl⟩
  replace h := ite_f q34 h
  refine a_swout (pc := 1) (tgt := 115) F dX8_counted_1 (by have nq1 := lv_neT (a := 0) q1 (by decide); have nq4 := lv_neT (a := 1) q4 (by decide); have nq7 := lv_neT (a := 2) q7 (by decide); have nq10 := lv_neT (a := 3) q10 (by decide); have nq13 := lv_neT (a := 4) q13 (by decide); have nq16 := lv_neT (a := 5) q16 (by decide); have nq19 := lv_neT (a := 6) q19 (by decide); have nq22 := lv_neT (a := 7) q22 (by decide); have nq25 := lv_neT (a := 8) q25 (by decide); have nq28 := lv_neT (a := 9) q28 (by decide); have nq31 := lv_neT (a := 10) q31 (by decide); have nq34 := lv_neT (a := 11) q34 (by decide); omega) (by decide) ?_
  clear q1
  clear q4
  clear q7
  clear q10
  clear q13
  clear q16
  clear q19
  clear q22
  clear q25
  clear q28
  clear q31
  clear q34
  refine a_aload_n (pc := 115) F dX8_counted_115 0 rfl ?_
  refine a_geti (k := 162) (pc := 116) F dX8_counted_116 fl_RX8_35 kl_162 ks_162 rfl ?_
  cases h
  exact a_iret (pc := 119) F dX8_counted_119 ⟨_, rfl, rfl⟩
def f_X8_count (p1 : Int32) (m0 : Mem) : Option (Int32 × Mem) :=
  bnd (f_X8_within p1 0 12 m0) fun x2 => bnd ((if x2 = 0 then some 1 else some 0)) (fun (x5 : Int32) => nm (si m0 162 5 x5) fun m6 => (if (m6.1 162 5) ≤ 0 then bnd (f_X8_counted p1 m6) fun x9 => some (x9, m6) else some (0, m6)))
set_option maxRecDepth 100000 in
set_option maxHeartbeats 4000000 in
theorem m_X8_count {p1 : Int32} {m0 : Mem} {rr : Int32} {mm : Mem} (h : f_X8_count p1 m0 = some (rr, mm)) : Con yX8_count cX8_count 2 (some Jvm.ClassFile.FieldType.int) 5 112 (fun G => [.ref (ga G 162), .int p1]) m0 (some (.int rr)) mm := by
  refine con_of (by decide) (fun G => Nat.le_of_ble_eq_true rfl) (fun X F => ?_)
  show WA X 0 0 0 [(0, .ref (ga X.G 162)), (1, .int p1)] [] m0 (EQ X (some (.int rr)) mm)
  rw [f_X8_count] at h
  refine a_aload_n (pc := 0) F dX8_count_0 0 rfl ?_
  refine a_iload_n (pc := 1) F dX8_count_1 1 rfl ?_
  refine a_iconst (v := 0) (pc := 2) F dX8_count_2 (by decide) ?_
  refine a_bipush (v := 12) (pc := 3) F dX8_count_3 (by decide) ?_
  replace h := bnd_some h
  obtain ⟨x2, hc1, h⟩ := h
  refine a_callS (pc := 5) (As := [.int p1, .int 0, .int 12]) (st := [.ref (ga X.G 162)]) F dX8_count_5 (m_X8_within hc1) cs_RX8_38 rfl rfl rfl (Nat.le_of_ble_eq_true rfl) ⟨Nat.le_of_ble_eq_true rfl, Nat.le_of_ble_eq_true rfl⟩ ?_ rfl rfl
  clear hc1
  replace h := bnd_some h
  obtain ⟨x5, hR3, h⟩ := h
  have hJ3 : WA X 0 0 16 [(0, .ref (ga X.G 162)), (1, .int p1)] [.int x5, .ref (ga X.G 162)] m0 (EQ X (some (.int rr)) mm) := by
    refine a_puti (k := 162) (pc := 16) F dX8_count_16 fp_RX8_31 kl_162 ks_162 rfl ?_
    refine a_nmm fun m6 em6 => ?_
    replace h := nm_at em6 h
    clear em6
    refine a_aload_n (pc := 19) F dX8_count_19 0 rfl ?_
    refine a_geti (k := 162) (pc := 20) F dX8_count_20 fl_RX8_31 kl_162 ks_162 rfl ?_
    refine a_if_le (tgt := 30) (pc := 23) F dX8_count_23 (by decide) (fun q7 => ?_) (fun q7 => ?_)
    · replace h := ite_t q7 h
      clear q7
      refine a_aload_n (pc := 30) F dX8_count_30 0 rfl ?_
      refine a_iload_n (pc := 31) F dX8_count_31 1 rfl ?_
      replace h := bnd_some h
      obtain ⟨x9, hc8, h⟩ := h
      refine a_callV (pc := 32) (k := 162) (As := [.int p1]) (st := []) F dX8_count_32 (m_X8_counted hc8) cv_RX8_199 kl_162 ks_162 ⟨_, _, rfl⟩ rfl rfl rfl (Nat.le_of_ble_eq_true rfl) ⟨Nat.le_of_ble_eq_true rfl, Nat.le_of_ble_eq_true rfl⟩ ?_ rfl rfl
      clear hc8
      cases h
      exact a_iret (pc := 35) F dX8_count_35 ⟨_, rfl, rfl⟩
    · replace h := ite_f q7 h
      clear q7
      refine a_iconst (v := 0) (pc := 26) F dX8_count_26 (by decide) ?_
      refine a_goto (tgt := 35) (pc := 27) F dX8_count_27 (by decide) ?_
      cases h
      exact a_iret (pc := 35) F dX8_count_35 ⟨_, rfl, rfl⟩
  clear h
  have h := hR3
  clear hR3
  refine a_if_eq (tgt := 15) (pc := 8) F dX8_count_8 (by decide) (fun q4 => ?_) (fun q4 => ?_)
  · replace h := ite_t q4 h
    clear q4
    refine a_iconst (v := 1) (pc := 15) F dX8_count_15 (by decide) ?_
    cases h
    exact hJ3
  · replace h := ite_f q4 h
    clear q4
    refine a_iconst (v := 0) (pc := 11) F dX8_count_11 (by decide) ?_
    refine a_goto (tgt := 16) (pc := 12) F dX8_count_12 (by decide) ?_
    cases h
    exact hJ3
def f_X8_setting (p1 : Int32) (m0 : Mem) : Option (Int32 × Mem) :=
  bnd (f_X8_isSetting p1 m0) fun x2 => bnd ((if x2 = 0 then some 1 else some 0)) (fun (x5 : Int32) => nm (si m0 162 5 x5) fun m6 => (if (m6.1 162 5) ≤ 0 then gIn (0 + p1) 373 <| nm (m6.1 163 (0 + p1).toNatClampNeg) fun x9 => some (x9, m6) else some (0, m6)))
set_option maxRecDepth 100000 in
set_option maxHeartbeats 4000000 in
theorem m_X8_setting {p1 : Int32} {m0 : Mem} {rr : Int32} {mm : Mem} (h : f_X8_setting p1 m0 = some (rr, mm)) : Con yX8_setting cX8_setting 2 (some Jvm.ClassFile.FieldType.int) 2 42 (fun G => [.ref (ga G 162), .int p1]) m0 (some (.int rr)) mm := by
  refine con_of (by decide) (fun G => Nat.le_of_ble_eq_true rfl) (fun X F => ?_)
  show WA X 0 0 0 [(0, .ref (ga X.G 162)), (1, .int p1)] [] m0 (EQ X (some (.int rr)) mm)
  rw [f_X8_setting] at h
  refine a_aload_n (pc := 0) F dX8_setting_0 0 rfl ?_
  refine a_iload_n (pc := 1) F dX8_setting_1 1 rfl ?_
  replace h := bnd_some h
  obtain ⟨x2, hc1, h⟩ := h
  refine a_callS (pc := 2) (As := [.int p1]) (st := [.ref (ga X.G 162)]) F dX8_setting_2 (m_X8_isSetting hc1) cs_RX8_85 rfl rfl rfl (Nat.le_of_ble_eq_true rfl) ⟨Nat.le_of_ble_eq_true rfl, Nat.le_of_ble_eq_true rfl⟩ ?_ rfl rfl
  clear hc1
  replace h := bnd_some h
  obtain ⟨x5, hR3, h⟩ := h
  have hJ3 : WA X 0 0 13 [(0, .ref (ga X.G 162)), (1, .int p1)] [.int x5, .ref (ga X.G 162)] m0 (EQ X (some (.int rr)) mm) := by
    refine a_puti (k := 162) (pc := 13) F dX8_setting_13 fp_RX8_31 kl_162 ks_162 rfl ?_
    refine a_nmm fun m6 em6 => ?_
    replace h := nm_at em6 h
    clear em6
    refine a_aload_n (pc := 16) F dX8_setting_16 0 rfl ?_
    refine a_geti (k := 162) (pc := 17) F dX8_setting_17 fl_RX8_31 kl_162 ks_162 rfl ?_
    refine a_if_le (tgt := 27) (pc := 20) F dX8_setting_20 (by decide) (fun q7 => ?_) (fun q7 => ?_)
    · replace h := ite_t q7 h
      clear q7
      refine a_aload_n (pc := 27) F dX8_setting_27 0 rfl ?_
      refine a_getr (k := 162) (r := 163) (pc := 28) F dX8_setting_28 fl_RX8_7 kl_162 ks_162 rfl ?_
      refine a_iconst (v := 0) (pc := 31) F dX8_setting_31 (by decide) ?_
      refine a_iload_n (pc := 32) F dX8_setting_32 1 rfl ?_
      refine a_iadd (pc := 33) F dX8_setting_33 ?_
      replace h := gIn_some h
      obtain ⟨g8, h⟩ := h
      refine a_ial (k := 163) (pc := 34) F dX8_setting_34 kl_163 ks_163 g8 ?_
      refine a_nmi fun x9 ex9 => ?_
      replace h := nm_at ex9 h
      clear ex9
      cases h
      exact a_iret (pc := 35) F dX8_setting_35 ⟨_, rfl, rfl⟩
    · replace h := ite_f q7 h
      clear q7
      refine a_iconst (v := 0) (pc := 23) F dX8_setting_23 (by decide) ?_
      refine a_goto (tgt := 35) (pc := 24) F dX8_setting_24 (by decide) ?_
      cases h
      exact a_iret (pc := 35) F dX8_setting_35 ⟨_, rfl, rfl⟩
  clear h
  have h := hR3
  clear hR3
  refine a_if_eq (tgt := 12) (pc := 5) F dX8_setting_5 (by decide) (fun q4 => ?_) (fun q4 => ?_)
  · replace h := ite_t q4 h
    clear q4
    refine a_iconst (v := 1) (pc := 12) F dX8_setting_12 (by decide) ?_
    cases h
    exact hJ3
  · replace h := ite_f q4 h
    clear q4
    refine a_iconst (v := 0) (pc := 8) F dX8_setting_8 (by decide) ?_
    refine a_goto (tgt := 13) (pc := 9) F dX8_setting_9 (by decide) ?_
    cases h
    exact hJ3
def f_X8_whyNot (p1 : Int32) (p2 : Int32) (p3 : Int32) (p4 : Int32) (m0 : Mem) : Option (Int32 × Mem) :=
  bnd2 (f_X8_refusedChain p1 p2 p3 p4 m0) fun x2 m3 => nm (si m3 162 5 x2) fun m4 => (if (m4.1 162 5) ≤ 0 then bnd (f_X8_reason p1 m4) fun x7 => some (x7, m4) else some (0, m4))
set_option maxRecDepth 100000 in
set_option maxHeartbeats 4000000 in
theorem m_X8_whyNot {p1 : Int32} {p2 : Int32} {p3 : Int32} {p4 : Int32} {m0 : Mem} {rr : Int32} {mm : Mem} (h : f_X8_whyNot p1 p2 p3 p4 m0 = some (rr, mm)) : Con yX8_whyNot cX8_whyNot 5 (some Jvm.ClassFile.FieldType.int) 6 133 (fun G => [.ref (ga G 162), .int p1, .int p2, .int p3, .int p4]) m0 (some (.int rr)) mm := by
  refine con_of (by decide) (fun G => Nat.le_of_ble_eq_true rfl) (fun X F => ?_)
  show WA X 0 0 0 [(0, .ref (ga X.G 162)), (1, .int p1), (2, .int p2), (3, .int p3), (4, .int p4)] [] m0 (EQ X (some (.int rr)) mm)
  rw [f_X8_whyNot] at h
  refine a_aload_n (pc := 0) F dX8_whyNot_0 0 rfl ?_
  refine a_aload_n (pc := 1) F dX8_whyNot_1 0 rfl ?_
  refine a_iload_n (pc := 2) F dX8_whyNot_2 1 rfl ?_
  refine a_iload_n (pc := 3) F dX8_whyNot_3 2 rfl ?_
  refine a_iload_n (pc := 4) F dX8_whyNot_4 3 rfl ?_
  refine a_iload (pc := 5) F dX8_whyNot_5 4 rfl ?_
  replace h := bnd2_some h
  obtain ⟨x2, m3, hc1, h⟩ := h
  refine a_callV (pc := 7) (k := 162) (As := [.int p1, .int p2, .int p3, .int p4]) (st := [.ref (ga X.G 162)]) F dX8_whyNot_7 (m_X8_refusedChain hc1) cv_RX8_115 kl_162 ks_162 ⟨_, _, rfl⟩ rfl rfl rfl (Nat.le_of_ble_eq_true rfl) ⟨Nat.le_of_ble_eq_true rfl, Nat.le_of_ble_eq_true rfl⟩ ?_ rfl rfl
  clear hc1
  refine a_puti (k := 162) (pc := 10) F dX8_whyNot_10 fp_RX8_31 kl_162 ks_162 rfl ?_
  refine a_nmm fun m4 em4 => ?_
  replace h := nm_at em4 h
  clear em4
  refine a_aload_n (pc := 13) F dX8_whyNot_13 0 rfl ?_
  refine a_geti (k := 162) (pc := 14) F dX8_whyNot_14 fl_RX8_31 kl_162 ks_162 rfl ?_
  refine a_if_le (tgt := 24) (pc := 17) F dX8_whyNot_17 (by decide) (fun q5 => ?_) (fun q5 => ?_)
  · replace h := ite_t q5 h
    clear q5
    refine a_aload_n (pc := 24) F dX8_whyNot_24 0 rfl ?_
    refine a_iload_n (pc := 25) F dX8_whyNot_25 1 rfl ?_
    replace h := bnd_some h
    obtain ⟨x7, hc6, h⟩ := h
    refine a_callV (pc := 26) (k := 162) (As := [.int p1]) (st := []) F dX8_whyNot_26 (m_X8_reason hc6) cv_RX8_118 kl_162 ks_162 ⟨_, _, rfl⟩ rfl rfl rfl (Nat.le_of_ble_eq_true rfl) ⟨Nat.le_of_ble_eq_true rfl, Nat.le_of_ble_eq_true rfl⟩ ?_ rfl rfl
    clear hc6
    cases h
    exact a_iret (pc := 29) F dX8_whyNot_29 ⟨_, rfl, rfl⟩
  · replace h := ite_f q5 h
    clear q5
    refine a_iconst (v := 0) (pc := 20) F dX8_whyNot_20 (by decide) ?_
    refine a_goto (tgt := 29) (pc := 21) F dX8_whyNot_21 (by decide) ?_
    cases h
    exact a_iret (pc := 29) F dX8_whyNot_29 ⟨_, rfl, rfl⟩
def f_X8_tryChain_L67 : (Int32 × Mem) → Option ((Int32 × Mem) ⊕ Mem)
  | (x18, m19) => (if 3 ≤ x18 then some (.inr m19) else gIn x18 3 <| nm (m19.1 166 x18.toNatClampNeg) fun x22 => gIn x18 3 <| nm (si m19 168 x18.toNatClampNeg x22) fun m24 => nm (x18 + 1) fun x25 => some (.inl (x25, m24)))
def f_X8_tryChain_L4 (p1 : Int32) (m0 : Mem) : (Int32 × Int32) → Option ((Int32 × Int32) ⊕ Int32)
  | (x2, x3) => (if (m0.1 162 7) ≤ x3 then some (.inr x2) else gIn x3 3 <| nm (m0.1 166 x3.toNatClampNeg) fun x6 => bnd (f_X8_earns x6 p1 (m0.1 162 7) m0) fun x8 => nm (x3 + 1) fun x9 => some (.inl (x2 + x8, x9)))
def f_X8_tryChain (p1 : Int32) (m0 : Mem) : Option Mem :=
  bnd (lp (f_X8_tryChain_L4 p1 m0) 1000000 (0, 0)) (fun x10 => (if (m0.1 162 12) ≤ x10 then some m0 else bnd (f_X8_reason p1 m0) fun x13 => (if x13 = 0 then nm (si m0 162 12 x10) fun m15 => nm (si m15 162 13 (m15.1 162 7)) fun m16 => bnd (lp (f_X8_tryChain_L67) 1000000 (0, m16)) (fun m26 => some m26) else some m0)))
set_option maxRecDepth 100000 in
set_option maxHeartbeats 4000000 in
theorem m_X8_tryChain {p1 : Int32} {m0 : Mem} {mm : Mem} (h : f_X8_tryChain p1 m0 = some mm) : Con yX8_tryChain cX8_tryChain 4 none 6 133 (fun G => [.ref (ga G 162), .int p1]) m0 none mm := by
  refine con_of (by decide) (fun G => Nat.le_of_ble_eq_true rfl) (fun X F => ?_)
  show WA X 0 0 0 [(0, .ref (ga X.G 162)), (1, .int p1)] [] m0 (EQ X none mm)
  rw [f_X8_tryChain] at h
  refine a_iconst (v := 0) (pc := 0) F dX8_tryChain_0 (by decide) ?_
  refine a_istore_n (lv' := [(2, .int 0), (0, .ref (ga X.G 162)), (1, .int p1)]) (pc := 1) F dX8_tryChain_1 (by decide) rfl ?_
  refine a_iconst (v := 0) (pc := 2) F dX8_tryChain_2 (by decide) ?_
  refine a_istore_n (lv' := [(3, .int 0), (2, .int 0), (0, .ref (ga X.G 162)), (1, .int p1)]) (pc := 3) F dX8_tryChain_3 (by decide) rfl ?_
  refine a_lv F [2, 3, 1, 0] rfl ?_
  replace h := bnd_some h
  obtain ⟨x10, hL1, h⟩ := h
  have hE1 : WA X 0 0 36 [(0, .ref (ga X.G 162)), (1, .int p1), (2, .int x10)] [] m0 (EQ X none mm) := by
    refine a_iload_n (pc := 36) F dX8_tryChain_36 2 rfl ?_
    refine a_aload_n (pc := 37) F dX8_tryChain_37 0 rfl ?_
    refine a_geti (k := 162) (pc := 38) F dX8_tryChain_38 fl_RX8_202 kl_162 ks_162 rfl ?_
    refine a_icmp_ge (tgt := 90) (pc := 41) F dX8_tryChain_41 (by decide) (fun q11 => ?_) (fun q11 => ?_)
    · replace h := ite_t q11 h
      clear q11
      cases h
      exact a_vret (pc := 90) F dX8_tryChain_90 rfl
    · replace h := ite_f q11 h
      clear q11
      refine a_aload_n (pc := 44) F dX8_tryChain_44 0 rfl ?_
      refine a_iload_n (pc := 45) F dX8_tryChain_45 1 rfl ?_
      replace h := bnd_some h
      obtain ⟨x13, hc12, h⟩ := h
      refine a_callV (pc := 46) (k := 162) (As := [.int p1]) (st := []) F dX8_tryChain_46 (m_X8_reason hc12) cv_RX8_118 kl_162 ks_162 ⟨_, _, rfl⟩ rfl rfl rfl (Nat.le_of_ble_eq_true rfl) ⟨Nat.le_of_ble_eq_true rfl, Nat.le_of_ble_eq_true rfl⟩ ?_ rfl rfl
      clear hc12
      refine a_if_ne (tgt := 90) (pc := 49) F dX8_tryChain_49 (by decide) (fun q14 => ?_) (fun q14 => ?_)
      · replace h := ite_f q14 h
        clear q14
        cases h
        exact a_vret (pc := 90) F dX8_tryChain_90 rfl
      · replace h := ite_t (Decidable.not_not.mp q14) h
        clear q14
        refine a_aload_n (pc := 52) F dX8_tryChain_52 0 rfl ?_
        refine a_iload_n (pc := 53) F dX8_tryChain_53 2 rfl ?_
        refine a_puti (k := 162) (pc := 54) F dX8_tryChain_54 fp_RX8_202 kl_162 ks_162 rfl ?_
        refine a_nmm fun m15 em15 => ?_
        replace h := nm_at em15 h
        clear em15
        refine a_aload_n (pc := 57) F dX8_tryChain_57 0 rfl ?_
        refine a_aload_n (pc := 58) F dX8_tryChain_58 0 rfl ?_
        refine a_geti (k := 162) (pc := 59) F dX8_tryChain_59 fl_RX8_91 kl_162 ks_162 rfl ?_
        refine a_puti (k := 162) (pc := 62) F dX8_tryChain_62 fp_RX8_205 kl_162 ks_162 rfl ?_
        refine a_nmm fun m16 em16 => ?_
        replace h := nm_at em16 h
        clear em16
        refine a_iconst (v := 0) (pc := 65) F dX8_tryChain_65 (by decide) ?_
        refine a_istore_n (lv' := [(3, .int 0), (0, .ref (ga X.G 162)), (1, .int p1), (2, .int x10)]) (pc := 66) F dX8_tryChain_66 (by decide) rfl ?_
        refine a_lv F [1, 0] rfl ?_
        replace h := bnd_some h
        obtain ⟨m26, hL17, h⟩ := h
        have hE17 : WA X 0 0 90 [] [] m26 (EQ X none mm) := by
          cases h
          exact a_vret (pc := 90) F dX8_tryChain_90 rfl
        clear h
        refine lp_run (P := fun (s : (Int32 × Mem)) => WA X 0 0 67 [(0, .ref (ga X.G 162)), (3, .int s.1)] [] s.2 (EQ X none mm)) ?_ _ _ hL17
        clear hL17
        rintro ⟨x18, m19⟩ xo h hP17 hT17
        show WA X 0 0 67 [(0, .ref (ga X.G 162)), (3, .int x18)] [] m19 (EQ X none mm)
        rw [f_X8_tryChain_L67] at h
        refine a_iload_n (pc := 67) F dX8_tryChain_67 1 rfl ?_
        refine a_iconst (v := 3) (pc := 68) F dX8_tryChain_68 (by decide) ?_
        refine a_icmp_ge (tgt := 90) (pc := 69) F dX8_tryChain_69 (by decide) (fun q20 => ?_) (fun q20 => ?_)
        · replace h := ite_t q20 h
          clear q20
          refine a_lv F [] rfl ?_
          cases hT17 _ (Option.some.inj h).symm
          exact hE17
        · replace h := ite_f q20 h
          clear q20
          refine a_aload_n (pc := 72) F dX8_tryChain_72 0 rfl ?_
          refine a_getr (k := 162) (r := 168) (pc := 73) F dX8_tryChain_73 fl_RX8_25 kl_162 ks_162 rfl ?_
          refine a_iload_n (pc := 76) F dX8_tryChain_76 1 rfl ?_
          refine a_aload_n (pc := 77) F dX8_tryChain_77 0 rfl ?_
          refine a_getr (k := 162) (r := 166) (pc := 78) F dX8_tryChain_78 fl_RX8_19 kl_162 ks_162 rfl ?_
          refine a_iload_n (pc := 81) F dX8_tryChain_81 1 rfl ?_
          replace h := gIn_some h
          obtain ⟨g21, h⟩ := h
          refine a_ial (k := 166) (pc := 82) F dX8_tryChain_82 kl_166 ks_166 g21 ?_
          refine a_nmi fun x22 ex22 => ?_
          replace h := nm_at ex22 h
          clear ex22
          replace h := gIn_some h
          obtain ⟨g23, h⟩ := h
          refine a_ias (k := 168) (pc := 83) F dX8_tryChain_83 kl_168 ks_168 g23 ?_
          refine a_nmm fun m24 em24 => ?_
          replace h := nm_at em24 h
          clear em24
          obtain ⟨x25, ex25⟩ : ∃ x25 : Int32, x25 = x18 + 1 := ⟨_, rfl⟩
          refine a_iinc (v := x25) (lv' := [(3, .int x25), (0, .ref (ga X.G 162))]) (pc := 84) F dX8_tryChain_84 1 rfl (by rw [ex25]; rfl) (by decide) rfl ?_
          replace h := nm_at ex25 h
          clear ex25
          refine a_goto (tgt := 67) (pc := 87) F dX8_tryChain_87 (by decide) ?_
          refine a_lv F [1, 0] rfl ?_
          exact hP17 _ (Option.some.inj h).symm
  clear h
  refine lp_run (P := fun (s : (Int32 × Int32)) => WA X 0 0 4 [(0, .ref (ga X.G 162)), (1, .int p1), (2, .int s.1), (3, .int s.2)] [] m0 (EQ X none mm)) ?_ _ _ hL1
  clear hL1
  rintro ⟨x2, x3⟩ xo h hP1 hT1
  show WA X 0 0 4 [(0, .ref (ga X.G 162)), (1, .int p1), (2, .int x2), (3, .int x3)] [] m0 (EQ X none mm)
  rw [f_X8_tryChain_L4] at h
  refine a_iload_n (pc := 4) F dX8_tryChain_4 3 rfl ?_
  refine a_aload_n (pc := 5) F dX8_tryChain_5 0 rfl ?_
  refine a_geti (k := 162) (pc := 6) F dX8_tryChain_6 fl_RX8_91 kl_162 ks_162 rfl ?_
  refine a_icmp_ge (tgt := 36) (pc := 9) F dX8_tryChain_9 (by decide) (fun q4 => ?_) (fun q4 => ?_)
  · replace h := ite_t q4 h
    clear q4
    refine a_lv F [0, 1, 2] rfl ?_
    cases hT1 _ (Option.some.inj h).symm
    exact hE1
  · replace h := ite_f q4 h
    clear q4
    refine a_iload_n (pc := 12) F dX8_tryChain_12 2 rfl ?_
    refine a_aload_n (pc := 13) F dX8_tryChain_13 0 rfl ?_
    refine a_aload_n (pc := 14) F dX8_tryChain_14 0 rfl ?_
    refine a_getr (k := 162) (r := 166) (pc := 15) F dX8_tryChain_15 fl_RX8_19 kl_162 ks_162 rfl ?_
    refine a_iload_n (pc := 18) F dX8_tryChain_18 3 rfl ?_
    replace h := gIn_some h
    obtain ⟨g5, h⟩ := h
    refine a_ial (k := 166) (pc := 19) F dX8_tryChain_19 kl_166 ks_166 g5 ?_
    refine a_nmi fun x6 ex6 => ?_
    replace h := nm_at ex6 h
    clear ex6
    refine a_iload_n (pc := 20) F dX8_tryChain_20 1 rfl ?_
    refine a_aload_n (pc := 21) F dX8_tryChain_21 0 rfl ?_
    refine a_geti (k := 162) (pc := 22) F dX8_tryChain_22 fl_RX8_91 kl_162 ks_162 rfl ?_
    replace h := bnd_some h
    obtain ⟨x8, hc7, h⟩ := h
    refine a_callV (pc := 25) (k := 162) (As := [.int x6, .int p1, .int (m0.1 162 7)]) (st := [.int x2]) F dX8_tryChain_25 (m_X8_earns hc7) cv_RX8_61 kl_162 ks_162 ⟨_, _, rfl⟩ rfl rfl rfl (Nat.le_of_ble_eq_true rfl) ⟨Nat.le_of_ble_eq_true rfl, Nat.le_of_ble_eq_true rfl⟩ ?_ rfl rfl
    clear hc7
    refine a_iadd (pc := 28) F dX8_tryChain_28 ?_
    refine a_istore_n (lv' := [(2, .int (x2 + x8)), (0, .ref (ga X.G 162)), (1, .int p1), (3, .int x3)]) (pc := 29) F dX8_tryChain_29 (by decide) rfl ?_
    obtain ⟨x9, ex9⟩ : ∃ x9 : Int32, x9 = x3 + 1 := ⟨_, rfl⟩
    refine a_iinc (v := x9) (lv' := [(3, .int x9), (2, .int (x2 + x8)), (0, .ref (ga X.G 162)), (1, .int p1)]) (pc := 30) F dX8_tryChain_30 3 rfl (by rw [ex9]; rfl) (by decide) rfl ?_
    replace h := nm_at ex9 h
    clear ex9
    refine a_goto (tgt := 4) (pc := 33) F dX8_tryChain_33 (by decide) ?_
    refine a_lv F [2, 3, 1, 0] rfl ?_
    exact hP1 _ (Option.some.inj h).symm
def f_X8_layCheapest_L38 (p1 : Int32) (x3 : Int32) (x9 : Int32) : (Int32 × Mem) → Option ((Int32 × Mem) ⊕ Mem)
  | (x11, m12) => (if (x9 * (m12.1 163 7)) ≤ x11 then some (.inr m12) else gNz x9 <| bnd ((if x3 = 1 then some (-1) else (if x3 = 2 then some (x11 - x11 / 10 * 10) else nm ((x11 / 10) - (x11 / 10) / 10 * 10) fun x18 => some x18))) (fun (x19 : Int32) => bnd ((if 3 ≤ x3 then some (x11 - x11 / 10 * 10) else some (-1))) (fun (x22 : Int32) => bnd ((if x3 < 2 then (if x3 < 3 then some 1 else bnd (f_X8_isPerson x22 m12) fun x27 => (if x27 = 0 then some 0 else (if x22 = (x11 / x9) then some 0 else (if x22 = x19 then some 0 else some 1)))) else bnd (f_X8_isPerson x19 m12) fun x32 => (if x32 = 0 then some 0 else (if x19 = (x11 / x9) then some 0 else (if x3 < 3 then some 1 else bnd (f_X8_isPerson x22 m12) fun x37 => (if x37 = 0 then some 0 else (if x22 = (x11 / x9) then some 0 else (if x22 = x19 then some 0 else some 1)))))))) (fun (x41 : Int32) => (if x41 = 0 then nm (x11 + 1) fun x43 => some (.inl (x43, m12)) else bnd (f_X8_lay (x11 / x9) x19 x22 m12) fun m45 => bnd (f_X8_tryChain p1 m45) fun m47 => nm (x11 + 1) fun x48 => some (.inl (x48, m47)))))))
def f_X8_layCheapest_L8 (p1 : Int32) : (Int32 × Mem) → Option ((Int32 × Mem) ⊕ Mem)
  | (x3, m4) => (if 3 < x3 then some (.inr m4) else bnd ((if x3 = 1 then some 1 else (if x3 = 2 then some 10 else some 100))) (fun (x9 : Int32) => bnd (lp (f_X8_layCheapest_L38 p1 x3 x9) 1000000 (0, m4)) (fun m49 => nm (x3 + 1) fun x50 => some (.inl (x50, m49)))))
def f_X8_layCheapest (p1 : Int32) (m0 : Mem) : Option (Int32 × Mem) :=
  nm (si m0 162 12 1000000) fun m1 => bnd (lp (f_X8_layCheapest_L8 p1) 1000000 (1, m1)) (fun m51 => (if 1000000 ≤ (m51.1 162 12) then some (0, m51) else some (1, m51)))
set_option maxRecDepth 100000 in
set_option maxHeartbeats 4000000 in
theorem m_X8_layCheapest {p1 : Int32} {m0 : Mem} {rr : Int32} {mm : Mem} (h : f_X8_layCheapest p1 m0 = some (rr, mm)) : Con yX8_layCheapest cX8_layCheapest 9 (some Jvm.ClassFile.FieldType.boolean) 7 156 (fun G => [.ref (ga G 162), .int p1]) m0 (some (.int rr)) mm := by
  refine con_of (by decide) (fun G => Nat.le_of_ble_eq_true rfl) (fun X F => ?_)
  show WA X 0 0 0 [(0, .ref (ga X.G 162)), (1, .int p1)] [] m0 (EQ X (some (.int rr)) mm)
  rw [f_X8_layCheapest] at h
  refine a_aload_n (pc := 0) F dX8_layCheapest_0 0 rfl ?_
  refine a_ldc (v := 1000000) (pc := 1) F dX8_layCheapest_1 cw_RX8_208 ?_
  refine a_puti (k := 162) (pc := 3) F dX8_layCheapest_3 fp_RX8_202 kl_162 ks_162 rfl ?_
  refine a_nmm fun m1 em1 => ?_
  replace h := nm_at em1 h
  clear em1
  refine a_iconst (v := 1) (pc := 6) F dX8_layCheapest_6 (by decide) ?_
  refine a_istore_n (lv' := [(2, .int 1), (0, .ref (ga X.G 162)), (1, .int p1)]) (pc := 7) F dX8_layCheapest_7 (by decide) rfl ?_
  refine a_lv F [1, 2, 0] rfl ?_
  replace h := bnd_some h
  obtain ⟨m51, hL2, h⟩ := h
  have hE2 : WA X 0 0 194 [(0, .ref (ga X.G 162))] [] m51 (EQ X (some (.int rr)) mm) := by
    refine a_aload_n (pc := 194) F dX8_layCheapest_194 0 rfl ?_
    refine a_geti (k := 162) (pc := 195) F dX8_layCheapest_195 fl_RX8_202 kl_162 ks_162 rfl ?_
    refine a_ldc (v := 1000000) (pc := 198) F dX8_layCheapest_198 cw_RX8_208 ?_
    refine a_icmp_ge (tgt := 207) (pc := 200) F dX8_layCheapest_200 (by decide) (fun q52 => ?_) (fun q52 => ?_)
    · replace h := ite_t q52 h
      clear q52
      refine a_iconst (v := 0) (pc := 207) F dX8_layCheapest_207 (by decide) ?_
      cases h
      exact a_iret (pc := 208) F dX8_layCheapest_208 ⟨_, rfl, rfl⟩
    · replace h := ite_f q52 h
      clear q52
      refine a_iconst (v := 1) (pc := 203) F dX8_layCheapest_203 (by decide) ?_
      refine a_goto (tgt := 208) (pc := 204) F dX8_layCheapest_204 (by decide) ?_
      cases h
      exact a_iret (pc := 208) F dX8_layCheapest_208 ⟨_, rfl, rfl⟩
  clear h
  refine lp_run (P := fun (s : (Int32 × Mem)) => WA X 0 0 8 [(0, .ref (ga X.G 162)), (1, .int p1), (2, .int s.1)] [] s.2 (EQ X (some (.int rr)) mm)) ?_ _ _ hL2
  clear hL2
  rintro ⟨x3, m4⟩ xo h hP2 hT2
  show WA X 0 0 8 [(0, .ref (ga X.G 162)), (1, .int p1), (2, .int x3)] [] m4 (EQ X (some (.int rr)) mm)
  rw [f_X8_layCheapest_L8] at h
  refine a_iload_n (pc := 8) F dX8_layCheapest_8 2 rfl ?_
  refine a_iconst (v := 3) (pc := 9) F dX8_layCheapest_9 (by decide) ?_
  refine a_icmp_gt (tgt := 194) (pc := 10) F dX8_layCheapest_10 (by decide) (fun q5 => ?_) (fun q5 => ?_)
  · replace h := ite_t q5 h
    clear q5
    refine a_lv F [0] rfl ?_
    cases hT2 _ (Option.some.inj h).symm
    exact hE2
  · replace h := ite_f q5 h
    clear q5
    refine a_iload_n (pc := 13) F dX8_layCheapest_13 2 rfl ?_
    refine a_iconst (v := 1) (pc := 14) F dX8_layCheapest_14 (by decide) ?_
    replace h := bnd_some h
    obtain ⟨x9, hR6, h⟩ := h
    have hJ6 : WA X 0 0 34 [(0, .ref (ga X.G 162)), (1, .int p1), (2, .int x3)] [.int x9] m4 (EQ X (some (.int rr)) mm) := by
      refine a_istore_n (lv' := [(3, .int x9), (0, .ref (ga X.G 162)), (1, .int p1), (2, .int x3)]) (pc := 34) F dX8_layCheapest_34 (by decide) rfl ?_
      refine a_iconst (v := 0) (pc := 35) F dX8_layCheapest_35 (by decide) ?_
      refine a_istore (lv' := [(4, .int 0), (3, .int x9), (0, .ref (ga X.G 162)), (1, .int p1), (2, .int x3)]) (pc := 36) F dX8_layCheapest_36 (by decide) rfl ?_
      refine a_lv F [2, 3, 4, 1, 0] rfl ?_
      replace h := bnd_some h
      obtain ⟨m49, hL10, h⟩ := h
      have hE10 : WA X 0 0 188 [(0, .ref (ga X.G 162)), (1, .int p1), (2, .int x3)] [] m49 (EQ X (some (.int rr)) mm) := by
        obtain ⟨x50, ex50⟩ : ∃ x50 : Int32, x50 = x3 + 1 := ⟨_, rfl⟩
        refine a_iinc (v := x50) (lv' := [(2, .int x50), (0, .ref (ga X.G 162)), (1, .int p1)]) (pc := 188) F dX8_layCheapest_188 2 rfl (by rw [ex50]; rfl) (by decide) rfl ?_
        replace h := nm_at ex50 h
        clear ex50
        refine a_goto (tgt := 8) (pc := 191) F dX8_layCheapest_191 (by decide) ?_
        refine a_lv F [1, 2, 0] rfl ?_
        exact hP2 _ (Option.some.inj h).symm
      clear h
      refine lp_run (P := fun (s : (Int32 × Mem)) => WA X 0 0 38 [(0, .ref (ga X.G 162)), (1, .int p1), (2, .int x3), (3, .int x9), (4, .int s.1)] [] s.2 (EQ X (some (.int rr)) mm)) ?_ _ _ hL10
      clear hL10
      rintro ⟨x11, m12⟩ xo h hP10 hT10
      show WA X 0 0 38 [(0, .ref (ga X.G 162)), (1, .int p1), (2, .int x3), (3, .int x9), (4, .int x11)] [] m12 (EQ X (some (.int rr)) mm)
      rw [f_X8_layCheapest_L38] at h
      refine a_iload (pc := 38) F dX8_layCheapest_38 4 rfl ?_
      refine a_iload_n (pc := 40) F dX8_layCheapest_40 3 rfl ?_
      refine a_aload_n (pc := 41) F dX8_layCheapest_41 0 rfl ?_
      refine a_getr (k := 162) (r := 163) (pc := 42) F dX8_layCheapest_42 fl_RX8_7 kl_162 ks_162 rfl ?_
      refine a_bipush (v := 7) (pc := 45) F dX8_layCheapest_45 (by decide) ?_
      refine a_ialc (k := 163) (pc := 47) F dX8_layCheapest_47 kl_163 ks_163 rfl rfl ?_
      refine a_imul (pc := 48) F dX8_layCheapest_48 ?_
      refine a_icmp_ge (tgt := 188) (pc := 49) F dX8_layCheapest_49 (by decide) (fun q13 => ?_) (fun q13 => ?_)
      · replace h := ite_t q13 h
        clear q13
        refine a_lv F [0, 1, 2] rfl ?_
        cases hT10 _ (Option.some.inj h).symm
        exact hE10
      · replace h := ite_f q13 h
        clear q13
        refine a_iload (pc := 52) F dX8_layCheapest_52 4 rfl ?_
        refine a_iload_n (pc := 54) F dX8_layCheapest_54 3 rfl ?_
        replace h := gNz_some h
        obtain ⟨g14, h⟩ := h
        refine a_idiv (pc := 55) F dX8_layCheapest_55 g14 ?_
        refine a_istore (lv' := [(5, .int (x11 / x9)), (0, .ref (ga X.G 162)), (1, .int p1), (2, .int x3), (3, .int x9), (4, .int x11)]) (pc := 56) F dX8_layCheapest_56 (by decide) rfl ?_
        refine a_iload_n (pc := 58) F dX8_layCheapest_58 3 rfl ?_
        refine a_iconst (v := 1) (pc := 59) F dX8_layCheapest_59 (by decide) ?_
        replace h := bnd_some h
        obtain ⟨x19, hR15, h⟩ := h
        have hJ15 : WA X 0 0 88 [(0, .ref (ga X.G 162)), (1, .int p1), (2, .int x3), (3, .int x9), (4, .int x11), (5, .int (x11 / x9))] [.int x19] m12 (EQ X (some (.int rr)) mm) := by
          refine a_istore (lv' := [(6, .int x19), (0, .ref (ga X.G 162)), (1, .int p1), (2, .int x3), (3, .int x9), (4, .int x11), (5, .int (x11 / x9))]) (pc := 88) F dX8_layCheapest_88 (by decide) rfl ?_
          refine a_iload_n (pc := 90) F dX8_layCheapest_90 3 rfl ?_
          refine a_iconst (v := 3) (pc := 91) F dX8_layCheapest_91 (by decide) ?_
          replace h := bnd_some h
          obtain ⟨x22, hR20, h⟩ := h
          have hJ20 : WA X 0 0 104 [(0, .ref (ga X.G 162)), (1, .int p1), (2, .int x3), (3, .int x9), (4, .int x11), (5, .int (x11 / x9)), (6, .int x19)] [.int x22] m12 (EQ X (some (.int rr)) mm) := by
            refine a_istore (lv' := [(7, .int x22), (0, .ref (ga X.G 162)), (1, .int p1), (2, .int x3), (3, .int x9), (4, .int x11), (5, .int (x11 / x9)), (6, .int x19)]) (pc := 104) F dX8_layCheapest_104 (by decide) rfl ?_
            refine a_iload_n (pc := 106) F dX8_layCheapest_106 3 rfl ?_
            refine a_iconst (v := 2) (pc := 107) F dX8_layCheapest_107 (by decide) ?_
            replace h := bnd_some h
            obtain ⟨x41, hR23, h⟩ := h
            have hJ23 : WA X 0 0 160 [(0, .ref (ga X.G 162)), (1, .int p1), (2, .int x3), (3, .int x9), (4, .int x11), (5, .int (x11 / x9)), (6, .int x19), (7, .int x22)] [.int x41] m12 (EQ X (some (.int rr)) mm) := by
              refine a_istore (lv' := [(8, .int x41), (0, .ref (ga X.G 162)), (1, .int p1), (2, .int x3), (3, .int x9), (4, .int x11), (5, .int (x11 / x9)), (6, .int x19), (7, .int x22)]) (pc := 160) F dX8_layCheapest_160 (by decide) rfl ?_
              refine a_iload (pc := 162) F dX8_layCheapest_162 0 rfl ?_
              refine a_if_eq (tgt := 182) (pc := 164) F dX8_layCheapest_164 (by decide) (fun q42 => ?_) (fun q42 => ?_)
              · replace h := ite_t q42 h
                clear q42
                obtain ⟨x43, ex43⟩ : ∃ x43 : Int32, x43 = x11 + 1 := ⟨_, rfl⟩
                refine a_iinc (v := x43) (lv' := [(4, .int x43), (8, .int x41), (0, .ref (ga X.G 162)), (1, .int p1), (2, .int x3), (3, .int x9), (5, .int (x11 / x9)), (6, .int x19), (7, .int x22)]) (pc := 182) F dX8_layCheapest_182 5 rfl (by rw [ex43]; rfl) (by decide) rfl ?_
                replace h := nm_at ex43 h
                clear ex43
                refine a_goto (tgt := 38) (pc := 185) F dX8_layCheapest_185 (by decide) ?_
                refine a_lv F [2, 3, 4, 5, 0] rfl ?_
                exact hP10 _ (Option.some.inj h).symm
              · replace h := ite_f q42 h
                clear q42
                refine a_aload_n (pc := 167) F dX8_layCheapest_167 1 rfl ?_
                refine a_iload (pc := 168) F dX8_layCheapest_168 6 rfl ?_
                refine a_iload (pc := 170) F dX8_layCheapest_170 7 rfl ?_
                refine a_iload (pc := 172) F dX8_layCheapest_172 8 rfl ?_
                replace h := bnd_some h
                obtain ⟨m45, hc44, h⟩ := h
                refine a_callV (pc := 174) (k := 162) (As := [.int (x11 / x9), .int x19, .int x22]) (st := []) F dX8_layCheapest_174 (m_X8_lay hc44) cv_RX8_112 kl_162 ks_162 ⟨_, _, rfl⟩ rfl rfl rfl (Nat.le_of_ble_eq_true rfl) ⟨Nat.le_of_ble_eq_true rfl, Nat.le_of_ble_eq_true rfl⟩ ?_ rfl rfl
                clear hc44
                refine a_aload_n (pc := 177) F dX8_layCheapest_177 1 rfl ?_
                refine a_iload_n (pc := 178) F dX8_layCheapest_178 2 rfl ?_
                replace h := bnd_some h
                obtain ⟨m47, hc46, h⟩ := h
                refine a_callV (pc := 179) (k := 162) (As := [.int p1]) (st := []) F dX8_layCheapest_179 (m_X8_tryChain hc46) cv_RX8_209 kl_162 ks_162 ⟨_, _, rfl⟩ rfl rfl rfl (Nat.le_of_ble_eq_true rfl) ⟨Nat.le_of_ble_eq_true rfl, Nat.le_of_ble_eq_true rfl⟩ ?_ rfl rfl
                clear hc46
                obtain ⟨x48, ex48⟩ : ∃ x48 : Int32, x48 = x11 + 1 := ⟨_, rfl⟩
                refine a_iinc (v := x48) (lv' := [(4, .int x48), (8, .int x41), (0, .ref (ga X.G 162)), (1, .int p1), (2, .int x3), (3, .int x9), (5, .int (x11 / x9)), (6, .int x19), (7, .int x22)]) (pc := 182) F dX8_layCheapest_182 5 rfl (by rw [ex48]; rfl) (by decide) rfl ?_
                replace h := nm_at ex48 h
                clear ex48
                refine a_goto (tgt := 38) (pc := 185) F dX8_layCheapest_185 (by decide) ?_
                refine a_lv F [2, 3, 4, 5, 0] rfl ?_
                exact hP10 _ (Option.some.inj h).symm
            clear h
            have h := hR23
            clear hR23
            refine a_icmp_lt (tgt := 127) (pc := 108) F dX8_layCheapest_108 (by decide) (fun q24 => ?_) (fun q24 => ?_)
            · replace h := ite_t q24 h
              clear q24
              refine a_iload_n (pc := 127) F dX8_layCheapest_127 3 rfl ?_
              refine a_iconst (v := 3) (pc := 128) F dX8_layCheapest_128 (by decide) ?_
              refine a_icmp_lt (tgt := 155) (pc := 129) F dX8_layCheapest_129 (by decide) (fun q25 => ?_) (fun q25 => ?_)
              · replace h := ite_t q25 h
                clear q25
                refine a_iconst (v := 1) (pc := 155) F dX8_layCheapest_155 (by decide) ?_
                refine a_goto (tgt := 160) (pc := 156) F dX8_layCheapest_156 (by decide) ?_
                refine a_lv F [1, 2, 3, 4, 5, 6, 7, 0] rfl ?_
                cases h
                exact hJ23
              · replace h := ite_f q25 h
                clear q25
                refine a_aload_n (pc := 132) F dX8_layCheapest_132 1 rfl ?_
                refine a_iload (pc := 133) F dX8_layCheapest_133 0 rfl ?_
                replace h := bnd_some h
                obtain ⟨x27, hc26, h⟩ := h
                refine a_callV (pc := 135) (k := 162) (As := [.int x22]) (st := []) F dX8_layCheapest_135 (m_X8_isPerson hc26) cv_RX8_82 kl_162 ks_162 ⟨_, _, rfl⟩ rfl rfl rfl (Nat.le_of_ble_eq_true rfl) ⟨Nat.le_of_ble_eq_true rfl, Nat.le_of_ble_eq_true rfl⟩ ?_ rfl rfl
                clear hc26
                refine a_if_eq (tgt := 159) (pc := 138) F dX8_layCheapest_138 (by decide) (fun q28 => ?_) (fun q28 => ?_)
                · replace h := ite_t q28 h
                  clear q28
                  refine a_iconst (v := 0) (pc := 159) F dX8_layCheapest_159 (by decide) ?_
                  refine a_lv F [1, 2, 3, 4, 5, 6, 7, 0] rfl ?_
                  cases h
                  exact hJ23
                · replace h := ite_f q28 h
                  clear q28
                  refine a_iload (pc := 141) F dX8_layCheapest_141 0 rfl ?_
                  refine a_iload (pc := 143) F dX8_layCheapest_143 6 rfl ?_
                  refine a_icmp_eq (tgt := 159) (pc := 145) F dX8_layCheapest_145 (by decide) (fun q29 => ?_) (fun q29 => ?_)
                  · replace h := ite_t q29 h
                    clear q29
                    refine a_iconst (v := 0) (pc := 159) F dX8_layCheapest_159 (by decide) ?_
                    refine a_lv F [1, 2, 3, 4, 5, 6, 7, 0] rfl ?_
                    cases h
                    exact hJ23
                  · replace h := ite_f q29 h
                    clear q29
                    refine a_iload (pc := 148) F dX8_layCheapest_148 0 rfl ?_
                    refine a_iload (pc := 150) F dX8_layCheapest_150 7 rfl ?_
                    refine a_icmp_eq (tgt := 159) (pc := 152) F dX8_layCheapest_152 (by decide) (fun q30 => ?_) (fun q30 => ?_)
                    · replace h := ite_t q30 h
                      clear q30
                      refine a_iconst (v := 0) (pc := 159) F dX8_layCheapest_159 (by decide) ?_
                      refine a_lv F [1, 2, 3, 4, 5, 6, 7, 0] rfl ?_
                      cases h
                      exact hJ23
                    · replace h := ite_f q30 h
                      clear q30
                      refine a_iconst (v := 1) (pc := 155) F dX8_layCheapest_155 (by decide) ?_
                      refine a_goto (tgt := 160) (pc := 156) F dX8_layCheapest_156 (by decide) ?_
                      refine a_lv F [1, 2, 3, 4, 5, 6, 7, 0] rfl ?_
                      cases h
                      exact hJ23
            · replace h := ite_f q24 h
              clear q24
              refine a_aload_n (pc := 111) F dX8_layCheapest_111 1 rfl ?_
              refine a_iload (pc := 112) F dX8_layCheapest_112 7 rfl ?_
              replace h := bnd_some h
              obtain ⟨x32, hc31, h⟩ := h
              refine a_callV (pc := 114) (k := 162) (As := [.int x19]) (st := []) F dX8_layCheapest_114 (m_X8_isPerson hc31) cv_RX8_82 kl_162 ks_162 ⟨_, _, rfl⟩ rfl rfl rfl (Nat.le_of_ble_eq_true rfl) ⟨Nat.le_of_ble_eq_true rfl, Nat.le_of_ble_eq_true rfl⟩ ?_ rfl rfl
              clear hc31
              refine a_if_eq (tgt := 159) (pc := 117) F dX8_layCheapest_117 (by decide) (fun q33 => ?_) (fun q33 => ?_)
              · replace h := ite_t q33 h
                clear q33
                refine a_iconst (v := 0) (pc := 159) F dX8_layCheapest_159 (by decide) ?_
                refine a_lv F [1, 2, 3, 4, 5, 6, 7, 0] rfl ?_
                cases h
                exact hJ23
              · replace h := ite_f q33 h
                clear q33
                refine a_iload (pc := 120) F dX8_layCheapest_120 7 rfl ?_
                refine a_iload (pc := 122) F dX8_layCheapest_122 6 rfl ?_
                refine a_icmp_eq (tgt := 159) (pc := 124) F dX8_layCheapest_124 (by decide) (fun q34 => ?_) (fun q34 => ?_)
                · replace h := ite_t q34 h
                  clear q34
                  refine a_iconst (v := 0) (pc := 159) F dX8_layCheapest_159 (by decide) ?_
                  refine a_lv F [1, 2, 3, 4, 5, 6, 7, 0] rfl ?_
                  cases h
                  exact hJ23
                · replace h := ite_f q34 h
                  clear q34
                  refine a_iload_n (pc := 127) F dX8_layCheapest_127 3 rfl ?_
                  refine a_iconst (v := 3) (pc := 128) F dX8_layCheapest_128 (by decide) ?_
                  refine a_icmp_lt (tgt := 155) (pc := 129) F dX8_layCheapest_129 (by decide) (fun q35 => ?_) (fun q35 => ?_)
                  · replace h := ite_t q35 h
                    clear q35
                    refine a_iconst (v := 1) (pc := 155) F dX8_layCheapest_155 (by decide) ?_
                    refine a_goto (tgt := 160) (pc := 156) F dX8_layCheapest_156 (by decide) ?_
                    refine a_lv F [1, 2, 3, 4, 5, 6, 7, 0] rfl ?_
                    cases h
                    exact hJ23
                  · replace h := ite_f q35 h
                    clear q35
                    refine a_aload_n (pc := 132) F dX8_layCheapest_132 1 rfl ?_
                    refine a_iload (pc := 133) F dX8_layCheapest_133 0 rfl ?_
                    replace h := bnd_some h
                    obtain ⟨x37, hc36, h⟩ := h
                    refine a_callV (pc := 135) (k := 162) (As := [.int x22]) (st := []) F dX8_layCheapest_135 (m_X8_isPerson hc36) cv_RX8_82 kl_162 ks_162 ⟨_, _, rfl⟩ rfl rfl rfl (Nat.le_of_ble_eq_true rfl) ⟨Nat.le_of_ble_eq_true rfl, Nat.le_of_ble_eq_true rfl⟩ ?_ rfl rfl
                    clear hc36
                    refine a_if_eq (tgt := 159) (pc := 138) F dX8_layCheapest_138 (by decide) (fun q38 => ?_) (fun q38 => ?_)
                    · replace h := ite_t q38 h
                      clear q38
                      refine a_iconst (v := 0) (pc := 159) F dX8_layCheapest_159 (by decide) ?_
                      refine a_lv F [1, 2, 3, 4, 5, 6, 7, 0] rfl ?_
                      cases h
                      exact hJ23
                    · replace h := ite_f q38 h
                      clear q38
                      refine a_iload (pc := 141) F dX8_layCheapest_141 0 rfl ?_
                      refine a_iload (pc := 143) F dX8_layCheapest_143 6 rfl ?_
                      refine a_icmp_eq (tgt := 159) (pc := 145) F dX8_layCheapest_145 (by decide) (fun q39 => ?_) (fun q39 => ?_)
                      · replace h := ite_t q39 h
                        clear q39
                        refine a_iconst (v := 0) (pc := 159) F dX8_layCheapest_159 (by decide) ?_
                        refine a_lv F [1, 2, 3, 4, 5, 6, 7, 0] rfl ?_
                        cases h
                        exact hJ23
                      · replace h := ite_f q39 h
                        clear q39
                        refine a_iload (pc := 148) F dX8_layCheapest_148 0 rfl ?_
                        refine a_iload (pc := 150) F dX8_layCheapest_150 7 rfl ?_
                        refine a_icmp_eq (tgt := 159) (pc := 152) F dX8_layCheapest_152 (by decide) (fun q40 => ?_) (fun q40 => ?_)
                        · replace h := ite_t q40 h
                          clear q40
                          refine a_iconst (v := 0) (pc := 159) F dX8_layCheapest_159 (by decide) ?_
                          refine a_lv F [1, 2, 3, 4, 5, 6, 7, 0] rfl ?_
                          cases h
                          exact hJ23
                        · replace h := ite_f q40 h
                          clear q40
                          refine a_iconst (v := 1) (pc := 155) F dX8_layCheapest_155 (by decide) ?_
                          refine a_goto (tgt := 160) (pc := 156) F dX8_layCheapest_156 (by decide) ?_
                          refine a_lv F [1, 2, 3, 4, 5, 6, 7, 0] rfl ?_
                          cases h
                          exact hJ23
          clear h
          have h := hR20
          clear hR20
          refine a_icmp_ge (tgt := 99) (pc := 92) F dX8_layCheapest_92 (by decide) (fun q21 => ?_) (fun q21 => ?_)
          · replace h := ite_t q21 h
            clear q21
            refine a_iload (pc := 99) F dX8_layCheapest_99 5 rfl ?_
            refine a_bipush (v := 10) (pc := 101) F dX8_layCheapest_101 (by decide) ?_
            refine a_irem (pc := 103) F dX8_layCheapest_103 (by decide) ?_
            refine a_lv F [1, 2, 3, 4, 5, 6, 0] rfl ?_
            cases h
            exact hJ20
          · replace h := ite_f q21 h
            clear q21
            refine a_iconst (v := (-1)) (pc := 95) F dX8_layCheapest_95 (by decide) ?_
            refine a_goto (tgt := 104) (pc := 96) F dX8_layCheapest_96 (by decide) ?_
            refine a_lv F [1, 2, 3, 4, 5, 6, 0] rfl ?_
            cases h
            exact hJ20
        clear h
        have h := hR15
        clear hR15
        refine a_icmp_ne (tgt := 67) (pc := 60) F dX8_layCheapest_60 (by decide) (fun q16 => ?_) (fun q16 => ?_)
        · replace h := ite_f q16 h
          clear q16
          refine a_iload_n (pc := 67) F dX8_layCheapest_67 3 rfl ?_
          refine a_iconst (v := 2) (pc := 68) F dX8_layCheapest_68 (by decide) ?_
          refine a_icmp_ne (tgt := 80) (pc := 69) F dX8_layCheapest_69 (by decide) (fun q17 => ?_) (fun q17 => ?_)
          · replace h := ite_f q17 h
            clear q17
            refine a_iload (pc := 80) F dX8_layCheapest_80 5 rfl ?_
            refine a_bipush (v := 10) (pc := 82) F dX8_layCheapest_82 (by decide) ?_
            refine a_idiv (pc := 84) F dX8_layCheapest_84 (by decide) ?_
            refine a_bipush (v := 10) (pc := 85) F dX8_layCheapest_85 (by decide) ?_
            refine a_irem (pc := 87) F dX8_layCheapest_87 (by decide) ?_
            refine a_nmi fun x18 ex18 => ?_
            replace h := nm_at ex18 h
            clear ex18
            refine a_lv F [1, 2, 3, 4, 5, 0] rfl ?_
            cases h
            exact hJ15
          · replace h := ite_t (Decidable.not_not.mp q17) h
            clear q17
            refine a_iload (pc := 72) F dX8_layCheapest_72 5 rfl ?_
            refine a_bipush (v := 10) (pc := 74) F dX8_layCheapest_74 (by decide) ?_
            refine a_irem (pc := 76) F dX8_layCheapest_76 (by decide) ?_
            refine a_goto (tgt := 88) (pc := 77) F dX8_layCheapest_77 (by decide) ?_
            refine a_lv F [1, 2, 3, 4, 5, 0] rfl ?_
            cases h
            exact hJ15
        · replace h := ite_t (Decidable.not_not.mp q16) h
          clear q16
          refine a_iconst (v := (-1)) (pc := 63) F dX8_layCheapest_63 (by decide) ?_
          refine a_goto (tgt := 88) (pc := 64) F dX8_layCheapest_64 (by decide) ?_
          refine a_lv F [1, 2, 3, 4, 5, 0] rfl ?_
          cases h
          exact hJ15
    clear h
    have h := hR6
    clear hR6
    refine a_icmp_ne (tgt := 22) (pc := 15) F dX8_layCheapest_15 (by decide) (fun q7 => ?_) (fun q7 => ?_)
    · replace h := ite_f q7 h
      clear q7
      refine a_iload_n (pc := 22) F dX8_layCheapest_22 2 rfl ?_
      refine a_iconst (v := 2) (pc := 23) F dX8_layCheapest_23 (by decide) ?_
      refine a_icmp_ne (tgt := 32) (pc := 24) F dX8_layCheapest_24 (by decide) (fun q8 => ?_) (fun q8 => ?_)
      · replace h := ite_f q8 h
        clear q8
        refine a_bipush (v := 100) (pc := 32) F dX8_layCheapest_32 (by decide) ?_
        cases h
        exact hJ6
      · replace h := ite_t (Decidable.not_not.mp q8) h
        clear q8
        refine a_bipush (v := 10) (pc := 27) F dX8_layCheapest_27 (by decide) ?_
        refine a_goto (tgt := 34) (pc := 29) F dX8_layCheapest_29 (by decide) ?_
        cases h
        exact hJ6
    · replace h := ite_t (Decidable.not_not.mp q7) h
      clear q7
      refine a_iconst (v := 1) (pc := 18) F dX8_layCheapest_18 (by decide) ?_
      refine a_goto (tgt := 34) (pc := 19) F dX8_layCheapest_19 (by decide) ?_
      cases h
      exact hJ6
def f_X8_cheapestNow (p1 : Int32) (p2 : Int32) (m0 : Mem) : Option (Int32 × Mem) :=
  bnd (f_X8_isOpen p1 m0) fun x2 => (if x2 = 0 then some ((-1), m0) else bnd2 (f_X8_layCheapest p1 m0) fun x5 m6 => (if x5 = 0 then some ((-1), m6) else (if p2 = 0 then some (m6.1 162 12, m6) else (if p2 = 1 then some (m6.1 162 13, m6) else gIn (p2 - 2) 3 <| nm (m6.1 168 (p2 - 2).toNatClampNeg) fun x11 => some (x11, m6)))))
set_option maxRecDepth 100000 in
set_option maxHeartbeats 4000000 in
theorem m_X8_cheapestNow {p1 : Int32} {p2 : Int32} {m0 : Mem} {rr : Int32} {mm : Mem} (h : f_X8_cheapestNow p1 p2 m0 = some (rr, mm)) : Con yX8_cheapestNow cX8_cheapestNow 3 (some Jvm.ClassFile.FieldType.int) 8 184 (fun G => [.ref (ga G 162), .int p1, .int p2]) m0 (some (.int rr)) mm := by
  refine con_of (by decide) (fun G => Nat.le_of_ble_eq_true rfl) (fun X F => ?_)
  show WA X 0 0 0 [(0, .ref (ga X.G 162)), (1, .int p1), (2, .int p2)] [] m0 (EQ X (some (.int rr)) mm)
  rw [f_X8_cheapestNow] at h
  refine a_aload_n (pc := 0) F dX8_cheapestNow_0 0 rfl ?_
  refine a_iload_n (pc := 1) F dX8_cheapestNow_1 1 rfl ?_
  replace h := bnd_some h
  obtain ⟨x2, hc1, h⟩ := h
  refine a_callV (pc := 2) (k := 162) (As := [.int p1]) (st := []) F dX8_cheapestNow_2 (m_X8_isOpen hc1) cv_RX8_125 kl_162 ks_162 ⟨_, _, rfl⟩ rfl rfl rfl (Nat.le_of_ble_eq_true rfl) ⟨Nat.le_of_ble_eq_true rfl, Nat.le_of_ble_eq_true rfl⟩ ?_ rfl rfl
  clear hc1
  refine a_if_eq (tgt := 16) (pc := 5) F dX8_cheapestNow_5 (by decide) (fun q3 => ?_) (fun q3 => ?_)
  · replace h := ite_t q3 h
    clear q3
    refine a_iconst (v := (-1)) (pc := 16) F dX8_cheapestNow_16 (by decide) ?_
    cases h
    exact a_iret (pc := 17) F dX8_cheapestNow_17 ⟨_, rfl, rfl⟩
  · replace h := ite_f q3 h
    clear q3
    refine a_aload_n (pc := 8) F dX8_cheapestNow_8 0 rfl ?_
    refine a_iload_n (pc := 9) F dX8_cheapestNow_9 1 rfl ?_
    replace h := bnd2_some h
    obtain ⟨x5, m6, hc4, h⟩ := h
    refine a_callV (pc := 10) (k := 162) (As := [.int p1]) (st := []) F dX8_cheapestNow_10 (m_X8_layCheapest hc4) cv_RX8_212 kl_162 ks_162 ⟨_, _, rfl⟩ rfl rfl rfl (Nat.le_of_ble_eq_true rfl) ⟨Nat.le_of_ble_eq_true rfl, Nat.le_of_ble_eq_true rfl⟩ ?_ rfl rfl
    clear hc4
    refine a_if_ne (tgt := 18) (pc := 13) F dX8_cheapestNow_13 (by decide) (fun q7 => ?_) (fun q7 => ?_)
    · replace h := ite_f q7 h
      clear q7
      refine a_iload_n (pc := 18) F dX8_cheapestNow_18 2 rfl ?_
      refine a_if_ne (tgt := 29) (pc := 19) F dX8_cheapestNow_19 (by decide) (fun q8 => ?_) (fun q8 => ?_)
      · replace h := ite_f q8 h
        clear q8
        refine a_iload_n (pc := 29) F dX8_cheapestNow_29 2 rfl ?_
        refine a_iconst (v := 1) (pc := 30) F dX8_cheapestNow_30 (by decide) ?_
        refine a_icmp_ne (tgt := 41) (pc := 31) F dX8_cheapestNow_31 (by decide) (fun q9 => ?_) (fun q9 => ?_)
        · replace h := ite_f q9 h
          clear q9
          refine a_aload_n (pc := 41) F dX8_cheapestNow_41 0 rfl ?_
          refine a_getr (k := 162) (r := 168) (pc := 42) F dX8_cheapestNow_42 fl_RX8_25 kl_162 ks_162 rfl ?_
          refine a_iload_n (pc := 45) F dX8_cheapestNow_45 2 rfl ?_
          refine a_iconst (v := 2) (pc := 46) F dX8_cheapestNow_46 (by decide) ?_
          refine a_isub (pc := 47) F dX8_cheapestNow_47 ?_
          replace h := gIn_some h
          obtain ⟨g10, h⟩ := h
          refine a_ial (k := 168) (pc := 48) F dX8_cheapestNow_48 kl_168 ks_168 g10 ?_
          refine a_nmi fun x11 ex11 => ?_
          replace h := nm_at ex11 h
          clear ex11
          cases h
          exact a_iret (pc := 49) F dX8_cheapestNow_49 ⟨_, rfl, rfl⟩
        · replace h := ite_t (Decidable.not_not.mp q9) h
          clear q9
          refine a_aload_n (pc := 34) F dX8_cheapestNow_34 0 rfl ?_
          refine a_geti (k := 162) (pc := 35) F dX8_cheapestNow_35 fl_RX8_205 kl_162 ks_162 rfl ?_
          refine a_goto (tgt := 49) (pc := 38) F dX8_cheapestNow_38 (by decide) ?_
          cases h
          exact a_iret (pc := 49) F dX8_cheapestNow_49 ⟨_, rfl, rfl⟩
      · replace h := ite_t (Decidable.not_not.mp q8) h
        clear q8
        refine a_aload_n (pc := 22) F dX8_cheapestNow_22 0 rfl ?_
        refine a_geti (k := 162) (pc := 23) F dX8_cheapestNow_23 fl_RX8_202 kl_162 ks_162 rfl ?_
        refine a_goto (tgt := 49) (pc := 26) F dX8_cheapestNow_26 (by decide) ?_
        cases h
        exact a_iret (pc := 49) F dX8_cheapestNow_49 ⟨_, rfl, rfl⟩
    · replace h := ite_t (Decidable.not_not.mp q7) h
      clear q7
      refine a_iconst (v := (-1)) (pc := 16) F dX8_cheapestNow_16 (by decide) ?_
      cases h
      exact a_iret (pc := 17) F dX8_cheapestNow_17 ⟨_, rfl, rfl⟩
def f_X8_cheapest (p1 : Int32) (p2 : Int32) (m0 : Mem) : Option (Int32 × Mem) :=
  bnd (f_X8_isHearing p1 m0) fun x2 => bnd ((if x2 = 0 then some 1 else bnd (f_X8_within p2 0 4 m0) fun x6 => (if x6 = 0 then some 2 else some 0))) (fun (x8 : Int32) => nm (si m0 162 5 x8) fun m9 => (if (m9.1 162 5) ≤ 0 then bnd2 (f_X8_cheapestNow p1 p2 m9) fun x12 m13 => some (x12, m13) else some (0, m9)))
set_option maxRecDepth 100000 in
set_option maxHeartbeats 4000000 in
theorem m_X8_cheapest {p1 : Int32} {p2 : Int32} {m0 : Mem} {rr : Int32} {mm : Mem} (h : f_X8_cheapest p1 p2 m0 = some (rr, mm)) : Con yX8_cheapest cX8_cheapest 3 (some Jvm.ClassFile.FieldType.int) 9 206 (fun G => [.ref (ga G 162), .int p1, .int p2]) m0 (some (.int rr)) mm := by
  refine con_of (by decide) (fun G => Nat.le_of_ble_eq_true rfl) (fun X F => ?_)
  show WA X 0 0 0 [(0, .ref (ga X.G 162)), (1, .int p1), (2, .int p2)] [] m0 (EQ X (some (.int rr)) mm)
  rw [f_X8_cheapest] at h
  refine a_aload_n (pc := 0) F dX8_cheapest_0 0 rfl ?_
  refine a_aload_n (pc := 1) F dX8_cheapest_1 0 rfl ?_
  refine a_iload_n (pc := 2) F dX8_cheapest_2 1 rfl ?_
  replace h := bnd_some h
  obtain ⟨x2, hc1, h⟩ := h
  refine a_callV (pc := 3) (k := 162) (As := [.int p1]) (st := [.ref (ga X.G 162)]) F dX8_cheapest_3 (m_X8_isHearing hc1) cv_RX8_109 kl_162 ks_162 ⟨_, _, rfl⟩ rfl rfl rfl (Nat.le_of_ble_eq_true rfl) ⟨Nat.le_of_ble_eq_true rfl, Nat.le_of_ble_eq_true rfl⟩ ?_ rfl rfl
  clear hc1
  replace h := bnd_some h
  obtain ⟨x8, hR3, h⟩ := h
  have hJ3 : WA X 0 0 27 [(0, .ref (ga X.G 162)), (1, .int p1), (2, .int p2)] [.int x8, .ref (ga X.G 162)] m0 (EQ X (some (.int rr)) mm) := by
    refine a_puti (k := 162) (pc := 27) F dX8_cheapest_27 fp_RX8_31 kl_162 ks_162 rfl ?_
    refine a_nmm fun m9 em9 => ?_
    replace h := nm_at em9 h
    clear em9
    refine a_aload_n (pc := 30) F dX8_cheapest_30 0 rfl ?_
    refine a_geti (k := 162) (pc := 31) F dX8_cheapest_31 fl_RX8_31 kl_162 ks_162 rfl ?_
    refine a_if_le (tgt := 41) (pc := 34) F dX8_cheapest_34 (by decide) (fun q10 => ?_) (fun q10 => ?_)
    · replace h := ite_t q10 h
      clear q10
      refine a_aload_n (pc := 41) F dX8_cheapest_41 0 rfl ?_
      refine a_iload_n (pc := 42) F dX8_cheapest_42 1 rfl ?_
      refine a_iload_n (pc := 43) F dX8_cheapest_43 2 rfl ?_
      replace h := bnd2_some h
      obtain ⟨x12, m13, hc11, h⟩ := h
      refine a_callV (pc := 44) (k := 162) (As := [.int p1, .int p2]) (st := []) F dX8_cheapest_44 (m_X8_cheapestNow hc11) cv_RX8_215 kl_162 ks_162 ⟨_, _, rfl⟩ rfl rfl rfl (Nat.le_of_ble_eq_true rfl) ⟨Nat.le_of_ble_eq_true rfl, Nat.le_of_ble_eq_true rfl⟩ ?_ rfl rfl
      clear hc11
      cases h
      exact a_iret (pc := 47) F dX8_cheapest_47 ⟨_, rfl, rfl⟩
    · replace h := ite_f q10 h
      clear q10
      refine a_iconst (v := 0) (pc := 37) F dX8_cheapest_37 (by decide) ?_
      refine a_goto (tgt := 47) (pc := 38) F dX8_cheapest_38 (by decide) ?_
      cases h
      exact a_iret (pc := 47) F dX8_cheapest_47 ⟨_, rfl, rfl⟩
  clear h
  have h := hR3
  clear hR3
  refine a_if_ne (tgt := 13) (pc := 6) F dX8_cheapest_6 (by decide) (fun q4 => ?_) (fun q4 => ?_)
  · replace h := ite_f q4 h
    clear q4
    refine a_iload_n (pc := 13) F dX8_cheapest_13 2 rfl ?_
    refine a_iconst (v := 0) (pc := 14) F dX8_cheapest_14 (by decide) ?_
    refine a_iconst (v := 4) (pc := 15) F dX8_cheapest_15 (by decide) ?_
    replace h := bnd_some h
    obtain ⟨x6, hc5, h⟩ := h
    refine a_callS (pc := 16) (As := [.int p2, .int 0, .int 4]) (st := [.ref (ga X.G 162)]) F dX8_cheapest_16 (m_X8_within hc5) cs_RX8_38 rfl rfl rfl (Nat.le_of_ble_eq_true rfl) ⟨Nat.le_of_ble_eq_true rfl, Nat.le_of_ble_eq_true rfl⟩ ?_ rfl rfl
    clear hc5
    refine a_if_eq (tgt := 26) (pc := 19) F dX8_cheapest_19 (by decide) (fun q7 => ?_) (fun q7 => ?_)
    · replace h := ite_t q7 h
      clear q7
      refine a_iconst (v := 2) (pc := 26) F dX8_cheapest_26 (by decide) ?_
      cases h
      exact hJ3
    · replace h := ite_f q7 h
      clear q7
      refine a_iconst (v := 0) (pc := 22) F dX8_cheapest_22 (by decide) ?_
      refine a_goto (tgt := 27) (pc := 23) F dX8_cheapest_23 (by decide) ?_
      cases h
      exact hJ3
  · replace h := ite_t (Decidable.not_not.mp q4) h
    clear q4
    refine a_iconst (v := 1) (pc := 9) F dX8_cheapest_9 (by decide) ?_
    refine a_goto (tgt := 27) (pc := 10) F dX8_cheapest_10 (by decide) ?_
    cases h
    exact hJ3
def f_X8_keep_L2 : (Int32 × Mem) → Option ((Int32 × Mem) ⊕ Mem)
  | (x2, m3) => (if 373 ≤ x2 then some (.inr m3) else gIn x2 373 <| nm (m3.1 163 x2.toNatClampNeg) fun x6 => gIn x2 373 <| nm (si m3 169 x2.toNatClampNeg x6) fun m8 => nm (x2 + 1) fun x9 => some (.inl (x9, m8)))
def f_X8_keep (m0 : Mem) : Option Mem :=
  bnd (lp (f_X8_keep_L2) 1000000 (0, m0)) (fun m10 => some m10)
set_option maxRecDepth 100000 in
set_option maxHeartbeats 4000000 in
theorem m_X8_keep {m0 : Mem} {mm : Mem} (h : f_X8_keep m0 = some mm) : Con yX8_keep cX8_keep 2 none 0 0 (fun G => [.ref (ga G 162)]) m0 none mm := by
  refine con_of (by decide) (fun G => Nat.le_of_ble_eq_true rfl) (fun X F => ?_)
  show WA X 0 0 0 [(0, .ref (ga X.G 162))] [] m0 (EQ X none mm)
  rw [f_X8_keep] at h
  refine a_iconst (v := 0) (pc := 0) F dX8_keep_0 (by decide) ?_
  refine a_istore_n (lv' := [(1, .int 0), (0, .ref (ga X.G 162))]) (pc := 1) F dX8_keep_1 (by decide) rfl ?_
  refine a_lv F [1, 0] rfl ?_
  replace h := bnd_some h
  obtain ⟨m10, hL1, h⟩ := h
  have hE1 : WA X 0 0 27 [] [] m10 (EQ X none mm) := by
    cases h
    exact a_vret (pc := 27) F dX8_keep_27 rfl
  clear h
  refine lp_run (P := fun (s : (Int32 × Mem)) => WA X 0 0 2 [(0, .ref (ga X.G 162)), (1, .int s.1)] [] s.2 (EQ X none mm)) ?_ _ _ hL1
  clear hL1
  rintro ⟨x2, m3⟩ xo h hP1 hT1
  show WA X 0 0 2 [(0, .ref (ga X.G 162)), (1, .int x2)] [] m3 (EQ X none mm)
  rw [f_X8_keep_L2] at h
  refine a_iload_n (pc := 2) F dX8_keep_2 1 rfl ?_
  refine a_sipush (v := 373) (pc := 3) F dX8_keep_3 (by decide) ?_
  refine a_icmp_ge (tgt := 27) (pc := 6) F dX8_keep_6 (by decide) (fun q4 => ?_) (fun q4 => ?_)
  · replace h := ite_t q4 h
    clear q4
    refine a_lv F [] rfl ?_
    cases hT1 _ (Option.some.inj h).symm
    exact hE1
  · replace h := ite_f q4 h
    clear q4
    refine a_aload_n (pc := 9) F dX8_keep_9 0 rfl ?_
    refine a_getr (k := 162) (r := 169) (pc := 10) F dX8_keep_10 fl_RX8_28 kl_162 ks_162 rfl ?_
    refine a_iload_n (pc := 13) F dX8_keep_13 1 rfl ?_
    refine a_aload_n (pc := 14) F dX8_keep_14 0 rfl ?_
    refine a_getr (k := 162) (r := 163) (pc := 15) F dX8_keep_15 fl_RX8_7 kl_162 ks_162 rfl ?_
    refine a_iload_n (pc := 18) F dX8_keep_18 1 rfl ?_
    replace h := gIn_some h
    obtain ⟨g5, h⟩ := h
    refine a_ial (k := 163) (pc := 19) F dX8_keep_19 kl_163 ks_163 g5 ?_
    refine a_nmi fun x6 ex6 => ?_
    replace h := nm_at ex6 h
    clear ex6
    replace h := gIn_some h
    obtain ⟨g7, h⟩ := h
    refine a_ias (k := 169) (pc := 20) F dX8_keep_20 kl_169 ks_169 g7 ?_
    refine a_nmm fun m8 em8 => ?_
    replace h := nm_at em8 h
    clear em8
    obtain ⟨x9, ex9⟩ : ∃ x9 : Int32, x9 = x2 + 1 := ⟨_, rfl⟩
    refine a_iinc (v := x9) (lv' := [(1, .int x9), (0, .ref (ga X.G 162))]) (pc := 21) F dX8_keep_21 1 rfl (by rw [ex9]; rfl) (by decide) rfl ?_
    replace h := nm_at ex9 h
    clear ex9
    refine a_goto (tgt := 2) (pc := 24) F dX8_keep_24 (by decide) ?_
    refine a_lv F [1, 0] rfl ?_
    exact hP1 _ (Option.some.inj h).symm
def f_X8_layBack_L2 : (Int32 × Mem) → Option ((Int32 × Mem) ⊕ Mem)
  | (x2, m3) => (if 373 ≤ x2 then some (.inr m3) else gIn x2 373 <| nm (m3.1 169 x2.toNatClampNeg) fun x6 => gIn x2 373 <| nm (si m3 163 x2.toNatClampNeg x6) fun m8 => nm (x2 + 1) fun x9 => some (.inl (x9, m8)))
def f_X8_layBack (m0 : Mem) : Option Mem :=
  bnd (lp (f_X8_layBack_L2) 1000000 (0, m0)) (fun m10 => some m10)
set_option maxRecDepth 100000 in
set_option maxHeartbeats 4000000 in
theorem m_X8_layBack {m0 : Mem} {mm : Mem} (h : f_X8_layBack m0 = some mm) : Con yX8_layBack cX8_layBack 2 none 0 0 (fun G => [.ref (ga G 162)]) m0 none mm := by
  refine con_of (by decide) (fun G => Nat.le_of_ble_eq_true rfl) (fun X F => ?_)
  show WA X 0 0 0 [(0, .ref (ga X.G 162))] [] m0 (EQ X none mm)
  rw [f_X8_layBack] at h
  refine a_iconst (v := 0) (pc := 0) F dX8_layBack_0 (by decide) ?_
  refine a_istore_n (lv' := [(1, .int 0), (0, .ref (ga X.G 162))]) (pc := 1) F dX8_layBack_1 (by decide) rfl ?_
  refine a_lv F [1, 0] rfl ?_
  replace h := bnd_some h
  obtain ⟨m10, hL1, h⟩ := h
  have hE1 : WA X 0 0 27 [] [] m10 (EQ X none mm) := by
    cases h
    exact a_vret (pc := 27) F dX8_layBack_27 rfl
  clear h
  refine lp_run (P := fun (s : (Int32 × Mem)) => WA X 0 0 2 [(0, .ref (ga X.G 162)), (1, .int s.1)] [] s.2 (EQ X none mm)) ?_ _ _ hL1
  clear hL1
  rintro ⟨x2, m3⟩ xo h hP1 hT1
  show WA X 0 0 2 [(0, .ref (ga X.G 162)), (1, .int x2)] [] m3 (EQ X none mm)
  rw [f_X8_layBack_L2] at h
  refine a_iload_n (pc := 2) F dX8_layBack_2 1 rfl ?_
  refine a_sipush (v := 373) (pc := 3) F dX8_layBack_3 (by decide) ?_
  refine a_icmp_ge (tgt := 27) (pc := 6) F dX8_layBack_6 (by decide) (fun q4 => ?_) (fun q4 => ?_)
  · replace h := ite_t q4 h
    clear q4
    refine a_lv F [] rfl ?_
    cases hT1 _ (Option.some.inj h).symm
    exact hE1
  · replace h := ite_f q4 h
    clear q4
    refine a_aload_n (pc := 9) F dX8_layBack_9 0 rfl ?_
    refine a_getr (k := 162) (r := 163) (pc := 10) F dX8_layBack_10 fl_RX8_7 kl_162 ks_162 rfl ?_
    refine a_iload_n (pc := 13) F dX8_layBack_13 1 rfl ?_
    refine a_aload_n (pc := 14) F dX8_layBack_14 0 rfl ?_
    refine a_getr (k := 162) (r := 169) (pc := 15) F dX8_layBack_15 fl_RX8_28 kl_162 ks_162 rfl ?_
    refine a_iload_n (pc := 18) F dX8_layBack_18 1 rfl ?_
    replace h := gIn_some h
    obtain ⟨g5, h⟩ := h
    refine a_ial (k := 169) (pc := 19) F dX8_layBack_19 kl_169 ks_169 g5 ?_
    refine a_nmi fun x6 ex6 => ?_
    replace h := nm_at ex6 h
    clear ex6
    replace h := gIn_some h
    obtain ⟨g7, h⟩ := h
    refine a_ias (k := 163) (pc := 20) F dX8_layBack_20 kl_163 ks_163 g7 ?_
    refine a_nmm fun m8 em8 => ?_
    replace h := nm_at em8 h
    clear em8
    obtain ⟨x9, ex9⟩ : ∃ x9 : Int32, x9 = x2 + 1 := ⟨_, rfl⟩
    refine a_iinc (v := x9) (lv' := [(1, .int x9), (0, .ref (ga X.G 162))]) (pc := 21) F dX8_layBack_21 1 rfl (by rw [ex9]; rfl) (by decide) rfl ?_
    replace h := nm_at ex9 h
    clear ex9
    refine a_goto (tgt := 2) (pc := 24) F dX8_layBack_24 (by decide) ?_
    refine a_lv F [1, 0] rfl ?_
    exact hP1 _ (Option.some.inj h).symm
def f_X8_tiredThen (p1 : Int32) (p2 : Int32) (m0 : Mem) : Option (Int32 × Mem) :=
  bnd (f_X8_keep m0) fun m2 => bnd2 (f_X8_go p2 m2) fun x4 m5 => gIn (43 + p1) 373 <| nm (m5.1 163 (43 + p1).toNatClampNeg) fun x7 => bnd (f_X8_layBack m5) fun m9 => some (x7, m9)
set_option maxRecDepth 100000 in
set_option maxHeartbeats 4000000 in
theorem m_X8_tiredThen {p1 : Int32} {p2 : Int32} {m0 : Mem} {rr : Int32} {mm : Mem} (h : f_X8_tiredThen p1 p2 m0 = some (rr, mm)) : Con yX8_tiredThen cX8_tiredThen 5 (some Jvm.ClassFile.FieldType.int) 7 165 (fun G => [.ref (ga G 162), .int p1, .int p2]) m0 (some (.int rr)) mm := by
  refine con_of (by decide) (fun G => Nat.le_of_ble_eq_true rfl) (fun X F => ?_)
  show WA X 0 0 0 [(0, .ref (ga X.G 162)), (1, .int p1), (2, .int p2)] [] m0 (EQ X (some (.int rr)) mm)
  rw [f_X8_tiredThen] at h
  refine a_aload_n (pc := 0) F dX8_tiredThen_0 0 rfl ?_
  replace h := bnd_some h
  obtain ⟨m2, hc1, h⟩ := h
  refine a_callV (pc := 1) (k := 162) (As := []) (st := []) F dX8_tiredThen_1 (m_X8_keep hc1) cv_RX8_218 kl_162 ks_162 ⟨_, _, rfl⟩ rfl rfl rfl (Nat.le_of_ble_eq_true rfl) ⟨Nat.le_of_ble_eq_true rfl, Nat.le_of_ble_eq_true rfl⟩ ?_ rfl rfl
  clear hc1
  refine a_aload_n (pc := 4) F dX8_tiredThen_4 0 rfl ?_
  refine a_iload_n (pc := 5) F dX8_tiredThen_5 2 rfl ?_
  replace h := bnd2_some h
  obtain ⟨x4, m5, hc3, h⟩ := h
  refine a_callV (pc := 6) (k := 162) (As := [.int p2]) (st := []) F dX8_tiredThen_6 (m_X8_go hc3) cv_RX8_150 kl_162 ks_162 ⟨_, _, rfl⟩ rfl rfl rfl (Nat.le_of_ble_eq_true rfl) ⟨Nat.le_of_ble_eq_true rfl, Nat.le_of_ble_eq_true rfl⟩ ?_ rfl rfl
  clear hc3
  refine a_istore_n (lv' := [(3, .int x4), (0, .ref (ga X.G 162)), (1, .int p1), (2, .int p2)]) (pc := 9) F dX8_tiredThen_9 (by decide) rfl ?_
  refine a_aload_n (pc := 10) F dX8_tiredThen_10 1 rfl ?_
  refine a_getr (k := 162) (r := 163) (pc := 11) F dX8_tiredThen_11 fl_RX8_7 kl_162 ks_162 rfl ?_
  refine a_bipush (v := 43) (pc := 14) F dX8_tiredThen_14 (by decide) ?_
  refine a_iload_n (pc := 16) F dX8_tiredThen_16 2 rfl ?_
  refine a_iadd (pc := 17) F dX8_tiredThen_17 ?_
  replace h := gIn_some h
  obtain ⟨g6, h⟩ := h
  refine a_ial (k := 163) (pc := 18) F dX8_tiredThen_18 kl_163 ks_163 g6 ?_
  refine a_nmi fun x7 ex7 => ?_
  replace h := nm_at ex7 h
  clear ex7
  refine a_istore (lv' := [(4, .int x7), (3, .int x4), (0, .ref (ga X.G 162)), (1, .int p1), (2, .int p2)]) (pc := 19) F dX8_tiredThen_19 (by decide) rfl ?_
  refine a_aload_n (pc := 21) F dX8_tiredThen_21 2 rfl ?_
  replace h := bnd_some h
  obtain ⟨m9, hc8, h⟩ := h
  refine a_callV (pc := 22) (k := 162) (As := []) (st := []) F dX8_tiredThen_22 (m_X8_layBack hc8) cv_RX8_221 kl_162 ks_162 ⟨_, _, rfl⟩ rfl rfl rfl (Nat.le_of_ble_eq_true rfl) ⟨Nat.le_of_ble_eq_true rfl, Nat.le_of_ble_eq_true rfl⟩ ?_ rfl rfl
  clear hc8
  refine a_iload (pc := 25) F dX8_tiredThen_25 0 rfl ?_
  cases h
  exact a_iret (pc := 27) F dX8_tiredThen_27 ⟨_, rfl, rfl⟩
def f_X8_tiredIn (p1 : Int32) (p2 : Int32) (m0 : Mem) : Option (Int32 × Mem) :=
  bnd (f_X8_isPerson p1 m0) fun x2 => bnd ((if x2 = 0 then some 1 else bnd (f_X8_within p2 0 500 m0) fun x6 => (if x6 = 0 then some 2 else some 0))) (fun (x8 : Int32) => nm (si m0 162 5 x8) fun m9 => (if (m9.1 162 5) ≤ 0 then bnd2 (f_X8_tiredThen p1 p2 m9) fun x12 m13 => some (x12, m13) else some (0, m9)))
set_option maxRecDepth 100000 in
set_option maxHeartbeats 4000000 in
theorem m_X8_tiredIn {p1 : Int32} {p2 : Int32} {m0 : Mem} {rr : Int32} {mm : Mem} (h : f_X8_tiredIn p1 p2 m0 = some (rr, mm)) : Con yX8_tiredIn cX8_tiredIn 3 (some Jvm.ClassFile.FieldType.int) 8 189 (fun G => [.ref (ga G 162), .int p1, .int p2]) m0 (some (.int rr)) mm := by
  refine con_of (by decide) (fun G => Nat.le_of_ble_eq_true rfl) (fun X F => ?_)
  show WA X 0 0 0 [(0, .ref (ga X.G 162)), (1, .int p1), (2, .int p2)] [] m0 (EQ X (some (.int rr)) mm)
  rw [f_X8_tiredIn] at h
  refine a_aload_n (pc := 0) F dX8_tiredIn_0 0 rfl ?_
  refine a_aload_n (pc := 1) F dX8_tiredIn_1 0 rfl ?_
  refine a_iload_n (pc := 2) F dX8_tiredIn_2 1 rfl ?_
  replace h := bnd_some h
  obtain ⟨x2, hc1, h⟩ := h
  refine a_callV (pc := 3) (k := 162) (As := [.int p1]) (st := [.ref (ga X.G 162)]) F dX8_tiredIn_3 (m_X8_isPerson hc1) cv_RX8_82 kl_162 ks_162 ⟨_, _, rfl⟩ rfl rfl rfl (Nat.le_of_ble_eq_true rfl) ⟨Nat.le_of_ble_eq_true rfl, Nat.le_of_ble_eq_true rfl⟩ ?_ rfl rfl
  clear hc1
  replace h := bnd_some h
  obtain ⟨x8, hR3, h⟩ := h
  have hJ3 : WA X 0 0 29 [(0, .ref (ga X.G 162)), (1, .int p1), (2, .int p2)] [.int x8, .ref (ga X.G 162)] m0 (EQ X (some (.int rr)) mm) := by
    refine a_puti (k := 162) (pc := 29) F dX8_tiredIn_29 fp_RX8_31 kl_162 ks_162 rfl ?_
    refine a_nmm fun m9 em9 => ?_
    replace h := nm_at em9 h
    clear em9
    refine a_aload_n (pc := 32) F dX8_tiredIn_32 0 rfl ?_
    refine a_geti (k := 162) (pc := 33) F dX8_tiredIn_33 fl_RX8_31 kl_162 ks_162 rfl ?_
    refine a_if_le (tgt := 43) (pc := 36) F dX8_tiredIn_36 (by decide) (fun q10 => ?_) (fun q10 => ?_)
    · replace h := ite_t q10 h
      clear q10
      refine a_aload_n (pc := 43) F dX8_tiredIn_43 0 rfl ?_
      refine a_iload_n (pc := 44) F dX8_tiredIn_44 1 rfl ?_
      refine a_iload_n (pc := 45) F dX8_tiredIn_45 2 rfl ?_
      replace h := bnd2_some h
      obtain ⟨x12, m13, hc11, h⟩ := h
      refine a_callV (pc := 46) (k := 162) (As := [.int p1, .int p2]) (st := []) F dX8_tiredIn_46 (m_X8_tiredThen hc11) cv_RX8_224 kl_162 ks_162 ⟨_, _, rfl⟩ rfl rfl rfl (Nat.le_of_ble_eq_true rfl) ⟨Nat.le_of_ble_eq_true rfl, Nat.le_of_ble_eq_true rfl⟩ ?_ rfl rfl
      clear hc11
      cases h
      exact a_iret (pc := 49) F dX8_tiredIn_49 ⟨_, rfl, rfl⟩
    · replace h := ite_f q10 h
      clear q10
      refine a_iconst (v := 0) (pc := 39) F dX8_tiredIn_39 (by decide) ?_
      refine a_goto (tgt := 49) (pc := 40) F dX8_tiredIn_40 (by decide) ?_
      cases h
      exact a_iret (pc := 49) F dX8_tiredIn_49 ⟨_, rfl, rfl⟩
  clear h
  have h := hR3
  clear hR3
  refine a_if_ne (tgt := 13) (pc := 6) F dX8_tiredIn_6 (by decide) (fun q4 => ?_) (fun q4 => ?_)
  · replace h := ite_f q4 h
    clear q4
    refine a_iload_n (pc := 13) F dX8_tiredIn_13 2 rfl ?_
    refine a_iconst (v := 0) (pc := 14) F dX8_tiredIn_14 (by decide) ?_
    refine a_sipush (v := 500) (pc := 15) F dX8_tiredIn_15 (by decide) ?_
    replace h := bnd_some h
    obtain ⟨x6, hc5, h⟩ := h
    refine a_callS (pc := 18) (As := [.int p2, .int 0, .int 500]) (st := [.ref (ga X.G 162)]) F dX8_tiredIn_18 (m_X8_within hc5) cs_RX8_38 rfl rfl rfl (Nat.le_of_ble_eq_true rfl) ⟨Nat.le_of_ble_eq_true rfl, Nat.le_of_ble_eq_true rfl⟩ ?_ rfl rfl
    clear hc5
    refine a_if_eq (tgt := 28) (pc := 21) F dX8_tiredIn_21 (by decide) (fun q7 => ?_) (fun q7 => ?_)
    · replace h := ite_t q7 h
      clear q7
      refine a_iconst (v := 2) (pc := 28) F dX8_tiredIn_28 (by decide) ?_
      cases h
      exact hJ3
    · replace h := ite_f q7 h
      clear q7
      refine a_iconst (v := 0) (pc := 24) F dX8_tiredIn_24 (by decide) ?_
      refine a_goto (tgt := 29) (pc := 25) F dX8_tiredIn_25 (by decide) ?_
      cases h
      exact hJ3
  · replace h := ite_t (Decidable.not_not.mp q4) h
    clear q4
    refine a_iconst (v := 1) (pc := 9) F dX8_tiredIn_9 (by decide) ?_
    refine a_goto (tgt := 29) (pc := 10) F dX8_tiredIn_10 (by decide) ?_
    cases h
    exact hJ3
def f_X8_vacatedThen (p1 : Int32) (p2 : Int32) (m0 : Mem) : Option Int32 :=
  bnd (f_X8_of p1 2 m0) fun x2 => nm ((x2 - (m0.1 163 9)) - p2) fun x3 => bnd (f_X8_isListed p1 m0) fun x5 => (if x5 = 0 then some (-1) else (if 0 < x3 then bnd (f_X8_halvesBy x3 m0) fun x9 => bnd (f_X8_payFor p1 x9 m0) fun x11 => some x11 else some (-1)))
set_option maxRecDepth 100000 in
set_option maxHeartbeats 4000000 in
theorem m_X8_vacatedThen {p1 : Int32} {p2 : Int32} {m0 : Mem} {rr : Int32} (h : f_X8_vacatedThen p1 p2 m0 = some rr) : Con yX8_vacatedThen cX8_vacatedThen 4 (some Jvm.ClassFile.FieldType.int) 3 71 (fun G => [.ref (ga G 162), .int p1, .int p2]) m0 (some (.int rr)) m0 := by
  refine con_of (by decide) (fun G => Nat.le_of_ble_eq_true rfl) (fun X F => ?_)
  show WA X 0 0 0 [(0, .ref (ga X.G 162)), (1, .int p1), (2, .int p2)] [] m0 (EQ X (some (.int rr)) m0)
  rw [f_X8_vacatedThen] at h
  refine a_aload_n (pc := 0) F dX8_vacatedThen_0 0 rfl ?_
  refine a_iload_n (pc := 1) F dX8_vacatedThen_1 1 rfl ?_
  refine a_iconst (v := 2) (pc := 2) F dX8_vacatedThen_2 (by decide) ?_
  replace h := bnd_some h
  obtain ⟨x2, hc1, h⟩ := h
  refine a_callV (pc := 3) (k := 162) (As := [.int p1, .int 2]) (st := []) F dX8_vacatedThen_3 (m_X8_of hc1) cv_RX8_42 kl_162 ks_162 ⟨_, _, rfl⟩ rfl rfl rfl (Nat.le_of_ble_eq_true rfl) ⟨Nat.le_of_ble_eq_true rfl, Nat.le_of_ble_eq_true rfl⟩ ?_ rfl rfl
  clear hc1
  refine a_aload_n (pc := 6) F dX8_vacatedThen_6 0 rfl ?_
  refine a_getr (k := 162) (r := 163) (pc := 7) F dX8_vacatedThen_7 fl_RX8_7 kl_162 ks_162 rfl ?_
  refine a_bipush (v := 9) (pc := 10) F dX8_vacatedThen_10 (by decide) ?_
  refine a_ialc (k := 163) (pc := 12) F dX8_vacatedThen_12 kl_163 ks_163 rfl rfl ?_
  refine a_isub (pc := 13) F dX8_vacatedThen_13 ?_
  refine a_iload_n (pc := 14) F dX8_vacatedThen_14 2 rfl ?_
  refine a_isub (pc := 15) F dX8_vacatedThen_15 ?_
  refine a_nmi fun x3 ex3 => ?_
  replace h := nm_at ex3 h
  clear ex3
  refine a_istore_n (lv' := [(3, .int x3), (0, .ref (ga X.G 162)), (1, .int p1), (2, .int p2)]) (pc := 16) F dX8_vacatedThen_16 (by decide) rfl ?_
  refine a_aload_n (pc := 17) F dX8_vacatedThen_17 1 rfl ?_
  refine a_iload_n (pc := 18) F dX8_vacatedThen_18 2 rfl ?_
  replace h := bnd_some h
  obtain ⟨x5, hc4, h⟩ := h
  refine a_callV (pc := 19) (k := 162) (As := [.int p1]) (st := []) F dX8_vacatedThen_19 (m_X8_isListed hc4) cv_RX8_50 kl_162 ks_162 ⟨_, _, rfl⟩ rfl rfl rfl (Nat.le_of_ble_eq_true rfl) ⟨Nat.le_of_ble_eq_true rfl, Nat.le_of_ble_eq_true rfl⟩ ?_ rfl rfl
  clear hc4
  refine a_if_eq (tgt := 29) (pc := 22) F dX8_vacatedThen_22 (by decide) (fun q6 => ?_) (fun q6 => ?_)
  · replace h := ite_t q6 h
    clear q6
    refine a_iconst (v := (-1)) (pc := 29) F dX8_vacatedThen_29 (by decide) ?_
    refine a_goto (tgt := 43) (pc := 30) F dX8_vacatedThen_30 (by decide) ?_
    cases h
    exact a_iret (pc := 43) F dX8_vacatedThen_43 ⟨_, rfl, rfl⟩
  · replace h := ite_f q6 h
    clear q6
    refine a_iload_n (pc := 25) F dX8_vacatedThen_25 0 rfl ?_
    refine a_if_gt (tgt := 33) (pc := 26) F dX8_vacatedThen_26 (by decide) (fun q7 => ?_) (fun q7 => ?_)
    · replace h := ite_t q7 h
      clear q7
      refine a_aload_n (pc := 33) F dX8_vacatedThen_33 1 rfl ?_
      refine a_iload_n (pc := 34) F dX8_vacatedThen_34 2 rfl ?_
      refine a_aload_n (pc := 35) F dX8_vacatedThen_35 1 rfl ?_
      refine a_iload_n (pc := 36) F dX8_vacatedThen_36 0 rfl ?_
      replace h := bnd_some h
      obtain ⟨x9, hc8, h⟩ := h
      refine a_callV (pc := 37) (k := 162) (As := [.int x3]) (st := [.int p1, .ref (ga X.G 162)]) F dX8_vacatedThen_37 (m_X8_halvesBy hc8) cv_RX8_128 kl_162 ks_162 ⟨_, _, rfl⟩ rfl rfl rfl (Nat.le_of_ble_eq_true rfl) ⟨Nat.le_of_ble_eq_true rfl, Nat.le_of_ble_eq_true rfl⟩ ?_ rfl rfl
      clear hc8
      replace h := bnd_some h
      obtain ⟨x11, hc10, h⟩ := h
      refine a_callV (pc := 40) (k := 162) (As := [.int p1, .int x9]) (st := []) F dX8_vacatedThen_40 (m_X8_payFor hc10) cv_RX8_65 kl_162 ks_162 ⟨_, _, rfl⟩ rfl rfl rfl (Nat.le_of_ble_eq_true rfl) ⟨Nat.le_of_ble_eq_true rfl, Nat.le_of_ble_eq_true rfl⟩ ?_ rfl rfl
      clear hc10
      cases h
      exact a_iret (pc := 43) F dX8_vacatedThen_43 ⟨_, rfl, rfl⟩
    · replace h := ite_f q7 h
      clear q7
      refine a_iconst (v := (-1)) (pc := 29) F dX8_vacatedThen_29 (by decide) ?_
      refine a_goto (tgt := 43) (pc := 30) F dX8_vacatedThen_30 (by decide) ?_
      cases h
      exact a_iret (pc := 43) F dX8_vacatedThen_43 ⟨_, rfl, rfl⟩
def f_X8_ifVacated (p1 : Int32) (p2 : Int32) (m0 : Mem) : Option (Int32 × Mem) :=
  bnd (f_X8_isHearing p1 m0) fun x2 => bnd ((if x2 = 0 then some 1 else bnd (f_X8_within p2 0 2000 m0) fun x6 => (if x6 = 0 then some 2 else some 0))) (fun (x8 : Int32) => nm (si m0 162 5 x8) fun m9 => (if (m9.1 162 5) ≤ 0 then bnd (f_X8_vacatedThen p1 p2 m9) fun x12 => some (x12, m9) else some (0, m9)))
set_option maxRecDepth 100000 in
set_option maxHeartbeats 4000000 in
theorem m_X8_ifVacated {p1 : Int32} {p2 : Int32} {m0 : Mem} {rr : Int32} {mm : Mem} (h : f_X8_ifVacated p1 p2 m0 = some (rr, mm)) : Con yX8_ifVacated cX8_ifVacated 3 (some Jvm.ClassFile.FieldType.int) 4 94 (fun G => [.ref (ga G 162), .int p1, .int p2]) m0 (some (.int rr)) mm := by
  refine con_of (by decide) (fun G => Nat.le_of_ble_eq_true rfl) (fun X F => ?_)
  show WA X 0 0 0 [(0, .ref (ga X.G 162)), (1, .int p1), (2, .int p2)] [] m0 (EQ X (some (.int rr)) mm)
  rw [f_X8_ifVacated] at h
  refine a_aload_n (pc := 0) F dX8_ifVacated_0 0 rfl ?_
  refine a_aload_n (pc := 1) F dX8_ifVacated_1 0 rfl ?_
  refine a_iload_n (pc := 2) F dX8_ifVacated_2 1 rfl ?_
  replace h := bnd_some h
  obtain ⟨x2, hc1, h⟩ := h
  refine a_callV (pc := 3) (k := 162) (As := [.int p1]) (st := [.ref (ga X.G 162)]) F dX8_ifVacated_3 (m_X8_isHearing hc1) cv_RX8_109 kl_162 ks_162 ⟨_, _, rfl⟩ rfl rfl rfl (Nat.le_of_ble_eq_true rfl) ⟨Nat.le_of_ble_eq_true rfl, Nat.le_of_ble_eq_true rfl⟩ ?_ rfl rfl
  clear hc1
  replace h := bnd_some h
  obtain ⟨x8, hR3, h⟩ := h
  have hJ3 : WA X 0 0 29 [(0, .ref (ga X.G 162)), (1, .int p1), (2, .int p2)] [.int x8, .ref (ga X.G 162)] m0 (EQ X (some (.int rr)) mm) := by
    refine a_puti (k := 162) (pc := 29) F dX8_ifVacated_29 fp_RX8_31 kl_162 ks_162 rfl ?_
    refine a_nmm fun m9 em9 => ?_
    replace h := nm_at em9 h
    clear em9
    refine a_aload_n (pc := 32) F dX8_ifVacated_32 0 rfl ?_
    refine a_geti (k := 162) (pc := 33) F dX8_ifVacated_33 fl_RX8_31 kl_162 ks_162 rfl ?_
    refine a_if_le (tgt := 43) (pc := 36) F dX8_ifVacated_36 (by decide) (fun q10 => ?_) (fun q10 => ?_)
    · replace h := ite_t q10 h
      clear q10
      refine a_aload_n (pc := 43) F dX8_ifVacated_43 0 rfl ?_
      refine a_iload_n (pc := 44) F dX8_ifVacated_44 1 rfl ?_
      refine a_iload_n (pc := 45) F dX8_ifVacated_45 2 rfl ?_
      replace h := bnd_some h
      obtain ⟨x12, hc11, h⟩ := h
      refine a_callV (pc := 46) (k := 162) (As := [.int p1, .int p2]) (st := []) F dX8_ifVacated_46 (m_X8_vacatedThen hc11) cv_RX8_227 kl_162 ks_162 ⟨_, _, rfl⟩ rfl rfl rfl (Nat.le_of_ble_eq_true rfl) ⟨Nat.le_of_ble_eq_true rfl, Nat.le_of_ble_eq_true rfl⟩ ?_ rfl rfl
      clear hc11
      cases h
      exact a_iret (pc := 49) F dX8_ifVacated_49 ⟨_, rfl, rfl⟩
    · replace h := ite_f q10 h
      clear q10
      refine a_iconst (v := 0) (pc := 39) F dX8_ifVacated_39 (by decide) ?_
      refine a_goto (tgt := 49) (pc := 40) F dX8_ifVacated_40 (by decide) ?_
      cases h
      exact a_iret (pc := 49) F dX8_ifVacated_49 ⟨_, rfl, rfl⟩
  clear h
  have h := hR3
  clear hR3
  refine a_if_ne (tgt := 13) (pc := 6) F dX8_ifVacated_6 (by decide) (fun q4 => ?_) (fun q4 => ?_)
  · replace h := ite_f q4 h
    clear q4
    refine a_iload_n (pc := 13) F dX8_ifVacated_13 2 rfl ?_
    refine a_iconst (v := 0) (pc := 14) F dX8_ifVacated_14 (by decide) ?_
    refine a_sipush (v := 2000) (pc := 15) F dX8_ifVacated_15 (by decide) ?_
    replace h := bnd_some h
    obtain ⟨x6, hc5, h⟩ := h
    refine a_callS (pc := 18) (As := [.int p2, .int 0, .int 2000]) (st := [.ref (ga X.G 162)]) F dX8_ifVacated_18 (m_X8_within hc5) cs_RX8_38 rfl rfl rfl (Nat.le_of_ble_eq_true rfl) ⟨Nat.le_of_ble_eq_true rfl, Nat.le_of_ble_eq_true rfl⟩ ?_ rfl rfl
    clear hc5
    refine a_if_eq (tgt := 28) (pc := 21) F dX8_ifVacated_21 (by decide) (fun q7 => ?_) (fun q7 => ?_)
    · replace h := ite_t q7 h
      clear q7
      refine a_iconst (v := 2) (pc := 28) F dX8_ifVacated_28 (by decide) ?_
      cases h
      exact hJ3
    · replace h := ite_f q7 h
      clear q7
      refine a_iconst (v := 0) (pc := 24) F dX8_ifVacated_24 (by decide) ?_
      refine a_goto (tgt := 29) (pc := 25) F dX8_ifVacated_25 (by decide) ?_
      cases h
      exact hJ3
  · replace h := ite_t (Decidable.not_not.mp q4) h
    clear q4
    refine a_iconst (v := 1) (pc := 9) F dX8_ifVacated_9 (by decide) ?_
    refine a_goto (tgt := 29) (pc := 10) F dX8_ifVacated_10 (by decide) ?_
    cases h
    exact hJ3
