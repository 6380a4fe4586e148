def f_X3_clashesOf_L4 (c : Nat) (p1 : Int32) (m0 : Mem) : (Int32 × Int32) → Option ((Int32 × Int32) ⊕ Int32)
  | (x2, x3) => (if (m0.1 (c + 8) 0) ≤ x3 then some (.inr x2) else bnd (f_X3_listedAndClashing c x3 p1 m0) fun x6 => (if x6 = 0 then nm (x3 + 1) fun x8 => some (.inl (x2, x8)) else nm (x2 + 1) fun x9 => nm (x3 + 1) fun x10 => some (.inl (x9, x10))))
def f_X3_clashesOf (c : Nat) (p1 : Int32) (m0 : Mem) : Option Int32 :=
  bnd (lp (f_X3_clashesOf_L4 c p1 m0) 1000000 (0, 0)) (fun x11 => some x11)
set_option maxRecDepth 100000 in
set_option maxHeartbeats 4000000 in
theorem m_X3_clashesOf {c : Nat} {p1 : Int32} (hc : isC c) {m0 : Mem} {rr : Int32} (h : f_X3_clashesOf c p1 m0 = some rr) : Con yX3_clashesOf cX3_clashesOf 4 (some Jvm.ClassFile.FieldType.int) 2 43 (fun G => [.ref (ga G (c + 8)), .int p1]) m0 (some (.int rr)) m0 := by
  refine con_of (by decide) (fun G => Nat.le_of_ble_eq_true rfl) (fun X F => ?_)
  show WA X 0 0 0 [(0, .ref (ga X.G (c + 8))), (1, .int p1)] [] m0 (EQ X (some (.int rr)) m0)
  rw [f_X3_clashesOf] at h
  refine a_iconst (v := 0) (pc := 0) F dX3_clashesOf_0 (by decide) ?_
  refine a_istore_n (lv' := [(2, .int 0), (0, .ref (ga X.G (c + 8))), (1, .int p1)]) (pc := 1) F dX3_clashesOf_1 (by decide) rfl ?_
  refine a_iconst (v := 0) (pc := 2) F dX3_clashesOf_2 (by decide) ?_
  refine a_istore_n (lv' := [(3, .int 0), (2, .int 0), (0, .ref (ga X.G (c + 8))), (1, .int p1)]) (pc := 3) F dX3_clashesOf_3 (by decide) rfl ?_
  refine a_lv F [2, 3, 1, 0] rfl ?_
  replace h := bnd_some h
  obtain ⟨x11, hL1, h⟩ := h
  have hE1 : WA X 0 0 30 [(2, .int x11)] [] m0 (EQ X (some (.int rr)) m0) := by
    refine a_iload_n (pc := 30) F dX3_clashesOf_30 0 rfl ?_
    cases h
    exact a_iret (pc := 31) F dX3_clashesOf_31 ⟨_, rfl, rfl⟩
  clear h
  refine lp_run (P := fun (s : (Int32 × Int32)) => WA X 0 0 4 [(0, .ref (ga X.G (c + 8))), (1, .int p1), (2, .int s.1), (3, .int s.2)] [] m0 (EQ X (some (.int rr)) m0)) ?_ _ _ hL1
  clear hL1
  rintro ⟨x2, x3⟩ xo h hP1 hT1
  show WA X 0 0 4 [(0, .ref (ga X.G (c + 8))), (1, .int p1), (2, .int x2), (3, .int x3)] [] m0 (EQ X (some (.int rr)) m0)
  rw [f_X3_clashesOf_L4] at h
  refine a_iload_n (pc := 4) F dX3_clashesOf_4 3 rfl ?_
  refine a_aload_n (pc := 5) F dX3_clashesOf_5 0 rfl ?_
  refine a_geti (k := (c + 8)) (pc := 6) F dX3_clashesOf_6 fl_RX3_39 (klC_8 hc) (ksC_8 hc) rfl ?_
  refine a_icmp_ge (tgt := 30) (pc := 9) F dX3_clashesOf_9 (by decide) (fun q4 => ?_) (fun q4 => ?_)
  · replace h := ite_t q4 h
    clear q4
    refine a_lv F [2] rfl ?_
    cases hT1 _ (Option.some.inj h).symm
    exact hE1
  · replace h := ite_f q4 h
    clear q4
    refine a_aload_n (pc := 12) F dX3_clashesOf_12 0 rfl ?_
    refine a_iload_n (pc := 13) F dX3_clashesOf_13 3 rfl ?_
    refine a_iload_n (pc := 14) F dX3_clashesOf_14 1 rfl ?_
    replace h := bnd_some h
    obtain ⟨x6, hc5, h⟩ := h
    refine a_callV (pc := 15) (k := (c + 8)) (As := [.int x3, .int p1]) (st := []) F dX3_clashesOf_15 (m_X3_listedAndClashing hc hc5) cv_RX3_76 (klC_8 hc) (ksC_8 hc) ⟨_, _, rfl⟩ rfl rfl rfl (Nat.le_of_ble_eq_true rfl) ⟨Nat.le_of_ble_eq_true rfl, Nat.le_of_ble_eq_true rfl⟩ ?_ rfl rfl
    clear hc5
    refine a_if_eq (tgt := 24) (pc := 18) F dX3_clashesOf_18 (by decide) (fun q7 => ?_) (fun q7 => ?_)
    · replace h := ite_t q7 h
      clear q7
      obtain ⟨x8, ex8⟩ : ∃ x8 : Int32, x8 = x3 + 1 := ⟨_, rfl⟩
      refine a_iinc (v := x8) (lv' := [(3, .int x8), (0, .ref (ga X.G (c + 8))), (1, .int p1), (2, .int x2)]) (pc := 24) F dX3_clashesOf_24 3 rfl (by rw [ex8]; rfl) (by decide) rfl ?_
      replace h := nm_at ex8 h
      clear ex8
      refine a_goto (tgt := 4) (pc := 27) F dX3_clashesOf_27 (by decide) ?_
      refine a_lv F [1, 2, 3, 0] rfl ?_
      exact hP1 _ (Option.some.inj h).symm
    · replace h := ite_f q7 h
      clear q7
      obtain ⟨x9, ex9⟩ : ∃ x9 : Int32, x9 = x2 + 1 := ⟨_, rfl⟩
      refine a_iinc (v := x9) (lv' := [(2, .int x9), (0, .ref (ga X.G (c + 8))), (1, .int p1), (3, .int x3)]) (pc := 21) F dX3_clashesOf_21 2 rfl (by rw [ex9]; rfl) (by decide) rfl ?_
      replace h := nm_at ex9 h
      clear ex9
      obtain ⟨x10, ex10⟩ : ∃ x10 : Int32, x10 = x3 + 1 := ⟨_, rfl⟩
      refine a_iinc (v := x10) (lv' := [(3, .int x10), (2, .int x9), (0, .ref (ga X.G (c + 8))), (1, .int p1)]) (pc := 24) F dX3_clashesOf_24 3 rfl (by rw [ex10]; rfl) (by decide) rfl ?_
      replace h := nm_at ex10 h
      clear ex10
      refine a_goto (tgt := 4) (pc := 27) F dX3_clashesOf_27 (by decide) ?_
      refine a_lv F [2, 3, 1, 0] rfl ?_
      exact hP1 _ (Option.some.inj h).symm
def f_X2_ofHearing (c : Nat) (p1 : Int32) (p2 : Int32) (m0 : Mem) : Option Int32 :=
  (if p2 = 0 then gIn p1 30 <| nm (m0.1 (c + 9) p1.toNatClampNeg) fun x3 => some x3 else (if p2 = 1 then gIn p1 30 <| nm (m0.1 (c + 10) p1.toNatClampNeg) fun x6 => some x6 else (if p2 = 2 then gIn p1 30 <| nm (m0.1 (c + 11) p1.toNatClampNeg) fun x9 => some x9 else (if p2 = 3 then gIn p1 30 <| nm (m0.1 (c + 12) p1.toNatClampNeg) fun x12 => some x12 else (if p2 = 4 then gIn p1 30 <| nm (m0.1 (c + 13) p1.toNatClampNeg) fun x15 => some x15 else (if p2 = 5 then gIn p1 30 <| nm (m0.1 (c + 14) p1.toNatClampNeg) fun x18 => some x18 else (if p2 = 6 then bnd (f_X3_member c p1 0 m0) fun x21 => some x21 else (if p2 = 7 then bnd (f_X3_member c p1 1 m0) fun x24 => some x24 else (if p2 = 8 then bnd (f_X3_member c p1 2 m0) fun x27 => some x27 else (if p2 = 9 then bnd (f_X2_chainPay c p1 2 m0) fun x30 => some x30 else (if p2 = 10 then gIn p1 30 <| nm (m0.1 (c + 15) p1.toNatClampNeg) fun x33 => some x33 else (if p2 = 11 then bnd (f_X3_isListed c p1 m0) fun x36 => (if x36 = 0 then some 0 else bnd (f_X3_clashesOf c p1 m0) fun x39 => some x39) else some (-1)))))))))))))
set_option maxRecDepth 100000 in
set_option maxHeartbeats 4000000 in
theorem m_X2_ofHearing {c : Nat} {p1 : Int32} {p2 : Int32} (hc : isC c) {m0 : Mem} {rr : Int32} (h : f_X2_ofHearing c p1 p2 m0 = some rr) : Con yX2_ofHearing cX2_ofHearing 3 (some Jvm.ClassFile.FieldType.int) 3 71 (fun G => [.ref (ga G c), .int p1, .int p2]) m0 (some (.int rr)) m0 := by
  refine con_of (by decide) (fun G => Nat.le_of_ble_eq_true rfl) (fun X F => ?_)
  show WA X 0 0 0 [(0, .ref (ga X.G c)), (1, .int p1), (2, .int p2)] [] m0 (EQ X (some (.int rr)) m0)
  rw [f_X2_ofHearing] at h
  refine a_iload_n (pc := 0) F dX2_ofHearing_0 2 rfl ?_
  by_cases q1 : p2 = 0
  · replace h := ite_t q1 h
    refine a_swin (pc := 1) (tgt := 64) F dX2_ofHearing_1 (by rw [q1]; decide) (by rw [q1]; decide) (by rw [q1]; rfl) (by decide) ?_
    clear q1
    refine a_aload_n (pc := 64) F dX2_ofHearing_64 0 rfl ?_
    refine a_getr (k := c) (r := (c + 8)) (pc := 65) F dX2_ofHearing_65 fl_RX2_21 (klC_0 hc) (ksC_0 hc) rfl ?_
    refine a_getr (k := (c + 8)) (r := (c + 9)) (pc := 68) F dX2_ofHearing_68 fl_RX2_84 (klC_8 hc) (ksC_8 hc) rfl ?_
    refine a_iload_n (pc := 71) F dX2_ofHearing_71 1 rfl ?_
    replace h := gIn_some h
    obtain ⟨g2, h⟩ := h
    refine a_ial (k := (c + 9)) (pc := 72) F dX2_ofHearing_72 (klC_9 hc) (ksC_9 hc) g2 ?_
    refine a_nmi fun x3 ex3 => ?_
    replace h := nm_at ex3 h
    clear ex3
    cases h
    exact a_iret (pc := 73) F dX2_ofHearing_73 ⟨_, rfl, rfl⟩
  replace h := ite_f q1 h
  by_cases q4 : p2 = 1
  · replace h := ite_t q4 h
    refine a_swin (pc := 1) (tgt := 74) F dX2_ofHearing_1 (by rw [q4]; decide) (by rw [q4]; decide) (by rw [q4]; rfl) (by decide) ?_
    clear q4
    refine a_aload_n (pc := 74) F dX2_ofHearing_74 0 rfl ?_
    refine a_getr (k := c) (r := (c + 8)) (pc := 75) F dX2_ofHearing_75 fl_RX2_21 (klC_0 hc) (ksC_0 hc) rfl ?_
    refine a_getr (k := (c + 8)) (r := (c + 10)) (pc := 78) F dX2_ofHearing_78 fl_RX2_73 (klC_8 hc) (ksC_8 hc) rfl ?_
    refine a_iload_n (pc := 81) F dX2_ofHearing_81 1 rfl ?_
    replace h := gIn_some h
    obtain ⟨g5, h⟩ := h
    refine a_ial (k := (c + 10)) (pc := 82) F dX2_ofHearing_82 (klC_10 hc) (ksC_10 hc) g5 ?_
    refine a_nmi fun x6 ex6 => ?_
    replace h := nm_at ex6 h
    clear ex6
    cases h
    exact a_iret (pc := 83) F dX2_ofHearing_83 ⟨_, rfl, rfl⟩
  replace h := ite_f q4 h
  by_cases q7 : p2 = 2
  · replace h := ite_t q7 h
    refine a_swin (pc := 1) (tgt := 84) F dX2_ofHearing_1 (by rw [q7]; decide) (by rw [q7]; decide) (by rw [q7]; rfl) (by decide) ?_
    clear q7
    refine a_aload_n (pc := 84) F dX2_ofHearing_84 0 rfl ?_
    refine a_getr (k := c) (r := (c + 8)) (pc := 85) F dX2_ofHearing_85 fl_RX2_21 (klC_0 hc) (ksC_0 hc) rfl ?_
    refine a_getr (k := (c + 8)) (r := (c + 11)) (pc := 88) F dX2_ofHearing_88 fl_RX2_63 (klC_8 hc) (ksC_8 hc) rfl ?_
    refine a_iload_n (pc := 91) F dX2_ofHearing_91 1 rfl ?_
    replace h := gIn_some h
    obtain ⟨g8, h⟩ := h
    refine a_ial (k := (c + 11)) (pc := 92) F dX2_ofHearing_92 (klC_11 hc) (ksC_11 hc) g8 ?_
    refine a_nmi fun x9 ex9 => ?_
    replace h := nm_at ex9 h
    clear ex9
    cases h
    exact a_iret (pc := 93) F dX2_ofHearing_93 ⟨_, rfl, rfl⟩
  replace h := ite_f q7 h
  by_cases q10 : p2 = 3
  · replace h := ite_t q10 h
    refine a_swin (pc := 1) (tgt := 94) F dX2_ofHearing_1 (by rw [q10]; decide) (by rw [q10]; decide) (by rw [q10]; rfl) (by decide) ?_
    clear q10
    refine a_aload_n (pc := 94) F dX2_ofHearing_94 0 rfl ?_
    refine a_getr (k := c) (r := (c + 8)) (pc := 95) F dX2_ofHearing_95 fl_RX2_21 (klC_0 hc) (ksC_0 hc) rfl ?_
    refine a_getr (k := (c + 8)) (r := (c + 12)) (pc := 98) F dX2_ofHearing_98 fl_RX2_100 (klC_8 hc) (ksC_8 hc) rfl ?_
    refine a_iload_n (pc := 101) F dX2_ofHearing_101 1 rfl ?_
    replace h := gIn_some h
    obtain ⟨g11, h⟩ := h
    refine a_ial (k := (c + 12)) (pc := 102) F dX2_ofHearing_102 (klC_12 hc) (ksC_12 hc) g11 ?_
    refine a_nmi fun x12 ex12 => ?_
    replace h := nm_at ex12 h
    clear ex12
    cases h
    exact a_iret (pc := 103) F dX2_ofHearing_103 ⟨_, rfl, rfl⟩
  replace h := ite_f q10 h
  by_cases q13 : p2 = 4
  · replace h := ite_t q13 h
    refine a_swin (pc := 1) (tgt := 104) F dX2_ofHearing_1 (by rw [q13]; decide) (by rw [q13]; decide) (by rw [q13]; rfl) (by decide) ?_
    clear q13
    refine a_aload_n (pc := 104) F dX2_ofHearing_104 0 rfl ?_
    refine a_getr (k := c) (r := (c + 8)) (pc := 105) F dX2_ofHearing_105 fl_RX2_21 (klC_0 hc) (ksC_0 hc) rfl ?_
    refine a_getr (k := (c + 8)) (r := (c + 13)) (pc := 108) F dX2_ofHearing_108 fl_RX2_127 (klC_8 hc) (ksC_8 hc) rfl ?_
    refine a_iload_n (pc := 111) F dX2_ofHearing_111 1 rfl ?_
    replace h := gIn_some h
    obtain ⟨g14, h⟩ := h
    refine a_ial (k := (c + 13)) (pc := 112) F dX2_ofHearing_112 (klC_13 hc) (ksC_13 hc) g14 ?_
    refine a_nmi fun x15 ex15 => ?_
    replace h := nm_at ex15 h
    clear ex15
    cases h
    exact a_iret (pc := 113) F dX2_ofHearing_113 ⟨_, rfl, rfl⟩
  replace h := ite_f q13 h
  by_cases q16 : p2 = 5
  · replace h := ite_t q16 h
    refine a_swin (pc := 1) (tgt := 114) F dX2_ofHearing_1 (by rw [q16]; decide) (by rw [q16]; decide) (by rw [q16]; rfl) (by decide) ?_
    clear q16
    refine a_aload_n (pc := 114) F dX2_ofHearing_114 0 rfl ?_
    refine a_getr (k := c) (r := (c + 8)) (pc := 115) F dX2_ofHearing_115 fl_RX2_21 (klC_0 hc) (ksC_0 hc) rfl ?_
    refine a_getr (k := (c + 8)) (r := (c + 14)) (pc := 118) F dX2_ofHearing_118 fl_RX2_107 (klC_8 hc) (ksC_8 hc) rfl ?_
    refine a_iload_n (pc := 121) F dX2_ofHearing_121 1 rfl ?_
    replace h := gIn_some h
    obtain ⟨g17, h⟩ := h
    refine a_ial (k := (c + 14)) (pc := 122) F dX2_ofHearing_122 (klC_14 hc) (ksC_14 hc) g17 ?_
    refine a_nmi fun x18 ex18 => ?_
    replace h := nm_at ex18 h
    clear ex18
    cases h
    exact a_iret (pc := 123) F dX2_ofHearing_123 ⟨_, rfl, rfl⟩
  replace h := ite_f q16 h
  by_cases q19 : p2 = 6
  · replace h := ite_t q19 h
    refine a_swin (pc := 1) (tgt := 124) F dX2_ofHearing_1 (by rw [q19]; decide) (by rw [q19]; decide) (by rw [q19]; rfl) (by decide) ?_
    clear q19
    refine a_aload_n (pc := 124) F dX2_ofHearing_124 0 rfl ?_
    refine a_getr (k := c) (r := (c + 8)) (pc := 125) F dX2_ofHearing_125 fl_RX2_21 (klC_0 hc) (ksC_0 hc) rfl ?_
    refine a_iload_n (pc := 128) F dX2_ofHearing_128 1 rfl ?_
    refine a_iconst (v := 0) (pc := 129) F dX2_ofHearing_129 (by decide) ?_
    replace h := bnd_some h
    obtain ⟨x21, hc20, h⟩ := h
    refine a_callV (pc := 130) (k := (c + 8)) (As := [.int p1, .int 0]) (st := []) F dX2_ofHearing_130 (m_X3_member hc hc20) cv_RX2_103 (klC_8 hc) (ksC_8 hc) ⟨_, _, rfl⟩ rfl rfl rfl (Nat.le_of_ble_eq_true rfl) ⟨Nat.le_of_ble_eq_true rfl, Nat.le_of_ble_eq_true rfl⟩ ?_ rfl rfl
    clear hc20
    cases h
    exact a_iret (pc := 133) F dX2_ofHearing_133 ⟨_, rfl, rfl⟩
  replace h := ite_f q19 h
  by_cases q22 : p2 = 7
  · replace h := ite_t q22 h
    refine a_swin (pc := 1) (tgt := 134) F dX2_ofHearing_1 (by rw [q22]; decide) (by rw [q22]; decide) (by rw [q22]; rfl) (by decide) ?_
    clear q22
    refine a_aload_n (pc := 134) F dX2_ofHearing_134 0 rfl ?_
    refine a_getr (k := c) (r := (c + 8)) (pc := 135) F dX2_ofHearing_135 fl_RX2_21 (klC_0 hc) (ksC_0 hc) rfl ?_
    refine a_iload_n (pc := 138) F dX2_ofHearing_138 1 rfl ?_
    refine a_iconst (v := 1) (pc := 139) F dX2_ofHearing_139 (by decide) ?_
    replace h := bnd_some h
    obtain ⟨x24, hc23, h⟩ := h
    refine a_callV (pc := 140) (k := (c + 8)) (As := [.int p1, .int 1]) (st := []) F dX2_ofHearing_140 (m_X3_member hc hc23) cv_RX2_103 (klC_8 hc) (ksC_8 hc) ⟨_, _, rfl⟩ rfl rfl rfl (Nat.le_of_ble_eq_true rfl) ⟨Nat.le_of_ble_eq_true rfl, Nat.le_of_ble_eq_true rfl⟩ ?_ rfl rfl
    clear hc23
    cases h
    exact a_iret (pc := 143) F dX2_ofHearing_143 ⟨_, rfl, rfl⟩
  replace h := ite_f q22 h
  by_cases q25 : p2 = 8
  · replace h := ite_t q25 h
    refine a_swin (pc := 1) (tgt := 144) F dX2_ofHearing_1 (by rw [q25]; decide) (by rw [q25]; decide) (by rw [q25]; rfl) (by decide) ?_
    clear q25
    refine a_aload_n (pc := 144) F dX2_ofHearing_144 0 rfl ?_
    refine a_getr (k := c) (r := (c + 8)) (pc := 145) F dX2_ofHearing_145 fl_RX2_21 (klC_0 hc) (ksC_0 hc) rfl ?_
    refine a_iload_n (pc := 148) F dX2_ofHearing_148 1 rfl ?_
    refine a_iconst (v := 2) (pc := 149) F dX2_ofHearing_149 (by decide) ?_
    replace h := bnd_some h
    obtain ⟨x27, hc26, h⟩ := h
    refine a_callV (pc := 150) (k := (c + 8)) (As := [.int p1, .int 2]) (st := []) F dX2_ofHearing_150 (m_X3_member hc hc26) cv_RX2_103 (klC_8 hc) (ksC_8 hc) ⟨_, _, rfl⟩ rfl rfl rfl (Nat.le_of_ble_eq_true rfl) ⟨Nat.le_of_ble_eq_true rfl, Nat.le_of_ble_eq_true rfl⟩ ?_ rfl rfl
    clear hc26
    cases h
    exact a_iret (pc := 153) F dX2_ofHearing_153 ⟨_, rfl, rfl⟩
  replace h := ite_f q25 h
  by_cases q28 : p2 = 9
  · replace h := ite_t q28 h
    refine a_swin (pc := 1) (tgt := 154) F dX2_ofHearing_1 (by rw [q28]; decide) (by rw [q28]; decide) (by rw [q28]; rfl) (by decide) ?_
    clear q28
    refine a_aload_n (pc := 154) F dX2_ofHearing_154 0 rfl ?_
    refine a_iload_n (pc := 155) F dX2_ofHearing_155 1 rfl ?_
    refine a_iconst (v := 2) (pc := 156) F dX2_ofHearing_156 (by decide) ?_
    replace h := bnd_some h
    obtain ⟨x30, hc29, h⟩ := h
    refine a_callV (pc := 157) (k := c) (As := [.int p1, .int 2]) (st := []) F dX2_ofHearing_157 (m_X2_chainPay hc hc29) cv_RX2_120 (klC_0 hc) (ksC_0 hc) ⟨_, _, rfl⟩ rfl rfl rfl (Nat.le_of_ble_eq_true rfl) ⟨Nat.le_of_ble_eq_true rfl, Nat.le_of_ble_eq_true rfl⟩ ?_ rfl rfl
    clear hc29
    cases h
    exact a_iret (pc := 160) F dX2_ofHearing_160 ⟨_, rfl, rfl⟩
  replace h := ite_f q28 h
  by_cases q31 : p2 = 10
  · replace h := ite_t q31 h
    refine a_swin (pc := 1) (tgt := 161) F dX2_ofHearing_1 (by rw [q31]; decide) (by rw [q31]; decide) (by rw [q31]; rfl) (by decide) ?_
    clear q31
    refine a_aload_n (pc := 161) F dX2_ofHearing_161 0 rfl ?_
    refine a_getr (k := c) (r := (c + 8)) (pc := 162) F dX2_ofHearing_162 fl_RX2_21 (klC_0 hc) (ksC_0 hc) rfl ?_
    refine a_getr (k := (c + 8)) (r := (c + 15)) (pc := 165) F dX2_ofHearing_165 fl_RX2_130 (klC_8 hc) (ksC_8 hc) rfl ?_
    refine a_iload_n (pc := 168) F dX2_ofHearing_168 1 rfl ?_
    replace h := gIn_some h
    obtain ⟨g32, h⟩ := h
    refine a_ial (k := (c + 15)) (pc := 169) F dX2_ofHearing_169 (klC_15 hc) (ksC_15 hc) g32 ?_
    refine a_nmi fun x33 ex33 => ?_
    replace h := nm_at ex33 h
    clear ex33
    cases h
    exact a_iret (pc := 170) F dX2_ofHearing_170 ⟨_, rfl, rfl⟩
  replace h := ite_f q31 h
  by_cases q34 : p2 = 11
  · replace h := ite_t q34 h
    refine a_swin (pc := 1) (tgt := 171) F dX2_ofHearing_1 (by rw [q34]; decide) (by rw [q34]; decide) (by rw [q34]; rfl) (by decide) ?_
    clear q34
    refine a_aload_n (pc := 171) F dX2_ofHearing_171 0 rfl ?_
    refine a_getr (k := c) (r := (c + 8)) (pc := 172) F dX2_ofHearing_172 fl_RX2_21 (klC_0 hc) (ksC_0 hc) rfl ?_
    refine a_iload_n (pc := 175) F dX2_ofHearing_175 1 rfl ?_
    replace h := bnd_some h
    obtain ⟨x36, hc35, h⟩ := h
    refine a_callV (pc := 176) (k := (c + 8)) (As := [.int p1]) (st := []) F dX2_ofHearing_176 (m_X3_isListed hc hc35) cv_RX2_66 (klC_8 hc) (ksC_8 hc) ⟨_, _, rfl⟩ rfl rfl rfl (Nat.le_of_ble_eq_true rfl) ⟨Nat.le_of_ble_eq_true rfl, Nat.le_of_ble_eq_true rfl⟩ ?_ rfl rfl
    clear hc35
    refine a_if_eq (tgt := 193) (pc := 179) F dX2_ofHearing_179 (by decide) (fun q37 => ?_) (fun q37 => ?_)
    · replace h := ite_t q37 h
      clear q37
      refine a_iconst (v := 0) (pc := 193) F dX2_ofHearing_193 (by decide) ?_
      cases h
      exact a_iret (pc := 194) F dX2_ofHearing_194 ⟨_, rfl, rfl⟩
    · replace h := ite_f q37 h
      clear q37
      refine a_aload_n (pc := 182) F dX2_ofHearing_182 0 rfl ?_
      refine a_getr (k := c) (r := (c + 8)) (pc := 183) F dX2_ofHearing_183 fl_RX2_21 (klC_0 hc) (ksC_0 hc) rfl ?_
      refine a_iload_n (pc := 186) F dX2_ofHearing_186 1 rfl ?_
      replace h := bnd_some h
      obtain ⟨x39, hc38, h⟩ := h
      refine a_callV (pc := 187) (k := (c + 8)) (As := [.int p1]) (st := []) F dX2_ofHearing_187 (m_X3_clashesOf hc hc38) cv_RX2_186 (klC_8 hc) (ksC_8 hc) ⟨_, _, rfl⟩ rfl rfl rfl (Nat.le_of_ble_eq_true rfl) ⟨Nat.le_of_ble_eq_true rfl, Nat.le_of_ble_eq_true rfl⟩ ?_ rfl rfl
      clear hc38
      refine a_goto (tgt := 194) (pc := 190) F dX2_ofHearing_190 (by decide) ?_
      cases h
      exact a_iret (pc := 194) F dX2_ofHearing_194 ⟨_, rfl, rfl⟩
  replace h := ite_f q34 h
  refine a_swout (pc := 1) (tgt := 195) F dX2_ofHearing_1 (by have nq1 := lv_neT (a := 0) q1 (by decide); have nq4 := lv_neT (a := 1) q4 (by decide); have nq7 := lv_neT (a := 2) q7 (by decide); have nq10 := lv_neT (a := 3) q10 (by decide); have nq13 := lv_neT (a := 4) q13 (by decide); have nq16 := lv_neT (a := 5) q16 (by decide); have nq19 := lv_neT (a := 6) q19 (by decide); have nq22 := lv_neT (a := 7) q22 (by decide); have nq25 := lv_neT (a := 8) q25 (by decide); have nq28 := lv_neT (a := 9) q28 (by decide); have nq31 := lv_neT (a := 10) q31 (by decide); have nq34 := lv_neT (a := 11) q34 (by decide); omega) (by decide) ?_
  clear q1
  clear q4
  clear q7
  clear q10
  clear q13
  clear q16
  clear q19
  clear q22
  clear q25
  clear q28
  clear q31
  clear q34
  refine a_iconst (v := (-1)) (pc := 195) F dX2_ofHearing_195 (by decide) ?_
  cases h
  exact a_iret (pc := 196) F dX2_ofHearing_196 ⟨_, rfl, rfl⟩
def f_X7_hearing (p1 : Int32) (p2 : Int32) (m0 : Mem) : Option Int32 :=
  bnd (f_X3_has 1 p1 m0) fun x2 => (if x2 = 0 then none else bnd (f_X7_within p2 0 11 m0) fun x5 => (if x5 = 0 then none else bnd (f_X2_ofHearing 1 p1 p2 m0) fun x8 => some x8))
set_option maxRecDepth 100000 in
set_option maxHeartbeats 4000000 in
theorem m_X7_hearing {p1 : Int32} {p2 : Int32} {m0 : Mem} {rr : Int32} (h : f_X7_hearing p1 p2 m0 = some rr) : Con yX7_hearing cX7_hearing 3 (some Jvm.ClassFile.FieldType.int) 4 93 (fun G => [.ref (ga G 0), .int p1, .int p2]) m0 (some (.int rr)) m0 := by
  refine con_of (by decide) (fun G => Nat.le_of_ble_eq_true rfl) (fun X F => ?_)
  show WA X 0 0 0 [(0, .ref (ga X.G 0)), (1, .int p1), (2, .int p2)] [] m0 (EQ X (some (.int rr)) m0)
  rw [f_X7_hearing] at h
  refine a_aload_n (pc := 0) F dX7_hearing_0 0 rfl ?_
  refine a_getr (k := 0) (r := 1) (pc := 1) F dX7_hearing_1 fl_RX7_10 kl_0 ks_0 rfl ?_
  refine a_getr (k := 1) (r := (1 + 8)) (pc := 4) F dX7_hearing_4 fl_RX7_89 (klC_0 isC_1) (ksC_0 isC_1) rfl ?_
  refine a_iload_n (pc := 7) F dX7_hearing_7 1 rfl ?_
  replace h := bnd_some h
  obtain ⟨x2, hc1, h⟩ := h
  refine a_callV (pc := 8) (k := (1 + 8)) (As := [.int p1]) (st := []) F dX7_hearing_8 (m_X3_has isC_1 hc1) cv_RX7_133 (klC_8 isC_1) (ksC_8 isC_1) ⟨_, _, rfl⟩ rfl rfl rfl (Nat.le_of_ble_eq_true rfl) ⟨Nat.le_of_ble_eq_true rfl, Nat.le_of_ble_eq_true rfl⟩ ?_ rfl rfl
  clear hc1
  refine a_if_ne (tgt := 24) (pc := 11) F dX7_hearing_11 (by decide) (fun q3 => ?_) (fun q3 => ?_)
  · replace h := ite_f q3 h
    clear q3
    refine a_iload_n (pc := 24) F dX7_hearing_24 2 rfl ?_
    refine a_iconst (v := 0) (pc := 25) F dX7_hearing_25 (by decide) ?_
    refine a_bipush (v := 11) (pc := 26) F dX7_hearing_26 (by decide) ?_
    replace h := bnd_some h
    obtain ⟨x5, hc4, h⟩ := h
    refine a_callS (pc := 28) (As := [.int p2, .int 0, .int 11]) (st := []) F dX7_hearing_28 (m_X7_within hc4) cs_RX7_47 rfl rfl rfl (Nat.le_of_ble_eq_true rfl) ⟨Nat.le_of_ble_eq_true rfl, Nat.le_of_ble_eq_true rfl⟩ ?_ rfl rfl
    clear hc4
    refine a_if_ne (tgt := 44) (pc := 31) F dX7_hearing_31 (by decide) (fun q6 => ?_) (fun q6 => ?_)
    · replace h := ite_f q6 h
      clear q6
      refine a_aload_n (pc := 44) F dX7_hearing_44 0 rfl ?_
      refine a_getr (k := 0) (r := 1) (pc := 45) F dX7_hearing_45 fl_RX7_10 kl_0 ks_0 rfl ?_
      refine a_iload_n (pc := 48) F dX7_hearing_48 1 rfl ?_
      refine a_iload_n (pc := 49) F dX7_hearing_49 2 rfl ?_
      replace h := bnd_some h
      obtain ⟨x8, hc7, h⟩ := h
      refine a_callV (pc := 50) (k := 1) (As := [.int p1, .int p2]) (st := []) F dX7_hearing_50 (m_X2_ofHearing isC_1 hc7) cv_RX7_240 (klC_0 isC_1) (ksC_0 isC_1) ⟨_, _, rfl⟩ rfl rfl rfl (Nat.le_of_ble_eq_true rfl) ⟨Nat.le_of_ble_eq_true rfl, Nat.le_of_ble_eq_true rfl⟩ ?_ rfl rfl
      clear hc7
      cases h
      exact a_iret (pc := 53) F dX7_hearing_53 ⟨_, rfl, rfl⟩
    · replace h := ite_t (Decidable.not_not.mp q6) h
      clear q6
      cases h
  · replace h := ite_t (Decidable.not_not.mp q3) h
    clear q3
    cases h
def f_X3_countStage_L4 (c : Nat) (p1 : Int32) (m0 : Mem) : (Int32 × Int32) → Option ((Int32 × Int32) ⊕ Int32)
  | (x2, x3) => (if (m0.1 (c + 8) 0) ≤ x3 then some (.inr x2) else gIn x3 30 <| nm (m0.1 (c + 13) x3.toNatClampNeg) fun x6 => (if x6 = p1 then nm (x2 + 1) fun x9 => nm (x3 + 1) fun x10 => some (.inl (x9, x10)) else nm (x3 + 1) fun x8 => some (.inl (x2, x8))))
def f_X3_countStage (c : Nat) (p1 : Int32) (m0 : Mem) : Option Int32 :=
  bnd (lp (f_X3_countStage_L4 c p1 m0) 1000000 (0, 0)) (fun x11 => some x11)
set_option maxRecDepth 100000 in
set_option maxHeartbeats 4000000 in
theorem m_X3_countStage {c : Nat} {p1 : Int32} (hc : isC c) {m0 : Mem} {rr : Int32} (h : f_X3_countStage c p1 m0 = some rr) : Con yX3_countStage cX3_countStage 4 (some Jvm.ClassFile.FieldType.int) 0 0 (fun G => [.ref (ga G (c + 8)), .int p1]) m0 (some (.int rr)) m0 := by
  refine con_of (by decide) (fun G => Nat.le_of_ble_eq_true rfl) (fun X F => ?_)
  show WA X 0 0 0 [(0, .ref (ga X.G (c + 8))), (1, .int p1)] [] m0 (EQ X (some (.int rr)) m0)
  rw [f_X3_countStage] at h
  refine a_iconst (v := 0) (pc := 0) F dX3_countStage_0 (by decide) ?_
  refine a_istore_n (lv' := [(2, .int 0), (0, .ref (ga X.G (c + 8))), (1, .int p1)]) (pc := 1) F dX3_countStage_1 (by decide) rfl ?_
  refine a_iconst (v := 0) (pc := 2) F dX3_countStage_2 (by decide) ?_
  refine a_istore_n (lv' := [(3, .int 0), (2, .int 0), (0, .ref (ga X.G (c + 8))), (1, .int p1)]) (pc := 3) F dX3_countStage_3 (by decide) rfl ?_
  refine a_lv F [2, 3, 1, 0] rfl ?_
  replace h := bnd_some h
  obtain ⟨x11, hL1, h⟩ := h
  have hE1 : WA X 0 0 31 [(2, .int x11)] [] m0 (EQ X (some (.int rr)) m0) := by
    refine a_iload_n (pc := 31) F dX3_countStage_31 0 rfl ?_
    cases h
    exact a_iret (pc := 32) F dX3_countStage_32 ⟨_, rfl, rfl⟩
  clear h
  refine lp_run (P := fun (s : (Int32 × Int32)) => WA X 0 0 4 [(0, .ref (ga X.G (c + 8))), (1, .int p1), (2, .int s.1), (3, .int s.2)] [] m0 (EQ X (some (.int rr)) m0)) ?_ _ _ hL1
  clear hL1
  rintro ⟨x2, x3⟩ xo h hP1 hT1
  show WA X 0 0 4 [(0, .ref (ga X.G (c + 8))), (1, .int p1), (2, .int x2), (3, .int x3)] [] m0 (EQ X (some (.int rr)) m0)
  rw [f_X3_countStage_L4] at h
  refine a_iload_n (pc := 4) F dX3_countStage_4 3 rfl ?_
  refine a_aload_n (pc := 5) F dX3_countStage_5 0 rfl ?_
  refine a_geti (k := (c + 8)) (pc := 6) F dX3_countStage_6 fl_RX3_39 (klC_8 hc) (ksC_8 hc) rfl ?_
  refine a_icmp_ge (tgt := 31) (pc := 9) F dX3_countStage_9 (by decide) (fun q4 => ?_) (fun q4 => ?_)
  · replace h := ite_t q4 h
    clear q4
    refine a_lv F [2] rfl ?_
    cases hT1 _ (Option.some.inj h).symm
    exact hE1
  · replace h := ite_f q4 h
    clear q4
    refine a_aload_n (pc := 12) F dX3_countStage_12 0 rfl ?_
    refine a_getr (k := (c + 8)) (r := (c + 13)) (pc := 13) F dX3_countStage_13 fl_RX3_24 (klC_8 hc) (ksC_8 hc) rfl ?_
    refine a_iload_n (pc := 16) F dX3_countStage_16 3 rfl ?_
    replace h := gIn_some h
    obtain ⟨g5, h⟩ := h
    refine a_ial (k := (c + 13)) (pc := 17) F dX3_countStage_17 (klC_13 hc) (ksC_13 hc) g5 ?_
    refine a_nmi fun x6 ex6 => ?_
    replace h := nm_at ex6 h
    clear ex6
    refine a_iload_n (pc := 18) F dX3_countStage_18 1 rfl ?_
    refine a_icmp_ne (tgt := 25) (pc := 19) F dX3_countStage_19 (by decide) (fun q7 => ?_) (fun q7 => ?_)
    · replace h := ite_f q7 h
      clear q7
      obtain ⟨x8, ex8⟩ : ∃ x8 : Int32, x8 = x3 + 1 := ⟨_, rfl⟩
      refine a_iinc (v := x8) (lv' := [(3, .int x8), (0, .ref (ga X.G (c + 8))), (1, .int p1), (2, .int x2)]) (pc := 25) F dX3_countStage_25 3 rfl (by rw [ex8]; rfl) (by decide) rfl ?_
      replace h := nm_at ex8 h
      clear ex8
      refine a_goto (tgt := 4) (pc := 28) F dX3_countStage_28 (by decide) ?_
      refine a_lv F [1, 2, 3, 0] rfl ?_
      exact hP1 _ (Option.some.inj h).symm
    · replace h := ite_t (Decidable.not_not.mp q7) h
      clear q7
      obtain ⟨x9, ex9⟩ : ∃ x9 : Int32, x9 = x2 + 1 := ⟨_, rfl⟩
      refine a_iinc (v := x9) (lv' := [(2, .int x9), (0, .ref (ga X.G (c + 8))), (1, .int p1), (3, .int x3)]) (pc := 22) F dX3_countStage_22 2 rfl (by rw [ex9]; rfl) (by decide) rfl ?_
      replace h := nm_at ex9 h
      clear ex9
      obtain ⟨x10, ex10⟩ : ∃ x10 : Int32, x10 = x3 + 1 := ⟨_, rfl⟩
      refine a_iinc (v := x10) (lv' := [(3, .int x10), (2, .int x9), (0, .ref (ga X.G (c + 8))), (1, .int p1)]) (pc := 25) F dX3_countStage_25 3 rfl (by rw [ex10]; rfl) (by decide) rfl ?_
      replace h := nm_at ex10 h
      clear ex10
      refine a_goto (tgt := 4) (pc := 28) F dX3_countStage_28 (by decide) ?_
      refine a_lv F [2, 3, 1, 0] rfl ?_
      exact hP1 _ (Option.some.inj h).symm
def f_X3_countListedManned_L4 (c : Nat) (m0 : Mem) : (Int32 × Int32) → Option ((Int32 × Int32) ⊕ Int32)
  | (x2, x3) => (if (m0.1 (c + 8) 0) ≤ x3 then some (.inr x2) else bnd (f_X3_isListed c x3 m0) fun x6 => (if x6 = 0 then nm (x3 + 1) fun x8 => some (.inl (x2, x8)) else gIn x3 30 <| nm (m0.1 (c + 14) x3.toNatClampNeg) fun x10 => (if x10 ≤ 0 then nm (x3 + 1) fun x12 => some (.inl (x2, x12)) else nm (x2 + 1) fun x13 => nm (x3 + 1) fun x14 => some (.inl (x13, x14)))))
def f_X3_countListedManned (c : Nat) (m0 : Mem) : Option Int32 :=
  bnd (lp (f_X3_countListedManned_L4 c m0) 1000000 (0, 0)) (fun x15 => some x15)
set_option maxRecDepth 100000 in
set_option maxHeartbeats 4000000 in
theorem m_X3_countListedManned {c : Nat} (hc : isC c) {m0 : Mem} {rr : Int32} (h : f_X3_countListedManned c m0 = some rr) : Con yX3_countListedManned cX3_countListedManned 3 (some Jvm.ClassFile.FieldType.int) 1 21 (fun G => [.ref (ga G (c + 8))]) m0 (some (.int rr)) m0 := by
  refine con_of (by decide) (fun G => Nat.le_of_ble_eq_true rfl) (fun X F => ?_)
  show WA X 0 0 0 [(0, .ref (ga X.G (c + 8)))] [] m0 (EQ X (some (.int rr)) m0)
  rw [f_X3_countListedManned] at h
  refine a_iconst (v := 0) (pc := 0) F dX3_countListedManned_0 (by decide) ?_
  refine a_istore_n (lv' := [(1, .int 0), (0, .ref (ga X.G (c + 8)))]) (pc := 1) F dX3_countListedManned_1 (by decide) rfl ?_
  refine a_iconst (v := 0) (pc := 2) F dX3_countListedManned_2 (by decide) ?_
  refine a_istore_n (lv' := [(2, .int 0), (1, .int 0), (0, .ref (ga X.G (c + 8)))]) (pc := 3) F dX3_countListedManned_3 (by decide) rfl ?_
  refine a_lv F [2, 1, 0] rfl ?_
  replace h := bnd_some h
  obtain ⟨x15, hL1, h⟩ := h
  have hE1 : WA X 0 0 38 [(1, .int x15)] [] m0 (EQ X (some (.int rr)) m0) := by
    refine a_iload_n (pc := 38) F dX3_countListedManned_38 0 rfl ?_
    cases h
    exact a_iret (pc := 39) F dX3_countListedManned_39 ⟨_, rfl, rfl⟩
  clear h
  refine lp_run (P := fun (s : (Int32 × Int32)) => WA X 0 0 4 [(0, .ref (ga X.G (c + 8))), (1, .int s.1), (2, .int s.2)] [] m0 (EQ X (some (.int rr)) m0)) ?_ _ _ hL1
  clear hL1
  rintro ⟨x2, x3⟩ xo h hP1 hT1
  show WA X 0 0 4 [(0, .ref (ga X.G (c + 8))), (1, .int x2), (2, .int x3)] [] m0 (EQ X (some (.int rr)) m0)
  rw [f_X3_countListedManned_L4] at h
  refine a_iload_n (pc := 4) F dX3_countListedManned_4 2 rfl ?_
  refine a_aload_n (pc := 5) F dX3_countListedManned_5 0 rfl ?_
  refine a_geti (k := (c + 8)) (pc := 6) F dX3_countListedManned_6 fl_RX3_39 (klC_8 hc) (ksC_8 hc) rfl ?_
  refine a_icmp_ge (tgt := 38) (pc := 9) F dX3_countListedManned_9 (by decide) (fun q4 => ?_) (fun q4 => ?_)
  · replace h := ite_t q4 h
    clear q4
    refine a_lv F [1] rfl ?_
    cases hT1 _ (Option.some.inj h).symm
    exact hE1
  · replace h := ite_f q4 h
    clear q4
    refine a_aload_n (pc := 12) F dX3_countListedManned_12 0 rfl ?_
    refine a_iload_n (pc := 13) F dX3_countListedManned_13 2 rfl ?_
    replace h := bnd_some h
    obtain ⟨x6, hc5, h⟩ := h
    refine a_callV (pc := 14) (k := (c + 8)) (As := [.int x3]) (st := []) F dX3_countListedManned_14 (m_X3_isListed hc hc5) cv_RX3_70 (klC_8 hc) (ksC_8 hc) ⟨_, _, rfl⟩ rfl rfl rfl (Nat.le_of_ble_eq_true rfl) ⟨Nat.le_of_ble_eq_true rfl, Nat.le_of_ble_eq_true rfl⟩ ?_ rfl rfl
    clear hc5
    refine a_if_eq (tgt := 32) (pc := 17) F dX3_countListedManned_17 (by decide) (fun q7 => ?_) (fun q7 => ?_)
    · replace h := ite_t q7 h
      clear q7
      obtain ⟨x8, ex8⟩ : ∃ x8 : Int32, x8 = x3 + 1 := ⟨_, rfl⟩
      refine a_iinc (v := x8) (lv' := [(2, .int x8), (0, .ref (ga X.G (c + 8))), (1, .int x2)]) (pc := 32) F dX3_countListedManned_32 2 rfl (by rw [ex8]; rfl) (by decide) rfl ?_
      replace h := nm_at ex8 h
      clear ex8
      refine a_goto (tgt := 4) (pc := 35) F dX3_countListedManned_35 (by decide) ?_
      refine a_lv F [1, 2, 0] rfl ?_
      exact hP1 _ (Option.some.inj h).symm
    · replace h := ite_f q7 h
      clear q7
      refine a_aload_n (pc := 20) F dX3_countListedManned_20 0 rfl ?_
      refine a_getr (k := (c + 8)) (r := (c + 14)) (pc := 21) F dX3_countListedManned_21 fl_RX3_27 (klC_8 hc) (ksC_8 hc) rfl ?_
      refine a_iload_n (pc := 24) F dX3_countListedManned_24 2 rfl ?_
      replace h := gIn_some h
      obtain ⟨g9, h⟩ := h
      refine a_ial (k := (c + 14)) (pc := 25) F dX3_countListedManned_25 (klC_14 hc) (ksC_14 hc) g9 ?_
      refine a_nmi fun x10 ex10 => ?_
      replace h := nm_at ex10 h
      clear ex10
      refine a_if_le (tgt := 32) (pc := 26) F dX3_countListedManned_26 (by decide) (fun q11 => ?_) (fun q11 => ?_)
      · replace h := ite_t q11 h
        clear q11
        obtain ⟨x12, ex12⟩ : ∃ x12 : Int32, x12 = x3 + 1 := ⟨_, rfl⟩
        refine a_iinc (v := x12) (lv' := [(2, .int x12), (0, .ref (ga X.G (c + 8))), (1, .int x2)]) (pc := 32) F dX3_countListedManned_32 2 rfl (by rw [ex12]; rfl) (by decide) rfl ?_
        replace h := nm_at ex12 h
        clear ex12
        refine a_goto (tgt := 4) (pc := 35) F dX3_countListedManned_35 (by decide) ?_
        refine a_lv F [1, 2, 0] rfl ?_
        exact hP1 _ (Option.some.inj h).symm
      · replace h := ite_f q11 h
        clear q11
        obtain ⟨x13, ex13⟩ : ∃ x13 : Int32, x13 = x2 + 1 := ⟨_, rfl⟩
        refine a_iinc (v := x13) (lv' := [(1, .int x13), (0, .ref (ga X.G (c + 8))), (2, .int x3)]) (pc := 29) F dX3_countListedManned_29 1 rfl (by rw [ex13]; rfl) (by decide) rfl ?_
        replace h := nm_at ex13 h
        clear ex13
        obtain ⟨x14, ex14⟩ : ∃ x14 : Int32, x14 = x3 + 1 := ⟨_, rfl⟩
        refine a_iinc (v := x14) (lv' := [(2, .int x14), (1, .int x13), (0, .ref (ga X.G (c + 8)))]) (pc := 32) F dX3_countListedManned_32 2 rfl (by rw [ex14]; rfl) (by decide) rfl ?_
        replace h := nm_at ex14 h
        clear ex14
        refine a_goto (tgt := 4) (pc := 35) F dX3_countListedManned_35 (by decide) ?_
        refine a_lv F [2, 1, 0] rfl ?_
        exact hP1 _ (Option.some.inj h).symm
def f_X2_working_L4 (c : Nat) (m0 : Mem) : (Int32 × Int32) → Option ((Int32 × Int32) ⊕ Int32)
  | (x2, x3) => (if (m0.1 (c + 8) 0) ≤ x3 then some (.inr x2) else bnd (f_X2_isUnderWay c x3 m0) fun x6 => (if x6 = 0 then nm (x3 + 1) fun x8 => some (.inl (x2, x8)) else gIn x3 30 <| nm (m0.1 (c + 16) x3.toNatClampNeg) fun x10 => nm (x3 + 1) fun x11 => some (.inl (x2 ||| x10, x11))))
def f_X2_working (c : Nat) (m0 : Mem) : Option Int32 :=
  bnd (lp (f_X2_working_L4 c m0) 1000000 (0, 0)) (fun x12 => some x12)
set_option maxRecDepth 100000 in
set_option maxHeartbeats 4000000 in
theorem m_X2_working {c : Nat} (hc : isC c) {m0 : Mem} {rr : Int32} (h : f_X2_working c m0 = some rr) : Con yX2_working cX2_working 3 (some Jvm.ClassFile.FieldType.int) 2 42 (fun G => [.ref (ga G c)]) m0 (some (.int rr)) m0 := by
  refine con_of (by decide) (fun G => Nat.le_of_ble_eq_true rfl) (fun X F => ?_)
  show WA X 0 0 0 [(0, .ref (ga X.G c))] [] m0 (EQ X (some (.int rr)) m0)
  rw [f_X2_working] at h
  refine a_iconst (v := 0) (pc := 0) F dX2_working_0 (by decide) ?_
  refine a_istore_n (lv' := [(1, .int 0), (0, .ref (ga X.G c))]) (pc := 1) F dX2_working_1 (by decide) rfl ?_
  refine a_iconst (v := 0) (pc := 2) F dX2_working_2 (by decide) ?_
  refine a_istore_n (lv' := [(2, .int 0), (1, .int 0), (0, .ref (ga X.G c))]) (pc := 3) F dX2_working_3 (by decide) rfl ?_
  refine a_lv F [2, 1, 0] rfl ?_
  replace h := bnd_some h
  obtain ⟨x12, hL1, h⟩ := h
  have hE1 : WA X 0 0 41 [(1, .int x12)] [] m0 (EQ X (some (.int rr)) m0) := by
    refine a_iload_n (pc := 41) F dX2_working_41 0 rfl ?_
    cases h
    exact a_iret (pc := 42) F dX2_working_42 ⟨_, rfl, rfl⟩
  clear h
  refine lp_run (P := fun (s : (Int32 × Int32)) => WA X 0 0 4 [(0, .ref (ga X.G c)), (1, .int s.1), (2, .int s.2)] [] m0 (EQ X (some (.int rr)) m0)) ?_ _ _ hL1
  clear hL1
  rintro ⟨x2, x3⟩ xo h hP1 hT1
  show WA X 0 0 4 [(0, .ref (ga X.G c)), (1, .int x2), (2, .int x3)] [] m0 (EQ X (some (.int rr)) m0)
  rw [f_X2_working_L4] at h
  refine a_iload_n (pc := 4) F dX2_working_4 2 rfl ?_
  refine a_aload_n (pc := 5) F dX2_working_5 0 rfl ?_
  refine a_getr (k := c) (r := (c + 8)) (pc := 6) F dX2_working_6 fl_RX2_21 (klC_0 hc) (ksC_0 hc) rfl ?_
  refine a_geti (k := (c + 8)) (pc := 9) F dX2_working_9 fl_RX2_135 (klC_8 hc) (ksC_8 hc) rfl ?_
  refine a_icmp_ge (tgt := 41) (pc := 12) F dX2_working_12 (by decide) (fun q4 => ?_) (fun q4 => ?_)
  · replace h := ite_t q4 h
    clear q4
    refine a_lv F [1] rfl ?_
    cases hT1 _ (Option.some.inj h).symm
    exact hE1
  · replace h := ite_f q4 h
    clear q4
    refine a_aload_n (pc := 15) F dX2_working_15 0 rfl ?_
    refine a_iload_n (pc := 16) F dX2_working_16 2 rfl ?_
    replace h := bnd_some h
    obtain ⟨x6, hc5, h⟩ := h
    refine a_callV (pc := 17) (k := c) (As := [.int x3]) (st := []) F dX2_working_17 (m_X2_isUnderWay hc hc5) cv_RX2_145 (klC_0 hc) (ksC_0 hc) ⟨_, _, rfl⟩ rfl rfl rfl (Nat.le_of_ble_eq_true rfl) ⟨Nat.le_of_ble_eq_true rfl, Nat.le_of_ble_eq_true rfl⟩ ?_ rfl rfl
    clear hc5
    refine a_if_eq (tgt := 35) (pc := 20) F dX2_working_20 (by decide) (fun q7 => ?_) (fun q7 => ?_)
    · replace h := ite_t q7 h
      clear q7
      obtain ⟨x8, ex8⟩ : ∃ x8 : Int32, x8 = x3 + 1 := ⟨_, rfl⟩
      refine a_iinc (v := x8) (lv' := [(2, .int x8), (0, .ref (ga X.G c)), (1, .int x2)]) (pc := 35) F dX2_working_35 2 rfl (by rw [ex8]; rfl) (by decide) rfl ?_
      replace h := nm_at ex8 h
      clear ex8
      refine a_goto (tgt := 4) (pc := 38) F dX2_working_38 (by decide) ?_
      refine a_lv F [1, 2, 0] rfl ?_
      exact hP1 _ (Option.some.inj h).symm
    · replace h := ite_f q7 h
      clear q7
      refine a_iload_n (pc := 23) F dX2_working_23 1 rfl ?_
      refine a_aload_n (pc := 24) F dX2_working_24 0 rfl ?_
      refine a_getr (k := c) (r := (c + 8)) (pc := 25) F dX2_working_25 fl_RX2_21 (klC_0 hc) (ksC_0 hc) rfl ?_
      refine a_getr (k := (c + 8)) (r := (c + 16)) (pc := 28) F dX2_working_28 fl_RX2_148 (klC_8 hc) (ksC_8 hc) rfl ?_
      refine a_iload_n (pc := 31) F dX2_working_31 2 rfl ?_
      replace h := gIn_some h
      obtain ⟨g9, h⟩ := h
      refine a_ial (k := (c + 16)) (pc := 32) F dX2_working_32 (klC_16 hc) (ksC_16 hc) g9 ?_
      refine a_nmi fun x10 ex10 => ?_
      replace h := nm_at ex10 h
      clear ex10
      refine a_ior (pc := 33) F dX2_working_33 ?_
      refine a_istore_n (lv' := [(1, .int (x2 ||| x10)), (0, .ref (ga X.G c)), (2, .int x3)]) (pc := 34) F dX2_working_34 (by decide) rfl ?_
      obtain ⟨x11, ex11⟩ : ∃ x11 : Int32, x11 = x3 + 1 := ⟨_, rfl⟩
      refine a_iinc (v := x11) (lv' := [(2, .int x11), (1, .int (x2 ||| x10)), (0, .ref (ga X.G c))]) (pc := 35) F dX2_working_35 2 rfl (by rw [ex11]; rfl) (by decide) rfl ?_
      replace h := nm_at ex11 h
      clear ex11
      refine a_goto (tgt := 4) (pc := 38) F dX2_working_38 (by decide) ?_
      refine a_lv F [2, 1, 0] rfl ?_
      exact hP1 _ (Option.some.inj h).symm
def f_X2_numberOf (c : Nat) (p1 : Int32) (m0 : Mem) : Option Int32 :=
  (if p1 = 0 then some (m0.1 (c + 1) 0) else (if p1 = 1 then some (m0.1 (c + 8) 0) else (if p1 = 2 then some (m0.1 c 3) else (if p1 = 3 then bnd (f_X3_countStage c 0 m0) fun x6 => some x6 else (if p1 = 4 then bnd (f_X3_countListedManned c m0) fun x9 => some x9 else (if p1 = 5 then bnd (f_X3_countStage c 1 m0) fun x12 => some x12 else (if p1 = 6 then bnd (f_X3_countStage c 2 m0) fun x15 => some x15 else (if p1 = 7 then bnd (f_X3_countStage c 3 m0) fun x18 => some x18 else (if p1 = 8 then some (m0.1 c 4) else (if p1 = 9 then some (m0.1 c 5) else (if p1 = 10 then some (m0.1 c 6) else (if p1 = 11 then bnd (f_X2_working c m0) fun x24 => bnd (f_J6_bitCount_0f7a4 x24 m0) fun x26 => some x26 else some (-1)))))))))))))
set_option maxRecDepth 100000 in
set_option maxHeartbeats 4000000 in
theorem m_X2_numberOf {c : Nat} {p1 : Int32} (hc : isC c) {m0 : Mem} {rr : Int32} (h : f_X2_numberOf c p1 m0 = some rr) : Con yX2_numberOf cX2_numberOf 2 (some Jvm.ClassFile.FieldType.int) 3 64 (fun G => [.ref (ga G c), .int p1]) m0 (some (.int rr)) m0 := by
  refine con_of (by decide) (fun G => Nat.le_of_ble_eq_true rfl) (fun X F => ?_)
  show WA X 0 0 0 [(0, .ref (ga X.G c)), (1, .int p1)] [] m0 (EQ X (some (.int rr)) m0)
  rw [f_X2_numberOf] at h
  refine a_iload_n (pc := 0) F dX2_numberOf_0 1 rfl ?_
  by_cases q1 : p1 = 0
  · replace h := ite_t q1 h
    refine a_swin (pc := 1) (tgt := 64) F dX2_numberOf_1 (by rw [q1]; decide) (by rw [q1]; decide) (by rw [q1]; rfl) (by decide) ?_
    clear q1
    refine a_aload_n (pc := 64) F dX2_numberOf_64 0 rfl ?_
    refine a_getr (k := c) (r := (c + 1)) (pc := 65) F dX2_numberOf_65 fl_RX2_12 (klC_0 hc) (ksC_0 hc) rfl ?_
    refine a_geti (k := (c + 1)) (pc := 68) F dX2_numberOf_68 fl_RX2_94 (klC_1 hc) (ksC_1 hc) rfl ?_
    cases h
    exact a_iret (pc := 71) F dX2_numberOf_71 ⟨_, rfl, rfl⟩
  replace h := ite_f q1 h
  by_cases q2 : p1 = 1
  · replace h := ite_t q2 h
    refine a_swin (pc := 1) (tgt := 72) F dX2_numberOf_1 (by rw [q2]; decide) (by rw [q2]; decide) (by rw [q2]; rfl) (by decide) ?_
    clear q2
    refine a_aload_n (pc := 72) F dX2_numberOf_72 0 rfl ?_
    refine a_getr (k := c) (r := (c + 8)) (pc := 73) F dX2_numberOf_73 fl_RX2_21 (klC_0 hc) (ksC_0 hc) rfl ?_
    refine a_geti (k := (c + 8)) (pc := 76) F dX2_numberOf_76 fl_RX2_135 (klC_8 hc) (ksC_8 hc) rfl ?_
    cases h
    exact a_iret (pc := 79) F dX2_numberOf_79 ⟨_, rfl, rfl⟩
  replace h := ite_f q2 h
  by_cases q3 : p1 = 2
  · replace h := ite_t q3 h
    refine a_swin (pc := 1) (tgt := 80) F dX2_numberOf_1 (by rw [q3]; decide) (by rw [q3]; decide) (by rw [q3]; rfl) (by decide) ?_
    clear q3
    refine a_aload_n (pc := 80) F dX2_numberOf_80 0 rfl ?_
    refine a_geti (k := c) (pc := 81) F dX2_numberOf_81 fl_RX2_50 (klC_0 hc) (ksC_0 hc) rfl ?_
    cases h
    exact a_iret (pc := 84) F dX2_numberOf_84 ⟨_, rfl, rfl⟩
  replace h := ite_f q3 h
  by_cases q4 : p1 = 3
  · replace h := ite_t q4 h
    refine a_swin (pc := 1) (tgt := 85) F dX2_numberOf_1 (by rw [q4]; decide) (by rw [q4]; decide) (by rw [q4]; rfl) (by decide) ?_
    clear q4
    refine a_aload_n (pc := 85) F dX2_numberOf_85 0 rfl ?_
    refine a_getr (k := c) (r := (c + 8)) (pc := 86) F dX2_numberOf_86 fl_RX2_21 (klC_0 hc) (ksC_0 hc) rfl ?_
    refine a_iconst (v := 0) (pc := 89) F dX2_numberOf_89 (by decide) ?_
    replace h := bnd_some h
    obtain ⟨x6, hc5, h⟩ := h
    refine a_callV (pc := 90) (k := (c + 8)) (As := [.int 0]) (st := []) F dX2_numberOf_90 (m_X3_countStage hc hc5) cv_RX2_189 (klC_8 hc) (ksC_8 hc) ⟨_, _, rfl⟩ rfl rfl rfl (Nat.le_of_ble_eq_true rfl) ⟨Nat.le_of_ble_eq_true rfl, Nat.le_of_ble_eq_true rfl⟩ ?_ rfl rfl
    clear hc5
    cases h
    exact a_iret (pc := 93) F dX2_numberOf_93 ⟨_, rfl, rfl⟩
  replace h := ite_f q4 h
  by_cases q7 : p1 = 4
  · replace h := ite_t q7 h
    refine a_swin (pc := 1) (tgt := 94) F dX2_numberOf_1 (by rw [q7]; decide) (by rw [q7]; decide) (by rw [q7]; rfl) (by decide) ?_
    clear q7
    refine a_aload_n (pc := 94) F dX2_numberOf_94 0 rfl ?_
    refine a_getr (k := c) (r := (c + 8)) (pc := 95) F dX2_numberOf_95 fl_RX2_21 (klC_0 hc) (ksC_0 hc) rfl ?_
    replace h := bnd_some h
    obtain ⟨x9, hc8, h⟩ := h
    refine a_callV (pc := 98) (k := (c + 8)) (As := []) (st := []) F dX2_numberOf_98 (m_X3_countListedManned hc hc8) cv_RX2_192 (klC_8 hc) (ksC_8 hc) ⟨_, _, rfl⟩ rfl rfl rfl (Nat.le_of_ble_eq_true rfl) ⟨Nat.le_of_ble_eq_true rfl, Nat.le_of_ble_eq_true rfl⟩ ?_ rfl rfl
    clear hc8
    cases h
    exact a_iret (pc := 101) F dX2_numberOf_101 ⟨_, rfl, rfl⟩
  replace h := ite_f q7 h
  by_cases q10 : p1 = 5
  · replace h := ite_t q10 h
    refine a_swin (pc := 1) (tgt := 102) F dX2_numberOf_1 (by rw [q10]; decide) (by rw [q10]; decide) (by rw [q10]; rfl) (by decide) ?_
    clear q10
    refine a_aload_n (pc := 102) F dX2_numberOf_102 0 rfl ?_
    refine a_getr (k := c) (r := (c + 8)) (pc := 103) F dX2_numberOf_103 fl_RX2_21 (klC_0 hc) (ksC_0 hc) rfl ?_
    refine a_iconst (v := 1) (pc := 106) F dX2_numberOf_106 (by decide) ?_
    replace h := bnd_some h
    obtain ⟨x12, hc11, h⟩ := h
    refine a_callV (pc := 107) (k := (c + 8)) (As := [.int 1]) (st := []) F dX2_numberOf_107 (m_X3_countStage hc hc11) cv_RX2_189 (klC_8 hc) (ksC_8 hc) ⟨_, _, rfl⟩ rfl rfl rfl (Nat.le_of_ble_eq_true rfl) ⟨Nat.le_of_ble_eq_true rfl, Nat.le_of_ble_eq_true rfl⟩ ?_ rfl rfl
    clear hc11
    cases h
    exact a_iret (pc := 110) F dX2_numberOf_110 ⟨_, rfl, rfl⟩
  replace h := ite_f q10 h
  by_cases q13 : p1 = 6
  · replace h := ite_t q13 h
    refine a_swin (pc := 1) (tgt := 111) F dX2_numberOf_1 (by rw [q13]; decide) (by rw [q13]; decide) (by rw [q13]; rfl) (by decide) ?_
    clear q13
    refine a_aload_n (pc := 111) F dX2_numberOf_111 0 rfl ?_
    refine a_getr (k := c) (r := (c + 8)) (pc := 112) F dX2_numberOf_112 fl_RX2_21 (klC_0 hc) (ksC_0 hc) rfl ?_
    refine a_iconst (v := 2) (pc := 115) F dX2_numberOf_115 (by decide) ?_
    replace h := bnd_some h
    obtain ⟨x15, hc14, h⟩ := h
    refine a_callV (pc := 116) (k := (c + 8)) (As := [.int 2]) (st := []) F dX2_numberOf_116 (m_X3_countStage hc hc14) cv_RX2_189 (klC_8 hc) (ksC_8 hc) ⟨_, _, rfl⟩ rfl rfl rfl (Nat.le_of_ble_eq_true rfl) ⟨Nat.le_of_ble_eq_true rfl, Nat.le_of_ble_eq_true rfl⟩ ?_ rfl rfl
    clear hc14
    cases h
    exact a_iret (pc := 119) F dX2_numberOf_119 ⟨_, rfl, rfl⟩
  replace h := ite_f q13 h
  by_cases q16 : p1 = 7
  · replace h := ite_t q16 h
    refine a_swin (pc := 1) (tgt := 120) F dX2_numberOf_1 (by rw [q16]; decide) (by rw [q16]; decide) (by rw [q16]; rfl) (by decide) ?_
    clear q16
    refine a_aload_n (pc := 120) F dX2_numberOf_120 0 rfl ?_
    refine a_getr (k := c) (r := (c + 8)) (pc := 121) F dX2_numberOf_121 fl_RX2_21 (klC_0 hc) (ksC_0 hc) rfl ?_
    refine a_iconst (v := 3) (pc := 124) F dX2_numberOf_124 (by decide) ?_
    replace h := bnd_some h
    obtain ⟨x18, hc17, h⟩ := h
    refine a_callV (pc := 125) (k := (c + 8)) (As := [.int 3]) (st := []) F dX2_numberOf_125 (m_X3_countStage hc hc17) cv_RX2_189 (klC_8 hc) (ksC_8 hc) ⟨_, _, rfl⟩ rfl rfl rfl (Nat.le_of_ble_eq_true rfl) ⟨Nat.le_of_ble_eq_true rfl, Nat.le_of_ble_eq_true rfl⟩ ?_ rfl rfl
    clear hc17
    cases h
    exact a_iret (pc := 128) F dX2_numberOf_128 ⟨_, rfl, rfl⟩
  replace h := ite_f q16 h
  by_cases q19 : p1 = 8
  · replace h := ite_t q19 h
    refine a_swin (pc := 1) (tgt := 129) F dX2_numberOf_1 (by rw [q19]; decide) (by rw [q19]; decide) (by rw [q19]; rfl) (by decide) ?_
    clear q19
    refine a_aload_n (pc := 129) F dX2_numberOf_129 0 rfl ?_
    refine a_geti (k := c) (pc := 130) F dX2_numberOf_130 fl_RX2_54 (klC_0 hc) (ksC_0 hc) rfl ?_
    cases h
    exact a_iret (pc := 133) F dX2_numberOf_133 ⟨_, rfl, rfl⟩
  replace h := ite_f q19 h
  by_cases q20 : p1 = 9
  · replace h := ite_t q20 h
    refine a_swin (pc := 1) (tgt := 134) F dX2_numberOf_1 (by rw [q20]; decide) (by rw [q20]; decide) (by rw [q20]; rfl) (by decide) ?_
    clear q20
    refine a_aload_n (pc := 134) F dX2_numberOf_134 0 rfl ?_
    refine a_geti (k := c) (pc := 135) F dX2_numberOf_135 fl_RX2_57 (klC_0 hc) (ksC_0 hc) rfl ?_
    cases h
    exact a_iret (pc := 138) F dX2_numberOf_138 ⟨_, rfl, rfl⟩
  replace h := ite_f q20 h
  by_cases q21 : p1 = 10
  · replace h := ite_t q21 h
    refine a_swin (pc := 1) (tgt := 139) F dX2_numberOf_1 (by rw [q21]; decide) (by rw [q21]; decide) (by rw [q21]; rfl) (by decide) ?_
    clear q21
    refine a_aload_n (pc := 139) F dX2_numberOf_139 0 rfl ?_
    refine a_geti (k := c) (pc := 140) F dX2_numberOf_140 fl_RX2_60 (klC_0 hc) (ksC_0 hc) rfl ?_
    cases h
    exact a_iret (pc := 143) F dX2_numberOf_143 ⟨_, rfl, rfl⟩
  replace h := ite_f q21 h
  by_cases q22 : p1 = 11
  · replace h := ite_t q22 h
    refine a_swin (pc := 1) (tgt := 144) F dX2_numberOf_1 (by rw [q22]; decide) (by rw [q22]; decide) (by rw [q22]; rfl) (by decide) ?_
    clear q22
    refine a_aload_n (pc := 144) F dX2_numberOf_144 0 rfl ?_
    replace h := bnd_some h
    obtain ⟨x24, hc23, h⟩ := h
    refine a_callV (pc := 145) (k := c) (As := []) (st := []) F dX2_numberOf_145 (m_X2_working hc hc23) cv_RX2_196 (klC_0 hc) (ksC_0 hc) ⟨_, _, rfl⟩ rfl rfl rfl (Nat.le_of_ble_eq_true rfl) ⟨Nat.le_of_ble_eq_true rfl, Nat.le_of_ble_eq_true rfl⟩ ?_ rfl rfl
    clear hc23
    replace h := bnd_some h
    obtain ⟨x26, hc25, h⟩ := h
    refine a_callS (pc := 148) (As := [.int x24]) (st := []) F dX2_numberOf_148 (m_J6_bitCount_0f7a4 hc25) cs_RX2_199 rfl rfl rfl (Nat.le_of_ble_eq_true rfl) ⟨Nat.le_of_ble_eq_true rfl, Nat.le_of_ble_eq_true rfl⟩ ?_ rfl rfl
    clear hc25
    cases h
    exact a_iret (pc := 151) F dX2_numberOf_151 ⟨_, rfl, rfl⟩
  replace h := ite_f q22 h
  refine a_swout (pc := 1) (tgt := 152) F dX2_numberOf_1 (by have nq1 := lv_neT (a := 0) q1 (by decide); have nq2 := lv_neT (a := 1) q2 (by decide); have nq3 := lv_neT (a := 2) q3 (by decide); have nq4 := lv_neT (a := 3) q4 (by decide); have nq7 := lv_neT (a := 4) q7 (by decide); have nq10 := lv_neT (a := 5) q10 (by decide); have nq13 := lv_neT (a := 6) q13 (by decide); have nq16 := lv_neT (a := 7) q16 (by decide); have nq19 := lv_neT (a := 8) q19 (by decide); have nq20 := lv_neT (a := 9) q20 (by decide); have nq21 := lv_neT (a := 10) q21 (by decide); have nq22 := lv_neT (a := 11) q22 (by decide); omega) (by decide) ?_
  clear q1
  clear q2
  clear q3
  clear q4
  clear q7
  clear q10
  clear q13
  clear q16
  clear q19
  clear q20
  clear q21
  clear q22
  refine a_iconst (v := (-1)) (pc := 152) F dX2_numberOf_152 (by decide) ?_
  cases h
  exact a_iret (pc := 153) F dX2_numberOf_153 ⟨_, rfl, rfl⟩
def f_X7_count (p1 : Int32) (m0 : Mem) : Option Int32 :=
  bnd (f_X7_within p1 0 12 m0) fun x2 => (if x2 = 0 then none else (if p1 = 12 then some (m0.1 39 0) else bnd (f_X2_numberOf 1 p1 m0) fun x6 => some x6))
set_option maxRecDepth 100000 in
set_option maxHeartbeats 4000000 in
theorem m_X7_count {p1 : Int32} {m0 : Mem} {rr : Int32} (h : f_X7_count p1 m0 = some rr) : Con yX7_count cX7_count 2 (some Jvm.ClassFile.FieldType.int) 4 85 (fun G => [.ref (ga G 0), .int p1]) m0 (some (.int rr)) m0 := by
  refine con_of (by decide) (fun G => Nat.le_of_ble_eq_true rfl) (fun X F => ?_)
  show WA X 0 0 0 [(0, .ref (ga X.G 0)), (1, .int p1)] [] m0 (EQ X (some (.int rr)) m0)
  rw [f_X7_count] at h
  refine a_iload_n (pc := 0) F dX7_count_0 1 rfl ?_
  refine a_iconst (v := 0) (pc := 1) F dX7_count_1 (by decide) ?_
  refine a_bipush (v := 12) (pc := 2) F dX7_count_2 (by decide) ?_
  replace h := bnd_some h
  obtain ⟨x2, hc1, h⟩ := h
  refine a_callS (pc := 4) (As := [.int p1, .int 0, .int 12]) (st := []) F dX7_count_4 (m_X7_within hc1) cs_RX7_47 rfl rfl rfl (Nat.le_of_ble_eq_true rfl) ⟨Nat.le_of_ble_eq_true rfl, Nat.le_of_ble_eq_true rfl⟩ ?_ rfl rfl
  clear hc1
  refine a_if_ne (tgt := 20) (pc := 7) F dX7_count_7 (by decide) (fun q3 => ?_) (fun q3 => ?_)
  · replace h := ite_f q3 h
    clear q3
    refine a_iload_n (pc := 20) F dX7_count_20 1 rfl ?_
    refine a_bipush (v := 12) (pc := 21) F dX7_count_21 (by decide) ?_
    refine a_icmp_ne (tgt := 36) (pc := 23) F dX7_count_23 (by decide) (fun q4 => ?_) (fun q4 => ?_)
    · replace h := ite_f q4 h
      clear q4
      refine a_aload_n (pc := 36) F dX7_count_36 0 rfl ?_
      refine a_getr (k := 0) (r := 1) (pc := 37) F dX7_count_37 fl_RX7_10 kl_0 ks_0 rfl ?_
      refine a_iload_n (pc := 40) F dX7_count_40 1 rfl ?_
      replace h := bnd_some h
      obtain ⟨x6, hc5, h⟩ := h
      refine a_callV (pc := 41) (k := 1) (As := [.int p1]) (st := []) F dX7_count_41 (m_X2_numberOf isC_1 hc5) cv_RX7_245 (klC_0 isC_1) (ksC_0 isC_1) ⟨_, _, rfl⟩ rfl rfl rfl (Nat.le_of_ble_eq_true rfl) ⟨Nat.le_of_ble_eq_true rfl, Nat.le_of_ble_eq_true rfl⟩ ?_ rfl rfl
      clear hc5
      cases h
      exact a_iret (pc := 44) F dX7_count_44 ⟨_, rfl, rfl⟩
    · replace h := ite_t (Decidable.not_not.mp q4) h
      clear q4
      refine a_aload_n (pc := 26) F dX7_count_26 0 rfl ?_
      refine a_getr (k := 0) (r := 39) (pc := 27) F dX7_count_27 fl_RX7_22 kl_0 ks_0 rfl ?_
      refine a_geti (k := 39) (pc := 30) F dX7_count_30 fl_RX7_227 kl_39 ks_39 rfl ?_
      refine a_goto (tgt := 44) (pc := 33) F dX7_count_33 (by decide) ?_
      cases h
      exact a_iret (pc := 44) F dX7_count_44 ⟨_, rfl, rfl⟩
  · replace h := ite_t (Decidable.not_not.mp q3) h
    clear q3
    cases h
def f_X7_setting (p1 : Int32) (m0 : Mem) : Option Int32 :=
  bnd (f_X7_isSetting p1 m0) fun x2 => (if x2 = 0 then none else gIn p1 7 <| nm (m0.1 (1 + 18) p1.toNatClampNeg) fun x5 => some x5)
set_option maxRecDepth 100000 in
set_option maxHeartbeats 4000000 in
theorem m_X7_setting {p1 : Int32} {m0 : Mem} {rr : Int32} (h : f_X7_setting p1 m0 = some rr) : Con yX7_setting cX7_setting 2 (some Jvm.ClassFile.FieldType.int) 1 20 (fun G => [.ref (ga G 0), .int p1]) m0 (some (.int rr)) m0 := by
  refine con_of (by decide) (fun G => Nat.le_of_ble_eq_true rfl) (fun X F => ?_)
  show WA X 0 0 0 [(0, .ref (ga X.G 0)), (1, .int p1)] [] m0 (EQ X (some (.int rr)) m0)
  rw [f_X7_setting] at h
  refine a_iload_n (pc := 0) F dX7_setting_0 1 rfl ?_
  replace h := bnd_some h
  obtain ⟨x2, hc1, h⟩ := h
  refine a_callS (pc := 1) (As := [.int p1]) (st := []) F dX7_setting_1 (m_X7_isSetting hc1) cs_RX7_120 rfl rfl rfl (Nat.le_of_ble_eq_true rfl) ⟨Nat.le_of_ble_eq_true rfl, Nat.le_of_ble_eq_true rfl⟩ ?_ rfl rfl
  clear hc1
  refine a_if_ne (tgt := 17) (pc := 4) F dX7_setting_4 (by decide) (fun q3 => ?_) (fun q3 => ?_)
  · replace h := ite_f q3 h
    clear q3
    refine a_aload_n (pc := 17) F dX7_setting_17 0 rfl ?_
    refine a_getr (k := 0) (r := 1) (pc := 18) F dX7_setting_18 fl_RX7_10 kl_0 ks_0 rfl ?_
    refine a_getr (k := 1) (r := (1 + 18)) (pc := 21) F dX7_setting_21 fl_RX7_130 (klC_0 isC_1) (ksC_0 isC_1) rfl ?_
    refine a_iload_n (pc := 24) F dX7_setting_24 1 rfl ?_
    replace h := gIn_some h
    obtain ⟨g4, h⟩ := h
    refine a_ial (k := (1 + 18)) (pc := 25) F dX7_setting_25 (klC_18 isC_1) (ksC_18 isC_1) g4 ?_
    refine a_nmi fun x5 ex5 => ?_
    replace h := nm_at ex5 h
    clear ex5
    cases h
    exact a_iret (pc := 26) F dX7_setting_26 ⟨_, rfl, rfl⟩
  · replace h := ite_t (Decidable.not_not.mp q3) h
    clear q3
    cases h
def f_X7_whyNot (p1 : Int32) (p2 : Int32) (p3 : Int32) (p4 : Int32) (m0 : Mem) : Option Int32 :=
  bnd (f_X3_has 1 p1 m0) fun x2 => jn ((if x2 = 0 then some (.inl ()) else bnd (f_X7_nameInterpreters p2 p3 p4 m0) fun x6 => (if x6 = 0 then some (.inl ()) else bnd (f_X7_areRowOfDifferent p2 p3 p4 m0) fun x9 => (if x9 = 0 then none else bnd (f_X2_reasonAgainst 1 p1 p2 p3 p4 m0) fun x12 => some (.inr x12))))) (fun (_ : Unit) => none)
set_option maxRecDepth 100000 in
set_option maxHeartbeats 4000000 in
theorem m_X7_whyNot {p1 : Int32} {p2 : Int32} {p3 : Int32} {p4 : Int32} {m0 : Mem} {rr : Int32} (h : f_X7_whyNot p1 p2 p3 p4 m0 = some rr) : Con yX7_whyNot cX7_whyNot 5 (some Jvm.ClassFile.FieldType.int) 4 93 (fun G => [.ref (ga G 0), .int p1, .int p2, .int p3, .int p4]) m0 (some (.int rr)) m0 := by
  refine con_of (by decide) (fun G => Nat.le_of_ble_eq_true rfl) (fun X F => ?_)
  show WA X 0 0 0 [(0, .ref (ga X.G 0)), (1, .int p1), (2, .int p2), (3, .int p3), (4, .int p4)] [] m0 (EQ X (some (.int rr)) m0)
  rw [f_X7_whyNot] at h
  refine a_aload_n (pc := 0) F dX7_whyNot_0 0 rfl ?_
  refine a_getr (k := 0) (r := 1) (pc := 1) F dX7_whyNot_1 fl_RX7_10 kl_0 ks_0 rfl ?_
  refine a_getr (k := 1) (r := (1 + 8)) (pc := 4) F dX7_whyNot_4 fl_RX7_89 (klC_0 isC_1) (ksC_0 isC_1) rfl ?_
  refine a_iload_n (pc := 7) F dX7_whyNot_7 1 rfl ?_
  replace h := bnd_some h
  obtain ⟨x2, hc1, h⟩ := h
  refine a_callV (pc := 8) (k := (1 + 8)) (As := [.int p1]) (st := []) F dX7_whyNot_8 (m_X3_has isC_1 hc1) cv_RX7_133 (klC_8 isC_1) (ksC_8 isC_1) ⟨_, _, rfl⟩ rfl rfl rfl (Nat.le_of_ble_eq_true rfl) ⟨Nat.le_of_ble_eq_true rfl, Nat.le_of_ble_eq_true rfl⟩ ?_ rfl rfl
  clear hc1
  replace h := jn_some h
  obtain ⟨o3, hR3, hK3, hB3⟩ := h
  have hJ3 : ∀ (u : Unit), o3 = .inl u → WA X 0 0 25 [] [] m0 (EQ X (some (.int rr)) m0) := by
    intro u eo
    have h := hK3 _ eo
    clear hK3 eo
    cases h
  clear hK3
  have h := hR3
  clear hR3
  refine a_if_eq (tgt := 25) (pc := 11) F dX7_whyNot_11 (by decide) (fun q4 => ?_) (fun q4 => ?_)
  · replace h := ite_t q4 h
    clear q4
    refine a_lv F [] rfl ?_
    exact hJ3 _ (Option.some.inj h).symm
  · replace h := ite_f q4 h
    clear q4
    refine a_aload_n (pc := 14) F dX7_whyNot_14 0 rfl ?_
    refine a_iload_n (pc := 15) F dX7_whyNot_15 2 rfl ?_
    refine a_iload_n (pc := 16) F dX7_whyNot_16 3 rfl ?_
    refine a_iload (pc := 17) F dX7_whyNot_17 4 rfl ?_
    replace h := bnd_some h
    obtain ⟨x6, hc5, h⟩ := h
    refine a_callV (pc := 19) (k := 0) (As := [.int p2, .int p3, .int p4]) (st := []) F dX7_whyNot_19 (m_X7_nameInterpreters hc5) cv_RX7_134 kl_0 ks_0 ⟨_, _, rfl⟩ rfl rfl rfl (Nat.le_of_ble_eq_true rfl) ⟨Nat.le_of_ble_eq_true rfl, Nat.le_of_ble_eq_true rfl⟩ ?_ rfl rfl
    clear hc5
    refine a_if_ne (tgt := 35) (pc := 22) F dX7_whyNot_22 (by decide) (fun q7 => ?_) (fun q7 => ?_)
    · replace h := ite_f q7 h
      clear q7
      refine a_iload_n (pc := 35) F dX7_whyNot_35 2 rfl ?_
      refine a_iload_n (pc := 36) F dX7_whyNot_36 3 rfl ?_
      refine a_iload (pc := 37) F dX7_whyNot_37 4 rfl ?_
      replace h := bnd_some h
      obtain ⟨x9, hc8, h⟩ := h
      refine a_callS (pc := 39) (As := [.int p2, .int p3, .int p4]) (st := []) F dX7_whyNot_39 (m_X7_areRowOfDifferent hc8) cs_RX7_139 rfl rfl rfl (Nat.le_of_ble_eq_true rfl) ⟨Nat.le_of_ble_eq_true rfl, Nat.le_of_ble_eq_true rfl⟩ ?_ rfl rfl
      clear hc8
      refine a_if_ne (tgt := 55) (pc := 42) F dX7_whyNot_42 (by decide) (fun q10 => ?_) (fun q10 => ?_)
      · replace h := ite_f q10 h
        clear q10
        refine a_aload_n (pc := 55) F dX7_whyNot_55 0 rfl ?_
        refine a_getr (k := 0) (r := 1) (pc := 56) F dX7_whyNot_56 fl_RX7_10 kl_0 ks_0 rfl ?_
        refine a_iload_n (pc := 59) F dX7_whyNot_59 1 rfl ?_
        refine a_iload_n (pc := 60) F dX7_whyNot_60 2 rfl ?_
        refine a_iload_n (pc := 61) F dX7_whyNot_61 3 rfl ?_
        refine a_iload (pc := 62) F dX7_whyNot_62 4 rfl ?_
        replace h := bnd_some h
        obtain ⟨x12, hc11, h⟩ := h
        refine a_callV (pc := 64) (k := 1) (As := [.int p1, .int p2, .int p3, .int p4]) (st := []) F dX7_whyNot_64 (m_X2_reasonAgainst isC_1 hc11) cv_RX7_144 (klC_0 isC_1) (ksC_0 isC_1) ⟨_, _, rfl⟩ rfl rfl rfl (Nat.le_of_ble_eq_true rfl) ⟨Nat.le_of_ble_eq_true rfl, Nat.le_of_ble_eq_true rfl⟩ ?_ rfl rfl
        clear hc11
        replace h := hB3 _ (Option.some.inj h).symm
        cases h
        exact a_iret (pc := 67) F dX7_whyNot_67 ⟨_, rfl, rfl⟩
      · replace h := ite_t (Decidable.not_not.mp q10) h
        clear q10
        cases h
    · replace h := ite_t (Decidable.not_not.mp q7) h
      clear q7
      refine a_lv F [] rfl ?_
      exact hJ3 _ (Option.some.inj h).symm
def f_X1_keep (p1 : Int32) (p2 : Int32) (p3 : Int32) (p4 : Int32) (p5 : Int32) (m0 : Mem) : Option Mem :=
  nm (si m0 158 0 p1) fun m1 => nm (si m1 158 1 p2) fun m2 => nm (si m2 158 2 p3) fun m3 => nm (si m3 158 3 p4) fun m4 => nm (si m4 158 4 p5) fun m5 => some m5
set_option maxRecDepth 100000 in
set_option maxHeartbeats 4000000 in
theorem m_X1_keep {p1 : Int32} {p2 : Int32} {p3 : Int32} {p4 : Int32} {p5 : Int32} {m0 : Mem} {mm : Mem} (h : f_X1_keep p1 p2 p3 p4 p5 m0 = some mm) : Con yX1_keep cX1_keep 6 none 0 0 (fun G => [.ref (ga G 158), .int p1, .int p2, .int p3, .int p4, .int p5]) m0 none mm := by
  refine con_of (by decide) (fun G => Nat.le_of_ble_eq_true rfl) (fun X F => ?_)
  show WA X 0 0 0 [(0, .ref (ga X.G 158)), (1, .int p1), (2, .int p2), (3, .int p3), (4, .int p4), (5, .int p5)] [] m0 (EQ X none mm)
  rw [f_X1_keep] at h
  refine a_aload_n (pc := 0) F dX1_keep_0 0 rfl ?_
  refine a_iload_n (pc := 1) F dX1_keep_1 1 rfl ?_
  refine a_puti (k := 158) (pc := 2) F dX1_keep_2 fp_RX1_21 kl_158 ks_158 rfl ?_
  refine a_nmm fun m1 em1 => ?_
  replace h := nm_at em1 h
  clear em1
  refine a_aload_n (pc := 5) F dX1_keep_5 0 rfl ?_
  refine a_iload_n (pc := 6) F dX1_keep_6 2 rfl ?_
  refine a_puti (k := 158) (pc := 7) F dX1_keep_7 fp_RX1_25 kl_158 ks_158 rfl ?_
  refine a_nmm fun m2 em2 => ?_
  replace h := nm_at em2 h
  clear em2
  refine a_aload_n (pc := 10) F dX1_keep_10 0 rfl ?_
  refine a_iload_n (pc := 11) F dX1_keep_11 3 rfl ?_
  refine a_puti (k := 158) (pc := 12) F dX1_keep_12 fp_RX1_28 kl_158 ks_158 rfl ?_
  refine a_nmm fun m3 em3 => ?_
  replace h := nm_at em3 h
  clear em3
  refine a_aload_n (pc := 15) F dX1_keep_15 0 rfl ?_
  refine a_iload (pc := 16) F dX1_keep_16 4 rfl ?_
  refine a_puti (k := 158) (pc := 18) F dX1_keep_18 fp_RX1_31 kl_158 ks_158 rfl ?_
  refine a_nmm fun m4 em4 => ?_
  replace h := nm_at em4 h
  clear em4
  refine a_aload_n (pc := 21) F dX1_keep_21 0 rfl ?_
  refine a_iload (pc := 22) F dX1_keep_22 5 rfl ?_
  refine a_puti (k := 158) (pc := 24) F dX1_keep_24 fp_RX1_34 kl_158 ks_158 rfl ?_
  refine a_nmm fun m5 em5 => ?_
  replace h := nm_at em5 h
  clear em5
  cases h
  exact a_vret (pc := 27) F dX1_keep_27 rfl
def f_X6_speakersOf_L4 (c : Nat) (p1 : Int32) (m0 : Mem) : (Int32 × Int32) → Option ((Int32 × Int32) ⊕ Int32)
  | (x2, x3) => (if (m0.1 (c + 1) 0) ≤ x3 then some (.inr x2) else gIn x3 10 <| nm (m0.1 (c + 2) x3.toNatClampNeg) fun x6 => (if (x6 &&& p1) = 0 then nm (x3 + 1) fun x8 => some (.inl (x2, x8)) else bnd (f_X7_bitOf x3 m0) fun x10 => nm (x3 + 1) fun x11 => some (.inl (x2 ||| x10, x11))))
def f_X6_speakersOf (c : Nat) (p1 : Int32) (m0 : Mem) : Option Int32 :=
  bnd (lp (f_X6_speakersOf_L4 c p1 m0) 1000000 (0, 0)) (fun x12 => some x12)
set_option maxRecDepth 100000 in
set_option maxHeartbeats 4000000 in
theorem m_X6_speakersOf {c : Nat} {p1 : Int32} (hc : isC c) {m0 : Mem} {rr : Int32} (h : f_X6_speakersOf c p1 m0 = some rr) : Con yX6_speakersOf cX6_speakersOf 4 (some Jvm.ClassFile.FieldType.int) 1 20 (fun G => [.ref (ga G (c + 1)), .int p1]) m0 (some (.int rr)) m0 := by
  refine con_of (by decide) (fun G => Nat.le_of_ble_eq_true rfl) (fun X F => ?_)
  show WA X 0 0 0 [(0, .ref (ga X.G (c + 1))), (1, .int p1)] [] m0 (EQ X (some (.int rr)) m0)
  rw [f_X6_speakersOf] at h
  refine a_iconst (v := 0) (pc := 0) F dX6_speakersOf_0 (by decide) ?_
  refine a_istore_n (lv' := [(2, .int 0), (0, .ref (ga X.G (c + 1))), (1, .int p1)]) (pc := 1) F dX6_speakersOf_1 (by decide) rfl ?_
  refine a_iconst (v := 0) (pc := 2) F dX6_speakersOf_2 (by decide) ?_
  refine a_istore_n (lv' := [(3, .int 0), (2, .int 0), (0, .ref (ga X.G (c + 1))), (1, .int p1)]) (pc := 3) F dX6_speakersOf_3 (by decide) rfl ?_
  refine a_lv F [2, 3, 1, 0] rfl ?_
  replace h := bnd_some h
  obtain ⟨x12, hL1, h⟩ := h
  have hE1 : WA X 0 0 36 [(2, .int x12)] [] m0 (EQ X (some (.int rr)) m0) := by
    refine a_iload_n (pc := 36) F dX6_speakersOf_36 0 rfl ?_
    cases h
    exact a_iret (pc := 37) F dX6_speakersOf_37 ⟨_, rfl, rfl⟩
  clear h
  refine lp_run (P := fun (s : (Int32 × Int32)) => WA X 0 0 4 [(0, .ref (ga X.G (c + 1))), (1, .int p1), (2, .int s.1), (3, .int s.2)] [] m0 (EQ X (some (.int rr)) m0)) ?_ _ _ hL1
  clear hL1
  rintro ⟨x2, x3⟩ xo h hP1 hT1
  show WA X 0 0 4 [(0, .ref (ga X.G (c + 1))), (1, .int p1), (2, .int x2), (3, .int x3)] [] m0 (EQ X (some (.int rr)) m0)
  rw [f_X6_speakersOf_L4] at h
  refine a_iload_n (pc := 4) F dX6_speakersOf_4 3 rfl ?_
  refine a_aload_n (pc := 5) F dX6_speakersOf_5 0 rfl ?_
  refine a_geti (k := (c + 1)) (pc := 6) F dX6_speakersOf_6 fl_RX6_30 (klC_1 hc) (ksC_1 hc) rfl ?_
  refine a_icmp_ge (tgt := 36) (pc := 9) F dX6_speakersOf_9 (by decide) (fun q4 => ?_) (fun q4 => ?_)
  · replace h := ite_t q4 h
    clear q4
    refine a_lv F [2] rfl ?_
    cases hT1 _ (Option.some.inj h).symm
    exact hE1
  · replace h := ite_f q4 h
    clear q4
    refine a_aload_n (pc := 12) F dX6_speakersOf_12 0 rfl ?_
    refine a_getr (k := (c + 1)) (r := (c + 2)) (pc := 13) F dX6_speakersOf_13 fl_RX6_9 (klC_1 hc) (ksC_1 hc) rfl ?_
    refine a_iload_n (pc := 16) F dX6_speakersOf_16 3 rfl ?_
    replace h := gIn_some h
    obtain ⟨g5, h⟩ := h
    refine a_ial (k := (c + 2)) (pc := 17) F dX6_speakersOf_17 (klC_2 hc) (ksC_2 hc) g5 ?_
    refine a_nmi fun x6 ex6 => ?_
    replace h := nm_at ex6 h
    clear ex6
    refine a_iload_n (pc := 18) F dX6_speakersOf_18 1 rfl ?_
    refine a_iand (pc := 19) F dX6_speakersOf_19 ?_
    refine a_if_eq (tgt := 30) (pc := 20) F dX6_speakersOf_20 (by decide) (fun q7 => ?_) (fun q7 => ?_)
    · replace h := ite_t q7 h
      clear q7
      obtain ⟨x8, ex8⟩ : ∃ x8 : Int32, x8 = x3 + 1 := ⟨_, rfl⟩
      refine a_iinc (v := x8) (lv' := [(3, .int x8), (0, .ref (ga X.G (c + 1))), (1, .int p1), (2, .int x2)]) (pc := 30) F dX6_speakersOf_30 3 rfl (by rw [ex8]; rfl) (by decide) rfl ?_
      replace h := nm_at ex8 h
      clear ex8
      refine a_goto (tgt := 4) (pc := 33) F dX6_speakersOf_33 (by decide) ?_
      refine a_lv F [1, 2, 3, 0] rfl ?_
      exact hP1 _ (Option.some.inj h).symm
    · replace h := ite_f q7 h
      clear q7
      refine a_iload_n (pc := 23) F dX6_speakersOf_23 2 rfl ?_
      refine a_iload_n (pc := 24) F dX6_speakersOf_24 3 rfl ?_
      replace h := bnd_some h
      obtain ⟨x10, hc9, h⟩ := h
      refine a_callSN (pc := 25) (As := [.int x3]) (st := [.int x2]) F dX6_speakersOf_25 (m_X7_bitOf hc9) cn_RX6_51 rfl rfl rfl (Nat.le_of_ble_eq_true rfl) ⟨Nat.le_of_ble_eq_true rfl, Nat.le_of_ble_eq_true rfl⟩ ?_ rfl rfl
      clear hc9
      refine a_ior (pc := 28) F dX6_speakersOf_28 ?_
      refine a_istore_n (lv' := [(2, .int (x2 ||| x10)), (0, .ref (ga X.G (c + 1))), (1, .int p1), (3, .int x3)]) (pc := 29) F dX6_speakersOf_29 (by decide) rfl ?_
      obtain ⟨x11, ex11⟩ : ∃ x11 : Int32, x11 = x3 + 1 := ⟨_, rfl⟩
      refine a_iinc (v := x11) (lv' := [(3, .int x11), (2, .int (x2 ||| x10)), (0, .ref (ga X.G (c + 1))), (1, .int p1)]) (pc := 30) F dX6_speakersOf_30 3 rfl (by rw [ex11]; rfl) (by decide) rfl ?_
      replace h := nm_at ex11 h
      clear ex11
      refine a_goto (tgt := 4) (pc := 33) F dX6_speakersOf_33 (by decide) ?_
      refine a_lv F [2, 3, 1, 0] rfl ?_
      exact hP1 _ (Option.some.inj h).symm
def f_X1_prepare_L76 (c : Nat) (p2 : Int32) (x4 : Int32) (x6 : Int32) : (Int32 × Mem) → Option ((Int32 × Mem) ⊕ Mem)
  | (x19, m20) => (if (m20.1 158 5) ≤ x19 then some (.inr m20) else gIn x19 10 <| nm (m20.1 (c + 2) x19.toNatClampNeg) fun x23 => bnd (f_X6_speakersOf c x23 m20) fun x25 => nm ((x4 &&& (x6 ^^^ (-1))) &&& x25) fun x26 => bnd (f_X7_bitOf x19 m20) fun x28 => gIn x19 10 <| nm (si m20 159 x19.toNatClampNeg (x26 &&& (x28 ^^^ (-1)))) fun m30 => bnd (f_X2_earns c x19 p2 0 m30) fun x32 => gIn x19 10 <| nm (si m30 160 x19.toNatClampNeg x32) fun m34 => bnd (f_X2_earns c x19 p2 1 m34) fun x36 => gIn x19 10 <| nm (si m34 161 x19.toNatClampNeg x36) fun m38 => nm (x19 + 1) fun x39 => some (.inl (x39, m38)))
def f_X1_prepare (c : Nat) (p2 : Int32) (m0 : Mem) : Option Mem :=
  gIn p2 30 <| nm (m0.1 (c + 9) p2.toNatClampNeg) fun x2 => bnd (f_X6_certifiedFor c x2 m0) fun x4 => bnd (f_X3_busyFor c p2 m0) fun x6 => nm (si m0 158 5 (m0.1 (c + 1) 0)) fun m7 => gIn p2 30 <| nm (m7.1 (c + 10) p2.toNatClampNeg) fun x9 => bnd (f_X6_speakersOf c (1 <<< (x9 &&& 31)) m7) fun x11 => nm ((x4 &&& (x6 ^^^ (-1))) &&& x11) fun x12 => nm (si m7 158 6 x12) fun m13 => bnd (f_X6_speakersOf c 1 m13) fun x15 => nm ((x4 &&& (x6 ^^^ (-1))) &&& x15) fun x16 => nm (si m13 158 7 x16) fun m17 => bnd (lp (f_X1_prepare_L76 c p2 x4 x6) 1000000 (0, m17)) (fun m40 => some m40)
set_option maxRecDepth 100000 in
set_option maxHeartbeats 4000000 in
theorem m_X1_prepare {c : Nat} {p2 : Int32} (hc : isC c) {m0 : Mem} {mm : Mem} (h : f_X1_prepare c p2 m0 = some mm) : Con yX1_prepare cX1_prepare 6 none 3 66 (fun G => [.ref (ga G 158), .ref (ga G c), .int p2]) m0 none mm := by
  refine con_of (by decide) (fun G => Nat.le_of_ble_eq_true rfl) (fun X F => ?_)
  show WA X 0 0 0 [(0, .ref (ga X.G 158)), (1, .ref (ga X.G c)), (2, .int p2)] [] m0 (EQ X none mm)
  rw [f_X1_prepare] at h
  refine a_aload_n (pc := 0) F dX1_prepare_0 1 rfl ?_
  refine a_getr (k := c) (r := (c + 1)) (pc := 1) F dX1_prepare_1 fl_RX1_80 (klC_0 hc) (ksC_0 hc) rfl ?_
  refine a_astore_n (lv' := [(3, .ref (ga X.G (c + 1))), (0, .ref (ga X.G 158)), (1, .ref (ga X.G c)), (2, .int p2)]) (pc := 4) F dX1_prepare_4 (by decide) rfl ?_
  refine a_aload_n (pc := 5) F dX1_prepare_5 0 rfl ?_
  refine a_aload_n (pc := 6) F dX1_prepare_6 2 rfl ?_
  refine a_getr (k := c) (r := (c + 8)) (pc := 7) F dX1_prepare_7 fl_RX1_41 (klC_0 hc) (ksC_0 hc) rfl ?_
  refine a_getr (k := (c + 8)) (r := (c + 9)) (pc := 10) F dX1_prepare_10 fl_RX1_84 (klC_8 hc) (ksC_8 hc) rfl ?_
  refine a_iload_n (pc := 13) F dX1_prepare_13 3 rfl ?_
  replace h := gIn_some h
  obtain ⟨g1, h⟩ := h
  refine a_ial (k := (c + 9)) (pc := 14) F dX1_prepare_14 (klC_9 hc) (ksC_9 hc) g1 ?_
  refine a_nmi fun x2 ex2 => ?_
  replace h := nm_at ex2 h
  clear ex2
  replace h := bnd_some h
  obtain ⟨x4, hc3, h⟩ := h
  refine a_callV (pc := 15) (k := (c + 1)) (As := [.int x2]) (st := []) F dX1_prepare_15 (m_X6_certifiedFor hc hc3) cv_RX1_87 (klC_1 hc) (ksC_1 hc) ⟨_, _, rfl⟩ rfl rfl rfl (Nat.le_of_ble_eq_true rfl) ⟨Nat.le_of_ble_eq_true rfl, Nat.le_of_ble_eq_true rfl⟩ ?_ rfl rfl
  clear hc3
  refine a_aload_n (pc := 18) F dX1_prepare_18 2 rfl ?_
  refine a_getr (k := c) (r := (c + 8)) (pc := 19) F dX1_prepare_19 fl_RX1_41 (klC_0 hc) (ksC_0 hc) rfl ?_
  refine a_iload_n (pc := 22) F dX1_prepare_22 3 rfl ?_
  replace h := bnd_some h
  obtain ⟨x6, hc5, h⟩ := h
  refine a_callV (pc := 23) (k := (c + 8)) (As := [.int p2]) (st := [.int x4]) F dX1_prepare_23 (m_X3_busyFor hc hc5) cv_RX1_92 (klC_8 hc) (ksC_8 hc) ⟨_, _, rfl⟩ rfl rfl rfl (Nat.le_of_ble_eq_true rfl) ⟨Nat.le_of_ble_eq_true rfl, Nat.le_of_ble_eq_true rfl⟩ ?_ rfl rfl
  clear hc5
  refine a_iconst (v := (-1)) (pc := 26) F dX1_prepare_26 (by decide) ?_
  refine a_ixor (pc := 27) F dX1_prepare_27 ?_
  refine a_iand (pc := 28) F dX1_prepare_28 ?_
  refine a_istore (lv' := [(4, .int (x4 &&& (x6 ^^^ (-1)))), (3, .ref (ga X.G (c + 1))), (0, .ref (ga X.G 158)), (1, .ref (ga X.G c)), (2, .int p2)]) (pc := 29) F dX1_prepare_29 (by decide) rfl ?_
  refine a_aload_n (pc := 31) F dX1_prepare_31 2 rfl ?_
  refine a_aload_n (pc := 32) F dX1_prepare_32 1 rfl ?_
  refine a_geti (k := (c + 1)) (pc := 33) F dX1_prepare_33 fl_RX1_95 (klC_1 hc) (ksC_1 hc) rfl ?_
  refine a_puti (k := 158) (pc := 36) F dX1_prepare_36 fp_RX1_66 kl_158 ks_158 rfl ?_
  refine a_nmm fun m7 em7 => ?_
  replace h := nm_at em7 h
  clear em7
  refine a_aload_n (pc := 39) F dX1_prepare_39 2 rfl ?_
  refine a_iload (pc := 40) F dX1_prepare_40 0 rfl ?_
  refine a_aload_n (pc := 42) F dX1_prepare_42 1 rfl ?_
  refine a_iconst (v := 1) (pc := 43) F dX1_prepare_43 (by decide) ?_
  refine a_aload_n (pc := 44) F dX1_prepare_44 3 rfl ?_
  refine a_getr (k := c) (r := (c + 8)) (pc := 45) F dX1_prepare_45 fl_RX1_41 (klC_0 hc) (ksC_0 hc) rfl ?_
  refine a_getr (k := (c + 8)) (r := (c + 10)) (pc := 48) F dX1_prepare_48 fl_RX1_98 (klC_8 hc) (ksC_8 hc) rfl ?_
  refine a_iload_n (pc := 51) F dX1_prepare_51 4 rfl ?_
  replace h := gIn_some h
  obtain ⟨g8, h⟩ := h
  refine a_ial (k := (c + 10)) (pc := 52) F dX1_prepare_52 (klC_10 hc) (ksC_10 hc) g8 ?_
  refine a_nmi fun x9 ex9 => ?_
  replace h := nm_at ex9 h
  clear ex9
  refine a_ishl (pc := 53) F dX1_prepare_53 ?_
  replace h := bnd_some h
  obtain ⟨x11, hc10, h⟩ := h
  refine a_callV (pc := 54) (k := (c + 1)) (As := [.int (1 <<< (x9 &&& 31))]) (st := [.int (x4 &&& (x6 ^^^ (-1))), .ref (ga X.G 158)]) F dX1_prepare_54 (m_X6_speakersOf hc hc10) cv_RX1_101 (klC_1 hc) (ksC_1 hc) ⟨_, _, rfl⟩ rfl rfl rfl (Nat.le_of_ble_eq_true rfl) ⟨Nat.le_of_ble_eq_true rfl, Nat.le_of_ble_eq_true rfl⟩ ?_ rfl rfl
  clear hc10
  refine a_iand (pc := 57) F dX1_prepare_57 ?_
  refine a_nmi fun x12 ex12 => ?_
  replace h := nm_at ex12 h
  clear ex12
  refine a_puti (k := 158) (pc := 58) F dX1_prepare_58 fp_RX1_60 kl_158 ks_158 rfl ?_
  refine a_nmm fun m13 em13 => ?_
  replace h := nm_at em13 h
  clear em13
  refine a_aload_n (pc := 61) F dX1_prepare_61 2 rfl ?_
  refine a_iload (pc := 62) F dX1_prepare_62 0 rfl ?_
  refine a_aload_n (pc := 64) F dX1_prepare_64 1 rfl ?_
  refine a_iconst (v := 1) (pc := 65) F dX1_prepare_65 (by decide) ?_
  replace h := bnd_some h
  obtain ⟨x15, hc14, h⟩ := h
  refine a_callV (pc := 66) (k := (c + 1)) (As := [.int 1]) (st := [.int (x4 &&& (x6 ^^^ (-1))), .ref (ga X.G 158)]) F dX1_prepare_66 (m_X6_speakersOf hc hc14) cv_RX1_101 (klC_1 hc) (ksC_1 hc) ⟨_, _, rfl⟩ rfl rfl rfl (Nat.le_of_ble_eq_true rfl) ⟨Nat.le_of_ble_eq_true rfl, Nat.le_of_ble_eq_true rfl⟩ ?_ rfl rfl
  clear hc14
  refine a_iand (pc := 69) F dX1_prepare_69 ?_
  refine a_nmi fun x16 ex16 => ?_
  replace h := nm_at ex16 h
  clear ex16
  refine a_puti (k := 158) (pc := 70) F dX1_prepare_70 fp_RX1_63 kl_158 ks_158 rfl ?_
  refine a_nmm fun m17 em17 => ?_
  replace h := nm_at em17 h
  clear em17
  refine a_iconst (v := 0) (pc := 73) F dX1_prepare_73 (by decide) ?_
  refine a_istore (lv' := [(5, .int 0), (4, .int (x4 &&& (x6 ^^^ (-1)))), (3, .ref (ga X.G (c + 1))), (0, .ref (ga X.G 158)), (1, .ref (ga X.G c)), (2, .int p2)]) (pc := 74) F dX1_prepare_74 (by decide) rfl ?_
  refine a_lv F [3, 4, 5, 2, 1, 0] rfl ?_
  replace h := bnd_some h
  obtain ⟨m40, hL18, h⟩ := h
  have hE18 : WA X 0 0 150 [] [] m40 (EQ X none mm) := by
    cases h
    exact a_vret (pc := 150) F dX1_prepare_150 rfl
  clear h
  refine lp_run (P := fun (s : (Int32 × Mem)) => WA X 0 0 76 [(0, .ref (ga X.G 158)), (1, .ref (ga X.G c)), (2, .int p2), (3, .ref (ga X.G (c + 1))), (4, .int (x4 &&& (x6 ^^^ (-1)))), (5, .int s.1)] [] s.2 (EQ X none mm)) ?_ _ _ hL18
  clear hL18
  rintro ⟨x19, m20⟩ xo h hP18 hT18
  show WA X 0 0 76 [(0, .ref (ga X.G 158)), (1, .ref (ga X.G c)), (2, .int p2), (3, .ref (ga X.G (c + 1))), (4, .int (x4 &&& (x6 ^^^ (-1)))), (5, .int x19)] [] m20 (EQ X none mm)
  rw [f_X1_prepare_L76] at h
  refine a_iload (pc := 76) F dX1_prepare_76 5 rfl ?_
  refine a_aload_n (pc := 78) F dX1_prepare_78 0 rfl ?_
  refine a_geti (k := 158) (pc := 79) F dX1_prepare_79 fl_RX1_66 kl_158 ks_158 rfl ?_
  refine a_icmp_ge (tgt := 150) (pc := 82) F dX1_prepare_82 (by decide) (fun q21 => ?_) (fun q21 => ?_)
  · replace h := ite_t q21 h
    clear q21
    refine a_lv F [] rfl ?_
    cases hT18 _ (Option.some.inj h).symm
    exact hE18
  · replace h := ite_f q21 h
    clear q21
    refine a_aload_n (pc := 85) F dX1_prepare_85 0 rfl ?_
    refine a_getr (k := 158) (r := 159) (pc := 86) F dX1_prepare_86 fl_RX1_9 kl_158 ks_158 rfl ?_
    refine a_iload (pc := 89) F dX1_prepare_89 5 rfl ?_
    refine a_iload (pc := 91) F dX1_prepare_91 4 rfl ?_
    refine a_aload_n (pc := 93) F dX1_prepare_93 3 rfl ?_
    refine a_aload_n (pc := 94) F dX1_prepare_94 3 rfl ?_
    refine a_getr (k := (c + 1)) (r := (c + 2)) (pc := 95) F dX1_prepare_95 fl_RX1_104 (klC_1 hc) (ksC_1 hc) rfl ?_
    refine a_iload (pc := 98) F dX1_prepare_98 5 rfl ?_
    replace h := gIn_some h
    obtain ⟨g22, h⟩ := h
    refine a_ial (k := (c + 2)) (pc := 100) F dX1_prepare_100 (klC_2 hc) (ksC_2 hc) g22 ?_
    refine a_nmi fun x23 ex23 => ?_
    replace h := nm_at ex23 h
    clear ex23
    replace h := bnd_some h
    obtain ⟨x25, hc24, h⟩ := h
    refine a_callV (pc := 101) (k := (c + 1)) (As := [.int x23]) (st := [.int (x4 &&& (x6 ^^^ (-1))), .int x19, .ref (ga X.G 159)]) F dX1_prepare_101 (m_X6_speakersOf hc hc24) cv_RX1_101 (klC_1 hc) (ksC_1 hc) ⟨_, _, rfl⟩ rfl rfl rfl (Nat.le_of_ble_eq_true rfl) ⟨Nat.le_of_ble_eq_true rfl, Nat.le_of_ble_eq_true rfl⟩ ?_ rfl rfl
    clear hc24
    refine a_iand (pc := 104) F dX1_prepare_104 ?_
    refine a_nmi fun x26 ex26 => ?_
    replace h := nm_at ex26 h
    clear ex26
    refine a_iload (pc := 105) F dX1_prepare_105 5 rfl ?_
    replace h := bnd_some h
    obtain ⟨x28, hc27, h⟩ := h
    refine a_callSN (pc := 107) (As := [.int x19]) (st := [.int x26, .int x19, .ref (ga X.G 159)]) F dX1_prepare_107 (m_X7_bitOf hc27) cn_RX1_69 rfl rfl rfl (Nat.le_of_ble_eq_true rfl) ⟨Nat.le_of_ble_eq_true rfl, Nat.le_of_ble_eq_true rfl⟩ ?_ rfl rfl
    clear hc27
    refine a_iconst (v := (-1)) (pc := 110) F dX1_prepare_110 (by decide) ?_
    refine a_ixor (pc := 111) F dX1_prepare_111 ?_
    refine a_iand (pc := 112) F dX1_prepare_112 ?_
    replace h := gIn_some h
    obtain ⟨g29, h⟩ := h
    refine a_ias (k := 159) (pc := 113) F dX1_prepare_113 kl_159 ks_159 g29 ?_
    refine a_nmm fun m30 em30 => ?_
    replace h := nm_at em30 h
    clear em30
    refine a_aload_n (pc := 114) F dX1_prepare_114 0 rfl ?_
    refine a_getr (k := 158) (r := 160) (pc := 115) F dX1_prepare_115 fl_RX1_15 kl_158 ks_158 rfl ?_
    refine a_iload (pc := 118) F dX1_prepare_118 5 rfl ?_
    refine a_aload_n (pc := 120) F dX1_prepare_120 1 rfl ?_
    refine a_iload (pc := 121) F dX1_prepare_121 5 rfl ?_
    refine a_iload_n (pc := 123) F dX1_prepare_123 2 rfl ?_
    refine a_iconst (v := 0) (pc := 124) F dX1_prepare_124 (by decide) ?_
    replace h := bnd_some h
    obtain ⟨x32, hc31, h⟩ := h
    refine a_callV (pc := 125) (k := c) (As := [.int x19, .int p2, .int 0]) (st := [.int x19, .ref (ga X.G 160)]) F dX1_prepare_125 (m_X2_earns hc hc31) cv_RX1_107 (klC_0 hc) (ksC_0 hc) ⟨_, _, rfl⟩ rfl rfl rfl (Nat.le_of_ble_eq_true rfl) ⟨Nat.le_of_ble_eq_true rfl, Nat.le_of_ble_eq_true rfl⟩ ?_ rfl rfl
    clear hc31
    replace h := gIn_some h
    obtain ⟨g33, h⟩ := h
    refine a_ias (k := 160) (pc := 128) F dX1_prepare_128 kl_160 ks_160 g33 ?_
    refine a_nmm fun m34 em34 => ?_
    replace h := nm_at em34 h
    clear em34
    refine a_aload_n (pc := 129) F dX1_prepare_129 0 rfl ?_
    refine a_getr (k := 158) (r := 161) (pc := 130) F dX1_prepare_130 fl_RX1_18 kl_158 ks_158 rfl ?_
    refine a_iload (pc := 133) F dX1_prepare_133 5 rfl ?_
    refine a_aload_n (pc := 135) F dX1_prepare_135 1 rfl ?_
    refine a_iload (pc := 136) F dX1_prepare_136 5 rfl ?_
    refine a_iload_n (pc := 138) F dX1_prepare_138 2 rfl ?_
    refine a_iconst (v := 1) (pc := 139) F dX1_prepare_139 (by decide) ?_
    replace h := bnd_some h
    obtain ⟨x36, hc35, h⟩ := h
    refine a_callV (pc := 140) (k := c) (As := [.int x19, .int p2, .int 1]) (st := [.int x19, .ref (ga X.G 161)]) F dX1_prepare_140 (m_X2_earns hc hc35) cv_RX1_107 (klC_0 hc) (ksC_0 hc) ⟨_, _, rfl⟩ rfl rfl rfl (Nat.le_of_ble_eq_true rfl) ⟨Nat.le_of_ble_eq_true rfl, Nat.le_of_ble_eq_true rfl⟩ ?_ rfl rfl
    clear hc35
    replace h := gIn_some h
    obtain ⟨g37, h⟩ := h
    refine a_ias (k := 161) (pc := 143) F dX1_prepare_143 kl_161 ks_161 g37 ?_
    refine a_nmm fun m38 em38 => ?_
    replace h := nm_at em38 h
    clear em38
    obtain ⟨x39, ex39⟩ : ∃ x39 : Int32, x39 = x19 + 1 := ⟨_, rfl⟩
    refine a_iinc (v := x39) (lv' := [(5, .int x39), (0, .ref (ga X.G 158)), (1, .ref (ga X.G c)), (2, .int p2), (3, .ref (ga X.G (c + 1))), (4, .int (x4 &&& (x6 ^^^ (-1))))]) (pc := 144) F dX1_prepare_144 5 rfl (by rw [ex39]; rfl) (by decide) rfl ?_
    replace h := nm_at ex39 h
    clear ex39
    refine a_goto (tgt := 76) (pc := 147) F dX1_prepare_147 (by decide) ?_
    refine a_lv F [1, 2, 3, 4, 5, 0] rfl ?_
    exact hP18 _ (Option.some.inj h).symm
def f_X1_offer (p1 : Int32) (p2 : Int32) (p3 : Int32) (p4 : Int32) (p5 : Int32) (m0 : Mem) : Option Mem :=
  (if (m0.1 158 0) = (-1) then bnd (f_X1_keep p1 p2 p3 p4 p5 m0) fun m3 => some m3 else (if (m0.1 158 0) ≤ p1 then some m0 else bnd (f_X1_keep p1 p2 p3 p4 p5 m0) fun m6 => some m6))
set_option maxRecDepth 100000 in
set_option maxHeartbeats 4000000 in
theorem m_X1_offer {p1 : Int32} {p2 : Int32} {p3 : Int32} {p4 : Int32} {p5 : Int32} {m0 : Mem} {mm : Mem} (h : f_X1_offer p1 p2 p3 p4 p5 m0 = some mm) : Con yX1_offer cX1_offer 6 none 1 25 (fun G => [.ref (ga G 158), .int p1, .int p2, .int p3, .int p4, .int p5]) m0 none mm := by
  refine con_of (by decide) (fun G => Nat.le_of_ble_eq_true rfl) (fun X F => ?_)
  show WA X 0 0 0 [(0, .ref (ga X.G 158)), (1, .int p1), (2, .int p2), (3, .int p3), (4, .int p4), (5, .int p5)] [] m0 (EQ X none mm)
  rw [f_X1_offer] at h
  refine a_aload_n (pc := 0) F dX1_offer_0 0 rfl ?_
  refine a_geti (k := 158) (pc := 1) F dX1_offer_1 fl_RX1_21 kl_158 ks_158 rfl ?_
  refine a_iconst (v := (-1)) (pc := 4) F dX1_offer_4 (by decide) ?_
  refine a_icmp_eq (tgt := 16) (pc := 5) F dX1_offer_5 (by decide) (fun q1 => ?_) (fun q1 => ?_)
  · replace h := ite_t q1 h
    clear q1
    refine a_aload_n (pc := 16) F dX1_offer_16 0 rfl ?_
    refine a_iload_n (pc := 17) F dX1_offer_17 1 rfl ?_
    refine a_iload_n (pc := 18) F dX1_offer_18 2 rfl ?_
    refine a_iload_n (pc := 19) F dX1_offer_19 3 rfl ?_
    refine a_iload (pc := 20) F dX1_offer_20 4 rfl ?_
    refine a_iload (pc := 22) F dX1_offer_22 5 rfl ?_
    replace h := bnd_some h
    obtain ⟨m3, hc2, h⟩ := h
    refine a_callV (pc := 24) (k := 158) (As := [.int p1, .int p2, .int p3, .int p4, .int p5]) (st := []) F dX1_offer_24 (m_X1_keep hc2) cv_RX1_37 kl_158 ks_158 ⟨_, _, rfl⟩ rfl rfl rfl (Nat.le_of_ble_eq_true rfl) ⟨Nat.le_of_ble_eq_true rfl, Nat.le_of_ble_eq_true rfl⟩ ?_ rfl rfl
    clear hc2
    cases h
    exact a_vret (pc := 27) F dX1_offer_27 rfl
  · replace h := ite_f q1 h
    clear q1
    refine a_iload_n (pc := 8) F dX1_offer_8 1 rfl ?_
    refine a_aload_n (pc := 9) F dX1_offer_9 0 rfl ?_
    refine a_geti (k := 158) (pc := 10) F dX1_offer_10 fl_RX1_21 kl_158 ks_158 rfl ?_
    refine a_icmp_ge (tgt := 27) (pc := 13) F dX1_offer_13 (by decide) (fun q4 => ?_) (fun q4 => ?_)
    · replace h := ite_t q4 h
      clear q4
      cases h
      exact a_vret (pc := 27) F dX1_offer_27 rfl
    · replace h := ite_f q4 h
      clear q4
      refine a_aload_n (pc := 16) F dX1_offer_16 0 rfl ?_
      refine a_iload_n (pc := 17) F dX1_offer_17 1 rfl ?_
      refine a_iload_n (pc := 18) F dX1_offer_18 2 rfl ?_
      refine a_iload_n (pc := 19) F dX1_offer_19 3 rfl ?_
      refine a_iload (pc := 20) F dX1_offer_20 4 rfl ?_
      refine a_iload (pc := 22) F dX1_offer_22 5 rfl ?_
      replace h := bnd_some h
      obtain ⟨m6, hc5, h⟩ := h
      refine a_callV (pc := 24) (k := 158) (As := [.int p1, .int p2, .int p3, .int p4, .int p5]) (st := []) F dX1_offer_24 (m_X1_keep hc5) cv_RX1_37 kl_158 ks_158 ⟨_, _, rfl⟩ rfl rfl rfl (Nat.le_of_ble_eq_true rfl) ⟨Nat.le_of_ble_eq_true rfl, Nat.le_of_ble_eq_true rfl⟩ ?_ rfl rfl
      clear hc5
      cases h
      exact a_vret (pc := 27) F dX1_offer_27 rfl
def f_X1_tryThirds_L22 (p1 : Int32) (p2 : Int32) (x5 : Int32) : (Int32 × Mem) → Option ((Int32 × Mem) ⊕ Mem)
  | (x7, m8) => (if (m8.1 158 5) ≤ x7 then some (.inr m8) else bnd (f_X7_bitOf x7 m8) fun x11 => (if (x5 &&& x11) = 0 then nm (x7 + 1) fun x13 => some (.inl (x13, m8)) else gIn p1 10 <| nm (m8.1 161 p1.toNatClampNeg) fun x15 => gIn p2 10 <| nm (m8.1 161 p2.toNatClampNeg) fun x17 => gIn x7 10 <| nm (m8.1 161 x7.toNatClampNeg) fun x19 => bnd (f_X1_offer ((x15 + x17) + x19) 3 p1 p2 x7 m8) fun m21 => nm (x7 + 1) fun x22 => some (.inl (x22, m21))))
def f_X1_tryThirds (p1 : Int32) (p2 : Int32) (m0 : Mem) : Option Mem :=
  gIn p2 10 <| nm (m0.1 159 p2.toNatClampNeg) fun x2 => bnd (f_X7_bitOf p1 m0) fun x4 => nm ((x2 &&& (m0.1 158 7)) &&& (x4 ^^^ (-1))) fun x5 => bnd (lp (f_X1_tryThirds_L22 p1 p2 x5) 1000000 (0, m0)) (fun m23 => some m23)
set_option maxRecDepth 100000 in
set_option maxHeartbeats 4000000 in
theorem m_X1_tryThirds {p1 : Int32} {p2 : Int32} {m0 : Mem} {mm : Mem} (h : f_X1_tryThirds p1 p2 m0 = some mm) : Con yX1_tryThirds cX1_tryThirds 5 none 2 50 (fun G => [.ref (ga G 158), .int p1, .int p2]) m0 none mm := by
  refine con_of (by decide) (fun G => Nat.le_of_ble_eq_true rfl) (fun X F => ?_)
  show WA X 0 0 0 [(0, .ref (ga X.G 158)), (1, .int p1), (2, .int p2)] [] m0 (EQ X none mm)
  rw [f_X1_tryThirds] at h
  refine a_aload_n (pc := 0) F dX1_tryThirds_0 0 rfl ?_
  refine a_getr (k := 158) (r := 159) (pc := 1) F dX1_tryThirds_1 fl_RX1_9 kl_158 ks_158 rfl ?_
  refine a_iload_n (pc := 4) F dX1_tryThirds_4 2 rfl ?_
  replace h := gIn_some h
  obtain ⟨g1, h⟩ := h
  refine a_ial (k := 159) (pc := 5) F dX1_tryThirds_5 kl_159 ks_159 g1 ?_
  refine a_nmi fun x2 ex2 => ?_
  replace h := nm_at ex2 h
  clear ex2
  refine a_aload_n (pc := 6) F dX1_tryThirds_6 0 rfl ?_
  refine a_geti (k := 158) (pc := 7) F dX1_tryThirds_7 fl_RX1_63 kl_158 ks_158 rfl ?_
  refine a_iand (pc := 10) F dX1_tryThirds_10 ?_
  refine a_iload_n (pc := 11) F dX1_tryThirds_11 1 rfl ?_
  replace h := bnd_some h
  obtain ⟨x4, hc3, h⟩ := h
  refine a_callSN (pc := 12) (As := [.int p1]) (st := [.int (x2 &&& (m0.1 158 7))]) F dX1_tryThirds_12 (m_X7_bitOf hc3) cn_RX1_69 rfl rfl rfl (Nat.le_of_ble_eq_true rfl) ⟨Nat.le_of_ble_eq_true rfl, Nat.le_of_ble_eq_true rfl⟩ ?_ rfl rfl
  clear hc3
  refine a_iconst (v := (-1)) (pc := 15) F dX1_tryThirds_15 (by decide) ?_
  refine a_ixor (pc := 16) F dX1_tryThirds_16 ?_
  refine a_iand (pc := 17) F dX1_tryThirds_17 ?_
  refine a_nmi fun x5 ex5 => ?_
  replace h := nm_at ex5 h
  clear ex5
  refine a_istore_n (lv' := [(3, .int x5), (0, .ref (ga X.G 158)), (1, .int p1), (2, .int p2)]) (pc := 18) F dX1_tryThirds_18 (by decide) rfl ?_
  refine a_iconst (v := 0) (pc := 19) F dX1_tryThirds_19 (by decide) ?_
  refine a_istore (lv' := [(4, .int 0), (3, .int x5), (0, .ref (ga X.G 158)), (1, .int p1), (2, .int p2)]) (pc := 20) F dX1_tryThirds_20 (by decide) rfl ?_
  refine a_lv F [2, 3, 4, 1, 0] rfl ?_
  replace h := bnd_some h
  obtain ⟨m23, hL6, h⟩ := h
  have hE6 : WA X 0 0 77 [] [] m23 (EQ X none mm) := by
    cases h
    exact a_vret (pc := 77) F dX1_tryThirds_77 rfl
  clear h
  refine lp_run (P := fun (s : (Int32 × Mem)) => WA X 0 0 22 [(0, .ref (ga X.G 158)), (1, .int p1), (2, .int p2), (3, .int x5), (4, .int s.1)] [] s.2 (EQ X none mm)) ?_ _ _ hL6
  clear hL6
  rintro ⟨x7, m8⟩ xo h hP6 hT6
  show WA X 0 0 22 [(0, .ref (ga X.G 158)), (1, .int p1), (2, .int p2), (3, .int x5), (4, .int x7)] [] m8 (EQ X none mm)
  rw [f_X1_tryThirds_L22] at h
  refine a_iload (pc := 22) F dX1_tryThirds_22 4 rfl ?_
  refine a_aload_n (pc := 24) F dX1_tryThirds_24 0 rfl ?_
  refine a_geti (k := 158) (pc := 25) F dX1_tryThirds_25 fl_RX1_66 kl_158 ks_158 rfl ?_
  refine a_icmp_ge (tgt := 77) (pc := 28) F dX1_tryThirds_28 (by decide) (fun q9 => ?_) (fun q9 => ?_)
  · replace h := ite_t q9 h
    clear q9
    refine a_lv F [] rfl ?_
    cases hT6 _ (Option.some.inj h).symm
    exact hE6
  · replace h := ite_f q9 h
    clear q9
    refine a_iload_n (pc := 31) F dX1_tryThirds_31 3 rfl ?_
    refine a_iload (pc := 32) F dX1_tryThirds_32 4 rfl ?_
    replace h := bnd_some h
    obtain ⟨x11, hc10, h⟩ := h
    refine a_callSN (pc := 34) (As := [.int x7]) (st := [.int x5]) F dX1_tryThirds_34 (m_X7_bitOf hc10) cn_RX1_69 rfl rfl rfl (Nat.le_of_ble_eq_true rfl) ⟨Nat.le_of_ble_eq_true rfl, Nat.le_of_ble_eq_true rfl⟩ ?_ rfl rfl
    clear hc10
    refine a_iand (pc := 37) F dX1_tryThirds_37 ?_
    refine a_if_eq (tgt := 71) (pc := 38) F dX1_tryThirds_38 (by decide) (fun q12 => ?_) (fun q12 => ?_)
    · replace h := ite_t q12 h
      clear q12
      obtain ⟨x13, ex13⟩ : ∃ x13 : Int32, x13 = x7 + 1 := ⟨_, rfl⟩
      refine a_iinc (v := x13) (lv' := [(4, .int x13), (0, .ref (ga X.G 158)), (1, .int p1), (2, .int p2), (3, .int x5)]) (pc := 71) F dX1_tryThirds_71 4 rfl (by rw [ex13]; rfl) (by decide) rfl ?_
      replace h := nm_at ex13 h
      clear ex13
      refine a_goto (tgt := 22) (pc := 74) F dX1_tryThirds_74 (by decide) ?_
      refine a_lv F [1, 2, 3, 4, 0] rfl ?_
      exact hP6 _ (Option.some.inj h).symm
    · replace h := ite_f q12 h
      clear q12
      refine a_aload_n (pc := 41) F dX1_tryThirds_41 0 rfl ?_
      refine a_aload_n (pc := 42) F dX1_tryThirds_42 0 rfl ?_
      refine a_getr (k := 158) (r := 161) (pc := 43) F dX1_tryThirds_43 fl_RX1_18 kl_158 ks_158 rfl ?_
      refine a_iload_n (pc := 46) F dX1_tryThirds_46 1 rfl ?_
      replace h := gIn_some h
      obtain ⟨g14, h⟩ := h
      refine a_ial (k := 161) (pc := 47) F dX1_tryThirds_47 kl_161 ks_161 g14 ?_
      refine a_nmi fun x15 ex15 => ?_
      replace h := nm_at ex15 h
      clear ex15
      refine a_aload_n (pc := 48) F dX1_tryThirds_48 0 rfl ?_
      refine a_getr (k := 158) (r := 161) (pc := 49) F dX1_tryThirds_49 fl_RX1_18 kl_158 ks_158 rfl ?_
      refine a_iload_n (pc := 52) F dX1_tryThirds_52 2 rfl ?_
      replace h := gIn_some h
      obtain ⟨g16, h⟩ := h
      refine a_ial (k := 161) (pc := 53) F dX1_tryThirds_53 kl_161 ks_161 g16 ?_
      refine a_nmi fun x17 ex17 => ?_
      replace h := nm_at ex17 h
      clear ex17
      refine a_iadd (pc := 54) F dX1_tryThirds_54 ?_
      refine a_aload_n (pc := 55) F dX1_tryThirds_55 0 rfl ?_
      refine a_getr (k := 158) (r := 161) (pc := 56) F dX1_tryThirds_56 fl_RX1_18 kl_158 ks_158 rfl ?_
      refine a_iload (pc := 59) F dX1_tryThirds_59 4 rfl ?_
      replace h := gIn_some h
      obtain ⟨g18, h⟩ := h
      refine a_ial (k := 161) (pc := 61) F dX1_tryThirds_61 kl_161 ks_161 g18 ?_
      refine a_nmi fun x19 ex19 => ?_
      replace h := nm_at ex19 h
      clear ex19
      refine a_iadd (pc := 62) F dX1_tryThirds_62 ?_
      refine a_iconst (v := 3) (pc := 63) F dX1_tryThirds_63 (by decide) ?_
      refine a_iload_n (pc := 64) F dX1_tryThirds_64 1 rfl ?_
      refine a_iload_n (pc := 65) F dX1_tryThirds_65 2 rfl ?_
      refine a_iload (pc := 66) F dX1_tryThirds_66 4 rfl ?_
      replace h := bnd_some h
      obtain ⟨m21, hc20, h⟩ := h
      refine a_callV (pc := 68) (k := 158) (As := [.int ((x15 + x17) + x19), .int 3, .int p1, .int p2, .int x7]) (st := []) F dX1_tryThirds_68 (m_X1_offer hc20) cv_RX1_77 kl_158 ks_158 ⟨_, _, rfl⟩ rfl rfl rfl (Nat.le_of_ble_eq_true rfl) ⟨Nat.le_of_ble_eq_true rfl, Nat.le_of_ble_eq_true rfl⟩ ?_ rfl rfl
      clear hc20
      obtain ⟨x22, ex22⟩ : ∃ x22 : Int32, x22 = x7 + 1 := ⟨_, rfl⟩
      refine a_iinc (v := x22) (lv' := [(4, .int x22), (0, .ref (ga X.G 158)), (1, .int p1), (2, .int p2), (3, .int x5)]) (pc := 71) F dX1_tryThirds_71 4 rfl (by rw [ex22]; rfl) (by decide) rfl ?_
      replace h := nm_at ex22 h
      clear ex22
      refine a_goto (tgt := 22) (pc := 74) F dX1_tryThirds_74 (by decide) ?_
      refine a_lv F [1, 2, 3, 4, 0] rfl ?_
      exact hP6 _ (Option.some.inj h).symm
