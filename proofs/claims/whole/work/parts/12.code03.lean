def f_X8_release (p1 : Int32) (m0 : Mem) : Option (Int32 × Mem) :=
  bnd (f_X8_isHearing p1 m0) fun x2 => bnd ((if x2 = 0 then some 1 else bnd (f_X8_isOpen p1 m0) fun x6 => (if x6 = 0 then some 2 else some 0))) (fun (x8 : Int32) => nm (si m0 162 5 x8) fun m9 => (if (m9.1 162 5) ≤ 0 then bnd (f_X8_save m9) fun m12 => bnd (f_X8_of p1 5 m12) fun x14 => nm (si m12 162 7 0) fun m15 => bnd (f_X8_assignTried p1 m15) fun m17 => some (x14, m17) else some (0, m9)))
set_option maxRecDepth 100000 in
set_option maxHeartbeats 4000000 in
theorem m_X8_release {p1 : Int32} {m0 : Mem} {rr : Int32} {mm : Mem} (h : f_X8_release p1 m0 = some (rr, mm)) : Con yX8_release cX8_release 3 (some Jvm.ClassFile.FieldType.int) 3 64 (fun G => [.ref (ga G 162), .int p1]) m0 (some (.int rr)) mm := by
  refine con_of (lv := []) (by decide) (fun G => Nat.le_of_ble_eq_true rfl) (fun X F => ?_)
  show WA X 0 0 0 [(0, .ref (ga X.G 162)), (1, .int p1)] [] m0 (EQ X (some (.int rr)) mm)
  rw [f_X8_release] at h
  refine a_aload_n (pc := 0) F dX8_release_0 0 rfl ?_
  refine a_aload_n (pc := 1) F dX8_release_1 0 rfl ?_
  refine a_iload_n (pc := 2) F dX8_release_2 1 rfl ?_
  replace h := bnd_some h
  obtain ⟨x2, hc1, h⟩ := h
  refine a_callV (pc := 3) (k := 162) (As := [.int p1]) (st := [.ref (ga X.G 162)]) F dX8_release_3 (m_X8_isHearing hc1) cv_RX8_109 kl_162 ks_162 ⟨_, _, rfl⟩ rfl rfl rfl (Nat.le_of_ble_eq_true rfl) ⟨Nat.le_of_ble_eq_true rfl, Nat.le_of_ble_eq_true rfl⟩ ?_ rfl rfl
  clear hc1
  replace h := bnd_some h
  obtain ⟨x8, hR3, h⟩ := h
  have hJ3 : WA X 0 0 26 [(0, .ref (ga X.G 162)), (1, .int p1)] [.int x8, .ref (ga X.G 162)] m0 (EQ X (some (.int rr)) mm) := by
    refine a_puti (k := 162) (pc := 26) F dX8_release_26 fp_RX8_31 kl_162 ks_162 rfl ?_
    refine a_nmm fun m9 em9 => ?_
    replace h := nm_at em9 h
    clear em9
    refine a_aload_n (pc := 29) F dX8_release_29 0 rfl ?_
    refine a_geti (k := 162) (pc := 30) F dX8_release_30 fl_RX8_31 kl_162 ks_162 rfl ?_
    refine a_if_le (tgt := 38) (pc := 33) F dX8_release_33 (by decide) (fun q10 => ?_) (fun q10 => ?_)
    · replace h := ite_t q10 h
      clear q10
      refine a_aload_n (pc := 38) F dX8_release_38 0 rfl ?_
      replace h := bnd_some h
      obtain ⟨m12, hc11, h⟩ := h
      refine a_callV (pc := 39) (k := 162) (As := []) (st := []) F dX8_release_39 (m_X8_save hc11) cv_RX8_71 kl_162 ks_162 ⟨_, _, rfl⟩ rfl rfl rfl (Nat.le_of_ble_eq_true rfl) ⟨Nat.le_of_ble_eq_true rfl, Nat.le_of_ble_eq_true rfl⟩ ?_ rfl rfl
      clear hc11
      refine a_aload_n (pc := 42) F dX8_release_42 0 rfl ?_
      refine a_iload_n (pc := 43) F dX8_release_43 1 rfl ?_
      refine a_iconst (v := 5) (pc := 44) F dX8_release_44 (by decide) ?_
      replace h := bnd_some h
      obtain ⟨x14, hc13, h⟩ := h
      refine a_callV (pc := 45) (k := 162) (As := [.int p1, .int 5]) (st := []) F dX8_release_45 (m_X8_of hc13) cv_RX8_42 kl_162 ks_162 ⟨_, _, rfl⟩ rfl rfl rfl (Nat.le_of_ble_eq_true rfl) ⟨Nat.le_of_ble_eq_true rfl, Nat.le_of_ble_eq_true rfl⟩ ?_ rfl rfl
      clear hc13
      refine a_istore_n (lv' := [(2, .int x14), (0, .ref (ga X.G 162)), (1, .int p1)]) (pc := 48) F dX8_release_48 (by decide) rfl ?_
      refine a_aload_n (pc := 49) F dX8_release_49 1 rfl ?_
      refine a_iconst (v := 0) (pc := 50) F dX8_release_50 (by decide) ?_
      refine a_puti (k := 162) (pc := 51) F dX8_release_51 fp_RX8_91 kl_162 ks_162 rfl ?_
      refine a_nmm fun m15 em15 => ?_
      replace h := nm_at em15 h
      clear em15
      refine a_aload_n (pc := 54) F dX8_release_54 1 rfl ?_
      refine a_iload_n (pc := 55) F dX8_release_55 2 rfl ?_
      replace h := bnd_some h
      obtain ⟨m17, hc16, h⟩ := h
      refine a_callV (pc := 56) (k := 162) (As := [.int p1]) (st := []) F dX8_release_56 (m_X8_assignTried hc16) cv_RX8_121 kl_162 ks_162 ⟨_, _, rfl⟩ rfl rfl rfl (Nat.le_of_ble_eq_true rfl) ⟨Nat.le_of_ble_eq_true rfl, Nat.le_of_ble_eq_true rfl⟩ ?_ rfl rfl
      clear hc16
      refine a_iload_n (pc := 59) F dX8_release_59 0 rfl ?_
      cases h
      exact a_iret (pc := 60) F dX8_release_60 ⟨_, rfl, rfl⟩
    · replace h := ite_f q10 h
      clear q10
      refine a_iconst (v := 0) (pc := 36) F dX8_release_36 (by decide) ?_
      cases h
      exact a_iret (pc := 37) F dX8_release_37 ⟨_, rfl, rfl⟩
  clear h
  have h := hR3
  clear hR3
  refine a_if_ne (tgt := 13) (pc := 6) F dX8_release_6 (by decide) (fun q4 => ?_) (fun q4 => ?_)
  · replace h := ite_f q4 h
    clear q4
    refine a_aload_n (pc := 13) F dX8_release_13 0 rfl ?_
    refine a_iload_n (pc := 14) F dX8_release_14 1 rfl ?_
    replace h := bnd_some h
    obtain ⟨x6, hc5, h⟩ := h
    refine a_callV (pc := 15) (k := 162) (As := [.int p1]) (st := [.ref (ga X.G 162)]) F dX8_release_15 (m_X8_isOpen hc5) cv_RX8_125 kl_162 ks_162 ⟨_, _, rfl⟩ rfl rfl rfl (Nat.le_of_ble_eq_true rfl) ⟨Nat.le_of_ble_eq_true rfl, Nat.le_of_ble_eq_true rfl⟩ ?_ rfl rfl
    clear hc5
    refine a_if_eq (tgt := 25) (pc := 18) F dX8_release_18 (by decide) (fun q7 => ?_) (fun q7 => ?_)
    · replace h := ite_t q7 h
      clear q7
      refine a_iconst (v := 2) (pc := 25) F dX8_release_25 (by decide) ?_
      cases h
      exact hJ3
    · replace h := ite_f q7 h
      clear q7
      refine a_iconst (v := 0) (pc := 21) F dX8_release_21 (by decide) ?_
      refine a_goto (tgt := 26) (pc := 22) F dX8_release_22 (by decide) ?_
      cases h
      exact hJ3
  · replace h := ite_t (Decidable.not_not.mp q4) h
    clear q4
    refine a_iconst (v := 1) (pc := 9) F dX8_release_9 (by decide) ?_
    refine a_goto (tgt := 26) (pc := 10) F dX8_release_10 (by decide) ?_
    cases h
    exact hJ3
def f_X8_swap (p1 : Int32) (p2 : Int32) (p3 : Int32) (m0 : Mem) : Option (Int32 × Mem) :=
  bnd (f_X8_isHearing p1 m0) fun x2 => bnd ((if x2 = 0 then some 0 else bnd (f_X8_of p1 5 m0) fun x6 => bnd (f_X8_within p2 0 (x6 - 1) m0) fun x8 => (if x8 = 0 then some 0 else bnd (f_X8_isPerson p3 m0) fun x11 => (if x11 = 0 then some 0 else some 1)))) (fun (x13 : Int32) => bnd ((if x13 = 0 then some 1 else bnd (f_X8_isIn p3 p1 m0) fun x17 => (if x17 = 0 then some 0 else some 2))) (fun (x19 : Int32) => nm (si m0 162 5 x19) fun m20 => bnd ((if (m20.1 162 5) = 0 then bnd (f_X8_of p1 6 m20) fun x24 => bnd (f_X8_of p1 7 m20) fun x26 => bnd (f_X8_of p1 8 m20) fun x28 => bnd (f_X8_lay x24 x26 x28 m20) fun m30 => gIn p2 3 <| nm (si m30 166 p2.toNatClampNeg p3) fun m32 => bnd (f_X8_reason p1 m32) fun x34 => (if x34 = 0 then nm (si m32 162 5 0) fun m37 => some m37 else nm (si m32 162 5 3) fun m36 => some m36) else some m20)) (fun (m38 : Mem) => (if (m38.1 162 5) ≤ 0 then bnd (f_X8_save m38) fun m41 => bnd (f_X8_of p1 (6 + p2) m41) fun x43 => bnd (f_X8_put p1 (6 + p2) p3 m41) fun m45 => some (x43, m45) else some (0, m38)))))
set_option maxRecDepth 100000 in
set_option maxHeartbeats 4000000 in
theorem m_X8_swap {p1 : Int32} {p2 : Int32} {p3 : Int32} {m0 : Mem} {rr : Int32} {mm : Mem} (h : f_X8_swap p1 p2 p3 m0 = some (rr, mm)) : Con yX8_swap cX8_swap 6 (some Jvm.ClassFile.FieldType.int) 6 133 (fun G => [.ref (ga G 162), .int p1, .int p2, .int p3]) m0 (some (.int rr)) mm := by
  refine con_of (lv := []) (by decide) (fun G => Nat.le_of_ble_eq_true rfl) (fun X F => ?_)
  show WA X 0 0 0 [(0, .ref (ga X.G 162)), (1, .int p1), (2, .int p2), (3, .int p3)] [] m0 (EQ X (some (.int rr)) mm)
  rw [f_X8_swap] at h
  refine a_aload_n (pc := 0) F dX8_swap_0 0 rfl ?_
  refine a_iload_n (pc := 1) F dX8_swap_1 1 rfl ?_
  replace h := bnd_some h
  obtain ⟨x2, hc1, h⟩ := h
  refine a_callV (pc := 2) (k := 162) (As := [.int p1]) (st := []) F dX8_swap_2 (m_X8_isHearing hc1) cv_RX8_109 kl_162 ks_162 ⟨_, _, rfl⟩ rfl rfl rfl (Nat.le_of_ble_eq_true rfl) ⟨Nat.le_of_ble_eq_true rfl, Nat.le_of_ble_eq_true rfl⟩ ?_ rfl rfl
  clear hc1
  replace h := bnd_some h
  obtain ⟨x13, hR3, h⟩ := h
  have hJ3 : WA X 0 0 37 [(0, .ref (ga X.G 162)), (1, .int p1), (2, .int p2), (3, .int p3)] [.int x13] m0 (EQ X (some (.int rr)) mm) := by
    refine a_istore (lv' := [(4, .int x13), (0, .ref (ga X.G 162)), (1, .int p1), (2, .int p2), (3, .int p3)]) (pc := 37) F dX8_swap_37 (by decide) rfl ?_
    refine a_aload_n (pc := 39) F dX8_swap_39 1 rfl ?_
    refine a_iload (pc := 40) F dX8_swap_40 0 rfl ?_
    replace h := bnd_some h
    obtain ⟨x19, hR14, h⟩ := h
    have hJ14 : WA X 0 0 63 [(0, .ref (ga X.G 162)), (1, .int p1), (2, .int p2), (3, .int p3)] [.int x19, .ref (ga X.G 162)] m0 (EQ X (some (.int rr)) mm) := by
      refine a_puti (k := 162) (pc := 63) F dX8_swap_63 fp_RX8_31 kl_162 ks_162 rfl ?_
      refine a_nmm fun m20 em20 => ?_
      replace h := nm_at em20 h
      clear em20
      refine a_aload_n (pc := 66) F dX8_swap_66 0 rfl ?_
      refine a_geti (k := 162) (pc := 67) F dX8_swap_67 fl_RX8_31 kl_162 ks_162 rfl ?_
      replace h := bnd_some h
      obtain ⟨m38, hR21, h⟩ := h
      have hJ21 : WA X 0 0 122 [(0, .ref (ga X.G 162)), (1, .int p1), (2, .int p2), (3, .int p3)] [] m38 (EQ X (some (.int rr)) mm) := by
        refine a_aload_n (pc := 122) F dX8_swap_122 0 rfl ?_
        refine a_geti (k := 162) (pc := 123) F dX8_swap_123 fl_RX8_31 kl_162 ks_162 rfl ?_
        refine a_if_le (tgt := 131) (pc := 126) F dX8_swap_126 (by decide) (fun q39 => ?_) (fun q39 => ?_)
        · replace h := ite_t q39 h
          clear q39
          refine a_aload_n (pc := 131) F dX8_swap_131 0 rfl ?_
          replace h := bnd_some h
          obtain ⟨m41, hc40, h⟩ := h
          refine a_callV (pc := 132) (k := 162) (As := []) (st := []) F dX8_swap_132 (m_X8_save hc40) cv_RX8_71 kl_162 ks_162 ⟨_, _, rfl⟩ rfl rfl rfl (Nat.le_of_ble_eq_true rfl) ⟨Nat.le_of_ble_eq_true rfl, Nat.le_of_ble_eq_true rfl⟩ ?_ rfl rfl
          clear hc40
          refine a_aload_n (pc := 135) F dX8_swap_135 0 rfl ?_
          refine a_iload_n (pc := 136) F dX8_swap_136 1 rfl ?_
          refine a_bipush (v := 6) (pc := 137) F dX8_swap_137 (by decide) ?_
          refine a_iload_n (pc := 139) F dX8_swap_139 2 rfl ?_
          refine a_iadd (pc := 140) F dX8_swap_140 ?_
          replace h := bnd_some h
          obtain ⟨x43, hc42, h⟩ := h
          refine a_callV (pc := 141) (k := 162) (As := [.int p1, .int (6 + p2)]) (st := []) F dX8_swap_141 (m_X8_of hc42) cv_RX8_42 kl_162 ks_162 ⟨_, _, rfl⟩ rfl rfl rfl (Nat.le_of_ble_eq_true rfl) ⟨Nat.le_of_ble_eq_true rfl, Nat.le_of_ble_eq_true rfl⟩ ?_ rfl rfl
          clear hc42
          refine a_istore (lv' := [(5, .int x43), (0, .ref (ga X.G 162)), (1, .int p1), (2, .int p2), (3, .int p3)]) (pc := 144) F dX8_swap_144 (by decide) rfl ?_
          refine a_aload_n (pc := 146) F dX8_swap_146 1 rfl ?_
          refine a_iload_n (pc := 147) F dX8_swap_147 2 rfl ?_
          refine a_bipush (v := 6) (pc := 148) F dX8_swap_148 (by decide) ?_
          refine a_iload_n (pc := 150) F dX8_swap_150 3 rfl ?_
          refine a_iadd (pc := 151) F dX8_swap_151 ?_
          refine a_iload_n (pc := 152) F dX8_swap_152 4 rfl ?_
          replace h := bnd_some h
          obtain ⟨m45, hc44, h⟩ := h
          refine a_callV (pc := 153) (k := 162) (As := [.int p1, .int (6 + p2), .int p3]) (st := []) F dX8_swap_153 (m_X8_put hc44) cv_RX8_74 kl_162 ks_162 ⟨_, _, rfl⟩ rfl rfl rfl (Nat.le_of_ble_eq_true rfl) ⟨Nat.le_of_ble_eq_true rfl, Nat.le_of_ble_eq_true rfl⟩ ?_ rfl rfl
          clear hc44
          refine a_iload (pc := 156) F dX8_swap_156 0 rfl ?_
          cases h
          exact a_iret (pc := 158) F dX8_swap_158 ⟨_, rfl, rfl⟩
        · replace h := ite_f q39 h
          clear q39
          refine a_iconst (v := 0) (pc := 129) F dX8_swap_129 (by decide) ?_
          cases h
          exact a_iret (pc := 130) F dX8_swap_130 ⟨_, rfl, rfl⟩
      clear h
      have h := hR21
      clear hR21
      refine a_if_ne (tgt := 122) (pc := 70) F dX8_swap_70 (by decide) (fun q22 => ?_) (fun q22 => ?_)
      · replace h := ite_f q22 h
        clear q22
        cases h
        exact hJ21
      · replace h := ite_t (Decidable.not_not.mp q22) h
        clear q22
        refine a_aload_n (pc := 73) F dX8_swap_73 0 rfl ?_
        refine a_aload_n (pc := 74) F dX8_swap_74 0 rfl ?_
        refine a_iload_n (pc := 75) F dX8_swap_75 1 rfl ?_
        refine a_bipush (v := 6) (pc := 76) F dX8_swap_76 (by decide) ?_
        replace h := bnd_some h
        obtain ⟨x24, hc23, h⟩ := h
        refine a_callV (pc := 78) (k := 162) (As := [.int p1, .int 6]) (st := [.ref (ga X.G 162)]) F dX8_swap_78 (m_X8_of hc23) cv_RX8_42 kl_162 ks_162 ⟨_, _, rfl⟩ rfl rfl rfl (Nat.le_of_ble_eq_true rfl) ⟨Nat.le_of_ble_eq_true rfl, Nat.le_of_ble_eq_true rfl⟩ ?_ rfl rfl
        clear hc23
        refine a_aload_n (pc := 81) F dX8_swap_81 0 rfl ?_
        refine a_iload_n (pc := 82) F dX8_swap_82 1 rfl ?_
        refine a_bipush (v := 7) (pc := 83) F dX8_swap_83 (by decide) ?_
        replace h := bnd_some h
        obtain ⟨x26, hc25, h⟩ := h
        refine a_callV (pc := 85) (k := 162) (As := [.int p1, .int 7]) (st := [.int x24, .ref (ga X.G 162)]) F dX8_swap_85 (m_X8_of hc25) cv_RX8_42 kl_162 ks_162 ⟨_, _, rfl⟩ rfl rfl rfl (Nat.le_of_ble_eq_true rfl) ⟨Nat.le_of_ble_eq_true rfl, Nat.le_of_ble_eq_true rfl⟩ ?_ rfl rfl
        clear hc25
        refine a_aload_n (pc := 88) F dX8_swap_88 0 rfl ?_
        refine a_iload_n (pc := 89) F dX8_swap_89 1 rfl ?_
        refine a_bipush (v := 8) (pc := 90) F dX8_swap_90 (by decide) ?_
        replace h := bnd_some h
        obtain ⟨x28, hc27, h⟩ := h
        refine a_callV (pc := 92) (k := 162) (As := [.int p1, .int 8]) (st := [.int x26, .int x24, .ref (ga X.G 162)]) F dX8_swap_92 (m_X8_of hc27) cv_RX8_42 kl_162 ks_162 ⟨_, _, rfl⟩ rfl rfl rfl (Nat.le_of_ble_eq_true rfl) ⟨Nat.le_of_ble_eq_true rfl, Nat.le_of_ble_eq_true rfl⟩ ?_ rfl rfl
        clear hc27
        replace h := bnd_some h
        obtain ⟨m30, hc29, h⟩ := h
        refine a_callV (pc := 95) (k := 162) (As := [.int x24, .int x26, .int x28]) (st := []) F dX8_swap_95 (m_X8_lay hc29) cv_RX8_112 kl_162 ks_162 ⟨_, _, rfl⟩ rfl rfl rfl (Nat.le_of_ble_eq_true rfl) ⟨Nat.le_of_ble_eq_true rfl, Nat.le_of_ble_eq_true rfl⟩ ?_ rfl rfl
        clear hc29
        refine a_aload_n (pc := 98) F dX8_swap_98 0 rfl ?_
        refine a_getr (k := 162) (r := 166) (pc := 99) F dX8_swap_99 fl_RX8_19 kl_162 ks_162 rfl ?_
        refine a_iload_n (pc := 102) F dX8_swap_102 2 rfl ?_
        refine a_iload_n (pc := 103) F dX8_swap_103 3 rfl ?_
        replace h := gIn_some h
        obtain ⟨g31, h⟩ := h
        refine a_ias (k := 166) (pc := 104) F dX8_swap_104 kl_166 ks_166 g31 ?_
        refine a_nmm fun m32 em32 => ?_
        replace h := nm_at em32 h
        clear em32
        refine a_aload_n (pc := 105) F dX8_swap_105 0 rfl ?_
        refine a_aload_n (pc := 106) F dX8_swap_106 0 rfl ?_
        refine a_iload_n (pc := 107) F dX8_swap_107 1 rfl ?_
        replace h := bnd_some h
        obtain ⟨x34, hc33, h⟩ := h
        refine a_callV (pc := 108) (k := 162) (As := [.int p1]) (st := [.ref (ga X.G 162)]) F dX8_swap_108 (m_X8_reason hc33) cv_RX8_118 kl_162 ks_162 ⟨_, _, rfl⟩ rfl rfl rfl (Nat.le_of_ble_eq_true rfl) ⟨Nat.le_of_ble_eq_true rfl, Nat.le_of_ble_eq_true rfl⟩ ?_ rfl rfl
        clear hc33
        refine a_if_ne (tgt := 118) (pc := 111) F dX8_swap_111 (by decide) (fun q35 => ?_) (fun q35 => ?_)
        · replace h := ite_f q35 h
          clear q35
          refine a_iconst (v := 3) (pc := 118) F dX8_swap_118 (by decide) ?_
          refine a_puti (k := 162) (pc := 119) F dX8_swap_119 fp_RX8_31 kl_162 ks_162 rfl ?_
          refine a_nmm fun m36 em36 => ?_
          replace h := nm_at em36 h
          clear em36
          cases h
          exact hJ21
        · replace h := ite_t (Decidable.not_not.mp q35) h
          clear q35
          refine a_iconst (v := 0) (pc := 114) F dX8_swap_114 (by decide) ?_
          refine a_goto (tgt := 119) (pc := 115) F dX8_swap_115 (by decide) ?_
          refine a_puti (k := 162) (pc := 119) F dX8_swap_119 fp_RX8_31 kl_162 ks_162 rfl ?_
          refine a_nmm fun m37 em37 => ?_
          replace h := nm_at em37 h
          clear em37
          cases h
          exact hJ21
    clear h
    have h := hR14
    clear hR14
    refine a_if_ne (tgt := 49) (pc := 42) F dX8_swap_42 (by decide) (fun q15 => ?_) (fun q15 => ?_)
    · replace h := ite_f q15 h
      clear q15
      refine a_aload_n (pc := 49) F dX8_swap_49 1 rfl ?_
      refine a_iload_n (pc := 50) F dX8_swap_50 4 rfl ?_
      refine a_iload_n (pc := 51) F dX8_swap_51 2 rfl ?_
      replace h := bnd_some h
      obtain ⟨x17, hc16, h⟩ := h
      refine a_callV (pc := 52) (k := 162) (As := [.int p3, .int p1]) (st := [.ref (ga X.G 162)]) F dX8_swap_52 (m_X8_isIn hc16) cv_RX8_54 kl_162 ks_162 ⟨_, _, rfl⟩ rfl rfl rfl (Nat.le_of_ble_eq_true rfl) ⟨Nat.le_of_ble_eq_true rfl, Nat.le_of_ble_eq_true rfl⟩ ?_ rfl rfl
      clear hc16
      refine a_if_eq (tgt := 62) (pc := 55) F dX8_swap_55 (by decide) (fun q18 => ?_) (fun q18 => ?_)
      · replace h := ite_t q18 h
        clear q18
        refine a_iconst (v := 0) (pc := 62) F dX8_swap_62 (by decide) ?_
        refine a_lv F [1, 2, 3, 4] rfl ?_
        cases h
        exact hJ14
      · replace h := ite_f q18 h
        clear q18
        refine a_iconst (v := 2) (pc := 58) F dX8_swap_58 (by decide) ?_
        refine a_goto (tgt := 63) (pc := 59) F dX8_swap_59 (by decide) ?_
        refine a_lv F [1, 2, 3, 4] rfl ?_
        cases h
        exact hJ14
    · replace h := ite_t (Decidable.not_not.mp q15) h
      clear q15
      refine a_iconst (v := 1) (pc := 45) F dX8_swap_45 (by decide) ?_
      refine a_goto (tgt := 63) (pc := 46) F dX8_swap_46 (by decide) ?_
      refine a_lv F [1, 2, 3, 4] rfl ?_
      cases h
      exact hJ14
  clear h
  have h := hR3
  clear hR3
  refine a_if_eq (tgt := 36) (pc := 5) F dX8_swap_5 (by decide) (fun q4 => ?_) (fun q4 => ?_)
  · replace h := ite_t q4 h
    clear q4
    refine a_iconst (v := 0) (pc := 36) F dX8_swap_36 (by decide) ?_
    cases h
    exact hJ3
  · replace h := ite_f q4 h
    clear q4
    refine a_iload_n (pc := 8) F dX8_swap_8 2 rfl ?_
    refine a_iconst (v := 0) (pc := 9) F dX8_swap_9 (by decide) ?_
    refine a_aload_n (pc := 10) F dX8_swap_10 0 rfl ?_
    refine a_iload_n (pc := 11) F dX8_swap_11 1 rfl ?_
    refine a_iconst (v := 5) (pc := 12) F dX8_swap_12 (by decide) ?_
    replace h := bnd_some h
    obtain ⟨x6, hc5, h⟩ := h
    refine a_callV (pc := 13) (k := 162) (As := [.int p1, .int 5]) (st := [.int 0, .int p2]) F dX8_swap_13 (m_X8_of hc5) cv_RX8_42 kl_162 ks_162 ⟨_, _, rfl⟩ rfl rfl rfl (Nat.le_of_ble_eq_true rfl) ⟨Nat.le_of_ble_eq_true rfl, Nat.le_of_ble_eq_true rfl⟩ ?_ rfl rfl
    clear hc5
    refine a_iconst (v := 1) (pc := 16) F dX8_swap_16 (by decide) ?_
    refine a_isub (pc := 17) F dX8_swap_17 ?_
    replace h := bnd_some h
    obtain ⟨x8, hc7, h⟩ := h
    refine a_callS (pc := 18) (As := [.int p2, .int 0, .int (x6 - 1)]) (st := []) F dX8_swap_18 (m_X8_within hc7) cs_RX8_38 rfl rfl rfl (Nat.le_of_ble_eq_true rfl) ⟨Nat.le_of_ble_eq_true rfl, Nat.le_of_ble_eq_true rfl⟩ ?_ rfl rfl
    clear hc7
    refine a_if_eq (tgt := 36) (pc := 21) F dX8_swap_21 (by decide) (fun q9 => ?_) (fun q9 => ?_)
    · replace h := ite_t q9 h
      clear q9
      refine a_iconst (v := 0) (pc := 36) F dX8_swap_36 (by decide) ?_
      cases h
      exact hJ3
    · replace h := ite_f q9 h
      clear q9
      refine a_aload_n (pc := 24) F dX8_swap_24 0 rfl ?_
      refine a_iload_n (pc := 25) F dX8_swap_25 3 rfl ?_
      replace h := bnd_some h
      obtain ⟨x11, hc10, h⟩ := h
      refine a_callV (pc := 26) (k := 162) (As := [.int p3]) (st := []) F dX8_swap_26 (m_X8_isPerson hc10) cv_RX8_82 kl_162 ks_162 ⟨_, _, rfl⟩ rfl rfl rfl (Nat.le_of_ble_eq_true rfl) ⟨Nat.le_of_ble_eq_true rfl, Nat.le_of_ble_eq_true rfl⟩ ?_ rfl rfl
      clear hc10
      refine a_if_eq (tgt := 36) (pc := 29) F dX8_swap_29 (by decide) (fun q12 => ?_) (fun q12 => ?_)
      · replace h := ite_t q12 h
        clear q12
        refine a_iconst (v := 0) (pc := 36) F dX8_swap_36 (by decide) ?_
        cases h
        exact hJ3
      · replace h := ite_f q12 h
        clear q12
        refine a_iconst (v := 1) (pc := 32) F dX8_swap_32 (by decide) ?_
        refine a_goto (tgt := 37) (pc := 33) F dX8_swap_33 (by decide) ?_
        cases h
        exact hJ3
def f_X8_vacate (p1 : Int32) (m0 : Mem) : Option (Int32 × Mem) :=
  bnd (f_X8_isHearing p1 m0) fun x2 => bnd ((if x2 = 0 then some 1 else bnd (f_X8_isOpen p1 m0) fun x6 => (if x6 = 0 then some 2 else some 0))) (fun (x8 : Int32) => nm (si m0 162 5 x8) fun m9 => (if (m9.1 162 5) ≤ 0 then bnd (f_X8_save m9) fun m12 => bnd (f_X8_of p1 2 m12) fun x14 => nm (m12.1 163 (9 : Int32).toNatClampNeg) fun x15 => bnd (f_X8_halvesBy (x14 - x15) m12) fun x17 => bnd2 (f_X8_pay p1 x17 m12) fun x19 m20 => nm (m20.1 163 (11 : Int32).toNatClampNeg) fun x21 => nm (si m20 163 (11 : Int32).toNatClampNeg (x21 + x19)) fun m22 => bnd (f_X8_put p1 4 3 m22) fun m24 => some (x19, m24) else some (0, m9)))
set_option maxRecDepth 100000 in
set_option maxHeartbeats 4000000 in
theorem m_X8_vacate {p1 : Int32} {m0 : Mem} {rr : Int32} {mm : Mem} (h : f_X8_vacate p1 m0 = some (rr, mm)) : Con yX8_vacate cX8_vacate 3 (some Jvm.ClassFile.FieldType.int) 4 97 (fun G => [.ref (ga G 162), .int p1]) m0 (some (.int rr)) mm := by
  refine con_of (lv := []) (by decide) (fun G => Nat.le_of_ble_eq_true rfl) (fun X F => ?_)
  show WA X 0 0 0 [(0, .ref (ga X.G 162)), (1, .int p1)] [] m0 (EQ X (some (.int rr)) mm)
  rw [f_X8_vacate] at h
  refine a_aload_n (pc := 0) F dX8_vacate_0 0 rfl ?_
  refine a_aload_n (pc := 1) F dX8_vacate_1 0 rfl ?_
  refine a_iload_n (pc := 2) F dX8_vacate_2 1 rfl ?_
  replace h := bnd_some h
  obtain ⟨x2, hc1, h⟩ := h
  refine a_callV (pc := 3) (k := 162) (As := [.int p1]) (st := [.ref (ga X.G 162)]) F dX8_vacate_3 (m_X8_isHearing hc1) cv_RX8_109 kl_162 ks_162 ⟨_, _, rfl⟩ rfl rfl rfl (Nat.le_of_ble_eq_true rfl) ⟨Nat.le_of_ble_eq_true rfl, Nat.le_of_ble_eq_true rfl⟩ ?_ rfl rfl
  clear hc1
  replace h := bnd_some h
  obtain ⟨x8, hR3, h⟩ := h
  have hJ3 : WA X 0 0 26 [(0, .ref (ga X.G 162)), (1, .int p1)] [.int x8, .ref (ga X.G 162)] m0 (EQ X (some (.int rr)) mm) := by
    refine a_puti (k := 162) (pc := 26) F dX8_vacate_26 fp_RX8_31 kl_162 ks_162 rfl ?_
    refine a_nmm fun m9 em9 => ?_
    replace h := nm_at em9 h
    clear em9
    refine a_aload_n (pc := 29) F dX8_vacate_29 0 rfl ?_
    refine a_geti (k := 162) (pc := 30) F dX8_vacate_30 fl_RX8_31 kl_162 ks_162 rfl ?_
    refine a_if_le (tgt := 38) (pc := 33) F dX8_vacate_33 (by decide) (fun q10 => ?_) (fun q10 => ?_)
    · replace h := ite_t q10 h
      clear q10
      refine a_aload_n (pc := 38) F dX8_vacate_38 0 rfl ?_
      replace h := bnd_some h
      obtain ⟨m12, hc11, h⟩ := h
      refine a_callV (pc := 39) (k := 162) (As := []) (st := []) F dX8_vacate_39 (m_X8_save hc11) cv_RX8_71 kl_162 ks_162 ⟨_, _, rfl⟩ rfl rfl rfl (Nat.le_of_ble_eq_true rfl) ⟨Nat.le_of_ble_eq_true rfl, Nat.le_of_ble_eq_true rfl⟩ ?_ rfl rfl
      clear hc11
      refine a_aload_n (pc := 42) F dX8_vacate_42 0 rfl ?_
      refine a_iload_n (pc := 43) F dX8_vacate_43 1 rfl ?_
      refine a_aload_n (pc := 44) F dX8_vacate_44 0 rfl ?_
      refine a_aload_n (pc := 45) F dX8_vacate_45 0 rfl ?_
      refine a_iload_n (pc := 46) F dX8_vacate_46 1 rfl ?_
      refine a_iconst (v := 2) (pc := 47) F dX8_vacate_47 (by decide) ?_
      replace h := bnd_some h
      obtain ⟨x14, hc13, h⟩ := h
      refine a_callV (pc := 48) (k := 162) (As := [.int p1, .int 2]) (st := [.ref (ga X.G 162), .int p1, .ref (ga X.G 162)]) F dX8_vacate_48 (m_X8_of hc13) cv_RX8_42 kl_162 ks_162 ⟨_, _, rfl⟩ rfl rfl rfl (Nat.le_of_ble_eq_true rfl) ⟨Nat.le_of_ble_eq_true rfl, Nat.le_of_ble_eq_true rfl⟩ ?_ rfl rfl
      clear hc13
      refine a_aload_n (pc := 51) F dX8_vacate_51 0 rfl ?_
      refine a_getr (k := 162) (r := 163) (pc := 52) F dX8_vacate_52 fl_RX8_7 kl_162 ks_162 rfl ?_
      refine a_bipush (v := 9) (pc := 55) F dX8_vacate_55 (by decide) ?_
      refine a_ial (k := 163) (pc := 57) F dX8_vacate_57 kl_163 ks_163 (vp_lit rfl) ?_
      refine a_nmi fun x15 ex15 => ?_
      replace h := nm_at ex15 h
      clear ex15
      refine a_isub (pc := 58) F dX8_vacate_58 ?_
      replace h := bnd_some h
      obtain ⟨x17, hc16, h⟩ := h
      refine a_callV (pc := 59) (k := 162) (As := [.int (x14 - x15)]) (st := [.int p1, .ref (ga X.G 162)]) F dX8_vacate_59 (m_X8_halvesBy hc16) cv_RX8_128 kl_162 ks_162 ⟨_, _, rfl⟩ rfl rfl rfl (Nat.le_of_ble_eq_true rfl) ⟨Nat.le_of_ble_eq_true rfl, Nat.le_of_ble_eq_true rfl⟩ ?_ rfl rfl
      clear hc16
      replace h := bnd2_some h
      obtain ⟨x19, m20, hc18, h⟩ := h
      refine a_callV (pc := 62) (k := 162) (As := [.int p1, .int x17]) (st := []) F dX8_vacate_62 (m_X8_pay hc18) cv_RX8_131 kl_162 ks_162 ⟨_, _, rfl⟩ rfl rfl rfl (Nat.le_of_ble_eq_true rfl) ⟨Nat.le_of_ble_eq_true rfl, Nat.le_of_ble_eq_true rfl⟩ ?_ rfl rfl
      clear hc18
      refine a_istore_n (lv' := [(2, .int x19), (0, .ref (ga X.G 162)), (1, .int p1)]) (pc := 65) F dX8_vacate_65 (by decide) rfl ?_
      refine a_aload_n (pc := 66) F dX8_vacate_66 1 rfl ?_
      refine a_getr (k := 162) (r := 163) (pc := 67) F dX8_vacate_67 fl_RX8_7 kl_162 ks_162 rfl ?_
      refine a_bipush (v := 11) (pc := 70) F dX8_vacate_70 (by decide) ?_
      refine a_dup2 (pc := 72) F dX8_vacate_72 rfl rfl ?_
      refine a_ial (k := 163) (pc := 73) F dX8_vacate_73 kl_163 ks_163 (vp_lit rfl) ?_
      refine a_nmi fun x21 ex21 => ?_
      replace h := nm_at ex21 h
      clear ex21
      refine a_iload_n (pc := 74) F dX8_vacate_74 0 rfl ?_
      refine a_iadd (pc := 75) F dX8_vacate_75 ?_
      refine a_ias (k := 163) (pc := 76) F dX8_vacate_76 kl_163 ks_163 (vp_lit rfl) ?_
      refine a_nmm fun m22 em22 => ?_
      replace h := nm_at em22 h
      clear em22
      refine a_aload_n (pc := 77) F dX8_vacate_77 1 rfl ?_
      refine a_iload_n (pc := 78) F dX8_vacate_78 2 rfl ?_
      refine a_iconst (v := 4) (pc := 79) F dX8_vacate_79 (by decide) ?_
      refine a_iconst (v := 3) (pc := 80) F dX8_vacate_80 (by decide) ?_
      replace h := bnd_some h
      obtain ⟨m24, hc23, h⟩ := h
      refine a_callV (pc := 81) (k := 162) (As := [.int p1, .int 4, .int 3]) (st := []) F dX8_vacate_81 (m_X8_put hc23) cv_RX8_74 kl_162 ks_162 ⟨_, _, rfl⟩ rfl rfl rfl (Nat.le_of_ble_eq_true rfl) ⟨Nat.le_of_ble_eq_true rfl, Nat.le_of_ble_eq_true rfl⟩ ?_ rfl rfl
      clear hc23
      refine a_iload_n (pc := 84) F dX8_vacate_84 0 rfl ?_
      cases h
      exact a_iret (pc := 85) F dX8_vacate_85 ⟨_, rfl, rfl⟩
    · replace h := ite_f q10 h
      clear q10
      refine a_iconst (v := 0) (pc := 36) F dX8_vacate_36 (by decide) ?_
      cases h
      exact a_iret (pc := 37) F dX8_vacate_37 ⟨_, rfl, rfl⟩
  clear h
  have h := hR3
  clear hR3
  refine a_if_ne (tgt := 13) (pc := 6) F dX8_vacate_6 (by decide) (fun q4 => ?_) (fun q4 => ?_)
  · replace h := ite_f q4 h
    clear q4
    refine a_aload_n (pc := 13) F dX8_vacate_13 0 rfl ?_
    refine a_iload_n (pc := 14) F dX8_vacate_14 1 rfl ?_
    replace h := bnd_some h
    obtain ⟨x6, hc5, h⟩ := h
    refine a_callV (pc := 15) (k := 162) (As := [.int p1]) (st := [.ref (ga X.G 162)]) F dX8_vacate_15 (m_X8_isOpen hc5) cv_RX8_125 kl_162 ks_162 ⟨_, _, rfl⟩ rfl rfl rfl (Nat.le_of_ble_eq_true rfl) ⟨Nat.le_of_ble_eq_true rfl, Nat.le_of_ble_eq_true rfl⟩ ?_ rfl rfl
    clear hc5
    refine a_if_eq (tgt := 25) (pc := 18) F dX8_vacate_18 (by decide) (fun q7 => ?_) (fun q7 => ?_)
    · replace h := ite_t q7 h
      clear q7
      refine a_iconst (v := 2) (pc := 25) F dX8_vacate_25 (by decide) ?_
      cases h
      exact hJ3
    · replace h := ite_f q7 h
      clear q7
      refine a_iconst (v := 0) (pc := 21) F dX8_vacate_21 (by decide) ?_
      refine a_goto (tgt := 26) (pc := 22) F dX8_vacate_22 (by decide) ?_
      cases h
      exact hJ3
  · replace h := ite_t (Decidable.not_not.mp q4) h
    clear q4
    refine a_iconst (v := 1) (pc := 9) F dX8_vacate_9 (by decide) ?_
    refine a_goto (tgt := 26) (pc := 10) F dX8_vacate_10 (by decide) ?_
    cases h
    exact hJ3
def f_X8_worksIn_L12 (p1 : Int32) (m0 : Mem) : (Int32 × Int32) → Option ((Int32 × Int32) ⊕ Int32)
  | (x3, x4) => (if x4 < 0 then some (.inr x3) else bnd (f_X8_isListed x4 m0) fun x7 => (if x7 = 0 then nm (x4 + (-1)) fun x9 => some (.inl (x3, x9)) else bnd (f_X8_hasStarted x4 m0) fun x11 => (if x11 = 0 then nm (x4 + (-1)) fun x13 => some (.inl (x3, x13)) else bnd (f_X8_isIn p1 x4 m0) fun x15 => (if x15 = 0 then nm (x4 + (-1)) fun x17 => some (.inl (x3, x17)) else nm (x4 + (-1)) fun x18 => some (.inl (x4, x18))))))
def f_X8_worksIn (p1 : Int32) (m0 : Mem) : Option Int32 :=
  nm (m0.1 163 (8 : Int32).toNatClampNeg) fun x1 => bnd (lp (f_X8_worksIn_L12 p1 m0) 1000000 ((-1), x1 - 1)) (fun x19 => some x19)
set_option maxRecDepth 100000 in
set_option maxHeartbeats 4000000 in
theorem m_X8_worksIn {p1 : Int32} {m0 : Mem} {rr : Int32} (h : f_X8_worksIn p1 m0 = some rr) : Con yX8_worksIn cX8_worksIn 4 (some Jvm.ClassFile.FieldType.int) 2 46 (fun G => [.ref (ga G 162), .int p1]) m0 (some (.int rr)) m0 := by
  refine con_of (lv := []) (by decide) (fun G => Nat.le_of_ble_eq_true rfl) (fun X F => ?_)
  show WA X 0 0 0 [(0, .ref (ga X.G 162)), (1, .int p1)] [] m0 (EQ X (some (.int rr)) m0)
  rw [f_X8_worksIn] at h
  refine a_iconst (v := (-1)) (pc := 0) F dX8_worksIn_0 (by decide) ?_
  refine a_istore_n (lv' := [(2, .int (-1)), (0, .ref (ga X.G 162)), (1, .int p1)]) (pc := 1) F dX8_worksIn_1 (by decide) rfl ?_
  refine a_aload_n (pc := 2) F dX8_worksIn_2 1 rfl ?_
  refine a_getr (k := 162) (r := 163) (pc := 3) F dX8_worksIn_3 fl_RX8_7 kl_162 ks_162 rfl ?_
  refine a_bipush (v := 8) (pc := 6) F dX8_worksIn_6 (by decide) ?_
  refine a_ial (k := 163) (pc := 8) F dX8_worksIn_8 kl_163 ks_163 (vp_lit rfl) ?_
  refine a_nmi fun x1 ex1 => ?_
  replace h := nm_at ex1 h
  clear ex1
  refine a_iconst (v := 1) (pc := 9) F dX8_worksIn_9 (by decide) ?_
  refine a_isub (pc := 10) F dX8_worksIn_10 ?_
  refine a_istore_n (lv' := [(3, .int (x1 - 1)), (2, .int (-1)), (0, .ref (ga X.G 162)), (1, .int p1)]) (pc := 11) F dX8_worksIn_11 (by decide) rfl ?_
  refine a_lv F [2, 3, 1, 0] rfl ?_
  replace h := bnd_some h
  obtain ⟨x19, hL2, h⟩ := h
  have hE2 : WA X 0 0 53 [(2, .int x19)] [] m0 (EQ X (some (.int rr)) m0) := by
    refine a_iload_n (pc := 53) F dX8_worksIn_53 0 rfl ?_
    cases h
    exact a_iret (pc := 54) F dX8_worksIn_54 ⟨_, rfl, rfl⟩
  clear h
  refine lp_run (P := fun (s : (Int32 × Int32)) => WA X 0 0 12 [(0, .ref (ga X.G 162)), (1, .int p1), (2, .int s.1), (3, .int s.2)] [] m0 (EQ X (some (.int rr)) m0)) ?_ _ _ hL2
  clear hL2
  rintro ⟨x3, x4⟩ xo h hP2 hT2
  show WA X 0 0 12 [(0, .ref (ga X.G 162)), (1, .int p1), (2, .int x3), (3, .int x4)] [] m0 (EQ X (some (.int rr)) m0)
  rw [f_X8_worksIn_L12] at h
  refine a_iload_n (pc := 12) F dX8_worksIn_12 3 rfl ?_
  refine a_if_lt (tgt := 53) (pc := 13) F dX8_worksIn_13 (by decide) (fun q5 => ?_) (fun q5 => ?_)
  · replace h := ite_t q5 h
    clear q5
    refine a_lv F [2] rfl ?_
    cases hT2 _ (Option.some.inj h).symm
    exact hE2
  · replace h := ite_f q5 h
    clear q5
    refine a_aload_n (pc := 16) F dX8_worksIn_16 0 rfl ?_
    refine a_iload_n (pc := 17) F dX8_worksIn_17 3 rfl ?_
    replace h := bnd_some h
    obtain ⟨x7, hc6, h⟩ := h
    refine a_callV (pc := 18) (k := 162) (As := [.int x4]) (st := []) F dX8_worksIn_18 (m_X8_isListed hc6) cv_RX8_50 kl_162 ks_162 ⟨_, _, rfl⟩ rfl rfl rfl (Nat.le_of_ble_eq_true rfl) ⟨Nat.le_of_ble_eq_true rfl, Nat.le_of_ble_eq_true rfl⟩ ?_ rfl rfl
    clear hc6
    refine a_if_eq (tgt := 45) (pc := 21) F dX8_worksIn_21 (by decide) (fun q8 => ?_) (fun q8 => ?_)
    · replace h := ite_t q8 h
      clear q8
      refine a_iload_n (pc := 45) F dX8_worksIn_45 2 rfl ?_
      refine a_istore_n (lv' := [(2, .int x3), (0, .ref (ga X.G 162)), (1, .int p1), (3, .int x4)]) (pc := 46) F dX8_worksIn_46 (by decide) rfl ?_
      obtain ⟨x9, ex9⟩ : ∃ x9 : Int32, x9 = x4 + (-1) := ⟨_, rfl⟩
      refine a_iinc (v := x9) (lv' := [(3, .int x9), (2, .int x3), (0, .ref (ga X.G 162)), (1, .int p1)]) (pc := 47) F dX8_worksIn_47 3 rfl (by rw [ex9]; rfl) (by decide) rfl ?_
      replace h := nm_at ex9 h
      clear ex9
      refine a_goto (tgt := 12) (pc := 50) F dX8_worksIn_50 (by decide) ?_
      refine a_lv F [2, 3, 1, 0] rfl ?_
      exact hP2 _ (Option.some.inj h).symm
    · replace h := ite_f q8 h
      clear q8
      refine a_aload_n (pc := 24) F dX8_worksIn_24 0 rfl ?_
      refine a_iload_n (pc := 25) F dX8_worksIn_25 3 rfl ?_
      replace h := bnd_some h
      obtain ⟨x11, hc10, h⟩ := h
      refine a_callV (pc := 26) (k := 162) (As := [.int x4]) (st := []) F dX8_worksIn_26 (m_X8_hasStarted hc10) cv_RX8_97 kl_162 ks_162 ⟨_, _, rfl⟩ rfl rfl rfl (Nat.le_of_ble_eq_true rfl) ⟨Nat.le_of_ble_eq_true rfl, Nat.le_of_ble_eq_true rfl⟩ ?_ rfl rfl
      clear hc10
      refine a_if_eq (tgt := 45) (pc := 29) F dX8_worksIn_29 (by decide) (fun q12 => ?_) (fun q12 => ?_)
      · replace h := ite_t q12 h
        clear q12
        refine a_iload_n (pc := 45) F dX8_worksIn_45 2 rfl ?_
        refine a_istore_n (lv' := [(2, .int x3), (0, .ref (ga X.G 162)), (1, .int p1), (3, .int x4)]) (pc := 46) F dX8_worksIn_46 (by decide) rfl ?_
        obtain ⟨x13, ex13⟩ : ∃ x13 : Int32, x13 = x4 + (-1) := ⟨_, rfl⟩
        refine a_iinc (v := x13) (lv' := [(3, .int x13), (2, .int x3), (0, .ref (ga X.G 162)), (1, .int p1)]) (pc := 47) F dX8_worksIn_47 3 rfl (by rw [ex13]; rfl) (by decide) rfl ?_
        replace h := nm_at ex13 h
        clear ex13
        refine a_goto (tgt := 12) (pc := 50) F dX8_worksIn_50 (by decide) ?_
        refine a_lv F [2, 3, 1, 0] rfl ?_
        exact hP2 _ (Option.some.inj h).symm
      · replace h := ite_f q12 h
        clear q12
        refine a_aload_n (pc := 32) F dX8_worksIn_32 0 rfl ?_
        refine a_iload_n (pc := 33) F dX8_worksIn_33 1 rfl ?_
        refine a_iload_n (pc := 34) F dX8_worksIn_34 3 rfl ?_
        replace h := bnd_some h
        obtain ⟨x15, hc14, h⟩ := h
        refine a_callV (pc := 35) (k := 162) (As := [.int p1, .int x4]) (st := []) F dX8_worksIn_35 (m_X8_isIn hc14) cv_RX8_54 kl_162 ks_162 ⟨_, _, rfl⟩ rfl rfl rfl (Nat.le_of_ble_eq_true rfl) ⟨Nat.le_of_ble_eq_true rfl, Nat.le_of_ble_eq_true rfl⟩ ?_ rfl rfl
        clear hc14
        refine a_if_eq (tgt := 45) (pc := 38) F dX8_worksIn_38 (by decide) (fun q16 => ?_) (fun q16 => ?_)
        · replace h := ite_t q16 h
          clear q16
          refine a_iload_n (pc := 45) F dX8_worksIn_45 2 rfl ?_
          refine a_istore_n (lv' := [(2, .int x3), (0, .ref (ga X.G 162)), (1, .int p1), (3, .int x4)]) (pc := 46) F dX8_worksIn_46 (by decide) rfl ?_
          obtain ⟨x17, ex17⟩ : ∃ x17 : Int32, x17 = x4 + (-1) := ⟨_, rfl⟩
          refine a_iinc (v := x17) (lv' := [(3, .int x17), (2, .int x3), (0, .ref (ga X.G 162)), (1, .int p1)]) (pc := 47) F dX8_worksIn_47 3 rfl (by rw [ex17]; rfl) (by decide) rfl ?_
          replace h := nm_at ex17 h
          clear ex17
          refine a_goto (tgt := 12) (pc := 50) F dX8_worksIn_50 (by decide) ?_
          refine a_lv F [2, 3, 1, 0] rfl ?_
          exact hP2 _ (Option.some.inj h).symm
        · replace h := ite_f q16 h
          clear q16
          refine a_iload_n (pc := 41) F dX8_worksIn_41 3 rfl ?_
          refine a_goto (tgt := 46) (pc := 42) F dX8_worksIn_42 (by decide) ?_
          refine a_istore_n (lv' := [(2, .int x4), (0, .ref (ga X.G 162)), (1, .int p1), (3, .int x4)]) (pc := 46) F dX8_worksIn_46 (by decide) rfl ?_
          obtain ⟨x18, ex18⟩ : ∃ x18 : Int32, x18 = x4 + (-1) := ⟨_, rfl⟩
          refine a_iinc (v := x18) (lv' := [(3, .int x18), (2, .int x4), (0, .ref (ga X.G 162)), (1, .int p1)]) (pc := 47) F dX8_worksIn_47 3 rfl (by rw [ex18]; rfl) (by decide) rfl ?_
          replace h := nm_at ex18 h
          clear ex18
          refine a_goto (tgt := 12) (pc := 50) F dX8_worksIn_50 (by decide) ?_
          refine a_lv F [2, 3, 1, 0] rfl ?_
          exact hP2 _ (Option.some.inj h).symm
def f_X8_tireAll_L2 : (Int32 × Mem) → Option ((Int32 × Mem) ⊕ Mem)
  | (x2, m3) => nm (m3.1 163 (7 : Int32).toNatClampNeg) fun x4 => (if x4 ≤ x2 then some (.inr m3) else bnd (f_X8_worksIn x2 m3) fun x7 => gIn (43 + x2) 373 <| nm (m3.1 163 (43 + x2).toNatClampNeg) fun x9 => bnd ((if x7 = (-1) then nm (m3.1 163 (2 : Int32).toNatClampNeg) fun x23 => some (x9 - x23, m3) else nm (m3.1 163 (0 : Int32).toNatClampNeg) fun x12 => bnd (f_X8_of x7 5 m3) fun x14 => bnd ((if x14 ≤ 1 then some 0 else nm (m3.1 163 (1 : Int32).toNatClampNeg) fun x17 => some x17)) (fun (x18 : Int32) => gIn (63 + x2) 373 <| nm (m3.1 163 (63 + x2).toNatClampNeg) fun x20 => gIn (63 + x2) 373 <| nm (si m3 163 (63 + x2).toNatClampNeg (x20 + 1)) fun m22 => some (x9 + (x12 + x18), m22)))) (fun ((x24, m25) : Int32 × Mem) => (if 0 ≤ x24 then (if x24 ≤ 1000 then gIn (43 + x2) 373 <| nm (si m25 163 (43 + x2).toNatClampNeg x24) fun m29 => nm (x2 + 1) fun x30 => some (.inl (x30, m29)) else gIn (43 + x2) 373 <| nm (si m25 163 (43 + x2).toNatClampNeg 1000) fun m32 => nm (x2 + 1) fun x33 => some (.inl (x33, m32))) else gIn (43 + x2) 373 <| nm (si m25 163 (43 + x2).toNatClampNeg 0) fun m35 => nm (x2 + 1) fun x36 => some (.inl (x36, m35)))))
def f_X8_tireAll (m0 : Mem) : Option Mem :=
  bnd (lp (f_X8_tireAll_L2) 1000000 (0, m0)) (fun m37 => some m37)
set_option maxRecDepth 100000 in
set_option maxHeartbeats 4000000 in
theorem m_X8_tireAll {m0 : Mem} {mm : Mem} (h : f_X8_tireAll m0 = some mm) : Con yX8_tireAll cX8_tireAll 4 none 3 69 (fun G => [.ref (ga G 162)]) m0 none mm := by
  refine con_of (lv := []) (by decide) (fun G => Nat.le_of_ble_eq_true rfl) (fun X F => ?_)
  show WA X 0 0 0 [(0, .ref (ga X.G 162))] [] m0 (EQ X none mm)
  rw [f_X8_tireAll] at h
  refine a_iconst (v := 0) (pc := 0) F dX8_tireAll_0 (by decide) ?_
  refine a_istore_n (lv' := [(1, .int 0), (0, .ref (ga X.G 162))]) (pc := 1) F dX8_tireAll_1 (by decide) rfl ?_
  refine a_lv F [1, 0] rfl ?_
  replace h := bnd_some h
  obtain ⟨m37, hL1, h⟩ := h
  have hE1 : WA X 0 0 126 [] [] m37 (EQ X none mm) := by
    cases h
    exact a_vret (pc := 126) F dX8_tireAll_126 rfl
  clear h
  refine lp_run (P := fun (s : (Int32 × Mem)) => WA X 0 0 2 [(0, .ref (ga X.G 162)), (1, .int s.1)] [] s.2 (EQ X none mm)) ?_ _ _ hL1
  clear hL1
  rintro ⟨x2, m3⟩ xo h hP1 hT1
  show WA X 0 0 2 [(0, .ref (ga X.G 162)), (1, .int x2)] [] m3 (EQ X none mm)
  rw [f_X8_tireAll_L2] at h
  refine a_iload_n (pc := 2) F dX8_tireAll_2 1 rfl ?_
  refine a_aload_n (pc := 3) F dX8_tireAll_3 0 rfl ?_
  refine a_getr (k := 162) (r := 163) (pc := 4) F dX8_tireAll_4 fl_RX8_7 kl_162 ks_162 rfl ?_
  refine a_bipush (v := 7) (pc := 7) F dX8_tireAll_7 (by decide) ?_
  refine a_ial (k := 163) (pc := 9) F dX8_tireAll_9 kl_163 ks_163 (vp_lit rfl) ?_
  refine a_nmi fun x4 ex4 => ?_
  replace h := nm_at ex4 h
  clear ex4
  refine a_icmp_ge (tgt := 126) (pc := 10) F dX8_tireAll_10 (by decide) (fun q5 => ?_) (fun q5 => ?_)
  · replace h := ite_t q5 h
    clear q5
    refine a_lv F [] rfl ?_
    cases hT1 _ (Option.some.inj h).symm
    exact hE1
  · replace h := ite_f q5 h
    clear q5
    refine a_aload_n (pc := 13) F dX8_tireAll_13 0 rfl ?_
    refine a_iload_n (pc := 14) F dX8_tireAll_14 1 rfl ?_
    replace h := bnd_some h
    obtain ⟨x7, hc6, h⟩ := h
    refine a_callV (pc := 15) (k := 162) (As := [.int x2]) (st := []) F dX8_tireAll_15 (m_X8_worksIn hc6) cv_RX8_134 kl_162 ks_162 ⟨_, _, rfl⟩ rfl rfl rfl (Nat.le_of_ble_eq_true rfl) ⟨Nat.le_of_ble_eq_true rfl, Nat.le_of_ble_eq_true rfl⟩ ?_ rfl rfl
    clear hc6
    refine a_istore_n (lv' := [(2, .int x7), (0, .ref (ga X.G 162)), (1, .int x2)]) (pc := 18) F dX8_tireAll_18 (by decide) rfl ?_
    refine a_aload_n (pc := 19) F dX8_tireAll_19 1 rfl ?_
    refine a_getr (k := 162) (r := 163) (pc := 20) F dX8_tireAll_20 fl_RX8_7 kl_162 ks_162 rfl ?_
    refine a_bipush (v := 43) (pc := 23) F dX8_tireAll_23 (by decide) ?_
    refine a_iload_n (pc := 25) F dX8_tireAll_25 2 rfl ?_
    refine a_iadd (pc := 26) F dX8_tireAll_26 ?_
    replace h := gIn_some h
    obtain ⟨g8, h⟩ := h
    refine a_ial (k := 163) (pc := 27) F dX8_tireAll_27 kl_163 ks_163 g8 ?_
    refine a_nmi fun x9 ex9 => ?_
    replace h := nm_at ex9 h
    clear ex9
    refine a_istore_n (lv' := [(3, .int x9), (2, .int x7), (0, .ref (ga X.G 162)), (1, .int x2)]) (pc := 28) F dX8_tireAll_28 (by decide) rfl ?_
    refine a_iload_n (pc := 29) F dX8_tireAll_29 1 rfl ?_
    refine a_iconst (v := (-1)) (pc := 30) F dX8_tireAll_30 (by decide) ?_
    replace h := bnd_some h
    obtain ⟨⟨x24, m25⟩, hR10, h⟩ := h
    have hJ10 : WA X 0 0 89 [(0, .ref (ga X.G 162)), (1, .int x2), (3, .int x24)] [] m25 (EQ X none mm) := by
      refine a_aload_n (pc := 89) F dX8_tireAll_89 0 rfl ?_
      refine a_getr (k := 162) (r := 163) (pc := 90) F dX8_tireAll_90 fl_RX8_7 kl_162 ks_162 rfl ?_
      refine a_bipush (v := 43) (pc := 93) F dX8_tireAll_93 (by decide) ?_
      refine a_iload_n (pc := 95) F dX8_tireAll_95 1 rfl ?_
      refine a_iadd (pc := 96) F dX8_tireAll_96 ?_
      refine a_iload_n (pc := 97) F dX8_tireAll_97 2 rfl ?_
      refine a_if_ge (tgt := 105) (pc := 98) F dX8_tireAll_98 (by decide) (fun q26 => ?_) (fun q26 => ?_)
      · replace h := ite_t q26 h
        clear q26
        refine a_iload_n (pc := 105) F dX8_tireAll_105 2 rfl ?_
        refine a_sipush (v := 1000) (pc := 106) F dX8_tireAll_106 (by decide) ?_
        refine a_icmp_le (tgt := 118) (pc := 109) F dX8_tireAll_109 (by decide) (fun q27 => ?_) (fun q27 => ?_)
        · replace h := ite_t q27 h
          clear q27
          refine a_iload_n (pc := 118) F dX8_tireAll_118 2 rfl ?_
          replace h := gIn_some h
          obtain ⟨g28, h⟩ := h
          refine a_ias (k := 163) (pc := 119) F dX8_tireAll_119 kl_163 ks_163 g28 ?_
          refine a_nmm fun m29 em29 => ?_
          replace h := nm_at em29 h
          clear em29
          obtain ⟨x30, ex30⟩ : ∃ x30 : Int32, x30 = x2 + 1 := ⟨_, rfl⟩
          refine a_iinc (v := x30) (lv' := [(1, .int x30), (0, .ref (ga X.G 162)), (3, .int x24)]) (pc := 120) F dX8_tireAll_120 1 rfl (by rw [ex30]; rfl) (by decide) rfl ?_
          replace h := nm_at ex30 h
          clear ex30
          refine a_goto (tgt := 2) (pc := 123) F dX8_tireAll_123 (by decide) ?_
          refine a_lv F [1, 0] rfl ?_
          exact hP1 _ (Option.some.inj h).symm
        · replace h := ite_f q27 h
          clear q27
          refine a_sipush (v := 1000) (pc := 112) F dX8_tireAll_112 (by decide) ?_
          refine a_goto (tgt := 119) (pc := 115) F dX8_tireAll_115 (by decide) ?_
          replace h := gIn_some h
          obtain ⟨g31, h⟩ := h
          refine a_ias (k := 163) (pc := 119) F dX8_tireAll_119 kl_163 ks_163 g31 ?_
          refine a_nmm fun m32 em32 => ?_
          replace h := nm_at em32 h
          clear em32
          obtain ⟨x33, ex33⟩ : ∃ x33 : Int32, x33 = x2 + 1 := ⟨_, rfl⟩
          refine a_iinc (v := x33) (lv' := [(1, .int x33), (0, .ref (ga X.G 162)), (3, .int x24)]) (pc := 120) F dX8_tireAll_120 1 rfl (by rw [ex33]; rfl) (by decide) rfl ?_
          replace h := nm_at ex33 h
          clear ex33
          refine a_goto (tgt := 2) (pc := 123) F dX8_tireAll_123 (by decide) ?_
          refine a_lv F [1, 0] rfl ?_
          exact hP1 _ (Option.some.inj h).symm
      · replace h := ite_f q26 h
        clear q26
        refine a_iconst (v := 0) (pc := 101) F dX8_tireAll_101 (by decide) ?_
        refine a_goto (tgt := 119) (pc := 102) F dX8_tireAll_102 (by decide) ?_
        replace h := gIn_some h
        obtain ⟨g34, h⟩ := h
        refine a_ias (k := 163) (pc := 119) F dX8_tireAll_119 kl_163 ks_163 g34 ?_
        refine a_nmm fun m35 em35 => ?_
        replace h := nm_at em35 h
        clear em35
        obtain ⟨x36, ex36⟩ : ∃ x36 : Int32, x36 = x2 + 1 := ⟨_, rfl⟩
        refine a_iinc (v := x36) (lv' := [(1, .int x36), (0, .ref (ga X.G 162)), (3, .int x24)]) (pc := 120) F dX8_tireAll_120 1 rfl (by rw [ex36]; rfl) (by decide) rfl ?_
        replace h := nm_at ex36 h
        clear ex36
        refine a_goto (tgt := 2) (pc := 123) F dX8_tireAll_123 (by decide) ?_
        refine a_lv F [1, 0] rfl ?_
        exact hP1 _ (Option.some.inj h).symm
    clear h
    have h := hR10
    clear hR10
    refine a_icmp_ne (tgt := 46) (pc := 31) F dX8_tireAll_31 (by decide) (fun q11 => ?_) (fun q11 => ?_)
    · replace h := ite_f q11 h
      clear q11
      refine a_iload_n (pc := 46) F dX8_tireAll_46 0 rfl ?_
      refine a_aload_n (pc := 47) F dX8_tireAll_47 2 rfl ?_
      refine a_getr (k := 162) (r := 163) (pc := 48) F dX8_tireAll_48 fl_RX8_7 kl_162 ks_162 rfl ?_
      refine a_iconst (v := 0) (pc := 51) F dX8_tireAll_51 (by decide) ?_
      refine a_ial (k := 163) (pc := 52) F dX8_tireAll_52 kl_163 ks_163 (vp_lit rfl) ?_
      refine a_nmi fun x12 ex12 => ?_
      replace h := nm_at ex12 h
      clear ex12
      refine a_aload_n (pc := 53) F dX8_tireAll_53 2 rfl ?_
      refine a_iload_n (pc := 54) F dX8_tireAll_54 1 rfl ?_
      refine a_iconst (v := 5) (pc := 55) F dX8_tireAll_55 (by decide) ?_
      replace h := bnd_some h
      obtain ⟨x14, hc13, h⟩ := h
      refine a_callV (pc := 56) (k := 162) (As := [.int x7, .int 5]) (st := [.int x12, .int x9]) F dX8_tireAll_56 (m_X8_of hc13) cv_RX8_42 kl_162 ks_162 ⟨_, _, rfl⟩ rfl rfl rfl (Nat.le_of_ble_eq_true rfl) ⟨Nat.le_of_ble_eq_true rfl, Nat.le_of_ble_eq_true rfl⟩ ?_ rfl rfl
      clear hc13
      refine a_iconst (v := 1) (pc := 59) F dX8_tireAll_59 (by decide) ?_
      replace h := bnd_some h
      obtain ⟨x18, hR15, h⟩ := h
      have hJ15 : WA X 0 0 73 [(0, .ref (ga X.G 162)), (1, .int x2)] [.int x18, .int x12, .int x9] m3 (EQ X none mm) := by
        refine a_iadd (pc := 73) F dX8_tireAll_73 ?_
        refine a_iadd (pc := 74) F dX8_tireAll_74 ?_
        refine a_istore_n (lv' := [(3, .int (x9 + (x12 + x18))), (0, .ref (ga X.G 162)), (1, .int x2)]) (pc := 75) F dX8_tireAll_75 (by decide) rfl ?_
        refine a_aload_n (pc := 76) F dX8_tireAll_76 1 rfl ?_
        refine a_getr (k := 162) (r := 163) (pc := 77) F dX8_tireAll_77 fl_RX8_7 kl_162 ks_162 rfl ?_
        refine a_bipush (v := 63) (pc := 80) F dX8_tireAll_80 (by decide) ?_
        refine a_iload_n (pc := 82) F dX8_tireAll_82 2 rfl ?_
        refine a_iadd (pc := 83) F dX8_tireAll_83 ?_
        refine a_dup2 (pc := 84) F dX8_tireAll_84 rfl rfl ?_
        replace h := gIn_some h
        obtain ⟨g19, h⟩ := h
        refine a_ial (k := 163) (pc := 85) F dX8_tireAll_85 kl_163 ks_163 g19 ?_
        refine a_nmi fun x20 ex20 => ?_
        replace h := nm_at ex20 h
        clear ex20
        refine a_iconst (v := 1) (pc := 86) F dX8_tireAll_86 (by decide) ?_
        refine a_iadd (pc := 87) F dX8_tireAll_87 ?_
        replace h := gIn_some h
        obtain ⟨g21, h⟩ := h
        refine a_ias (k := 163) (pc := 88) F dX8_tireAll_88 kl_163 ks_163 g21 ?_
        refine a_nmm fun m22 em22 => ?_
        replace h := nm_at em22 h
        clear em22
        refine a_lv F [1, 2, 0] rfl ?_
        cases h
        exact hJ10
      clear h
      have h := hR15
      clear hR15
      refine a_icmp_le (tgt := 72) (pc := 60) F dX8_tireAll_60 (by decide) (fun q16 => ?_) (fun q16 => ?_)
      · replace h := ite_t q16 h
        clear q16
        refine a_iconst (v := 0) (pc := 72) F dX8_tireAll_72 (by decide) ?_
        refine a_lv F [2, 3] rfl ?_
        cases h
        exact hJ15
      · replace h := ite_f q16 h
        clear q16
        refine a_aload_n (pc := 63) F dX8_tireAll_63 2 rfl ?_
        refine a_getr (k := 162) (r := 163) (pc := 64) F dX8_tireAll_64 fl_RX8_7 kl_162 ks_162 rfl ?_
        refine a_iconst (v := 1) (pc := 67) F dX8_tireAll_67 (by decide) ?_
        refine a_ial (k := 163) (pc := 68) F dX8_tireAll_68 kl_163 ks_163 (vp_lit rfl) ?_
        refine a_nmi fun x17 ex17 => ?_
        replace h := nm_at ex17 h
        clear ex17
        refine a_goto (tgt := 73) (pc := 69) F dX8_tireAll_69 (by decide) ?_
        refine a_lv F [2, 3] rfl ?_
        cases h
        exact hJ15
    · replace h := ite_t (Decidable.not_not.mp q11) h
      clear q11
      refine a_iload_n (pc := 34) F dX8_tireAll_34 0 rfl ?_
      refine a_aload_n (pc := 35) F dX8_tireAll_35 2 rfl ?_
      refine a_getr (k := 162) (r := 163) (pc := 36) F dX8_tireAll_36 fl_RX8_7 kl_162 ks_162 rfl ?_
      refine a_iconst (v := 2) (pc := 39) F dX8_tireAll_39 (by decide) ?_
      refine a_ial (k := 163) (pc := 40) F dX8_tireAll_40 kl_163 ks_163 (vp_lit rfl) ?_
      refine a_nmi fun x23 ex23 => ?_
      replace h := nm_at ex23 h
      clear ex23
      refine a_isub (pc := 41) F dX8_tireAll_41 ?_
      refine a_istore_n (lv' := [(3, .int (x9 - x23)), (2, .int x7), (0, .ref (ga X.G 162)), (1, .int x2)]) (pc := 42) F dX8_tireAll_42 (by decide) rfl ?_
      refine a_goto (tgt := 89) (pc := 43) F dX8_tireAll_43 (by decide) ?_
      refine a_lv F [2, 3, 0] rfl ?_
      cases h
      exact hJ10
def f_X8_isTooTired_L4 (p1 : Int32) (m0 : Mem) : (Int32 × Int32) → Option ((Int32 × Int32) ⊕ Int32)
  | (x2, x3) => bnd (f_X8_of p1 5 m0) fun x5 => (if x5 ≤ x3 then some (.inr x2) else (if x2 = 0 then bnd (f_X8_of p1 (6 + x3) m0) fun x10 => gIn (43 + x10) 373 <| nm (m0.1 163 (43 + x10).toNatClampNeg) fun x12 => nm (m0.1 163 (3 : Int32).toNatClampNeg) fun x13 => (if x12 ≤ x13 then nm (x3 + 1) fun x15 => some (.inl (0, x15)) else nm (x3 + 1) fun x16 => some (.inl (1, x16))) else nm (x3 + 1) fun x8 => some (.inl (1, x8))))
def f_X8_isTooTired (p1 : Int32) (m0 : Mem) : Option Int32 :=
  bnd (lp (f_X8_isTooTired_L4 p1 m0) 1000000 (0, 0)) (fun x17 => gBo x17 <| some x17)
set_option maxRecDepth 100000 in
set_option maxHeartbeats 4000000 in
theorem m_X8_isTooTired {p1 : Int32} {m0 : Mem} {rr : Int32} (h : f_X8_isTooTired p1 m0 = some rr) : Con yX8_isTooTired cX8_isTooTired 4 (some Jvm.ClassFile.FieldType.boolean) 1 22 (fun G => [.ref (ga G 162), .int p1]) m0 (some (.int rr)) m0 := by
  refine con_of (lv := []) (by decide) (fun G => Nat.le_of_ble_eq_true rfl) (fun X F => ?_)
  show WA X 0 0 0 [(0, .ref (ga X.G 162)), (1, .int p1)] [] m0 (EQ X (some (.int rr)) m0)
  rw [f_X8_isTooTired] at h
  refine a_iconst (v := 0) (pc := 0) F dX8_isTooTired_0 (by decide) ?_
  refine a_istore_n (lv' := [(2, .int 0), (0, .ref (ga X.G 162)), (1, .int p1)]) (pc := 1) F dX8_isTooTired_1 (by decide) rfl ?_
  refine a_iconst (v := 0) (pc := 2) F dX8_isTooTired_2 (by decide) ?_
  refine a_istore_n (lv' := [(3, .int 0), (2, .int 0), (0, .ref (ga X.G 162)), (1, .int p1)]) (pc := 3) F dX8_isTooTired_3 (by decide) rfl ?_
  refine a_lv F [2, 3, 1, 0] rfl ?_
  replace h := bnd_some h
  obtain ⟨x17, hL1, h⟩ := h
  have hE1 : WA X 0 0 56 [(2, .int x17)] [] m0 (EQ X (some (.int rr)) m0) := by
    refine a_iload_n (pc := 56) F dX8_isTooTired_56 0 rfl ?_
    replace h := gBo_some h
    obtain ⟨g18, h⟩ := h
    cases h
    exact a_iret (pc := 57) F dX8_isTooTired_57 ⟨_, rfl, narrow_bo g18⟩
  clear h
  refine lp_run (P := fun (s : (Int32 × Int32)) => WA X 0 0 4 [(0, .ref (ga X.G 162)), (1, .int p1), (2, .int s.1), (3, .int s.2)] [] m0 (EQ X (some (.int rr)) m0)) ?_ _ _ hL1
  clear hL1
  rintro ⟨x2, x3⟩ xo h hP1 hT1
  show WA X 0 0 4 [(0, .ref (ga X.G 162)), (1, .int p1), (2, .int x2), (3, .int x3)] [] m0 (EQ X (some (.int rr)) m0)
  rw [f_X8_isTooTired_L4] at h
  refine a_iload_n (pc := 4) F dX8_isTooTired_4 3 rfl ?_
  refine a_aload_n (pc := 5) F dX8_isTooTired_5 0 rfl ?_
  refine a_iload_n (pc := 6) F dX8_isTooTired_6 1 rfl ?_
  refine a_iconst (v := 5) (pc := 7) F dX8_isTooTired_7 (by decide) ?_
  replace h := bnd_some h
  obtain ⟨x5, hc4, h⟩ := h
  refine a_callV (pc := 8) (k := 162) (As := [.int p1, .int 5]) (st := [.int x3]) F dX8_isTooTired_8 (m_X8_of hc4) cv_RX8_42 kl_162 ks_162 ⟨_, _, rfl⟩ rfl rfl rfl (Nat.le_of_ble_eq_true rfl) ⟨Nat.le_of_ble_eq_true rfl, Nat.le_of_ble_eq_true rfl⟩ ?_ rfl rfl
  clear hc4
  refine a_icmp_ge (tgt := 56) (pc := 11) F dX8_isTooTired_11 (by decide) (fun q6 => ?_) (fun q6 => ?_)
  · replace h := ite_t q6 h
    clear q6
    refine a_lv F [2] rfl ?_
    cases hT1 _ (Option.some.inj h).symm
    exact hE1
  · replace h := ite_f q6 h
    clear q6
    refine a_iload_n (pc := 14) F dX8_isTooTired_14 2 rfl ?_
    refine a_if_ne (tgt := 44) (pc := 15) F dX8_isTooTired_15 (by decide) (fun q7 => ?_) (fun q7 => ?_)
    · replace h := ite_f q7 h
      clear q7
      refine a_iconst (v := 1) (pc := 44) F dX8_isTooTired_44 (by decide) ?_
      refine a_goto (tgt := 49) (pc := 45) F dX8_isTooTired_45 (by decide) ?_
      refine a_istore_n (lv' := [(2, .int 1), (0, .ref (ga X.G 162)), (1, .int p1), (3, .int x3)]) (pc := 49) F dX8_isTooTired_49 (by decide) rfl ?_
      obtain ⟨x8, ex8⟩ : ∃ x8 : Int32, x8 = x3 + 1 := ⟨_, rfl⟩
      refine a_iinc (v := x8) (lv' := [(3, .int x8), (2, .int 1), (0, .ref (ga X.G 162)), (1, .int p1)]) (pc := 50) F dX8_isTooTired_50 3 rfl (by rw [ex8]; rfl) (by decide) rfl ?_
      replace h := nm_at ex8 h
      clear ex8
      refine a_goto (tgt := 4) (pc := 53) F dX8_isTooTired_53 (by decide) ?_
      refine a_lv F [2, 3, 1, 0] rfl ?_
      exact hP1 _ (Option.some.inj h).symm
    · replace h := ite_t (Decidable.not_not.mp q7) h
      clear q7
      refine a_aload_n (pc := 18) F dX8_isTooTired_18 0 rfl ?_
      refine a_getr (k := 162) (r := 163) (pc := 19) F dX8_isTooTired_19 fl_RX8_7 kl_162 ks_162 rfl ?_
      refine a_bipush (v := 43) (pc := 22) F dX8_isTooTired_22 (by decide) ?_
      refine a_aload_n (pc := 24) F dX8_isTooTired_24 0 rfl ?_
      refine a_iload_n (pc := 25) F dX8_isTooTired_25 1 rfl ?_
      refine a_bipush (v := 6) (pc := 26) F dX8_isTooTired_26 (by decide) ?_
      refine a_iload_n (pc := 28) F dX8_isTooTired_28 3 rfl ?_
      refine a_iadd (pc := 29) F dX8_isTooTired_29 ?_
      replace h := bnd_some h
      obtain ⟨x10, hc9, h⟩ := h
      refine a_callV (pc := 30) (k := 162) (As := [.int p1, .int (6 + x3)]) (st := [.int 43, .ref (ga X.G 163)]) F dX8_isTooTired_30 (m_X8_of hc9) cv_RX8_42 kl_162 ks_162 ⟨_, _, rfl⟩ rfl rfl rfl (Nat.le_of_ble_eq_true rfl) ⟨Nat.le_of_ble_eq_true rfl, Nat.le_of_ble_eq_true rfl⟩ ?_ rfl rfl
      clear hc9
      refine a_iadd (pc := 33) F dX8_isTooTired_33 ?_
      replace h := gIn_some h
      obtain ⟨g11, h⟩ := h
      refine a_ial (k := 163) (pc := 34) F dX8_isTooTired_34 kl_163 ks_163 g11 ?_
      refine a_nmi fun x12 ex12 => ?_
      replace h := nm_at ex12 h
      clear ex12
      refine a_aload_n (pc := 35) F dX8_isTooTired_35 0 rfl ?_
      refine a_getr (k := 162) (r := 163) (pc := 36) F dX8_isTooTired_36 fl_RX8_7 kl_162 ks_162 rfl ?_
      refine a_iconst (v := 3) (pc := 39) F dX8_isTooTired_39 (by decide) ?_
      refine a_ial (k := 163) (pc := 40) F dX8_isTooTired_40 kl_163 ks_163 (vp_lit rfl) ?_
      refine a_nmi fun x13 ex13 => ?_
      replace h := nm_at ex13 h
      clear ex13
      refine a_icmp_le (tgt := 48) (pc := 41) F dX8_isTooTired_41 (by decide) (fun q14 => ?_) (fun q14 => ?_)
      · replace h := ite_t q14 h
        clear q14
        refine a_iconst (v := 0) (pc := 48) F dX8_isTooTired_48 (by decide) ?_
        refine a_istore_n (lv' := [(2, .int 0), (0, .ref (ga X.G 162)), (1, .int p1), (3, .int x3)]) (pc := 49) F dX8_isTooTired_49 (by decide) rfl ?_
        obtain ⟨x15, ex15⟩ : ∃ x15 : Int32, x15 = x3 + 1 := ⟨_, rfl⟩
        refine a_iinc (v := x15) (lv' := [(3, .int x15), (2, .int 0), (0, .ref (ga X.G 162)), (1, .int p1)]) (pc := 50) F dX8_isTooTired_50 3 rfl (by rw [ex15]; rfl) (by decide) rfl ?_
        replace h := nm_at ex15 h
        clear ex15
        refine a_goto (tgt := 4) (pc := 53) F dX8_isTooTired_53 (by decide) ?_
        refine a_lv F [2, 3, 1, 0] rfl ?_
        exact hP1 _ (Option.some.inj h).symm
      · replace h := ite_f q14 h
        clear q14
        refine a_iconst (v := 1) (pc := 44) F dX8_isTooTired_44 (by decide) ?_
        refine a_goto (tgt := 49) (pc := 45) F dX8_isTooTired_45 (by decide) ?_
        refine a_istore_n (lv' := [(2, .int 1), (0, .ref (ga X.G 162)), (1, .int p1), (3, .int x3)]) (pc := 49) F dX8_isTooTired_49 (by decide) rfl ?_
        obtain ⟨x16, ex16⟩ : ∃ x16 : Int32, x16 = x3 + 1 := ⟨_, rfl⟩
        refine a_iinc (v := x16) (lv' := [(3, .int x16), (2, .int 1), (0, .ref (ga X.G 162)), (1, .int p1)]) (pc := 50) F dX8_isTooTired_50 3 rfl (by rw [ex16]; rfl) (by decide) rfl ?_
        replace h := nm_at ex16 h
        clear ex16
        refine a_goto (tgt := 4) (pc := 53) F dX8_isTooTired_53 (by decide) ?_
        refine a_lv F [2, 3, 1, 0] rfl ?_
        exact hP1 _ (Option.some.inj h).symm
def f_X8_adjourn (p1 : Int32) (m0 : Mem) : Option Mem :=
  nm (m0.1 163 (12 : Int32).toNatClampNeg) fun x1 => bnd2 (f_X8_pay p1 1 m0) fun x3 m4 => nm (si m4 163 (12 : Int32).toNatClampNeg (x1 + x3)) fun m5 => bnd (f_X8_put p1 4 2 m5) fun m7 => some m7
set_option maxRecDepth 100000 in
set_option maxHeartbeats 4000000 in
theorem m_X8_adjourn {p1 : Int32} {m0 : Mem} {mm : Mem} (h : f_X8_adjourn p1 m0 = some mm) : Con yX8_adjourn cX8_adjourn 2 none 4 97 (fun G => [.ref (ga G 162), .int p1]) m0 none mm := by
  refine con_of (lv := []) (by decide) (fun G => Nat.le_of_ble_eq_true rfl) (fun X F => ?_)
  show WA X 0 0 0 [(0, .ref (ga X.G 162)), (1, .int p1)] [] m0 (EQ X none mm)
  rw [f_X8_adjourn] at h
  refine a_aload_n (pc := 0) F dX8_adjourn_0 0 rfl ?_
  refine a_getr (k := 162) (r := 163) (pc := 1) F dX8_adjourn_1 fl_RX8_7 kl_162 ks_162 rfl ?_
  refine a_bipush (v := 12) (pc := 4) F dX8_adjourn_4 (by decide) ?_
  refine a_dup2 (pc := 6) F dX8_adjourn_6 rfl rfl ?_
  refine a_ial (k := 163) (pc := 7) F dX8_adjourn_7 kl_163 ks_163 (vp_lit rfl) ?_
  refine a_nmi fun x1 ex1 => ?_
  replace h := nm_at ex1 h
  clear ex1
  refine a_aload_n (pc := 8) F dX8_adjourn_8 0 rfl ?_
  refine a_iload_n (pc := 9) F dX8_adjourn_9 1 rfl ?_
  refine a_iconst (v := 1) (pc := 10) F dX8_adjourn_10 (by decide) ?_
  replace h := bnd2_some h
  obtain ⟨x3, m4, hc2, h⟩ := h
  refine a_callV (pc := 11) (k := 162) (As := [.int p1, .int 1]) (st := [.int x1, .int 12, .ref (ga X.G 163)]) F dX8_adjourn_11 (m_X8_pay hc2) cv_RX8_131 kl_162 ks_162 ⟨_, _, rfl⟩ rfl rfl rfl (Nat.le_of_ble_eq_true rfl) ⟨Nat.le_of_ble_eq_true rfl, Nat.le_of_ble_eq_true rfl⟩ ?_ rfl rfl
  clear hc2
  refine a_iadd (pc := 14) F dX8_adjourn_14 ?_
  refine a_ias (k := 163) (pc := 15) F dX8_adjourn_15 kl_163 ks_163 (vp_lit rfl) ?_
  refine a_nmm fun m5 em5 => ?_
  replace h := nm_at em5 h
  clear em5
  refine a_aload_n (pc := 16) F dX8_adjourn_16 0 rfl ?_
  refine a_iload_n (pc := 17) F dX8_adjourn_17 1 rfl ?_
  refine a_iconst (v := 4) (pc := 18) F dX8_adjourn_18 (by decide) ?_
  refine a_iconst (v := 2) (pc := 19) F dX8_adjourn_19 (by decide) ?_
  replace h := bnd_some h
  obtain ⟨m7, hc6, h⟩ := h
  refine a_callV (pc := 20) (k := 162) (As := [.int p1, .int 4, .int 2]) (st := []) F dX8_adjourn_20 (m_X8_put hc6) cv_RX8_74 kl_162 ks_162 ⟨_, _, rfl⟩ rfl rfl rfl (Nat.le_of_ble_eq_true rfl) ⟨Nat.le_of_ble_eq_true rfl, Nat.le_of_ble_eq_true rfl⟩ ?_ rfl rfl
  clear hc6
  cases h
  exact a_vret (pc := 23) F dX8_adjourn_23 rfl
def f_X8_minute_L95 : (Int32 × Mem) → Option ((Int32 × Mem) ⊕ Mem)
  | (x36, m37) => nm (m37.1 163 (8 : Int32).toNatClampNeg) fun x38 => (if x38 ≤ x36 then some (.inr m37) else bnd (f_X8_isListed x36 m37) fun x41 => (if x41 = 0 then nm (x36 + 1) fun x43 => some (.inl (x43, m37)) else bnd (f_X8_of x36 2 m37) fun x45 => nm (m37.1 163 (9 : Int32).toNatClampNeg) fun x46 => (if x45 = x46 then bnd (f_X8_isTooTired x36 m37) fun x50 => (if x50 = 0 then nm (x36 + 1) fun x52 => some (.inl (x52, m37)) else bnd (f_X8_adjourn x36 m37) fun m54 => nm (x36 + 1) fun x55 => some (.inl (x55, m54))) else nm (x36 + 1) fun x48 => some (.inl (x48, m37)))))
def f_X8_minute_L19 : (Int32 × Int32 × Mem) → Option ((Int32 × Int32 × Mem) ⊕ (Int32 × Mem))
  | (x6, x7, m8) => nm (m8.1 163 (8 : Int32).toNatClampNeg) fun x9 => (if x9 ≤ x7 then some (.inr (x6, m8)) else bnd (f_X8_isListed x7 m8) fun x12 => (if x12 = 0 then nm (x7 + 1) fun x14 => some (.inl (x6, x14, m8)) else bnd (f_X8_endOf x7 m8) fun x16 => nm (m8.1 163 (9 : Int32).toNatClampNeg) fun x17 => (if x16 = x17 then bnd (f_X8_of x7 5 m8) fun x21 => (if x21 ≤ 0 then bnd (f_X8_adjourn x7 m8) fun m24 => nm (x7 + 1) fun x25 => some (.inl (x6, x25, m24)) else bnd2 (f_X8_pay x7 2 m8) fun x27 m28 => bnd (f_X8_put x7 4 1 m28) fun m30 => nm (x6 + 1) fun x31 => nm (x7 + 1) fun x32 => some (.inl (x31, x32, m30))) else nm (x7 + 1) fun x19 => some (.inl (x6, x19, m8)))))
def f_X8_minute (m0 : Mem) : Option (Int32 × Mem) :=
  bnd (f_X8_tireAll m0) fun m2 => nm (m2.1 163 (9 : Int32).toNatClampNeg) fun x3 => nm (si m2 163 (9 : Int32).toNatClampNeg (x3 + 1)) fun m4 => bnd (lp (f_X8_minute_L19) 1000000 (0, 0, m4)) (fun (x33, m34) => bnd (lp (f_X8_minute_L95) 1000000 (0, m34)) (fun m56 => some (x33, m56)))
set_option maxRecDepth 100000 in
set_option maxHeartbeats 4000000 in
theorem m_X8_minute {m0 : Mem} {rr : Int32} {mm : Mem} (h : f_X8_minute m0 = some (rr, mm)) : Con yX8_minute cX8_minute 4 (some Jvm.ClassFile.FieldType.int) 5 118 (fun G => [.ref (ga G 162)]) m0 (some (.int rr)) mm := by
  refine con_of (lv := []) (by decide) (fun G => Nat.le_of_ble_eq_true rfl) (fun X F => ?_)
  show WA X 0 0 0 [(0, .ref (ga X.G 162))] [] m0 (EQ X (some (.int rr)) mm)
  rw [f_X8_minute] at h
  refine a_aload_n (pc := 0) F dX8_minute_0 0 rfl ?_
  replace h := bnd_some h
  obtain ⟨m2, hc1, h⟩ := h
  refine a_callV (pc := 1) (k := 162) (As := []) (st := []) F dX8_minute_1 (m_X8_tireAll hc1) cv_RX8_137 kl_162 ks_162 ⟨_, _, rfl⟩ rfl rfl rfl (Nat.le_of_ble_eq_true rfl) ⟨Nat.le_of_ble_eq_true rfl, Nat.le_of_ble_eq_true rfl⟩ ?_ rfl rfl
  clear hc1
  refine a_aload_n (pc := 4) F dX8_minute_4 0 rfl ?_
  refine a_getr (k := 162) (r := 163) (pc := 5) F dX8_minute_5 fl_RX8_7 kl_162 ks_162 rfl ?_
  refine a_bipush (v := 9) (pc := 8) F dX8_minute_8 (by decide) ?_
  refine a_dup2 (pc := 10) F dX8_minute_10 rfl rfl ?_
  refine a_ial (k := 163) (pc := 11) F dX8_minute_11 kl_163 ks_163 (vp_lit rfl) ?_
  refine a_nmi fun x3 ex3 => ?_
  replace h := nm_at ex3 h
  clear ex3
  refine a_iconst (v := 1) (pc := 12) F dX8_minute_12 (by decide) ?_
  refine a_iadd (pc := 13) F dX8_minute_13 ?_
  refine a_ias (k := 163) (pc := 14) F dX8_minute_14 kl_163 ks_163 (vp_lit rfl) ?_
  refine a_nmm fun m4 em4 => ?_
  replace h := nm_at em4 h
  clear em4
  refine a_iconst (v := 0) (pc := 15) F dX8_minute_15 (by decide) ?_
  refine a_istore_n (lv' := [(1, .int 0), (0, .ref (ga X.G 162))]) (pc := 16) F dX8_minute_16 (by decide) rfl ?_
  refine a_iconst (v := 0) (pc := 17) F dX8_minute_17 (by decide) ?_
  refine a_istore_n (lv' := [(2, .int 0), (1, .int 0), (0, .ref (ga X.G 162))]) (pc := 18) F dX8_minute_18 (by decide) rfl ?_
  refine a_lv F [2, 1, 0] rfl ?_
  replace h := bnd_some h
  obtain ⟨⟨x33, m34⟩, hL5, h⟩ := h
  have hE5 : WA X 0 0 93 [(0, .ref (ga X.G 162)), (1, .int x33)] [] m34 (EQ X (some (.int rr)) mm) := by
    refine a_iconst (v := 0) (pc := 93) F dX8_minute_93 (by decide) ?_
    refine a_istore_n (lv' := [(2, .int 0), (0, .ref (ga X.G 162)), (1, .int x33)]) (pc := 94) F dX8_minute_94 (by decide) rfl ?_
    refine a_lv F [1, 2, 0] rfl ?_
    replace h := bnd_some h
    obtain ⟨m56, hL35, h⟩ := h
    have hE35 : WA X 0 0 149 [(1, .int x33)] [] m56 (EQ X (some (.int rr)) mm) := by
      refine a_iload_n (pc := 149) F dX8_minute_149 0 rfl ?_
      cases h
      exact a_iret (pc := 150) F dX8_minute_150 ⟨_, rfl, rfl⟩
    clear h
    refine lp_run (P := fun (s : (Int32 × Mem)) => WA X 0 0 95 [(0, .ref (ga X.G 162)), (1, .int x33), (2, .int s.1)] [] s.2 (EQ X (some (.int rr)) mm)) ?_ _ _ hL35
    clear hL35
    rintro ⟨x36, m37⟩ xo h hP35 hT35
    show WA X 0 0 95 [(0, .ref (ga X.G 162)), (1, .int x33), (2, .int x36)] [] m37 (EQ X (some (.int rr)) mm)
    rw [f_X8_minute_L95] at h
    refine a_iload_n (pc := 95) F dX8_minute_95 2 rfl ?_
    refine a_aload_n (pc := 96) F dX8_minute_96 0 rfl ?_
    refine a_getr (k := 162) (r := 163) (pc := 97) F dX8_minute_97 fl_RX8_7 kl_162 ks_162 rfl ?_
    refine a_bipush (v := 8) (pc := 100) F dX8_minute_100 (by decide) ?_
    refine a_ial (k := 163) (pc := 102) F dX8_minute_102 kl_163 ks_163 (vp_lit rfl) ?_
    refine a_nmi fun x38 ex38 => ?_
    replace h := nm_at ex38 h
    clear ex38
    refine a_icmp_ge (tgt := 149) (pc := 103) F dX8_minute_103 (by decide) (fun q39 => ?_) (fun q39 => ?_)
    · replace h := ite_t q39 h
      clear q39
      refine a_lv F [1] rfl ?_
      cases hT35 _ (Option.some.inj h).symm
      exact hE35
    · replace h := ite_f q39 h
      clear q39
      refine a_aload_n (pc := 106) F dX8_minute_106 0 rfl ?_
      refine a_iload_n (pc := 107) F dX8_minute_107 2 rfl ?_
      replace h := bnd_some h
      obtain ⟨x41, hc40, h⟩ := h
      refine a_callV (pc := 108) (k := 162) (As := [.int x36]) (st := []) F dX8_minute_108 (m_X8_isListed hc40) cv_RX8_50 kl_162 ks_162 ⟨_, _, rfl⟩ rfl rfl rfl (Nat.le_of_ble_eq_true rfl) ⟨Nat.le_of_ble_eq_true rfl, Nat.le_of_ble_eq_true rfl⟩ ?_ rfl rfl
      clear hc40
      refine a_if_eq (tgt := 143) (pc := 111) F dX8_minute_111 (by decide) (fun q42 => ?_) (fun q42 => ?_)
      · replace h := ite_t q42 h
        clear q42
        obtain ⟨x43, ex43⟩ : ∃ x43 : Int32, x43 = x36 + 1 := ⟨_, rfl⟩
        refine a_iinc (v := x43) (lv' := [(2, .int x43), (0, .ref (ga X.G 162)), (1, .int x33)]) (pc := 143) F dX8_minute_143 2 rfl (by rw [ex43]; rfl) (by decide) rfl ?_
        replace h := nm_at ex43 h
        clear ex43
        refine a_goto (tgt := 95) (pc := 146) F dX8_minute_146 (by decide) ?_
        refine a_lv F [1, 2, 0] rfl ?_
        exact hP35 _ (Option.some.inj h).symm
      · replace h := ite_f q42 h
        clear q42
        refine a_aload_n (pc := 114) F dX8_minute_114 0 rfl ?_
        refine a_iload_n (pc := 115) F dX8_minute_115 2 rfl ?_
        refine a_iconst (v := 2) (pc := 116) F dX8_minute_116 (by decide) ?_
        replace h := bnd_some h
        obtain ⟨x45, hc44, h⟩ := h
        refine a_callV (pc := 117) (k := 162) (As := [.int x36, .int 2]) (st := []) F dX8_minute_117 (m_X8_of hc44) cv_RX8_42 kl_162 ks_162 ⟨_, _, rfl⟩ rfl rfl rfl (Nat.le_of_ble_eq_true rfl) ⟨Nat.le_of_ble_eq_true rfl, Nat.le_of_ble_eq_true rfl⟩ ?_ rfl rfl
        clear hc44
        refine a_aload_n (pc := 120) F dX8_minute_120 0 rfl ?_
        refine a_getr (k := 162) (r := 163) (pc := 121) F dX8_minute_121 fl_RX8_7 kl_162 ks_162 rfl ?_
        refine a_bipush (v := 9) (pc := 124) F dX8_minute_124 (by decide) ?_
        refine a_ial (k := 163) (pc := 126) F dX8_minute_126 kl_163 ks_163 (vp_lit rfl) ?_
        refine a_nmi fun x46 ex46 => ?_
        replace h := nm_at ex46 h
        clear ex46
        refine a_icmp_ne (tgt := 143) (pc := 127) F dX8_minute_127 (by decide) (fun q47 => ?_) (fun q47 => ?_)
        · replace h := ite_f q47 h
          clear q47
          obtain ⟨x48, ex48⟩ : ∃ x48 : Int32, x48 = x36 + 1 := ⟨_, rfl⟩
          refine a_iinc (v := x48) (lv' := [(2, .int x48), (0, .ref (ga X.G 162)), (1, .int x33)]) (pc := 143) F dX8_minute_143 2 rfl (by rw [ex48]; rfl) (by decide) rfl ?_
          replace h := nm_at ex48 h
          clear ex48
          refine a_goto (tgt := 95) (pc := 146) F dX8_minute_146 (by decide) ?_
          refine a_lv F [1, 2, 0] rfl ?_
          exact hP35 _ (Option.some.inj h).symm
        · replace h := ite_t (Decidable.not_not.mp q47) h
          clear q47
          refine a_aload_n (pc := 130) F dX8_minute_130 0 rfl ?_
          refine a_iload_n (pc := 131) F dX8_minute_131 2 rfl ?_
          replace h := bnd_some h
          obtain ⟨x50, hc49, h⟩ := h
          refine a_callV (pc := 132) (k := 162) (As := [.int x36]) (st := []) F dX8_minute_132 (m_X8_isTooTired hc49) cv_RX8_143 kl_162 ks_162 ⟨_, _, rfl⟩ rfl rfl rfl (Nat.le_of_ble_eq_true rfl) ⟨Nat.le_of_ble_eq_true rfl, Nat.le_of_ble_eq_true rfl⟩ ?_ rfl rfl
          clear hc49
          refine a_if_eq (tgt := 143) (pc := 135) F dX8_minute_135 (by decide) (fun q51 => ?_) (fun q51 => ?_)
          · replace h := ite_t q51 h
            clear q51
            obtain ⟨x52, ex52⟩ : ∃ x52 : Int32, x52 = x36 + 1 := ⟨_, rfl⟩
            refine a_iinc (v := x52) (lv' := [(2, .int x52), (0, .ref (ga X.G 162)), (1, .int x33)]) (pc := 143) F dX8_minute_143 2 rfl (by rw [ex52]; rfl) (by decide) rfl ?_
            replace h := nm_at ex52 h
            clear ex52
            refine a_goto (tgt := 95) (pc := 146) F dX8_minute_146 (by decide) ?_
            refine a_lv F [1, 2, 0] rfl ?_
            exact hP35 _ (Option.some.inj h).symm
          · replace h := ite_f q51 h
            clear q51
            refine a_aload_n (pc := 138) F dX8_minute_138 0 rfl ?_
            refine a_iload_n (pc := 139) F dX8_minute_139 2 rfl ?_
            replace h := bnd_some h
            obtain ⟨m54, hc53, h⟩ := h
            refine a_callV (pc := 140) (k := 162) (As := [.int x36]) (st := []) F dX8_minute_140 (m_X8_adjourn hc53) cv_RX8_140 kl_162 ks_162 ⟨_, _, rfl⟩ rfl rfl rfl (Nat.le_of_ble_eq_true rfl) ⟨Nat.le_of_ble_eq_true rfl, Nat.le_of_ble_eq_true rfl⟩ ?_ rfl rfl
            clear hc53
            obtain ⟨x55, ex55⟩ : ∃ x55 : Int32, x55 = x36 + 1 := ⟨_, rfl⟩
            refine a_iinc (v := x55) (lv' := [(2, .int x55), (0, .ref (ga X.G 162)), (1, .int x33)]) (pc := 143) F dX8_minute_143 2 rfl (by rw [ex55]; rfl) (by decide) rfl ?_
            replace h := nm_at ex55 h
            clear ex55
            refine a_goto (tgt := 95) (pc := 146) F dX8_minute_146 (by decide) ?_
            refine a_lv F [1, 2, 0] rfl ?_
            exact hP35 _ (Option.some.inj h).symm
  clear h
  refine lp_run (P := fun (s : (Int32 × Int32 × Mem)) => WA X 0 0 19 [(0, .ref (ga X.G 162)), (1, .int s.1), (2, .int s.2.1)] [] s.2.2 (EQ X (some (.int rr)) mm)) ?_ _ _ hL5
  clear hL5
  rintro ⟨x6, x7, m8⟩ xo h hP5 hT5
  show WA X 0 0 19 [(0, .ref (ga X.G 162)), (1, .int x6), (2, .int x7)] [] m8 (EQ X (some (.int rr)) mm)
  rw [f_X8_minute_L19] at h
  refine a_iload_n (pc := 19) F dX8_minute_19 2 rfl ?_
  refine a_aload_n (pc := 20) F dX8_minute_20 0 rfl ?_
  refine a_getr (k := 162) (r := 163) (pc := 21) F dX8_minute_21 fl_RX8_7 kl_162 ks_162 rfl ?_
  refine a_bipush (v := 8) (pc := 24) F dX8_minute_24 (by decide) ?_
  refine a_ial (k := 163) (pc := 26) F dX8_minute_26 kl_163 ks_163 (vp_lit rfl) ?_
  refine a_nmi fun x9 ex9 => ?_
  replace h := nm_at ex9 h
  clear ex9
  refine a_icmp_ge (tgt := 93) (pc := 27) F dX8_minute_27 (by decide) (fun q10 => ?_) (fun q10 => ?_)
  · replace h := ite_t q10 h
    clear q10
    refine a_lv F [0, 1] rfl ?_
    cases hT5 _ (Option.some.inj h).symm
    exact hE5
  · replace h := ite_f q10 h
    clear q10
    refine a_aload_n (pc := 30) F dX8_minute_30 0 rfl ?_
    refine a_iload_n (pc := 31) F dX8_minute_31 2 rfl ?_
    replace h := bnd_some h
    obtain ⟨x12, hc11, h⟩ := h
    refine a_callV (pc := 32) (k := 162) (As := [.int x7]) (st := []) F dX8_minute_32 (m_X8_isListed hc11) cv_RX8_50 kl_162 ks_162 ⟨_, _, rfl⟩ rfl rfl rfl (Nat.le_of_ble_eq_true rfl) ⟨Nat.le_of_ble_eq_true rfl, Nat.le_of_ble_eq_true rfl⟩ ?_ rfl rfl
    clear hc11
    refine a_if_eq (tgt := 87) (pc := 35) F dX8_minute_35 (by decide) (fun q13 => ?_) (fun q13 => ?_)
    · replace h := ite_t q13 h
      clear q13
      obtain ⟨x14, ex14⟩ : ∃ x14 : Int32, x14 = x7 + 1 := ⟨_, rfl⟩
      refine a_iinc (v := x14) (lv' := [(2, .int x14), (0, .ref (ga X.G 162)), (1, .int x6)]) (pc := 87) F dX8_minute_87 2 rfl (by rw [ex14]; rfl) (by decide) rfl ?_
      replace h := nm_at ex14 h
      clear ex14
      refine a_goto (tgt := 19) (pc := 90) F dX8_minute_90 (by decide) ?_
      refine a_lv F [1, 2, 0] rfl ?_
      exact hP5 _ (Option.some.inj h).symm
    · replace h := ite_f q13 h
      clear q13
      refine a_aload_n (pc := 38) F dX8_minute_38 0 rfl ?_
      refine a_iload_n (pc := 39) F dX8_minute_39 2 rfl ?_
      replace h := bnd_some h
      obtain ⟨x16, hc15, h⟩ := h
      refine a_callV (pc := 40) (k := 162) (As := [.int x7]) (st := []) F dX8_minute_40 (m_X8_endOf hc15) cv_RX8_46 kl_162 ks_162 ⟨_, _, rfl⟩ rfl rfl rfl (Nat.le_of_ble_eq_true rfl) ⟨Nat.le_of_ble_eq_true rfl, Nat.le_of_ble_eq_true rfl⟩ ?_ rfl rfl
      clear hc15
      refine a_aload_n (pc := 43) F dX8_minute_43 0 rfl ?_
      refine a_getr (k := 162) (r := 163) (pc := 44) F dX8_minute_44 fl_RX8_7 kl_162 ks_162 rfl ?_
      refine a_bipush (v := 9) (pc := 47) F dX8_minute_47 (by decide) ?_
      refine a_ial (k := 163) (pc := 49) F dX8_minute_49 kl_163 ks_163 (vp_lit rfl) ?_
      refine a_nmi fun x17 ex17 => ?_
      replace h := nm_at ex17 h
      clear ex17
      refine a_icmp_ne (tgt := 87) (pc := 50) F dX8_minute_50 (by decide) (fun q18 => ?_) (fun q18 => ?_)
      · replace h := ite_f q18 h
        clear q18
        obtain ⟨x19, ex19⟩ : ∃ x19 : Int32, x19 = x7 + 1 := ⟨_, rfl⟩
        refine a_iinc (v := x19) (lv' := [(2, .int x19), (0, .ref (ga X.G 162)), (1, .int x6)]) (pc := 87) F dX8_minute_87 2 rfl (by rw [ex19]; rfl) (by decide) rfl ?_
        replace h := nm_at ex19 h
        clear ex19
        refine a_goto (tgt := 19) (pc := 90) F dX8_minute_90 (by decide) ?_
        refine a_lv F [1, 2, 0] rfl ?_
        exact hP5 _ (Option.some.inj h).symm
      · replace h := ite_t (Decidable.not_not.mp q18) h
        clear q18
        refine a_aload_n (pc := 53) F dX8_minute_53 0 rfl ?_
        refine a_iload_n (pc := 54) F dX8_minute_54 2 rfl ?_
        refine a_iconst (v := 5) (pc := 55) F dX8_minute_55 (by decide) ?_
        replace h := bnd_some h
        obtain ⟨x21, hc20, h⟩ := h
        refine a_callV (pc := 56) (k := 162) (As := [.int x7, .int 5]) (st := []) F dX8_minute_56 (m_X8_of hc20) cv_RX8_42 kl_162 ks_162 ⟨_, _, rfl⟩ rfl rfl rfl (Nat.le_of_ble_eq_true rfl) ⟨Nat.le_of_ble_eq_true rfl, Nat.le_of_ble_eq_true rfl⟩ ?_ rfl rfl
        clear hc20
        refine a_if_le (tgt := 82) (pc := 59) F dX8_minute_59 (by decide) (fun q22 => ?_) (fun q22 => ?_)
        · replace h := ite_t q22 h
          clear q22
          refine a_aload_n (pc := 82) F dX8_minute_82 0 rfl ?_
          refine a_iload_n (pc := 83) F dX8_minute_83 2 rfl ?_
          replace h := bnd_some h
          obtain ⟨m24, hc23, h⟩ := h
          refine a_callV (pc := 84) (k := 162) (As := [.int x7]) (st := []) F dX8_minute_84 (m_X8_adjourn hc23) cv_RX8_140 kl_162 ks_162 ⟨_, _, rfl⟩ rfl rfl rfl (Nat.le_of_ble_eq_true rfl) ⟨Nat.le_of_ble_eq_true rfl, Nat.le_of_ble_eq_true rfl⟩ ?_ rfl rfl
          clear hc23
          obtain ⟨x25, ex25⟩ : ∃ x25 : Int32, x25 = x7 + 1 := ⟨_, rfl⟩
          refine a_iinc (v := x25) (lv' := [(2, .int x25), (0, .ref (ga X.G 162)), (1, .int x6)]) (pc := 87) F dX8_minute_87 2 rfl (by rw [ex25]; rfl) (by decide) rfl ?_
          replace h := nm_at ex25 h
          clear ex25
          refine a_goto (tgt := 19) (pc := 90) F dX8_minute_90 (by decide) ?_
          refine a_lv F [1, 2, 0] rfl ?_
          exact hP5 _ (Option.some.inj h).symm
        · replace h := ite_f q22 h
          clear q22
          refine a_aload_n (pc := 62) F dX8_minute_62 0 rfl ?_
          refine a_iload_n (pc := 63) F dX8_minute_63 2 rfl ?_
          refine a_iconst (v := 2) (pc := 64) F dX8_minute_64 (by decide) ?_
          replace h := bnd2_some h
          obtain ⟨x27, m28, hc26, h⟩ := h
          refine a_callV (pc := 65) (k := 162) (As := [.int x7, .int 2]) (st := []) F dX8_minute_65 (m_X8_pay hc26) cv_RX8_131 kl_162 ks_162 ⟨_, _, rfl⟩ rfl rfl rfl (Nat.le_of_ble_eq_true rfl) ⟨Nat.le_of_ble_eq_true rfl, Nat.le_of_ble_eq_true rfl⟩ ?_ rfl rfl
          clear hc26
          refine a_istore_n (lv' := [(3, .int x27), (0, .ref (ga X.G 162)), (1, .int x6), (2, .int x7)]) (pc := 68) F dX8_minute_68 (by decide) rfl ?_
          refine a_aload_n (pc := 69) F dX8_minute_69 1 rfl ?_
          refine a_iload_n (pc := 70) F dX8_minute_70 3 rfl ?_
          refine a_iconst (v := 4) (pc := 71) F dX8_minute_71 (by decide) ?_
          refine a_iconst (v := 1) (pc := 72) F dX8_minute_72 (by decide) ?_
          replace h := bnd_some h
          obtain ⟨m30, hc29, h⟩ := h
          refine a_callV (pc := 73) (k := 162) (As := [.int x7, .int 4, .int 1]) (st := []) F dX8_minute_73 (m_X8_put hc29) cv_RX8_74 kl_162 ks_162 ⟨_, _, rfl⟩ rfl rfl rfl (Nat.le_of_ble_eq_true rfl) ⟨Nat.le_of_ble_eq_true rfl, Nat.le_of_ble_eq_true rfl⟩ ?_ rfl rfl
          clear hc29
          obtain ⟨x31, ex31⟩ : ∃ x31 : Int32, x31 = x6 + 1 := ⟨_, rfl⟩
          refine a_iinc (v := x31) (lv' := [(1, .int x31), (3, .int x27), (0, .ref (ga X.G 162)), (2, .int x7)]) (pc := 76) F dX8_minute_76 2 rfl (by rw [ex31]; rfl) (by decide) rfl ?_
          replace h := nm_at ex31 h
          clear ex31
          refine a_goto (tgt := 87) (pc := 79) F dX8_minute_79 (by decide) ?_
          obtain ⟨x32, ex32⟩ : ∃ x32 : Int32, x32 = x7 + 1 := ⟨_, rfl⟩
          refine a_iinc (v := x32) (lv' := [(2, .int x32), (1, .int x31), (3, .int x27), (0, .ref (ga X.G 162))]) (pc := 87) F dX8_minute_87 3 rfl (by rw [ex32]; rfl) (by decide) rfl ?_
          replace h := nm_at ex32 h
          clear ex32
          refine a_goto (tgt := 19) (pc := 90) F dX8_minute_90 (by decide) ?_
          refine a_lv F [3, 1, 0] rfl ?_
          exact hP5 _ (Option.some.inj h).symm
def f_X8_go_L4 (p1 : Int32) : (Int32 × Int32 × Mem) → Option ((Int32 × Int32 × Mem) ⊕ (Int32 × Mem))
  | (x2, x3, m4) => (if p1 ≤ x3 then some (.inr (x2, m4)) else bnd2 (f_X8_minute m4) fun x7 m8 => nm (x3 + 1) fun x9 => some (.inl (x2 + x7, x9, m8)))
def f_X8_go (p1 : Int32) (m0 : Mem) : Option (Int32 × Mem) :=
  bnd (lp (f_X8_go_L4 p1) 1000000 (0, 0, m0)) (fun (x10, m11) => some (x10, m11))
set_option maxRecDepth 100000 in
set_option maxHeartbeats 4000000 in
theorem m_X8_go {p1 : Int32} {m0 : Mem} {rr : Int32} {mm : Mem} (h : f_X8_go p1 m0 = some (rr, mm)) : Con yX8_go cX8_go 5 (some Jvm.ClassFile.FieldType.int) 6 141 (fun G => [.ref (ga G 162), .int p1]) m0 (some (.int rr)) mm := by
  refine con_of (lv := []) (by decide) (fun G => Nat.le_of_ble_eq_true rfl) (fun X F => ?_)
  show WA X 0 0 0 [(0, .ref (ga X.G 162)), (1, .int p1)] [] m0 (EQ X (some (.int rr)) mm)
  rw [f_X8_go] at h
  refine a_iconst (v := 0) (pc := 0) F dX8_go_0 (by decide) ?_
  refine a_istore_n (lv' := [(2, .int 0), (0, .ref (ga X.G 162)), (1, .int p1)]) (pc := 1) F dX8_go_1 (by decide) rfl ?_
  refine a_iconst (v := 0) (pc := 2) F dX8_go_2 (by decide) ?_
  refine a_istore_n (lv' := [(3, .int 0), (2, .int 0), (0, .ref (ga X.G 162)), (1, .int p1)]) (pc := 3) F dX8_go_3 (by decide) rfl ?_
  refine a_lv F [2, 3, 1, 0] rfl ?_
  replace h := bnd_some h
  obtain ⟨⟨x10, m11⟩, hL1, h⟩ := h
  have hE1 : WA X 0 0 26 [(2, .int x10)] [] m11 (EQ X (some (.int rr)) mm) := by
    refine a_iload_n (pc := 26) F dX8_go_26 0 rfl ?_
    cases h
    exact a_iret (pc := 27) F dX8_go_27 ⟨_, rfl, rfl⟩
  clear h
  refine lp_run (P := fun (s : (Int32 × Int32 × Mem)) => WA X 0 0 4 [(0, .ref (ga X.G 162)), (1, .int p1), (2, .int s.1), (3, .int s.2.1)] [] s.2.2 (EQ X (some (.int rr)) mm)) ?_ _ _ hL1
  clear hL1
  rintro ⟨x2, x3, m4⟩ xo h hP1 hT1
  show WA X 0 0 4 [(0, .ref (ga X.G 162)), (1, .int p1), (2, .int x2), (3, .int x3)] [] m4 (EQ X (some (.int rr)) mm)
  rw [f_X8_go_L4] at h
  refine a_iload_n (pc := 4) F dX8_go_4 3 rfl ?_
  refine a_iload_n (pc := 5) F dX8_go_5 1 rfl ?_
  refine a_icmp_ge (tgt := 26) (pc := 6) F dX8_go_6 (by decide) (fun q5 => ?_) (fun q5 => ?_)
  · replace h := ite_t q5 h
    clear q5
    refine a_lv F [2] rfl ?_
    cases hT1 _ (Option.some.inj h).symm
    exact hE1
  · replace h := ite_f q5 h
    clear q5
    refine a_aload_n (pc := 9) F dX8_go_9 0 rfl ?_
    replace h := bnd2_some h
    obtain ⟨x7, m8, hc6, h⟩ := h
    refine a_callV (pc := 10) (k := 162) (As := []) (st := []) F dX8_go_10 (m_X8_minute hc6) cv_RX8_146 kl_162 ks_162 ⟨_, _, rfl⟩ rfl rfl rfl (Nat.le_of_ble_eq_true rfl) ⟨Nat.le_of_ble_eq_true rfl, Nat.le_of_ble_eq_true rfl⟩ ?_ rfl rfl
    clear hc6
    refine a_istore (lv' := [(4, .int x7), (0, .ref (ga X.G 162)), (1, .int p1), (2, .int x2), (3, .int x3)]) (pc := 13) F dX8_go_13 (by decide) rfl ?_
    refine a_iload_n (pc := 15) F dX8_go_15 3 rfl ?_
    refine a_iload (pc := 16) F dX8_go_16 0 rfl ?_
    refine a_iadd (pc := 18) F dX8_go_18 ?_
    refine a_istore_n (lv' := [(2, .int (x2 + x7)), (4, .int x7), (0, .ref (ga X.G 162)), (1, .int p1), (3, .int x3)]) (pc := 19) F dX8_go_19 (by decide) rfl ?_
    obtain ⟨x9, ex9⟩ : ∃ x9 : Int32, x9 = x3 + 1 := ⟨_, rfl⟩
    refine a_iinc (v := x9) (lv' := [(3, .int x9), (2, .int (x2 + x7)), (4, .int x7), (0, .ref (ga X.G 162)), (1, .int p1)]) (pc := 20) F dX8_go_20 4 rfl (by rw [ex9]; rfl) (by decide) rfl ?_
    replace h := nm_at ex9 h
    clear ex9
    refine a_goto (tgt := 4) (pc := 23) F dX8_go_23 (by decide) ?_
    refine a_lv F [3, 4, 1, 0] rfl ?_
    exact hP1 _ (Option.some.inj h).symm
def f_X8_pass (p1 : Int32) (m0 : Mem) : Option (Int32 × Mem) :=
  bnd (f_X8_within p1 1 500 m0) fun x2 => bnd ((if x2 = 0 then some 1 else nm (m0.1 163 (9 : Int32).toNatClampNeg) fun x5 => (if (x5 + p1) ≤ 20000 then some 0 else some 2))) (fun (x7 : Int32) => nm (si m0 162 5 x7) fun m8 => (if (m8.1 162 5) ≤ 0 then bnd (f_X8_save m8) fun m11 => bnd2 (f_X8_go p1 m11) fun x13 m14 => some (x13, m14) else some (0, m8)))
set_option maxRecDepth 100000 in
set_option maxHeartbeats 4000000 in
theorem m_X8_pass {p1 : Int32} {m0 : Mem} {rr : Int32} {mm : Mem} (h : f_X8_pass p1 m0 = some (rr, mm)) : Con yX8_pass cX8_pass 2 (some Jvm.ClassFile.FieldType.int) 7 165 (fun G => [.ref (ga G 162), .int p1]) m0 (some (.int rr)) mm := by
  refine con_of (lv := []) (by decide) (fun G => Nat.le_of_ble_eq_true rfl) (fun X F => ?_)
  show WA X 0 0 0 [(0, .ref (ga X.G 162)), (1, .int p1)] [] m0 (EQ X (some (.int rr)) mm)
  rw [f_X8_pass] at h
  refine a_aload_n (pc := 0) F dX8_pass_0 0 rfl ?_
  refine a_iload_n (pc := 1) F dX8_pass_1 1 rfl ?_
  refine a_iconst (v := 1) (pc := 2) F dX8_pass_2 (by decide) ?_
  refine a_sipush (v := 500) (pc := 3) F dX8_pass_3 (by decide) ?_
  replace h := bnd_some h
  obtain ⟨x2, hc1, h⟩ := h
  refine a_callS (pc := 6) (As := [.int p1, .int 1, .int 500]) (st := [.ref (ga X.G 162)]) F dX8_pass_6 (m_X8_within hc1) cs_RX8_38 rfl rfl rfl (Nat.le_of_ble_eq_true rfl) ⟨Nat.le_of_ble_eq_true rfl, Nat.le_of_ble_eq_true rfl⟩ ?_ rfl rfl
  clear hc1
  replace h := bnd_some h
  obtain ⟨x7, hR3, h⟩ := h
  have hJ3 : WA X 0 0 36 [(0, .ref (ga X.G 162)), (1, .int p1)] [.int x7, .ref (ga X.G 162)] m0 (EQ X (some (.int rr)) mm) := by
    refine a_puti (k := 162) (pc := 36) F dX8_pass_36 fp_RX8_31 kl_162 ks_162 rfl ?_
    refine a_nmm fun m8 em8 => ?_
    replace h := nm_at em8 h
    clear em8
    refine a_aload_n (pc := 39) F dX8_pass_39 0 rfl ?_
    refine a_geti (k := 162) (pc := 40) F dX8_pass_40 fl_RX8_31 kl_162 ks_162 rfl ?_
    refine a_if_le (tgt := 48) (pc := 43) F dX8_pass_43 (by decide) (fun q9 => ?_) (fun q9 => ?_)
    · replace h := ite_t q9 h
      clear q9
      refine a_aload_n (pc := 48) F dX8_pass_48 0 rfl ?_
      replace h := bnd_some h
      obtain ⟨m11, hc10, h⟩ := h
      refine a_callV (pc := 49) (k := 162) (As := []) (st := []) F dX8_pass_49 (m_X8_save hc10) cv_RX8_71 kl_162 ks_162 ⟨_, _, rfl⟩ rfl rfl rfl (Nat.le_of_ble_eq_true rfl) ⟨Nat.le_of_ble_eq_true rfl, Nat.le_of_ble_eq_true rfl⟩ ?_ rfl rfl
      clear hc10
      refine a_aload_n (pc := 52) F dX8_pass_52 0 rfl ?_
      refine a_iload_n (pc := 53) F dX8_pass_53 1 rfl ?_
      replace h := bnd2_some h
      obtain ⟨x13, m14, hc12, h⟩ := h
      refine a_callV (pc := 54) (k := 162) (As := [.int p1]) (st := []) F dX8_pass_54 (m_X8_go hc12) cv_RX8_150 kl_162 ks_162 ⟨_, _, rfl⟩ rfl rfl rfl (Nat.le_of_ble_eq_true rfl) ⟨Nat.le_of_ble_eq_true rfl, Nat.le_of_ble_eq_true rfl⟩ ?_ rfl rfl
      clear hc12
      cases h
      exact a_iret (pc := 57) F dX8_pass_57 ⟨_, rfl, rfl⟩
    · replace h := ite_f q9 h
      clear q9
      refine a_iconst (v := 0) (pc := 46) F dX8_pass_46 (by decide) ?_
      cases h
      exact a_iret (pc := 47) F dX8_pass_47 ⟨_, rfl, rfl⟩
  clear h
  have h := hR3
  clear hR3
  refine a_if_ne (tgt := 16) (pc := 9) F dX8_pass_9 (by decide) (fun q4 => ?_) (fun q4 => ?_)
  · replace h := ite_f q4 h
    clear q4
    refine a_aload_n (pc := 16) F dX8_pass_16 0 rfl ?_
    refine a_getr (k := 162) (r := 163) (pc := 17) F dX8_pass_17 fl_RX8_7 kl_162 ks_162 rfl ?_
    refine a_bipush (v := 9) (pc := 20) F dX8_pass_20 (by decide) ?_
    refine a_ial (k := 163) (pc := 22) F dX8_pass_22 kl_163 ks_163 (vp_lit rfl) ?_
    refine a_nmi fun x5 ex5 => ?_
    replace h := nm_at ex5 h
    clear ex5
    refine a_iload_n (pc := 23) F dX8_pass_23 1 rfl ?_
    refine a_iadd (pc := 24) F dX8_pass_24 ?_
    refine a_sipush (v := 20000) (pc := 25) F dX8_pass_25 (by decide) ?_
    refine a_icmp_le (tgt := 35) (pc := 28) F dX8_pass_28 (by decide) (fun q6 => ?_) (fun q6 => ?_)
    · replace h := ite_t q6 h
      clear q6
      refine a_iconst (v := 0) (pc := 35) F dX8_pass_35 (by decide) ?_
      cases h
      exact hJ3
    · replace h := ite_f q6 h
      clear q6
      refine a_iconst (v := 2) (pc := 31) F dX8_pass_31 (by decide) ?_
      refine a_goto (tgt := 36) (pc := 32) F dX8_pass_32 (by decide) ?_
      cases h
      exact hJ3
  · replace h := ite_t (Decidable.not_not.mp q4) h
    clear q4
    refine a_iconst (v := 1) (pc := 12) F dX8_pass_12 (by decide) ?_
    refine a_goto (tgt := 36) (pc := 13) F dX8_pass_13 (by decide) ?_
    cases h
    exact hJ3
def f_X8_append (p1 : Int32) (m0 : Mem) : Option (Int32 × Mem) :=
  bnd (f_X8_within p1 33 126 m0) fun x2 => bnd ((if x2 = 0 then some 1 else (if (m0.1 162 3) = 60 then some 2 else some 0))) (fun (x6 : Int32) => nm (si m0 162 5 x6) fun m7 => (if (m7.1 162 5) ≤ 0 then gIn (m7.1 162 3) 60 <| nm (si m7 165 (m7.1 162 3).toNatClampNeg p1) fun m10 => nm (si m10 162 3 ((m10.1 162 3) + 1)) fun m11 => some (m11.1 162 3, m11) else some (0, m7)))
set_option maxRecDepth 100000 in
set_option maxHeartbeats 4000000 in
theorem m_X8_append {p1 : Int32} {m0 : Mem} {rr : Int32} {mm : Mem} (h : f_X8_append p1 m0 = some (rr, mm)) : Con yX8_append cX8_append 2 (some Jvm.ClassFile.FieldType.int) 1 22 (fun G => [.ref (ga G 162), .int p1]) m0 (some (.int rr)) mm := by
  refine con_of (lv := []) (by decide) (fun G => Nat.le_of_ble_eq_true rfl) (fun X F => ?_)
  show WA X 0 0 0 [(0, .ref (ga X.G 162)), (1, .int p1)] [] m0 (EQ X (some (.int rr)) mm)
  rw [f_X8_append] at h
  refine a_aload_n (pc := 0) F dX8_append_0 0 rfl ?_
  refine a_iload_n (pc := 1) F dX8_append_1 1 rfl ?_
  refine a_bipush (v := 33) (pc := 2) F dX8_append_2 (by decide) ?_
  refine a_bipush (v := 126) (pc := 4) F dX8_append_4 (by decide) ?_
  replace h := bnd_some h
  obtain ⟨x2, hc1, h⟩ := h
  refine a_callS (pc := 6) (As := [.int p1, .int 33, .int 126]) (st := [.ref (ga X.G 162)]) F dX8_append_6 (m_X8_within hc1) cs_RX8_38 rfl rfl rfl (Nat.le_of_ble_eq_true rfl) ⟨Nat.le_of_ble_eq_true rfl, Nat.le_of_ble_eq_true rfl⟩ ?_ rfl rfl
  clear hc1
  replace h := bnd_some h
  obtain ⟨x6, hR3, h⟩ := h
  have hJ3 : WA X 0 0 30 [(0, .ref (ga X.G 162)), (1, .int p1)] [.int x6, .ref (ga X.G 162)] m0 (EQ X (some (.int rr)) mm) := by
    refine a_puti (k := 162) (pc := 30) F dX8_append_30 fp_RX8_31 kl_162 ks_162 rfl ?_
    refine a_nmm fun m7 em7 => ?_
    replace h := nm_at em7 h
    clear em7
    refine a_aload_n (pc := 33) F dX8_append_33 0 rfl ?_
    refine a_geti (k := 162) (pc := 34) F dX8_append_34 fl_RX8_31 kl_162 ks_162 rfl ?_
    refine a_if_le (tgt := 42) (pc := 37) F dX8_append_37 (by decide) (fun q8 => ?_) (fun q8 => ?_)
    · replace h := ite_t q8 h
      clear q8
      refine a_aload_n (pc := 42) F dX8_append_42 0 rfl ?_
      refine a_getr (k := 162) (r := 165) (pc := 43) F dX8_append_43 fl_RX8_16 kl_162 ks_162 rfl ?_
      refine a_aload_n (pc := 46) F dX8_append_46 0 rfl ?_
      refine a_geti (k := 162) (pc := 47) F dX8_append_47 fl_RX8_153 kl_162 ks_162 rfl ?_
      refine a_iload_n (pc := 50) F dX8_append_50 1 rfl ?_
      replace h := gIn_some h
      obtain ⟨g9, h⟩ := h
      refine a_ias (k := 165) (pc := 51) F dX8_append_51 kl_165 ks_165 g9 ?_
      refine a_nmm fun m10 em10 => ?_
      replace h := nm_at em10 h
      clear em10
      refine a_aload_n (pc := 52) F dX8_append_52 0 rfl ?_
      refine a_dup (pc := 53) F dX8_append_53 rfl ?_
      refine a_geti (k := 162) (pc := 54) F dX8_append_54 fl_RX8_153 kl_162 ks_162 rfl ?_
      refine a_iconst (v := 1) (pc := 57) F dX8_append_57 (by decide) ?_
      refine a_iadd (pc := 58) F dX8_append_58 ?_
      refine a_puti (k := 162) (pc := 59) F dX8_append_59 fp_RX8_153 kl_162 ks_162 rfl ?_
      refine a_nmm fun m11 em11 => ?_
      replace h := nm_at em11 h
      clear em11
      refine a_aload_n (pc := 62) F dX8_append_62 0 rfl ?_
      refine a_geti (k := 162) (pc := 63) F dX8_append_63 fl_RX8_153 kl_162 ks_162 rfl ?_
      cases h
      exact a_iret (pc := 66) F dX8_append_66 ⟨_, rfl, rfl⟩
    · replace h := ite_f q8 h
      clear q8
      refine a_iconst (v := 0) (pc := 40) F dX8_append_40 (by decide) ?_
      cases h
      exact a_iret (pc := 41) F dX8_append_41 ⟨_, rfl, rfl⟩
  clear h
  have h := hR3
  clear hR3
  refine a_if_ne (tgt := 16) (pc := 9) F dX8_append_9 (by decide) (fun q4 => ?_) (fun q4 => ?_)
  · replace h := ite_f q4 h
    clear q4
    refine a_aload_n (pc := 16) F dX8_append_16 0 rfl ?_
    refine a_geti (k := 162) (pc := 17) F dX8_append_17 fl_RX8_153 kl_162 ks_162 rfl ?_
    refine a_bipush (v := 60) (pc := 20) F dX8_append_20 (by decide) ?_
    refine a_icmp_ne (tgt := 29) (pc := 22) F dX8_append_22 (by decide) (fun q5 => ?_) (fun q5 => ?_)
    · replace h := ite_f q5 h
      clear q5
      refine a_iconst (v := 0) (pc := 29) F dX8_append_29 (by decide) ?_
      cases h
      exact hJ3
    · replace h := ite_t (Decidable.not_not.mp q5) h
      clear q5
      refine a_iconst (v := 2) (pc := 25) F dX8_append_25 (by decide) ?_
      refine a_goto (tgt := 30) (pc := 26) F dX8_append_26 (by decide) ?_
      cases h
      exact hJ3
  · replace h := ite_t (Decidable.not_not.mp q4) h
    clear q4
    refine a_iconst (v := 1) (pc := 12) F dX8_append_12 (by decide) ?_
    refine a_goto (tgt := 30) (pc := 13) F dX8_append_13 (by decide) ?_
    cases h
    exact hJ3
def f_X8_clearBuffer (m0 : Mem) : Option (Int32 × Mem) :=
  nm (si m0 162 5 0) fun m1 => nm (si m1 162 3 0) fun m2 => some (m1.1 162 3, m2)
set_option maxRecDepth 100000 in
set_option maxHeartbeats 4000000 in
theorem m_X8_clearBuffer {m0 : Mem} {rr : Int32} {mm : Mem} (h : f_X8_clearBuffer m0 = some (rr, mm)) : Con yX8_clearBuffer cX8_clearBuffer 2 (some Jvm.ClassFile.FieldType.int) 0 0 (fun G => [.ref (ga G 162)]) m0 (some (.int rr)) mm := by
  refine con_of (lv := []) (by decide) (fun G => Nat.le_of_ble_eq_true rfl) (fun X F => ?_)
  show WA X 0 0 0 [(0, .ref (ga X.G 162))] [] m0 (EQ X (some (.int rr)) mm)
  rw [f_X8_clearBuffer] at h
  refine a_aload_n (pc := 0) F dX8_clearBuffer_0 0 rfl ?_
  refine a_iconst (v := 0) (pc := 1) F dX8_clearBuffer_1 (by decide) ?_
  refine a_puti (k := 162) (pc := 2) F dX8_clearBuffer_2 fp_RX8_31 kl_162 ks_162 rfl ?_
  refine a_nmm fun m1 em1 => ?_
  replace h := nm_at em1 h
  clear em1
  refine a_aload_n (pc := 5) F dX8_clearBuffer_5 0 rfl ?_
  refine a_geti (k := 162) (pc := 6) F dX8_clearBuffer_6 fl_RX8_153 kl_162 ks_162 rfl ?_
  refine a_istore_n (lv' := [(1, .int (m1.1 162 3)), (0, .ref (ga X.G 162))]) (pc := 9) F dX8_clearBuffer_9 (by decide) rfl ?_
  refine a_aload_n (pc := 10) F dX8_clearBuffer_10 1 rfl ?_
  refine a_iconst (v := 0) (pc := 11) F dX8_clearBuffer_11 (by decide) ?_
  refine a_puti (k := 162) (pc := 12) F dX8_clearBuffer_12 fp_RX8_153 kl_162 ks_162 rfl ?_
  refine a_nmm fun m2 em2 => ?_
  replace h := nm_at em2 h
  clear em2
  refine a_iload_n (pc := 15) F dX8_clearBuffer_15 0 rfl ?_
  cases h
  exact a_iret (pc := 16) F dX8_clearBuffer_16 ⟨_, rfl, rfl⟩
