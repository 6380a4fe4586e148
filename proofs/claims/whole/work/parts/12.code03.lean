def f_X8_swap (p1 : Int32) (p2 : Int32) (p3 : Int32) (m0 : Mem) : Option (Int32 × Mem) :=
  bnd (f_X8_isHearing p1 m0) fun x2 => bnd ((if x2 = 0 then some 0 else bnd (f_X8_of p1 5 m0) fun x6 => bnd (f_X8_within p2 0 (x6 - 1) m0) fun x8 => (if x8 = 0 then some 0 else bnd (f_X8_isPerson p3 m0) fun x11 => (if x11 = 0 then some 0 else some 1)))) (fun (x13 : Int32) => bnd ((if x13 = 0 then some 1 else bnd (f_X8_isIn p3 p1 m0) fun x17 => (if x17 = 0 then some 0 else some 2))) (fun (x19 : Int32) => nm (si m0 162 5 x19) fun m20 => bnd ((if (m20.1 162 5) = 0 then bnd (f_X8_of p1 6 m20) fun x24 => bnd (f_X8_of p1 7 m20) fun x26 => bnd (f_X8_of p1 8 m20) fun x28 => bnd (f_X8_lay x24 x26 x28 m20) fun m30 => gIn p2 3 <| nm (si m30 166 p2.toNatClampNeg p3) fun m32 => bnd (f_X8_reason p1 m32) fun x34 => (if x34 = 0 then nm (si m32 162 5 0) fun m37 => some m37 else nm (si m32 162 5 3) fun m36 => some m36) else some m20)) (fun (m38 : Mem) => (if (m38.1 162 5) ≤ 0 then bnd (f_X8_save m38) fun m41 => bnd (f_X8_of p1 (6 + p2) m41) fun x43 => bnd (f_X8_put p1 (6 + p2) p3 m41) fun m45 => some (x43, m45) else some (0, m38)))))
set_option maxRecDepth 100000 in
set_option maxHeartbeats 4000000 in
theorem m_X8_swap {p1 : Int32} {p2 : Int32} {p3 : Int32} {m0 : Mem} {rr : Int32} {mm : Mem} (h : f_X8_swap p1 p2 p3 m0 = some (rr, mm)) : Con yX8_swap cX8_swap 6 (some Jvm.ClassFile.FieldType.int) 6 133 (fun G => [.ref (ga G 162), .int p1, .int p2, .int p3]) m0 (some (.int rr)) mm := by
  refine con_of (by decide) (fun G => Nat.le_of_ble_eq_true rfl) (fun X F => ?_)
  show WA X 0 0 0 [(0, .ref (ga X.G 162)), (1, .int p1), (2, .int p2), (3, .int p3)] [] m0 (EQ X (some (.int rr)) mm)
  rw [f_X8_swap] at h
  refine a_aload_n (pc := 0) F dX8_swap_0 0 rfl ?_
  refine a_iload_n (pc := 1) F dX8_swap_1 1 rfl ?_
  replace h := bnd_some h
  obtain ⟨x2, hc1, h⟩ := h
  refine a_callV (pc := 2) (k := 162) (As := [.int p1]) (st := []) F dX8_swap_2 (m_X8_isHearing hc1) cv_RX8_109 kl_162 ks_162 ⟨_, _, rfl⟩ rfl rfl rfl (Nat.le_of_ble_eq_true rfl) ⟨Nat.le_of_ble_eq_true rfl, Nat.le_of_ble_eq_true rfl⟩ ?_ rfl rfl
  clear hc1
  replace h := bnd_some h
  obtain ⟨x13, hR3, h⟩ := h
  have hJ3 : WA X 0 0 37 [(0, .ref (ga X.G 162)), (1, .int p1), (2, .int p2), (3, .int p3)] [.int x13] m0 (EQ X (some (.int rr)) mm) := by
    refine a_istore (lv' := [(4, .int x13), (0, .ref (ga X.G 162)), (1, .int p1), (2, .int p2), (3, .int p3)]) (pc := 37) F dX8_swap_37 (by decide) rfl ?_
    refine a_aload_n (pc := 39) F dX8_swap_39 1 rfl ?_
    refine a_iload (pc := 40) F dX8_swap_40 0 rfl ?_
    replace h := bnd_some h
    obtain ⟨x19, hR14, h⟩ := h
    have hJ14 : WA X 0 0 63 [(0, .ref (ga X.G 162)), (1, .int p1), (2, .int p2), (3, .int p3)] [.int x19, .ref (ga X.G 162)] m0 (EQ X (some (.int rr)) mm) := by
      refine a_puti (k := 162) (pc := 63) F dX8_swap_63 fp_RX8_31 kl_162 ks_162 rfl ?_
      refine a_nmm fun m20 em20 => ?_
      replace h := nm_at em20 h
      clear em20
      refine a_aload_n (pc := 66) F dX8_swap_66 0 rfl ?_
      refine a_geti (k := 162) (pc := 67) F dX8_swap_67 fl_RX8_31 kl_162 ks_162 rfl ?_
      replace h := bnd_some h
      obtain ⟨m38, hR21, h⟩ := h
      have hJ21 : WA X 0 0 122 [(0, .ref (ga X.G 162)), (1, .int p1), (2, .int p2), (3, .int p3)] [] m38 (EQ X (some (.int rr)) mm) := by
        refine a_aload_n (pc := 122) F dX8_swap_122 0 rfl ?_
        refine a_geti (k := 162) (pc := 123) F dX8_swap_123 fl_RX8_31 kl_162 ks_162 rfl ?_
        refine a_if_le (tgt := 131) (pc := 126) F dX8_swap_126 (by decide) (fun q39 => ?_) (fun q39 => ?_)
        · replace h := ite_t q39 h
          clear q39
          refine a_aload_n (pc := 131) F dX8_swap_131 0 rfl ?_
          replace h := bnd_some h
          obtain ⟨m41, hc40, h⟩ := h
          refine a_callV (pc := 132) (k := 162) (As := []) (st := []) F dX8_swap_132 (m_X8_save hc40) cv_RX8_71 kl_162 ks_162 ⟨_, _, rfl⟩ rfl rfl rfl (Nat.le_of_ble_eq_true rfl) ⟨Nat.le_of_ble_eq_true rfl, Nat.le_of_ble_eq_true rfl⟩ ?_ rfl rfl
          clear hc40
          refine a_aload_n (pc := 135) F dX8_swap_135 0 rfl ?_
          refine a_iload_n (pc := 136) F dX8_swap_136 1 rfl ?_
          refine a_bipush (v := 6) (pc := 137) F dX8_swap_137 (by decide) ?_
          refine a_iload_n (pc := 139) F dX8_swap_139 2 rfl ?_
          refine a_iadd (pc := 140) F dX8_swap_140 ?_
          replace h := bnd_some h
          obtain ⟨x43, hc42, h⟩ := h
          refine a_callV (pc := 141) (k := 162) (As := [.int p1, .int (6 + p2)]) (st := []) F dX8_swap_141 (m_X8_of hc42) cv_RX8_42 kl_162 ks_162 ⟨_, _, rfl⟩ rfl rfl rfl (Nat.le_of_ble_eq_true rfl) ⟨Nat.le_of_ble_eq_true rfl, Nat.le_of_ble_eq_true rfl⟩ ?_ rfl rfl
          clear hc42
          refine a_istore (lv' := [(5, .int x43), (0, .ref (ga X.G 162)), (1, .int p1), (2, .int p2), (3, .int p3)]) (pc := 144) F dX8_swap_144 (by decide) rfl ?_
          refine a_aload_n (pc := 146) F dX8_swap_146 1 rfl ?_
          refine a_iload_n (pc := 147) F dX8_swap_147 2 rfl ?_
          refine a_bipush (v := 6) (pc := 148) F dX8_swap_148 (by decide) ?_
          refine a_iload_n (pc := 150) F dX8_swap_150 3 rfl ?_
          refine a_iadd (pc := 151) F dX8_swap_151 ?_
          refine a_iload_n (pc := 152) F dX8_swap_152 4 rfl ?_
          replace h := bnd_some h
          obtain ⟨m45, hc44, h⟩ := h
          refine a_callV (pc := 153) (k := 162) (As := [.int p1, .int (6 + p2), .int p3]) (st := []) F dX8_swap_153 (m_X8_put hc44) cv_RX8_74 kl_162 ks_162 ⟨_, _, rfl⟩ rfl rfl rfl (Nat.le_of_ble_eq_true rfl) ⟨Nat.le_of_ble_eq_true rfl, Nat.le_of_ble_eq_true rfl⟩ ?_ rfl rfl
          clear hc44
          refine a_iload (pc := 156) F dX8_swap_156 0 rfl ?_
          cases h
          exact a_iret (pc := 158) F dX8_swap_158 ⟨_, rfl, rfl⟩
        · replace h := ite_f q39 h
          clear q39
          refine a_iconst (v := 0) (pc := 129) F dX8_swap_129 (by decide) ?_
          cases h
          exact a_iret (pc := 130) F dX8_swap_130 ⟨_, rfl, rfl⟩
      clear h
      have h := hR21
      clear hR21
      refine a_if_ne (tgt := 122) (pc := 70) F dX8_swap_70 (by decide) (fun q22 => ?_) (fun q22 => ?_)
      · replace h := ite_f q22 h
        clear q22
        cases h
        exact hJ21
      · replace h := ite_t (Decidable.not_not.mp q22) h
        clear q22
        refine a_aload_n (pc := 73) F dX8_swap_73 0 rfl ?_
        refine a_aload_n (pc := 74) F dX8_swap_74 0 rfl ?_
        refine a_iload_n (pc := 75) F dX8_swap_75 1 rfl ?_
        refine a_bipush (v := 6) (pc := 76) F dX8_swap_76 (by decide) ?_
        replace h := bnd_some h
        obtain ⟨x24, hc23, h⟩ := h
        refine a_callV (pc := 78) (k := 162) (As := [.int p1, .int 6]) (st := [.ref (ga X.G 162)]) F dX8_swap_78 (m_X8_of hc23) cv_RX8_42 kl_162 ks_162 ⟨_, _, rfl⟩ rfl rfl rfl (Nat.le_of_ble_eq_true rfl) ⟨Nat.le_of_ble_eq_true rfl, Nat.le_of_ble_eq_true rfl⟩ ?_ rfl rfl
        clear hc23
        refine a_aload_n (pc := 81) F dX8_swap_81 0 rfl ?_
        refine a_iload_n (pc := 82) F dX8_swap_82 1 rfl ?_
        refine a_bipush (v := 7) (pc := 83) F dX8_swap_83 (by decide) ?_
        replace h := bnd_some h
        obtain ⟨x26, hc25, h⟩ := h
        refine a_callV (pc := 85) (k := 162) (As := [.int p1, .int 7]) (st := [.int x24, .ref (ga X.G 162)]) F dX8_swap_85 (m_X8_of hc25) cv_RX8_42 kl_162 ks_162 ⟨_, _, rfl⟩ rfl rfl rfl (Nat.le_of_ble_eq_true rfl) ⟨Nat.le_of_ble_eq_true rfl, Nat.le_of_ble_eq_true rfl⟩ ?_ rfl rfl
        clear hc25
        refine a_aload_n (pc := 88) F dX8_swap_88 0 rfl ?_
        refine a_iload_n (pc := 89) F dX8_swap_89 1 rfl ?_
        refine a_bipush (v := 8) (pc := 90) F dX8_swap_90 (by decide) ?_
        replace h := bnd_some h
        obtain ⟨x28, hc27, h⟩ := h
        refine a_callV (pc := 92) (k := 162) (As := [.int p1, .int 8]) (st := [.int x26, .int x24, .ref (ga X.G 162)]) F dX8_swap_92 (m_X8_of hc27) cv_RX8_42 kl_162 ks_162 ⟨_, _, rfl⟩ rfl rfl rfl (Nat.le_of_ble_eq_true rfl) ⟨Nat.le_of_ble_eq_true rfl, Nat.le_of_ble_eq_true rfl⟩ ?_ rfl rfl
        clear hc27
        replace h := bnd_some h
        obtain ⟨m30, hc29, h⟩ := h
        refine a_callV (pc := 95) (k := 162) (As := [.int x24, .int x26, .int x28]) (st := []) F dX8_swap_95 (m_X8_lay hc29) cv_RX8_112 kl_162 ks_162 ⟨_, _, rfl⟩ rfl rfl rfl (Nat.le_of_ble_eq_true rfl) ⟨Nat.le_of_ble_eq_true rfl, Nat.le_of_ble_eq_true rfl⟩ ?_ rfl rfl
        clear hc29
        refine a_aload_n (pc := 98) F dX8_swap_98 0 rfl ?_
        refine a_getr (k := 162) (r := 166) (pc := 99) F dX8_swap_99 fl_RX8_19 kl_162 ks_162 rfl ?_
        refine a_iload_n (pc := 102) F dX8_swap_102 2 rfl ?_
        refine a_iload_n (pc := 103) F dX8_swap_103 3 rfl ?_
        replace h := gIn_some h
        obtain ⟨g31, h⟩ := h
        refine a_ias (k := 166) (pc := 104) F dX8_swap_104 kl_166 ks_166 g31 ?_
        refine a_nmm fun m32 em32 => ?_
        replace h := nm_at em32 h
        clear em32
        refine a_aload_n (pc := 105) F dX8_swap_105 0 rfl ?_
        refine a_aload_n (pc := 106) F dX8_swap_106 0 rfl ?_
        refine a_iload_n (pc := 107) F dX8_swap_107 1 rfl ?_
        replace h := bnd_some h
        obtain ⟨x34, hc33, h⟩ := h
        refine a_callV (pc := 108) (k := 162) (As := [.int p1]) (st := [.ref (ga X.G 162)]) F dX8_swap_108 (m_X8_reason hc33) cv_RX8_118 kl_162 ks_162 ⟨_, _, rfl⟩ rfl rfl rfl (Nat.le_of_ble_eq_true rfl) ⟨Nat.le_of_ble_eq_true rfl, Nat.le_of_ble_eq_true rfl⟩ ?_ rfl rfl
        clear hc33
        refine a_if_ne (tgt := 118) (pc := 111) F dX8_swap_111 (by decide) (fun q35 => ?_) (fun q35 => ?_)
        · replace h := ite_f q35 h
          clear q35
          refine a_iconst (v := 3) (pc := 118) F dX8_swap_118 (by decide) ?_
          refine a_puti (k := 162) (pc := 119) F dX8_swap_119 fp_RX8_31 kl_162 ks_162 rfl ?_
          refine a_nmm fun m36 em36 => ?_
          replace h := nm_at em36 h
          clear em36
          cases h
          exact hJ21
        · replace h := ite_t (Decidable.not_not.mp q35) h
          clear q35
          refine a_iconst (v := 0) (pc := 114) F dX8_swap_114 (by decide) ?_
          refine a_goto (tgt := 119) (pc := 115) F dX8_swap_115 (by decide) ?_
          refine a_puti (k := 162) (pc := 119) F dX8_swap_119 fp_RX8_31 kl_162 ks_162 rfl ?_
          refine a_nmm fun m37 em37 => ?_
          replace h := nm_at em37 h
          clear em37
          cases h
          exact hJ21
    clear h
    have h := hR14
    clear hR14
    refine a_if_ne (tgt := 49) (pc := 42) F dX8_swap_42 (by decide) (fun q15 => ?_) (fun q15 => ?_)
    · replace h := ite_f q15 h
      clear q15
      refine a_aload_n (pc := 49) F dX8_swap_49 1 rfl ?_
      refine a_iload_n (pc := 50) F dX8_swap_50 4 rfl ?_
      refine a_iload_n (pc := 51) F dX8_swap_51 2 rfl ?_
      replace h := bnd_some h
      obtain ⟨x17, hc16, h⟩ := h
      refine a_callV (pc := 52) (k := 162) (As := [.int p3, .int p1]) (st := [.ref (ga X.G 162)]) F dX8_swap_52 (m_X8_isIn hc16) cv_RX8_54 kl_162 ks_162 ⟨_, _, rfl⟩ rfl rfl rfl (Nat.le_of_ble_eq_true rfl) ⟨Nat.le_of_ble_eq_true rfl, Nat.le_of_ble_eq_true rfl⟩ ?_ rfl rfl
      clear hc16
      refine a_if_eq (tgt := 62) (pc := 55) F dX8_swap_55 (by decide) (fun q18 => ?_) (fun q18 => ?_)
      · replace h := ite_t q18 h
        clear q18
        refine a_iconst (v := 0) (pc := 62) F dX8_swap_62 (by decide) ?_
        refine a_lv F [1, 2, 3, 4] rfl ?_
        cases h
        exact hJ14
      · replace h := ite_f q18 h
        clear q18
        refine a_iconst (v := 2) (pc := 58) F dX8_swap_58 (by decide) ?_
        refine a_goto (tgt := 63) (pc := 59) F dX8_swap_59 (by decide) ?_
        refine a_lv F [1, 2, 3, 4] rfl ?_
        cases h
        exact hJ14
    · replace h := ite_t (Decidable.not_not.mp q15) h
      clear q15
      refine a_iconst (v := 1) (pc := 45) F dX8_swap_45 (by decide) ?_
      refine a_goto (tgt := 63) (pc := 46) F dX8_swap_46 (by decide) ?_
      refine a_lv F [1, 2, 3, 4] rfl ?_
      cases h
      exact hJ14
  clear h
  have h := hR3
  clear hR3
  refine a_if_eq (tgt := 36) (pc := 5) F dX8_swap_5 (by decide) (fun q4 => ?_) (fun q4 => ?_)
  · replace h := ite_t q4 h
    clear q4
    refine a_iconst (v := 0) (pc := 36) F dX8_swap_36 (by decide) ?_
    cases h
    exact hJ3
  · replace h := ite_f q4 h
    clear q4
    refine a_iload_n (pc := 8) F dX8_swap_8 2 rfl ?_
    refine a_iconst (v := 0) (pc := 9) F dX8_swap_9 (by decide) ?_
    refine a_aload_n (pc := 10) F dX8_swap_10 0 rfl ?_
    refine a_iload_n (pc := 11) F dX8_swap_11 1 rfl ?_
    refine a_iconst (v := 5) (pc := 12) F dX8_swap_12 (by decide) ?_
    replace h := bnd_some h
    obtain ⟨x6, hc5, h⟩ := h
    refine a_callV (pc := 13) (k := 162) (As := [.int p1, .int 5]) (st := [.int 0, .int p2]) F dX8_swap_13 (m_X8_of hc5) cv_RX8_42 kl_162 ks_162 ⟨_, _, rfl⟩ rfl rfl rfl (Nat.le_of_ble_eq_true rfl) ⟨Nat.le_of_ble_eq_true rfl, Nat.le_of_ble_eq_true rfl⟩ ?_ rfl rfl
    clear hc5
    refine a_iconst (v := 1) (pc := 16) F dX8_swap_16 (by decide) ?_
    refine a_isub (pc := 17) F dX8_swap_17 ?_
    replace h := bnd_some h
    obtain ⟨x8, hc7, h⟩ := h
    refine a_callS (pc := 18) (As := [.int p2, .int 0, .int (x6 - 1)]) (st := []) F dX8_swap_18 (m_X8_within hc7) cs_RX8_38 rfl rfl rfl (Nat.le_of_ble_eq_true rfl) ⟨Nat.le_of_ble_eq_true rfl, Nat.le_of_ble_eq_true rfl⟩ ?_ rfl rfl
    clear hc7
    refine a_if_eq (tgt := 36) (pc := 21) F dX8_swap_21 (by decide) (fun q9 => ?_) (fun q9 => ?_)
    · replace h := ite_t q9 h
      clear q9
      refine a_iconst (v := 0) (pc := 36) F dX8_swap_36 (by decide) ?_
      cases h
      exact hJ3
    · replace h := ite_f q9 h
      clear q9
      refine a_aload_n (pc := 24) F dX8_swap_24 0 rfl ?_
      refine a_iload_n (pc := 25) F dX8_swap_25 3 rfl ?_
      replace h := bnd_some h
      obtain ⟨x11, hc10, h⟩ := h
      refine a_callV (pc := 26) (k := 162) (As := [.int p3]) (st := []) F dX8_swap_26 (m_X8_isPerson hc10) cv_RX8_82 kl_162 ks_162 ⟨_, _, rfl⟩ rfl rfl rfl (Nat.le_of_ble_eq_true rfl) ⟨Nat.le_of_ble_eq_true rfl, Nat.le_of_ble_eq_true rfl⟩ ?_ rfl rfl
      clear hc10
      refine a_if_eq (tgt := 36) (pc := 29) F dX8_swap_29 (by decide) (fun q12 => ?_) (fun q12 => ?_)
      · replace h := ite_t q12 h
        clear q12
        refine a_iconst (v := 0) (pc := 36) F dX8_swap_36 (by decide) ?_
        cases h
        exact hJ3
      · replace h := ite_f q12 h
        clear q12
        refine a_iconst (v := 1) (pc := 32) F dX8_swap_32 (by decide) ?_
        refine a_goto (tgt := 37) (pc := 33) F dX8_swap_33 (by decide) ?_
        cases h
        exact hJ3
def f_X8_vacate (p1 : Int32) (m0 : Mem) : Option (Int32 × Mem) :=
  bnd (f_X8_isHearing p1 m0) fun x2 => bnd ((if x2 = 0 then some 1 else bnd (f_X8_isOpen p1 m0) fun x6 => (if x6 = 0 then some 2 else some 0))) (fun (x8 : Int32) => nm (si m0 162 5 x8) fun m9 => (if (m9.1 162 5) ≤ 0 then bnd (f_X8_save m9) fun m12 => bnd (f_X8_of p1 2 m12) fun x14 => bnd (f_X8_halvesBy (x14 - (m12.1 163 9)) m12) fun x16 => bnd2 (f_X8_pay p1 x16 m12) fun x18 m19 => nm (si m19 163 11 ((m19.1 163 11) + x18)) fun m20 => bnd (f_X8_put p1 4 3 m20) fun m22 => some (x18, m22) else some (0, m9)))
set_option maxRecDepth 100000 in
set_option maxHeartbeats 4000000 in
theorem m_X8_vacate {p1 : Int32} {m0 : Mem} {rr : Int32} {mm : Mem} (h : f_X8_vacate p1 m0 = some (rr, mm)) : Con yX8_vacate cX8_vacate 3 (some Jvm.ClassFile.FieldType.int) 4 97 (fun G => [.ref (ga G 162), .int p1]) m0 (some (.int rr)) mm := by
  refine con_of (by decide) (fun G => Nat.le_of_ble_eq_true rfl) (fun X F => ?_)
  show WA X 0 0 0 [(0, .ref (ga X.G 162)), (1, .int p1)] [] m0 (EQ X (some (.int rr)) mm)
  rw [f_X8_vacate] at h
  refine a_aload_n (pc := 0) F dX8_vacate_0 0 rfl ?_
  refine a_aload_n (pc := 1) F dX8_vacate_1 0 rfl ?_
  refine a_iload_n (pc := 2) F dX8_vacate_2 1 rfl ?_
  replace h := bnd_some h
  obtain ⟨x2, hc1, h⟩ := h
  refine a_callV (pc := 3) (k := 162) (As := [.int p1]) (st := [.ref (ga X.G 162)]) F dX8_vacate_3 (m_X8_isHearing hc1) cv_RX8_109 kl_162 ks_162 ⟨_, _, rfl⟩ rfl rfl rfl (Nat.le_of_ble_eq_true rfl) ⟨Nat.le_of_ble_eq_true rfl, Nat.le_of_ble_eq_true rfl⟩ ?_ rfl rfl
  clear hc1
  replace h := bnd_some h
  obtain ⟨x8, hR3, h⟩ := h
  have hJ3 : WA X 0 0 26 [(0, .ref (ga X.G 162)), (1, .int p1)] [.int x8, .ref (ga X.G 162)] m0 (EQ X (some (.int rr)) mm) := by
    refine a_puti (k := 162) (pc := 26) F dX8_vacate_26 fp_RX8_31 kl_162 ks_162 rfl ?_
    refine a_nmm fun m9 em9 => ?_
    replace h := nm_at em9 h
    clear em9
    refine a_aload_n (pc := 29) F dX8_vacate_29 0 rfl ?_
    refine a_geti (k := 162) (pc := 30) F dX8_vacate_30 fl_RX8_31 kl_162 ks_162 rfl ?_
    refine a_if_le (tgt := 38) (pc := 33) F dX8_vacate_33 (by decide) (fun q10 => ?_) (fun q10 => ?_)
    · replace h := ite_t q10 h
      clear q10
      refine a_aload_n (pc := 38) F dX8_vacate_38 0 rfl ?_
      replace h := bnd_some h
      obtain ⟨m12, hc11, h⟩ := h
      refine a_callV (pc := 39) (k := 162) (As := []) (st := []) F dX8_vacate_39 (m_X8_save hc11) cv_RX8_71 kl_162 ks_162 ⟨_, _, rfl⟩ rfl rfl rfl (Nat.le_of_ble_eq_true rfl) ⟨Nat.le_of_ble_eq_true rfl, Nat.le_of_ble_eq_true rfl⟩ ?_ rfl rfl
      clear hc11
      refine a_aload_n (pc := 42) F dX8_vacate_42 0 rfl ?_
      refine a_iload_n (pc := 43) F dX8_vacate_43 1 rfl ?_
      refine a_aload_n (pc := 44) F dX8_vacate_44 0 rfl ?_
      refine a_aload_n (pc := 45) F dX8_vacate_45 0 rfl ?_
      refine a_iload_n (pc := 46) F dX8_vacate_46 1 rfl ?_
      refine a_iconst (v := 2) (pc := 47) F dX8_vacate_47 (by decide) ?_
      replace h := bnd_some h
      obtain ⟨x14, hc13, h⟩ := h
      refine a_callV (pc := 48) (k := 162) (As := [.int p1, .int 2]) (st := [.ref (ga X.G 162), .int p1, .ref (ga X.G 162)]) F dX8_vacate_48 (m_X8_of hc13) cv_RX8_42 kl_162 ks_162 ⟨_, _, rfl⟩ rfl rfl rfl (Nat.le_of_ble_eq_true rfl) ⟨Nat.le_of_ble_eq_true rfl, Nat.le_of_ble_eq_true rfl⟩ ?_ rfl rfl
      clear hc13
      refine a_aload_n (pc := 51) F dX8_vacate_51 0 rfl ?_
      refine a_getr (k := 162) (r := 163) (pc := 52) F dX8_vacate_52 fl_RX8_7 kl_162 ks_162 rfl ?_
      refine a_bipush (v := 9) (pc := 55) F dX8_vacate_55 (by decide) ?_
      refine a_ialc (k := 163) (pc := 57) F dX8_vacate_57 kl_163 ks_163 rfl rfl ?_
      refine a_isub (pc := 58) F dX8_vacate_58 ?_
      replace h := bnd_some h
      obtain ⟨x16, hc15, h⟩ := h
      refine a_callV (pc := 59) (k := 162) (As := [.int (x14 - (m12.1 163 9))]) (st := [.int p1, .ref (ga X.G 162)]) F dX8_vacate_59 (m_X8_halvesBy hc15) cv_RX8_128 kl_162 ks_162 ⟨_, _, rfl⟩ rfl rfl rfl (Nat.le_of_ble_eq_true rfl) ⟨Nat.le_of_ble_eq_true rfl, Nat.le_of_ble_eq_true rfl⟩ ?_ rfl rfl
      clear hc15
      replace h := bnd2_some h
      obtain ⟨x18, m19, hc17, h⟩ := h
      refine a_callV (pc := 62) (k := 162) (As := [.int p1, .int x16]) (st := []) F dX8_vacate_62 (m_X8_pay hc17) cv_RX8_131 kl_162 ks_162 ⟨_, _, rfl⟩ rfl rfl rfl (Nat.le_of_ble_eq_true rfl) ⟨Nat.le_of_ble_eq_true rfl, Nat.le_of_ble_eq_true rfl⟩ ?_ rfl rfl
      clear hc17
      refine a_istore_n (lv' := [(2, .int x18), (0, .ref (ga X.G 162)), (1, .int p1)]) (pc := 65) F dX8_vacate_65 (by decide) rfl ?_
      refine a_aload_n (pc := 66) F dX8_vacate_66 1 rfl ?_
      refine a_getr (k := 162) (r := 163) (pc := 67) F dX8_vacate_67 fl_RX8_7 kl_162 ks_162 rfl ?_
      refine a_bipush (v := 11) (pc := 70) F dX8_vacate_70 (by decide) ?_
      refine a_dup2 (pc := 72) F dX8_vacate_72 rfl rfl ?_
      refine a_ialc (k := 163) (pc := 73) F dX8_vacate_73 kl_163 ks_163 rfl rfl ?_
      refine a_iload_n (pc := 74) F dX8_vacate_74 0 rfl ?_
      refine a_iadd (pc := 75) F dX8_vacate_75 ?_
      refine a_iasc (k := 163) (pc := 76) F dX8_vacate_76 kl_163 ks_163 rfl rfl ?_
      refine a_nmm fun m20 em20 => ?_
      replace h := nm_at em20 h
      clear em20
      refine a_aload_n (pc := 77) F dX8_vacate_77 1 rfl ?_
      refine a_iload_n (pc := 78) F dX8_vacate_78 2 rfl ?_
      refine a_iconst (v := 4) (pc := 79) F dX8_vacate_79 (by decide) ?_
      refine a_iconst (v := 3) (pc := 80) F dX8_vacate_80 (by decide) ?_
      replace h := bnd_some h
      obtain ⟨m22, hc21, h⟩ := h
      refine a_callV (pc := 81) (k := 162) (As := [.int p1, .int 4, .int 3]) (st := []) F dX8_vacate_81 (m_X8_put hc21) cv_RX8_74 kl_162 ks_162 ⟨_, _, rfl⟩ rfl rfl rfl (Nat.le_of_ble_eq_true rfl) ⟨Nat.le_of_ble_eq_true rfl, Nat.le_of_ble_eq_true rfl⟩ ?_ rfl rfl
      clear hc21
      refine a_iload_n (pc := 84) F dX8_vacate_84 0 rfl ?_
      cases h
      exact a_iret (pc := 85) F dX8_vacate_85 ⟨_, rfl, rfl⟩
    · replace h := ite_f q10 h
      clear q10
      refine a_iconst (v := 0) (pc := 36) F dX8_vacate_36 (by decide) ?_
      cases h
      exact a_iret (pc := 37) F dX8_vacate_37 ⟨_, rfl, rfl⟩
  clear h
  have h := hR3
  clear hR3
  refine a_if_ne (tgt := 13) (pc := 6) F dX8_vacate_6 (by decide) (fun q4 => ?_) (fun q4 => ?_)
  · replace h := ite_f q4 h
    clear q4
    refine a_aload_n (pc := 13) F dX8_vacate_13 0 rfl ?_
    refine a_iload_n (pc := 14) F dX8_vacate_14 1 rfl ?_
    replace h := bnd_some h
    obtain ⟨x6, hc5, h⟩ := h
    refine a_callV (pc := 15) (k := 162) (As := [.int p1]) (st := [.ref (ga X.G 162)]) F dX8_vacate_15 (m_X8_isOpen hc5) cv_RX8_125 kl_162 ks_162 ⟨_, _, rfl⟩ rfl rfl rfl (Nat.le_of_ble_eq_true rfl) ⟨Nat.le_of_ble_eq_true rfl, Nat.le_of_ble_eq_true rfl⟩ ?_ rfl rfl
    clear hc5
    refine a_if_eq (tgt := 25) (pc := 18) F dX8_vacate_18 (by decide) (fun q7 => ?_) (fun q7 => ?_)
    · replace h := ite_t q7 h
      clear q7
      refine a_iconst (v := 2) (pc := 25) F dX8_vacate_25 (by decide) ?_
      cases h
      exact hJ3
    · replace h := ite_f q7 h
      clear q7
      refine a_iconst (v := 0) (pc := 21) F dX8_vacate_21 (by decide) ?_
      refine a_goto (tgt := 26) (pc := 22) F dX8_vacate_22 (by decide) ?_
      cases h
      exact hJ3
  · replace h := ite_t (Decidable.not_not.mp q4) h
    clear q4
    refine a_iconst (v := 1) (pc := 9) F dX8_vacate_9 (by decide) ?_
    refine a_goto (tgt := 26) (pc := 10) F dX8_vacate_10 (by decide) ?_
    cases h
    exact hJ3
def f_X8_worksIn_L12 (p1 : Int32) (m0 : Mem) : (Int32 × Int32) → Option ((Int32 × Int32) ⊕ Int32)
  | (x2, x3) => (if x3 < 0 then some (.inr x2) else bnd (f_X8_isListed x3 m0) fun x6 => (if x6 = 0 then nm (x3 + (-1)) fun x8 => some (.inl (x2, x8)) else bnd (f_X8_hasStarted x3 m0) fun x10 => (if x10 = 0 then nm (x3 + (-1)) fun x12 => some (.inl (x2, x12)) else bnd (f_X8_isIn p1 x3 m0) fun x14 => (if x14 = 0 then nm (x3 + (-1)) fun x16 => some (.inl (x2, x16)) else nm (x3 + (-1)) fun x17 => some (.inl (x3, x17))))))
def f_X8_worksIn (p1 : Int32) (m0 : Mem) : Option Int32 :=
  bnd (lp (f_X8_worksIn_L12 p1 m0) 1000000 ((-1), (m0.1 163 8) - 1)) (fun x18 => some x18)
set_option maxRecDepth 100000 in
set_option maxHeartbeats 4000000 in
theorem m_X8_worksIn {p1 : Int32} {m0 : Mem} {rr : Int32} (h : f_X8_worksIn p1 m0 = some rr) : Con yX8_worksIn cX8_worksIn 4 (some Jvm.ClassFile.FieldType.int) 2 46 (fun G => [.ref (ga G 162), .int p1]) m0 (some (.int rr)) m0 := by
  refine con_of (by decide) (fun G => Nat.le_of_ble_eq_true rfl) (fun X F => ?_)
  show WA X 0 0 0 [(0, .ref (ga X.G 162)), (1, .int p1)] [] m0 (EQ X (some (.int rr)) m0)
  rw [f_X8_worksIn] at h
  refine a_iconst (v := (-1)) (pc := 0) F dX8_worksIn_0 (by decide) ?_
  refine a_istore_n (lv' := [(2, .int (-1)), (0, .ref (ga X.G 162)), (1, .int p1)]) (pc := 1) F dX8_worksIn_1 (by decide) rfl ?_
  refine a_aload_n (pc := 2) F dX8_worksIn_2 1 rfl ?_
  refine a_getr (k := 162) (r := 163) (pc := 3) F dX8_worksIn_3 fl_RX8_7 kl_162 ks_162 rfl ?_
  refine a_bipush (v := 8) (pc := 6) F dX8_worksIn_6 (by decide) ?_
  refine a_ialc (k := 163) (pc := 8) F dX8_worksIn_8 kl_163 ks_163 rfl rfl ?_
  refine a_iconst (v := 1) (pc := 9) F dX8_worksIn_9 (by decide) ?_
  refine a_isub (pc := 10) F dX8_worksIn_10 ?_
  refine a_istore_n (lv' := [(3, .int ((m0.1 163 8) - 1)), (2, .int (-1)), (0, .ref (ga X.G 162)), (1, .int p1)]) (pc := 11) F dX8_worksIn_11 (by decide) rfl ?_
  refine a_lv F [2, 3, 1, 0] rfl ?_
  replace h := bnd_some h
  obtain ⟨x18, hL1, h⟩ := h
  have hE1 : WA X 0 0 53 [(2, .int x18)] [] m0 (EQ X (some (.int rr)) m0) := by
    refine a_iload_n (pc := 53) F dX8_worksIn_53 0 rfl ?_
    cases h
    exact a_iret (pc := 54) F dX8_worksIn_54 ⟨_, rfl, rfl⟩
  clear h
  refine lp_run (P := fun (s : (Int32 × Int32)) => WA X 0 0 12 [(0, .ref (ga X.G 162)), (1, .int p1), (2, .int s.1), (3, .int s.2)] [] m0 (EQ X (some (.int rr)) m0)) ?_ _ _ hL1
  clear hL1
  rintro ⟨x2, x3⟩ xo h hP1 hT1
  show WA X 0 0 12 [(0, .ref (ga X.G 162)), (1, .int p1), (2, .int x2), (3, .int x3)] [] m0 (EQ X (some (.int rr)) m0)
  rw [f_X8_worksIn_L12] at h
  refine a_iload_n (pc := 12) F dX8_worksIn_12 3 rfl ?_
  refine a_if_lt (tgt := 53) (pc := 13) F dX8_worksIn_13 (by decide) (fun q4 => ?_) (fun q4 => ?_)
  · replace h := ite_t q4 h
    clear q4
    refine a_lv F [2] rfl ?_
    cases hT1 _ (Option.some.inj h).symm
    exact hE1
  · replace h := ite_f q4 h
    clear q4
    refine a_aload_n (pc := 16) F dX8_worksIn_16 0 rfl ?_
    refine a_iload_n (pc := 17) F dX8_worksIn_17 3 rfl ?_
    replace h := bnd_some h
    obtain ⟨x6, hc5, h⟩ := h
    refine a_callV (pc := 18) (k := 162) (As := [.int x3]) (st := []) F dX8_worksIn_18 (m_X8_isListed hc5) cv_RX8_50 kl_162 ks_162 ⟨_, _, rfl⟩ rfl rfl rfl (Nat.le_of_ble_eq_true rfl) ⟨Nat.le_of_ble_eq_true rfl, Nat.le_of_ble_eq_true rfl⟩ ?_ rfl rfl
    clear hc5
    refine a_if_eq (tgt := 45) (pc := 21) F dX8_worksIn_21 (by decide) (fun q7 => ?_) (fun q7 => ?_)
    · replace h := ite_t q7 h
      clear q7
      refine a_iload_n (pc := 45) F dX8_worksIn_45 2 rfl ?_
      refine a_istore_n (lv' := [(2, .int x2), (0, .ref (ga X.G 162)), (1, .int p1), (3, .int x3)]) (pc := 46) F dX8_worksIn_46 (by decide) rfl ?_
      obtain ⟨x8, ex8⟩ : ∃ x8 : Int32, x8 = x3 + (-1) := ⟨_, rfl⟩
      refine a_iinc (v := x8) (lv' := [(3, .int x8), (2, .int x2), (0, .ref (ga X.G 162)), (1, .int p1)]) (pc := 47) F dX8_worksIn_47 3 rfl (by rw [ex8]; rfl) (by decide) rfl ?_
      replace h := nm_at ex8 h
      clear ex8
      refine a_goto (tgt := 12) (pc := 50) F dX8_worksIn_50 (by decide) ?_
      refine a_lv F [2, 3, 1, 0] rfl ?_
      exact hP1 _ (Option.some.inj h).symm
    · replace h := ite_f q7 h
      clear q7
      refine a_aload_n (pc := 24) F dX8_worksIn_24 0 rfl ?_
      refine a_iload_n (pc := 25) F dX8_worksIn_25 3 rfl ?_
      replace h := bnd_some h
      obtain ⟨x10, hc9, h⟩ := h
      refine a_callV (pc := 26) (k := 162) (As := [.int x3]) (st := []) F dX8_worksIn_26 (m_X8_hasStarted hc9) cv_RX8_97 kl_162 ks_162 ⟨_, _, rfl⟩ rfl rfl rfl (Nat.le_of_ble_eq_true rfl) ⟨Nat.le_of_ble_eq_true rfl, Nat.le_of_ble_eq_true rfl⟩ ?_ rfl rfl
      clear hc9
      refine a_if_eq (tgt := 45) (pc := 29) F dX8_worksIn_29 (by decide) (fun q11 => ?_) (fun q11 => ?_)
      · replace h := ite_t q11 h
        clear q11
        refine a_iload_n (pc := 45) F dX8_worksIn_45 2 rfl ?_
        refine a_istore_n (lv' := [(2, .int x2), (0, .ref (ga X.G 162)), (1, .int p1), (3, .int x3)]) (pc := 46) F dX8_worksIn_46 (by decide) rfl ?_
        obtain ⟨x12, ex12⟩ : ∃ x12 : Int32, x12 = x3 + (-1) := ⟨_, rfl⟩
        refine a_iinc (v := x12) (lv' := [(3, .int x12), (2, .int x2), (0, .ref (ga X.G 162)), (1, .int p1)]) (pc := 47) F dX8_worksIn_47 3 rfl (by rw [ex12]; rfl) (by decide) rfl ?_
        replace h := nm_at ex12 h
        clear ex12
        refine a_goto (tgt := 12) (pc := 50) F dX8_worksIn_50 (by decide) ?_
        refine a_lv F [2, 3, 1, 0] rfl ?_
        exact hP1 _ (Option.some.inj h).symm
      · replace h := ite_f q11 h
        clear q11
        refine a_aload_n (pc := 32) F dX8_worksIn_32 0 rfl ?_
        refine a_iload_n (pc := 33) F dX8_worksIn_33 1 rfl ?_
        refine a_iload_n (pc := 34) F dX8_worksIn_34 3 rfl ?_
        replace h := bnd_some h
        obtain ⟨x14, hc13, h⟩ := h
        refine a_callV (pc := 35) (k := 162) (As := [.int p1, .int x3]) (st := []) F dX8_worksIn_35 (m_X8_isIn hc13) cv_RX8_54 kl_162 ks_162 ⟨_, _, rfl⟩ rfl rfl rfl (Nat.le_of_ble_eq_true rfl) ⟨Nat.le_of_ble_eq_true rfl, Nat.le_of_ble_eq_true rfl⟩ ?_ rfl rfl
        clear hc13
        refine a_if_eq (tgt := 45) (pc := 38) F dX8_worksIn_38 (by decide) (fun q15 => ?_) (fun q15 => ?_)
        · replace h := ite_t q15 h
          clear q15
          refine a_iload_n (pc := 45) F dX8_worksIn_45 2 rfl ?_
          refine a_istore_n (lv' := [(2, .int x2), (0, .ref (ga X.G 162)), (1, .int p1), (3, .int x3)]) (pc := 46) F dX8_worksIn_46 (by decide) rfl ?_
          obtain ⟨x16, ex16⟩ : ∃ x16 : Int32, x16 = x3 + (-1) := ⟨_, rfl⟩
          refine a_iinc (v := x16) (lv' := [(3, .int x16), (2, .int x2), (0, .ref (ga X.G 162)), (1, .int p1)]) (pc := 47) F dX8_worksIn_47 3 rfl (by rw [ex16]; rfl) (by decide) rfl ?_
          replace h := nm_at ex16 h
          clear ex16
          refine a_goto (tgt := 12) (pc := 50) F dX8_worksIn_50 (by decide) ?_
          refine a_lv F [2, 3, 1, 0] rfl ?_
          exact hP1 _ (Option.some.inj h).symm
        · replace h := ite_f q15 h
          clear q15
          refine a_iload_n (pc := 41) F dX8_worksIn_41 3 rfl ?_
          refine a_goto (tgt := 46) (pc := 42) F dX8_worksIn_42 (by decide) ?_
          refine a_istore_n (lv' := [(2, .int x3), (0, .ref (ga X.G 162)), (1, .int p1), (3, .int x3)]) (pc := 46) F dX8_worksIn_46 (by decide) rfl ?_
          obtain ⟨x17, ex17⟩ : ∃ x17 : Int32, x17 = x3 + (-1) := ⟨_, rfl⟩
          refine a_iinc (v := x17) (lv' := [(3, .int x17), (2, .int x3), (0, .ref (ga X.G 162)), (1, .int p1)]) (pc := 47) F dX8_worksIn_47 3 rfl (by rw [ex17]; rfl) (by decide) rfl ?_
          replace h := nm_at ex17 h
          clear ex17
          refine a_goto (tgt := 12) (pc := 50) F dX8_worksIn_50 (by decide) ?_
          refine a_lv F [2, 3, 1, 0] rfl ?_
          exact hP1 _ (Option.some.inj h).symm
def f_X8_tireAll_L2 : (Int32 × Mem) → Option ((Int32 × Mem) ⊕ Mem)
  | (x2, m3) => (if (m3.1 163 7) ≤ x2 then some (.inr m3) else bnd (f_X8_worksIn x2 m3) fun x6 => gIn (43 + x2) 373 <| nm (m3.1 163 (43 + x2).toNatClampNeg) fun x8 => bnd ((if x6 = (-1) then some (x8 - (m3.1 163 2), m3) else bnd (f_X8_of x6 5 m3) fun x12 => bnd ((if x12 ≤ 1 then some 0 else some (m3.1 163 1))) (fun (x15 : Int32) => nm (x8 + ((m3.1 163 0) + x15)) fun x16 => gIn (63 + x2) 373 <| nm (m3.1 163 (63 + x2).toNatClampNeg) fun x18 => gIn (63 + x2) 373 <| nm (si m3 163 (63 + x2).toNatClampNeg (x18 + 1)) fun m20 => some (x16, m20)))) (fun ((x21, m22) : Int32 × Mem) => (if 0 ≤ x21 then (if x21 ≤ 1000 then gIn (43 + x2) 373 <| nm (si m22 163 (43 + x2).toNatClampNeg x21) fun m26 => nm (x2 + 1) fun x27 => some (.inl (x27, m26)) else gIn (43 + x2) 373 <| nm (si m22 163 (43 + x2).toNatClampNeg 1000) fun m29 => nm (x2 + 1) fun x30 => some (.inl (x30, m29))) else gIn (43 + x2) 373 <| nm (si m22 163 (43 + x2).toNatClampNeg 0) fun m32 => nm (x2 + 1) fun x33 => some (.inl (x33, m32)))))
def f_X8_tireAll (m0 : Mem) : Option Mem :=
  bnd (lp (f_X8_tireAll_L2) 1000000 (0, m0)) (fun m34 => some m34)
set_option maxRecDepth 100000 in
set_option maxHeartbeats 4000000 in
theorem m_X8_tireAll {m0 : Mem} {mm : Mem} (h : f_X8_tireAll m0 = some mm) : Con yX8_tireAll cX8_tireAll 4 none 3 69 (fun G => [.ref (ga G 162)]) m0 none mm := by
  refine con_of (by decide) (fun G => Nat.le_of_ble_eq_true rfl) (fun X F => ?_)
  show WA X 0 0 0 [(0, .ref (ga X.G 162))] [] m0 (EQ X none mm)
  rw [f_X8_tireAll] at h
  refine a_iconst (v := 0) (pc := 0) F dX8_tireAll_0 (by decide) ?_
  refine a_istore_n (lv' := [(1, .int 0), (0, .ref (ga X.G 162))]) (pc := 1) F dX8_tireAll_1 (by decide) rfl ?_
  refine a_lv F [1, 0] rfl ?_
  replace h := bnd_some h
  obtain ⟨m34, hL1, h⟩ := h
  have hE1 : WA X 0 0 126 [] [] m34 (EQ X none mm) := by
    cases h
    exact a_vret (pc := 126) F dX8_tireAll_126 rfl
  clear h
  refine lp_run (P := fun (s : (Int32 × Mem)) => WA X 0 0 2 [(0, .ref (ga X.G 162)), (1, .int s.1)] [] s.2 (EQ X none mm)) ?_ _ _ hL1
  clear hL1
  rintro ⟨x2, m3⟩ xo h hP1 hT1
  show WA X 0 0 2 [(0, .ref (ga X.G 162)), (1, .int x2)] [] m3 (EQ X none mm)
  rw [f_X8_tireAll_L2] at h
  refine a_iload_n (pc := 2) F dX8_tireAll_2 1 rfl ?_
  refine a_aload_n (pc := 3) F dX8_tireAll_3 0 rfl ?_
  refine a_getr (k := 162) (r := 163) (pc := 4) F dX8_tireAll_4 fl_RX8_7 kl_162 ks_162 rfl ?_
  refine a_bipush (v := 7) (pc := 7) F dX8_tireAll_7 (by decide) ?_
  refine a_ialc (k := 163) (pc := 9) F dX8_tireAll_9 kl_163 ks_163 rfl rfl ?_
  refine a_icmp_ge (tgt := 126) (pc := 10) F dX8_tireAll_10 (by decide) (fun q4 => ?_) (fun q4 => ?_)
  · replace h := ite_t q4 h
    clear q4
    refine a_lv F [] rfl ?_
    cases hT1 _ (Option.some.inj h).symm
    exact hE1
  · replace h := ite_f q4 h
    clear q4
    refine a_aload_n (pc := 13) F dX8_tireAll_13 0 rfl ?_
    refine a_iload_n (pc := 14) F dX8_tireAll_14 1 rfl ?_
    replace h := bnd_some h
    obtain ⟨x6, hc5, h⟩ := h
    refine a_callV (pc := 15) (k := 162) (As := [.int x2]) (st := []) F dX8_tireAll_15 (m_X8_worksIn hc5) cv_RX8_134 kl_162 ks_162 ⟨_, _, rfl⟩ rfl rfl rfl (Nat.le_of_ble_eq_true rfl) ⟨Nat.le_of_ble_eq_true rfl, Nat.le_of_ble_eq_true rfl⟩ ?_ rfl rfl
    clear hc5
    refine a_istore_n (lv' := [(2, .int x6), (0, .ref (ga X.G 162)), (1, .int x2)]) (pc := 18) F dX8_tireAll_18 (by decide) rfl ?_
    refine a_aload_n (pc := 19) F dX8_tireAll_19 1 rfl ?_
    refine a_getr (k := 162) (r := 163) (pc := 20) F dX8_tireAll_20 fl_RX8_7 kl_162 ks_162 rfl ?_
    refine a_bipush (v := 43) (pc := 23) F dX8_tireAll_23 (by decide) ?_
    refine a_iload_n (pc := 25) F dX8_tireAll_25 2 rfl ?_
    refine a_iadd (pc := 26) F dX8_tireAll_26 ?_
    replace h := gIn_some h
    obtain ⟨g7, h⟩ := h
    refine a_ial (k := 163) (pc := 27) F dX8_tireAll_27 kl_163 ks_163 g7 ?_
    refine a_nmi fun x8 ex8 => ?_
    replace h := nm_at ex8 h
    clear ex8
    refine a_istore_n (lv' := [(3, .int x8), (2, .int x6), (0, .ref (ga X.G 162)), (1, .int x2)]) (pc := 28) F dX8_tireAll_28 (by decide) rfl ?_
    refine a_iload_n (pc := 29) F dX8_tireAll_29 1 rfl ?_
    refine a_iconst (v := (-1)) (pc := 30) F dX8_tireAll_30 (by decide) ?_
    replace h := bnd_some h
    obtain ⟨⟨x21, m22⟩, hR9, h⟩ := h
    have hJ9 : WA X 0 0 89 [(0, .ref (ga X.G 162)), (1, .int x2), (3, .int x21)] [] m22 (EQ X none mm) := by
      refine a_aload_n (pc := 89) F dX8_tireAll_89 0 rfl ?_
      refine a_getr (k := 162) (r := 163) (pc := 90) F dX8_tireAll_90 fl_RX8_7 kl_162 ks_162 rfl ?_
      refine a_bipush (v := 43) (pc := 93) F dX8_tireAll_93 (by decide) ?_
      refine a_iload_n (pc := 95) F dX8_tireAll_95 1 rfl ?_
      refine a_iadd (pc := 96) F dX8_tireAll_96 ?_
      refine a_iload_n (pc := 97) F dX8_tireAll_97 2 rfl ?_
      refine a_if_ge (tgt := 105) (pc := 98) F dX8_tireAll_98 (by decide) (fun q23 => ?_) (fun q23 => ?_)
      · replace h := ite_t q23 h
        clear q23
        refine a_iload_n (pc := 105) F dX8_tireAll_105 2 rfl ?_
        refine a_sipush (v := 1000) (pc := 106) F dX8_tireAll_106 (by decide) ?_
        refine a_icmp_le (tgt := 118) (pc := 109) F dX8_tireAll_109 (by decide) (fun q24 => ?_) (fun q24 => ?_)
        · replace h := ite_t q24 h
          clear q24
          refine a_iload_n (pc := 118) F dX8_tireAll_118 2 rfl ?_
          replace h := gIn_some h
          obtain ⟨g25, h⟩ := h
          refine a_ias (k := 163) (pc := 119) F dX8_tireAll_119 kl_163 ks_163 g25 ?_
          refine a_nmm fun m26 em26 => ?_
          replace h := nm_at em26 h
          clear em26
          obtain ⟨x27, ex27⟩ : ∃ x27 : Int32, x27 = x2 + 1 := ⟨_, rfl⟩
          refine a_iinc (v := x27) (lv' := [(1, .int x27), (0, .ref (ga X.G 162)), (3, .int x21)]) (pc := 120) F dX8_tireAll_120 1 rfl (by rw [ex27]; rfl) (by decide) rfl ?_
          replace h := nm_at ex27 h
          clear ex27
          refine a_goto (tgt := 2) (pc := 123) F dX8_tireAll_123 (by decide) ?_
          refine a_lv F [1, 0] rfl ?_
          exact hP1 _ (Option.some.inj h).symm
        · replace h := ite_f q24 h
          clear q24
          refine a_sipush (v := 1000) (pc := 112) F dX8_tireAll_112 (by decide) ?_
          refine a_goto (tgt := 119) (pc := 115) F dX8_tireAll_115 (by decide) ?_
          replace h := gIn_some h
          obtain ⟨g28, h⟩ := h
          refine a_ias (k := 163) (pc := 119) F dX8_tireAll_119 kl_163 ks_163 g28 ?_
          refine a_nmm fun m29 em29 => ?_
          replace h := nm_at em29 h
          clear em29
          obtain ⟨x30, ex30⟩ : ∃ x30 : Int32, x30 = x2 + 1 := ⟨_, rfl⟩
          refine a_iinc (v := x30) (lv' := [(1, .int x30), (0, .ref (ga X.G 162)), (3, .int x21)]) (pc := 120) F dX8_tireAll_120 1 rfl (by rw [ex30]; rfl) (by decide) rfl ?_
          replace h := nm_at ex30 h
          clear ex30
          refine a_goto (tgt := 2) (pc := 123) F dX8_tireAll_123 (by decide) ?_
          refine a_lv F [1, 0] rfl ?_
          exact hP1 _ (Option.some.inj h).symm
      · replace h := ite_f q23 h
        clear q23
        refine a_iconst (v := 0) (pc := 101) F dX8_tireAll_101 (by decide) ?_
        refine a_goto (tgt := 119) (pc := 102) F dX8_tireAll_102 (by decide) ?_
        replace h := gIn_some h
        obtain ⟨g31, h⟩ := h
        refine a_ias (k := 163) (pc := 119) F dX8_tireAll_119 kl_163 ks_163 g31 ?_
        refine a_nmm fun m32 em32 => ?_
        replace h := nm_at em32 h
        clear em32
        obtain ⟨x33, ex33⟩ : ∃ x33 : Int32, x33 = x2 + 1 := ⟨_, rfl⟩
        refine a_iinc (v := x33) (lv' := [(1, .int x33), (0, .ref (ga X.G 162)), (3, .int x21)]) (pc := 120) F dX8_tireAll_120 1 rfl (by rw [ex33]; rfl) (by decide) rfl ?_
        replace h := nm_at ex33 h
        clear ex33
        refine a_goto (tgt := 2) (pc := 123) F dX8_tireAll_123 (by decide) ?_
        refine a_lv F [1, 0] rfl ?_
        exact hP1 _ (Option.some.inj h).symm
    clear h
    have h := hR9
    clear hR9
    refine a_icmp_ne (tgt := 46) (pc := 31) F dX8_tireAll_31 (by decide) (fun q10 => ?_) (fun q10 => ?_)
    · replace h := ite_f q10 h
      clear q10
      refine a_iload_n (pc := 46) F dX8_tireAll_46 0 rfl ?_
      refine a_aload_n (pc := 47) F dX8_tireAll_47 2 rfl ?_
      refine a_getr (k := 162) (r := 163) (pc := 48) F dX8_tireAll_48 fl_RX8_7 kl_162 ks_162 rfl ?_
      refine a_iconst (v := 0) (pc := 51) F dX8_tireAll_51 (by decide) ?_
      refine a_ialc (k := 163) (pc := 52) F dX8_tireAll_52 kl_163 ks_163 rfl rfl ?_
      refine a_aload_n (pc := 53) F dX8_tireAll_53 2 rfl ?_
      refine a_iload_n (pc := 54) F dX8_tireAll_54 1 rfl ?_
      refine a_iconst (v := 5) (pc := 55) F dX8_tireAll_55 (by decide) ?_
      replace h := bnd_some h
      obtain ⟨x12, hc11, h⟩ := h
      refine a_callV (pc := 56) (k := 162) (As := [.int x6, .int 5]) (st := [.int (m3.1 163 0), .int x8]) F dX8_tireAll_56 (m_X8_of hc11) cv_RX8_42 kl_162 ks_162 ⟨_, _, rfl⟩ rfl rfl rfl (Nat.le_of_ble_eq_true rfl) ⟨Nat.le_of_ble_eq_true rfl, Nat.le_of_ble_eq_true rfl⟩ ?_ rfl rfl
      clear hc11
      refine a_iconst (v := 1) (pc := 59) F dX8_tireAll_59 (by decide) ?_
      replace h := bnd_some h
      obtain ⟨x15, hR13, h⟩ := h
      have hJ13 : WA X 0 0 73 [(0, .ref (ga X.G 162)), (1, .int x2)] [.int x15, .int (m3.1 163 0), .int x8] m3 (EQ X none mm) := by
        refine a_iadd (pc := 73) F dX8_tireAll_73 ?_
        refine a_iadd (pc := 74) F dX8_tireAll_74 ?_
        refine a_nmi fun x16 ex16 => ?_
        replace h := nm_at ex16 h
        clear ex16
        refine a_istore_n (lv' := [(3, .int x16), (0, .ref (ga X.G 162)), (1, .int x2)]) (pc := 75) F dX8_tireAll_75 (by decide) rfl ?_
        refine a_aload_n (pc := 76) F dX8_tireAll_76 1 rfl ?_
        refine a_getr (k := 162) (r := 163) (pc := 77) F dX8_tireAll_77 fl_RX8_7 kl_162 ks_162 rfl ?_
        refine a_bipush (v := 63) (pc := 80) F dX8_tireAll_80 (by decide) ?_
        refine a_iload_n (pc := 82) F dX8_tireAll_82 2 rfl ?_
        refine a_iadd (pc := 83) F dX8_tireAll_83 ?_
        refine a_dup2 (pc := 84) F dX8_tireAll_84 rfl rfl ?_
        replace h := gIn_some h
        obtain ⟨g17, h⟩ := h
        refine a_ial (k := 163) (pc := 85) F dX8_tireAll_85 kl_163 ks_163 g17 ?_
        refine a_nmi fun x18 ex18 => ?_
        replace h := nm_at ex18 h
        clear ex18
        refine a_iconst (v := 1) (pc := 86) F dX8_tireAll_86 (by decide) ?_
        refine a_iadd (pc := 87) F dX8_tireAll_87 ?_
        replace h := gIn_some h
        obtain ⟨g19, h⟩ := h
        refine a_ias (k := 163) (pc := 88) F dX8_tireAll_88 kl_163 ks_163 g19 ?_
        refine a_nmm fun m20 em20 => ?_
        replace h := nm_at em20 h
        clear em20
        refine a_lv F [1, 2, 0] rfl ?_
        cases h
        exact hJ9
      clear h
      have h := hR13
      clear hR13
      refine a_icmp_le (tgt := 72) (pc := 60) F dX8_tireAll_60 (by decide) (fun q14 => ?_) (fun q14 => ?_)
      · replace h := ite_t q14 h
        clear q14
        refine a_iconst (v := 0) (pc := 72) F dX8_tireAll_72 (by decide) ?_
        refine a_lv F [2, 3] rfl ?_
        cases h
        exact hJ13
      · replace h := ite_f q14 h
        clear q14
        refine a_aload_n (pc := 63) F dX8_tireAll_63 2 rfl ?_
        refine a_getr (k := 162) (r := 163) (pc := 64) F dX8_tireAll_64 fl_RX8_7 kl_162 ks_162 rfl ?_
        refine a_iconst (v := 1) (pc := 67) F dX8_tireAll_67 (by decide) ?_
        refine a_ialc (k := 163) (pc := 68) F dX8_tireAll_68 kl_163 ks_163 rfl rfl ?_
        refine a_goto (tgt := 73) (pc := 69) F dX8_tireAll_69 (by decide) ?_
        refine a_lv F [2, 3] rfl ?_
        cases h
        exact hJ13
    · replace h := ite_t (Decidable.not_not.mp q10) h
      clear q10
      refine a_iload_n (pc := 34) F dX8_tireAll_34 0 rfl ?_
      refine a_aload_n (pc := 35) F dX8_tireAll_35 2 rfl ?_
      refine a_getr (k := 162) (r := 163) (pc := 36) F dX8_tireAll_36 fl_RX8_7 kl_162 ks_162 rfl ?_
      refine a_iconst (v := 2) (pc := 39) F dX8_tireAll_39 (by decide) ?_
      refine a_ialc (k := 163) (pc := 40) F dX8_tireAll_40 kl_163 ks_163 rfl rfl ?_
      refine a_isub (pc := 41) F dX8_tireAll_41 ?_
      refine a_istore_n (lv' := [(3, .int (x8 - (m3.1 163 2))), (2, .int x6), (0, .ref (ga X.G 162)), (1, .int x2)]) (pc := 42) F dX8_tireAll_42 (by decide) rfl ?_
      refine a_goto (tgt := 89) (pc := 43) F dX8_tireAll_43 (by decide) ?_
      refine a_lv F [2, 3, 0] rfl ?_
      cases h
      exact hJ9
def f_X8_isTooTired_L4 (p1 : Int32) (m0 : Mem) : (Int32 × Int32) → Option ((Int32 × Int32) ⊕ Int32)
  | (x2, x3) => bnd (f_X8_of p1 5 m0) fun x5 => (if x5 ≤ x3 then some (.inr x2) else (if x2 = 0 then bnd (f_X8_of p1 (6 + x3) m0) fun x10 => gIn (43 + x10) 373 <| nm (m0.1 163 (43 + x10).toNatClampNeg) fun x12 => (if x12 ≤ (m0.1 163 3) then nm (x3 + 1) fun x14 => some (.inl (0, x14)) else nm (x3 + 1) fun x15 => some (.inl (1, x15))) else nm (x3 + 1) fun x8 => some (.inl (1, x8))))
def f_X8_isTooTired (p1 : Int32) (m0 : Mem) : Option Int32 :=
  bnd (lp (f_X8_isTooTired_L4 p1 m0) 1000000 (0, 0)) (fun x16 => gBo x16 <| some x16)
set_option maxRecDepth 100000 in
set_option maxHeartbeats 4000000 in
theorem m_X8_isTooTired {p1 : Int32} {m0 : Mem} {rr : Int32} (h : f_X8_isTooTired p1 m0 = some rr) : Con yX8_isTooTired cX8_isTooTired 4 (some Jvm.ClassFile.FieldType.boolean) 1 22 (fun G => [.ref (ga G 162), .int p1]) m0 (some (.int rr)) m0 := by
  refine con_of (by decide) (fun G => Nat.le_of_ble_eq_true rfl) (fun X F => ?_)
  show WA X 0 0 0 [(0, .ref (ga X.G 162)), (1, .int p1)] [] m0 (EQ X (some (.int rr)) m0)
  rw [f_X8_isTooTired] at h
  refine a_iconst (v := 0) (pc := 0) F dX8_isTooTired_0 (by decide) ?_
  refine a_istore_n (lv' := [(2, .int 0), (0, .ref (ga X.G 162)), (1, .int p1)]) (pc := 1) F dX8_isTooTired_1 (by decide) rfl ?_
  refine a_iconst (v := 0) (pc := 2) F dX8_isTooTired_2 (by decide) ?_
  refine a_istore_n (lv' := [(3, .int 0), (2, .int 0), (0, .ref (ga X.G 162)), (1, .int p1)]) (pc := 3) F dX8_isTooTired_3 (by decide) rfl ?_
  refine a_lv F [2, 3, 1, 0] rfl ?_
  replace h := bnd_some h
  obtain ⟨x16, hL1, h⟩ := h
  have hE1 : WA X 0 0 56 [(2, .int x16)] [] m0 (EQ X (some (.int rr)) m0) := by
    refine a_iload_n (pc := 56) F dX8_isTooTired_56 0 rfl ?_
    replace h := gBo_some h
    obtain ⟨g17, h⟩ := h
    cases h
    exact a_iret (pc := 57) F dX8_isTooTired_57 ⟨_, rfl, narrow_bo g17⟩
  clear h
  refine lp_run (P := fun (s : (Int32 × Int32)) => WA X 0 0 4 [(0, .ref (ga X.G 162)), (1, .int p1), (2, .int s.1), (3, .int s.2)] [] m0 (EQ X (some (.int rr)) m0)) ?_ _ _ hL1
  clear hL1
  rintro ⟨x2, x3⟩ xo h hP1 hT1
  show WA X 0 0 4 [(0, .ref (ga X.G 162)), (1, .int p1), (2, .int x2), (3, .int x3)] [] m0 (EQ X (some (.int rr)) m0)
  rw [f_X8_isTooTired_L4] at h
  refine a_iload_n (pc := 4) F dX8_isTooTired_4 3 rfl ?_
  refine a_aload_n (pc := 5) F dX8_isTooTired_5 0 rfl ?_
  refine a_iload_n (pc := 6) F dX8_isTooTired_6 1 rfl ?_
  refine a_iconst (v := 5) (pc := 7) F dX8_isTooTired_7 (by decide) ?_
  replace h := bnd_some h
  obtain ⟨x5, hc4, h⟩ := h
  refine a_callV (pc := 8) (k := 162) (As := [.int p1, .int 5]) (st := [.int x3]) F dX8_isTooTired_8 (m_X8_of hc4) cv_RX8_42 kl_162 ks_162 ⟨_, _, rfl⟩ rfl rfl rfl (Nat.le_of_ble_eq_true rfl) ⟨Nat.le_of_ble_eq_true rfl, Nat.le_of_ble_eq_true rfl⟩ ?_ rfl rfl
  clear hc4
  refine a_icmp_ge (tgt := 56) (pc := 11) F dX8_isTooTired_11 (by decide) (fun q6 => ?_) (fun q6 => ?_)
  · replace h := ite_t q6 h
    clear q6
    refine a_lv F [2] rfl ?_
    cases hT1 _ (Option.some.inj h).symm
    exact hE1
  · replace h := ite_f q6 h
    clear q6
    refine a_iload_n (pc := 14) F dX8_isTooTired_14 2 rfl ?_
    refine a_if_ne (tgt := 44) (pc := 15) F dX8_isTooTired_15 (by decide) (fun q7 => ?_) (fun q7 => ?_)
    · replace h := ite_f q7 h
      clear q7
      refine a_iconst (v := 1) (pc := 44) F dX8_isTooTired_44 (by decide) ?_
      refine a_goto (tgt := 49) (pc := 45) F dX8_isTooTired_45 (by decide) ?_
      refine a_istore_n (lv' := [(2, .int 1), (0, .ref (ga X.G 162)), (1, .int p1), (3, .int x3)]) (pc := 49) F dX8_isTooTired_49 (by decide) rfl ?_
      obtain ⟨x8, ex8⟩ : ∃ x8 : Int32, x8 = x3 + 1 := ⟨_, rfl⟩
      refine a_iinc (v := x8) (lv' := [(3, .int x8), (2, .int 1), (0, .ref (ga X.G 162)), (1, .int p1)]) (pc := 50) F dX8_isTooTired_50 3 rfl (by rw [ex8]; rfl) (by decide) rfl ?_
      replace h := nm_at ex8 h
      clear ex8
      refine a_goto (tgt := 4) (pc := 53) F dX8_isTooTired_53 (by decide) ?_
      refine a_lv F [2, 3, 1, 0] rfl ?_
      exact hP1 _ (Option.some.inj h).symm
    · replace h := ite_t (Decidable.not_not.mp q7) h
      clear q7
      refine a_aload_n (pc := 18) F dX8_isTooTired_18 0 rfl ?_
      refine a_getr (k := 162) (r := 163) (pc := 19) F dX8_isTooTired_19 fl_RX8_7 kl_162 ks_162 rfl ?_
      refine a_bipush (v := 43) (pc := 22) F dX8_isTooTired_22 (by decide) ?_
      refine a_aload_n (pc := 24) F dX8_isTooTired_24 0 rfl ?_
      refine a_iload_n (pc := 25) F dX8_isTooTired_25 1 rfl ?_
      refine a_bipush (v := 6) (pc := 26) F dX8_isTooTired_26 (by decide) ?_
      refine a_iload_n (pc := 28) F dX8_isTooTired_28 3 rfl ?_
      refine a_iadd (pc := 29) F dX8_isTooTired_29 ?_
      replace h := bnd_some h
      obtain ⟨x10, hc9, h⟩ := h
      refine a_callV (pc := 30) (k := 162) (As := [.int p1, .int (6 + x3)]) (st := [.int 43, .ref (ga X.G 163)]) F dX8_isTooTired_30 (m_X8_of hc9) cv_RX8_42 kl_162 ks_162 ⟨_, _, rfl⟩ rfl rfl rfl (Nat.le_of_ble_eq_true rfl) ⟨Nat.le_of_ble_eq_true rfl, Nat.le_of_ble_eq_true rfl⟩ ?_ rfl rfl
      clear hc9
      refine a_iadd (pc := 33) F dX8_isTooTired_33 ?_
      replace h := gIn_some h
      obtain ⟨g11, h⟩ := h
      refine a_ial (k := 163) (pc := 34) F dX8_isTooTired_34 kl_163 ks_163 g11 ?_
      refine a_nmi fun x12 ex12 => ?_
      replace h := nm_at ex12 h
      clear ex12
      refine a_aload_n (pc := 35) F dX8_isTooTired_35 0 rfl ?_
      refine a_getr (k := 162) (r := 163) (pc := 36) F dX8_isTooTired_36 fl_RX8_7 kl_162 ks_162 rfl ?_
      refine a_iconst (v := 3) (pc := 39) F dX8_isTooTired_39 (by decide) ?_
      refine a_ialc (k := 163) (pc := 40) F dX8_isTooTired_40 kl_163 ks_163 rfl rfl ?_
      refine a_icmp_le (tgt := 48) (pc := 41) F dX8_isTooTired_41 (by decide) (fun q13 => ?_) (fun q13 => ?_)
      · replace h := ite_t q13 h
        clear q13
        refine a_iconst (v := 0) (pc := 48) F dX8_isTooTired_48 (by decide) ?_
        refine a_istore_n (lv' := [(2, .int 0), (0, .ref (ga X.G 162)), (1, .int p1), (3, .int x3)]) (pc := 49) F dX8_isTooTired_49 (by decide) rfl ?_
        obtain ⟨x14, ex14⟩ : ∃ x14 : Int32, x14 = x3 + 1 := ⟨_, rfl⟩
        refine a_iinc (v := x14) (lv' := [(3, .int x14), (2, .int 0), (0, .ref (ga X.G 162)), (1, .int p1)]) (pc := 50) F dX8_isTooTired_50 3 rfl (by rw [ex14]; rfl) (by decide) rfl ?_
        replace h := nm_at ex14 h
        clear ex14
        refine a_goto (tgt := 4) (pc := 53) F dX8_isTooTired_53 (by decide) ?_
        refine a_lv F [2, 3, 1, 0] rfl ?_
        exact hP1 _ (Option.some.inj h).symm
      · replace h := ite_f q13 h
        clear q13
        refine a_iconst (v := 1) (pc := 44) F dX8_isTooTired_44 (by decide) ?_
        refine a_goto (tgt := 49) (pc := 45) F dX8_isTooTired_45 (by decide) ?_
        refine a_istore_n (lv' := [(2, .int 1), (0, .ref (ga X.G 162)), (1, .int p1), (3, .int x3)]) (pc := 49) F dX8_isTooTired_49 (by decide) rfl ?_
        obtain ⟨x15, ex15⟩ : ∃ x15 : Int32, x15 = x3 + 1 := ⟨_, rfl⟩
        refine a_iinc (v := x15) (lv' := [(3, .int x15), (2, .int 1), (0, .ref (ga X.G 162)), (1, .int p1)]) (pc := 50) F dX8_isTooTired_50 3 rfl (by rw [ex15]; rfl) (by decide) rfl ?_
        replace h := nm_at ex15 h
        clear ex15
        refine a_goto (tgt := 4) (pc := 53) F dX8_isTooTired_53 (by decide) ?_
        refine a_lv F [2, 3, 1, 0] rfl ?_
        exact hP1 _ (Option.some.inj h).symm
def f_X8_adjourn (p1 : Int32) (m0 : Mem) : Option Mem :=
  bnd2 (f_X8_pay p1 1 m0) fun x2 m3 => nm (si m3 163 12 ((m0.1 163 12) + x2)) fun m4 => bnd (f_X8_put p1 4 2 m4) fun m6 => some m6
set_option maxRecDepth 100000 in
set_option maxHeartbeats 4000000 in
theorem m_X8_adjourn {p1 : Int32} {m0 : Mem} {mm : Mem} (h : f_X8_adjourn p1 m0 = some mm) : Con yX8_adjourn cX8_adjourn 2 none 4 97 (fun G => [.ref (ga G 162), .int p1]) m0 none mm := by
  refine con_of (by decide) (fun G => Nat.le_of_ble_eq_true rfl) (fun X F => ?_)
  show WA X 0 0 0 [(0, .ref (ga X.G 162)), (1, .int p1)] [] m0 (EQ X none mm)
  rw [f_X8_adjourn] at h
  refine a_aload_n (pc := 0) F dX8_adjourn_0 0 rfl ?_
  refine a_getr (k := 162) (r := 163) (pc := 1) F dX8_adjourn_1 fl_RX8_7 kl_162 ks_162 rfl ?_
  refine a_bipush (v := 12) (pc := 4) F dX8_adjourn_4 (by decide) ?_
  refine a_dup2 (pc := 6) F dX8_adjourn_6 rfl rfl ?_
  refine a_ialc (k := 163) (pc := 7) F dX8_adjourn_7 kl_163 ks_163 rfl rfl ?_
  refine a_aload_n (pc := 8) F dX8_adjourn_8 0 rfl ?_
  refine a_iload_n (pc := 9) F dX8_adjourn_9 1 rfl ?_
  refine a_iconst (v := 1) (pc := 10) F dX8_adjourn_10 (by decide) ?_
  replace h := bnd2_some h
  obtain ⟨x2, m3, hc1, h⟩ := h
  refine a_callV (pc := 11) (k := 162) (As := [.int p1, .int 1]) (st := [.int (m0.1 163 12), .int 12, .ref (ga X.G 163)]) F dX8_adjourn_11 (m_X8_pay hc1) cv_RX8_131 kl_162 ks_162 ⟨_, _, rfl⟩ rfl rfl rfl (Nat.le_of_ble_eq_true rfl) ⟨Nat.le_of_ble_eq_true rfl, Nat.le_of_ble_eq_true rfl⟩ ?_ rfl rfl
  clear hc1
  refine a_iadd (pc := 14) F dX8_adjourn_14 ?_
  refine a_iasc (k := 163) (pc := 15) F dX8_adjourn_15 kl_163 ks_163 rfl rfl ?_
  refine a_nmm fun m4 em4 => ?_
  replace h := nm_at em4 h
  clear em4
  refine a_aload_n (pc := 16) F dX8_adjourn_16 0 rfl ?_
  refine a_iload_n (pc := 17) F dX8_adjourn_17 1 rfl ?_
  refine a_iconst (v := 4) (pc := 18) F dX8_adjourn_18 (by decide) ?_
  refine a_iconst (v := 2) (pc := 19) F dX8_adjourn_19 (by decide) ?_
  replace h := bnd_some h
  obtain ⟨m6, hc5, h⟩ := h
  refine a_callV (pc := 20) (k := 162) (As := [.int p1, .int 4, .int 2]) (st := []) F dX8_adjourn_20 (m_X8_put hc5) cv_RX8_74 kl_162 ks_162 ⟨_, _, rfl⟩ rfl rfl rfl (Nat.le_of_ble_eq_true rfl) ⟨Nat.le_of_ble_eq_true rfl, Nat.le_of_ble_eq_true rfl⟩ ?_ rfl rfl
  clear hc5
  cases h
  exact a_vret (pc := 23) F dX8_adjourn_23 rfl
def f_X8_minute_L95 : (Int32 × Mem) → Option ((Int32 × Mem) ⊕ Mem)
  | (x33, m34) => (if (m34.1 163 8) ≤ x33 then some (.inr m34) else bnd (f_X8_isListed x33 m34) fun x37 => (if x37 = 0 then nm (x33 + 1) fun x39 => some (.inl (x39, m34)) else bnd (f_X8_of x33 2 m34) fun x41 => (if x41 = (m34.1 163 9) then bnd (f_X8_isTooTired x33 m34) fun x45 => (if x45 = 0 then nm (x33 + 1) fun x47 => some (.inl (x47, m34)) else bnd (f_X8_adjourn x33 m34) fun m49 => nm (x33 + 1) fun x50 => some (.inl (x50, m49))) else nm (x33 + 1) fun x43 => some (.inl (x43, m34)))))
def f_X8_minute_L19 : (Int32 × Int32 × Mem) → Option ((Int32 × Int32 × Mem) ⊕ (Int32 × Mem))
  | (x5, x6, m7) => (if (m7.1 163 8) ≤ x6 then some (.inr (x5, m7)) else bnd (f_X8_isListed x6 m7) fun x10 => (if x10 = 0 then nm (x6 + 1) fun x12 => some (.inl (x5, x12, m7)) else bnd (f_X8_endOf x6 m7) fun x14 => (if x14 = (m7.1 163 9) then bnd (f_X8_of x6 5 m7) fun x18 => (if x18 ≤ 0 then bnd (f_X8_adjourn x6 m7) fun m21 => nm (x6 + 1) fun x22 => some (.inl (x5, x22, m21)) else bnd2 (f_X8_pay x6 2 m7) fun x24 m25 => bnd (f_X8_put x6 4 1 m25) fun m27 => nm (x5 + 1) fun x28 => nm (x6 + 1) fun x29 => some (.inl (x28, x29, m27))) else nm (x6 + 1) fun x16 => some (.inl (x5, x16, m7)))))
def f_X8_minute (m0 : Mem) : Option (Int32 × Mem) :=
  bnd (f_X8_tireAll m0) fun m2 => nm (si m2 163 9 ((m2.1 163 9) + 1)) fun m3 => bnd (lp (f_X8_minute_L19) 1000000 (0, 0, m3)) (fun (x30, m31) => bnd (lp (f_X8_minute_L95) 1000000 (0, m31)) (fun m51 => some (x30, m51)))
set_option maxRecDepth 100000 in
set_option maxHeartbeats 4000000 in
theorem m_X8_minute {m0 : Mem} {rr : Int32} {mm : Mem} (h : f_X8_minute m0 = some (rr, mm)) : Con yX8_minute cX8_minute 4 (some Jvm.ClassFile.FieldType.int) 5 118 (fun G => [.ref (ga G 162)]) m0 (some (.int rr)) mm := by
  refine con_of (by decide) (fun G => Nat.le_of_ble_eq_true rfl) (fun X F => ?_)
  show WA X 0 0 0 [(0, .ref (ga X.G 162))] [] m0 (EQ X (some (.int rr)) mm)
  rw [f_X8_minute] at h
  refine a_aload_n (pc := 0) F dX8_minute_0 0 rfl ?_
  replace h := bnd_some h
  obtain ⟨m2, hc1, h⟩ := h
  refine a_callV (pc := 1) (k := 162) (As := []) (st := []) F dX8_minute_1 (m_X8_tireAll hc1) cv_RX8_137 kl_162 ks_162 ⟨_, _, rfl⟩ rfl rfl rfl (Nat.le_of_ble_eq_true rfl) ⟨Nat.le_of_ble_eq_true rfl, Nat.le_of_ble_eq_true rfl⟩ ?_ rfl rfl
  clear hc1
  refine a_aload_n (pc := 4) F dX8_minute_4 0 rfl ?_
  refine a_getr (k := 162) (r := 163) (pc := 5) F dX8_minute_5 fl_RX8_7 kl_162 ks_162 rfl ?_
  refine a_bipush (v := 9) (pc := 8) F dX8_minute_8 (by decide) ?_
  refine a_dup2 (pc := 10) F dX8_minute_10 rfl rfl ?_
  refine a_ialc (k := 163) (pc := 11) F dX8_minute_11 kl_163 ks_163 rfl rfl ?_
  refine a_iconst (v := 1) (pc := 12) F dX8_minute_12 (by decide) ?_
  refine a_iadd (pc := 13) F dX8_minute_13 ?_
  refine a_iasc (k := 163) (pc := 14) F dX8_minute_14 kl_163 ks_163 rfl rfl ?_
  refine a_nmm fun m3 em3 => ?_
  replace h := nm_at em3 h
  clear em3
  refine a_iconst (v := 0) (pc := 15) F dX8_minute_15 (by decide) ?_
  refine a_istore_n (lv' := [(1, .int 0), (0, .ref (ga X.G 162))]) (pc := 16) F dX8_minute_16 (by decide) rfl ?_
  refine a_iconst (v := 0) (pc := 17) F dX8_minute_17 (by decide) ?_
  refine a_istore_n (lv' := [(2, .int 0), (1, .int 0), (0, .ref (ga X.G 162))]) (pc := 18) F dX8_minute_18 (by decide) rfl ?_
  refine a_lv F [2, 1, 0] rfl ?_
  replace h := bnd_some h
  obtain ⟨⟨x30, m31⟩, hL4, h⟩ := h
  have hE4 : WA X 0 0 93 [(0, .ref (ga X.G 162)), (1, .int x30)] [] m31 (EQ X (some (.int rr)) mm) := by
    refine a_iconst (v := 0) (pc := 93) F dX8_minute_93 (by decide) ?_
    refine a_istore_n (lv' := [(2, .int 0), (0, .ref (ga X.G 162)), (1, .int x30)]) (pc := 94) F dX8_minute_94 (by decide) rfl ?_
    refine a_lv F [1, 2, 0] rfl ?_
    replace h := bnd_some h
    obtain ⟨m51, hL32, h⟩ := h
    have hE32 : WA X 0 0 149 [(1, .int x30)] [] m51 (EQ X (some (.int rr)) mm) := by
      refine a_iload_n (pc := 149) F dX8_minute_149 0 rfl ?_
      cases h
      exact a_iret (pc := 150) F dX8_minute_150 ⟨_, rfl, rfl⟩
    clear h
    refine lp_run (P := fun (s : (Int32 × Mem)) => WA X 0 0 95 [(0, .ref (ga X.G 162)), (1, .int x30), (2, .int s.1)] [] s.2 (EQ X (some (.int rr)) mm)) ?_ _ _ hL32
    clear hL32
    rintro ⟨x33, m34⟩ xo h hP32 hT32
    show WA X 0 0 95 [(0, .ref (ga X.G 162)), (1, .int x30), (2, .int x33)] [] m34 (EQ X (some (.int rr)) mm)
    rw [f_X8_minute_L95] at h
    refine a_iload_n (pc := 95) F dX8_minute_95 2 rfl ?_
    refine a_aload_n (pc := 96) F dX8_minute_96 0 rfl ?_
    refine a_getr (k := 162) (r := 163) (pc := 97) F dX8_minute_97 fl_RX8_7 kl_162 ks_162 rfl ?_
    refine a_bipush (v := 8) (pc := 100) F dX8_minute_100 (by decide) ?_
    refine a_ialc (k := 163) (pc := 102) F dX8_minute_102 kl_163 ks_163 rfl rfl ?_
    refine a_icmp_ge (tgt := 149) (pc := 103) F dX8_minute_103 (by decide) (fun q35 => ?_) (fun q35 => ?_)
    · replace h := ite_t q35 h
      clear q35
      refine a_lv F [1] rfl ?_
      cases hT32 _ (Option.some.inj h).symm
      exact hE32
    · replace h := ite_f q35 h
      clear q35
      refine a_aload_n (pc := 106) F dX8_minute_106 0 rfl ?_
      refine a_iload_n (pc := 107) F dX8_minute_107 2 rfl ?_
      replace h := bnd_some h
      obtain ⟨x37, hc36, h⟩ := h
      refine a_callV (pc := 108) (k := 162) (As := [.int x33]) (st := []) F dX8_minute_108 (m_X8_isListed hc36) cv_RX8_50 kl_162 ks_162 ⟨_, _, rfl⟩ rfl rfl rfl (Nat.le_of_ble_eq_true rfl) ⟨Nat.le_of_ble_eq_true rfl, Nat.le_of_ble_eq_true rfl⟩ ?_ rfl rfl
      clear hc36
      refine a_if_eq (tgt := 143) (pc := 111) F dX8_minute_111 (by decide) (fun q38 => ?_) (fun q38 => ?_)
      · replace h := ite_t q38 h
        clear q38
        obtain ⟨x39, ex39⟩ : ∃ x39 : Int32, x39 = x33 + 1 := ⟨_, rfl⟩
        refine a_iinc (v := x39) (lv' := [(2, .int x39), (0, .ref (ga X.G 162)), (1, .int x30)]) (pc := 143) F dX8_minute_143 2 rfl (by rw [ex39]; rfl) (by decide) rfl ?_
        replace h := nm_at ex39 h
        clear ex39
        refine a_goto (tgt := 95) (pc := 146) F dX8_minute_146 (by decide) ?_
        refine a_lv F [1, 2, 0] rfl ?_
        exact hP32 _ (Option.some.inj h).symm
      · replace h := ite_f q38 h
        clear q38
        refine a_aload_n (pc := 114) F dX8_minute_114 0 rfl ?_
        refine a_iload_n (pc := 115) F dX8_minute_115 2 rfl ?_
        refine a_iconst (v := 2) (pc := 116) F dX8_minute_116 (by decide) ?_
        replace h := bnd_some h
        obtain ⟨x41, hc40, h⟩ := h
        refine a_callV (pc := 117) (k := 162) (As := [.int x33, .int 2]) (st := []) F dX8_minute_117 (m_X8_of hc40) cv_RX8_42 kl_162 ks_162 ⟨_, _, rfl⟩ rfl rfl rfl (Nat.le_of_ble_eq_true rfl) ⟨Nat.le_of_ble_eq_true rfl, Nat.le_of_ble_eq_true rfl⟩ ?_ rfl rfl
        clear hc40
        refine a_aload_n (pc := 120) F dX8_minute_120 0 rfl ?_
        refine a_getr (k := 162) (r := 163) (pc := 121) F dX8_minute_121 fl_RX8_7 kl_162 ks_162 rfl ?_
        refine a_bipush (v := 9) (pc := 124) F dX8_minute_124 (by decide) ?_
        refine a_ialc (k := 163) (pc := 126) F dX8_minute_126 kl_163 ks_163 rfl rfl ?_
        refine a_icmp_ne (tgt := 143) (pc := 127) F dX8_minute_127 (by decide) (fun q42 => ?_) (fun q42 => ?_)
        · replace h := ite_f q42 h
          clear q42
          obtain ⟨x43, ex43⟩ : ∃ x43 : Int32, x43 = x33 + 1 := ⟨_, rfl⟩
          refine a_iinc (v := x43) (lv' := [(2, .int x43), (0, .ref (ga X.G 162)), (1, .int x30)]) (pc := 143) F dX8_minute_143 2 rfl (by rw [ex43]; rfl) (by decide) rfl ?_
          replace h := nm_at ex43 h
          clear ex43
          refine a_goto (tgt := 95) (pc := 146) F dX8_minute_146 (by decide) ?_
          refine a_lv F [1, 2, 0] rfl ?_
          exact hP32 _ (Option.some.inj h).symm
        · replace h := ite_t (Decidable.not_not.mp q42) h
          clear q42
          refine a_aload_n (pc := 130) F dX8_minute_130 0 rfl ?_
          refine a_iload_n (pc := 131) F dX8_minute_131 2 rfl ?_
          replace h := bnd_some h
          obtain ⟨x45, hc44, h⟩ := h
          refine a_callV (pc := 132) (k := 162) (As := [.int x33]) (st := []) F dX8_minute_132 (m_X8_isTooTired hc44) cv_RX8_143 kl_162 ks_162 ⟨_, _, rfl⟩ rfl rfl rfl (Nat.le_of_ble_eq_true rfl) ⟨Nat.le_of_ble_eq_true rfl, Nat.le_of_ble_eq_true rfl⟩ ?_ rfl rfl
          clear hc44
          refine a_if_eq (tgt := 143) (pc := 135) F dX8_minute_135 (by decide) (fun q46 => ?_) (fun q46 => ?_)
          · replace h := ite_t q46 h
            clear q46
            obtain ⟨x47, ex47⟩ : ∃ x47 : Int32, x47 = x33 + 1 := ⟨_, rfl⟩
            refine a_iinc (v := x47) (lv' := [(2, .int x47), (0, .ref (ga X.G 162)), (1, .int x30)]) (pc := 143) F dX8_minute_143 2 rfl (by rw [ex47]; rfl) (by decide) rfl ?_
            replace h := nm_at ex47 h
            clear ex47
            refine a_goto (tgt := 95) (pc := 146) F dX8_minute_146 (by decide) ?_
            refine a_lv F [1, 2, 0] rfl ?_
            exact hP32 _ (Option.some.inj h).symm
          · replace h := ite_f q46 h
            clear q46
            refine a_aload_n (pc := 138) F dX8_minute_138 0 rfl ?_
            refine a_iload_n (pc := 139) F dX8_minute_139 2 rfl ?_
            replace h := bnd_some h
            obtain ⟨m49, hc48, h⟩ := h
            refine a_callV (pc := 140) (k := 162) (As := [.int x33]) (st := []) F dX8_minute_140 (m_X8_adjourn hc48) cv_RX8_140 kl_162 ks_162 ⟨_, _, rfl⟩ rfl rfl rfl (Nat.le_of_ble_eq_true rfl) ⟨Nat.le_of_ble_eq_true rfl, Nat.le_of_ble_eq_true rfl⟩ ?_ rfl rfl
            clear hc48
            obtain ⟨x50, ex50⟩ : ∃ x50 : Int32, x50 = x33 + 1 := ⟨_, rfl⟩
            refine a_iinc (v := x50) (lv' := [(2, .int x50), (0, .ref (ga X.G 162)), (1, .int x30)]) (pc := 143) F dX8_minute_143 2 rfl (by rw [ex50]; rfl) (by decide) rfl ?_
            replace h := nm_at ex50 h
            clear ex50
            refine a_goto (tgt := 95) (pc := 146) F dX8_minute_146 (by decide) ?_
            refine a_lv F [1, 2, 0] rfl ?_
            exact hP32 _ (Option.some.inj h).symm
  clear h
  refine lp_run (P := fun (s : (Int32 × Int32 × Mem)) => WA X 0 0 19 [(0, .ref (ga X.G 162)), (1, .int s.1), (2, .int s.2.1)] [] s.2.2 (EQ X (some (.int rr)) mm)) ?_ _ _ hL4
  clear hL4
  rintro ⟨x5, x6, m7⟩ xo h hP4 hT4
  show WA X 0 0 19 [(0, .ref (ga X.G 162)), (1, .int x5), (2, .int x6)] [] m7 (EQ X (some (.int rr)) mm)
  rw [f_X8_minute_L19] at h
  refine a_iload_n (pc := 19) F dX8_minute_19 2 rfl ?_
  refine a_aload_n (pc := 20) F dX8_minute_20 0 rfl ?_
  refine a_getr (k := 162) (r := 163) (pc := 21) F dX8_minute_21 fl_RX8_7 kl_162 ks_162 rfl ?_
  refine a_bipush (v := 8) (pc := 24) F dX8_minute_24 (by decide) ?_
  refine a_ialc (k := 163) (pc := 26) F dX8_minute_26 kl_163 ks_163 rfl rfl ?_
  refine a_icmp_ge (tgt := 93) (pc := 27) F dX8_minute_27 (by decide) (fun q8 => ?_) (fun q8 => ?_)
  · replace h := ite_t q8 h
    clear q8
    refine a_lv F [0, 1] rfl ?_
    cases hT4 _ (Option.some.inj h).symm
    exact hE4
  · replace h := ite_f q8 h
    clear q8
    refine a_aload_n (pc := 30) F dX8_minute_30 0 rfl ?_
    refine a_iload_n (pc := 31) F dX8_minute_31 2 rfl ?_
    replace h := bnd_some h
    obtain ⟨x10, hc9, h⟩ := h
    refine a_callV (pc := 32) (k := 162) (As := [.int x6]) (st := []) F dX8_minute_32 (m_X8_isListed hc9) cv_RX8_50 kl_162 ks_162 ⟨_, _, rfl⟩ rfl rfl rfl (Nat.le_of_ble_eq_true rfl) ⟨Nat.le_of_ble_eq_true rfl, Nat.le_of_ble_eq_true rfl⟩ ?_ rfl rfl
    clear hc9
    refine a_if_eq (tgt := 87) (pc := 35) F dX8_minute_35 (by decide) (fun q11 => ?_) (fun q11 => ?_)
    · replace h := ite_t q11 h
      clear q11
      obtain ⟨x12, ex12⟩ : ∃ x12 : Int32, x12 = x6 + 1 := ⟨_, rfl⟩
      refine a_iinc (v := x12) (lv' := [(2, .int x12), (0, .ref (ga X.G 162)), (1, .int x5)]) (pc := 87) F dX8_minute_87 2 rfl (by rw [ex12]; rfl) (by decide) rfl ?_
      replace h := nm_at ex12 h
      clear ex12
      refine a_goto (tgt := 19) (pc := 90) F dX8_minute_90 (by decide) ?_
      refine a_lv F [1, 2, 0] rfl ?_
      exact hP4 _ (Option.some.inj h).symm
    · replace h := ite_f q11 h
      clear q11
      refine a_aload_n (pc := 38) F dX8_minute_38 0 rfl ?_
      refine a_iload_n (pc := 39) F dX8_minute_39 2 rfl ?_
      replace h := bnd_some h
      obtain ⟨x14, hc13, h⟩ := h
      refine a_callV (pc := 40) (k := 162) (As := [.int x6]) (st := []) F dX8_minute_40 (m_X8_endOf hc13) cv_RX8_46 kl_162 ks_162 ⟨_, _, rfl⟩ rfl rfl rfl (Nat.le_of_ble_eq_true rfl) ⟨Nat.le_of_ble_eq_true rfl, Nat.le_of_ble_eq_true rfl⟩ ?_ rfl rfl
      clear hc13
      refine a_aload_n (pc := 43) F dX8_minute_43 0 rfl ?_
      refine a_getr (k := 162) (r := 163) (pc := 44) F dX8_minute_44 fl_RX8_7 kl_162 ks_162 rfl ?_
      refine a_bipush (v := 9) (pc := 47) F dX8_minute_47 (by decide) ?_
      refine a_ialc (k := 163) (pc := 49) F dX8_minute_49 kl_163 ks_163 rfl rfl ?_
      refine a_icmp_ne (tgt := 87) (pc := 50) F dX8_minute_50 (by decide) (fun q15 => ?_) (fun q15 => ?_)
      · replace h := ite_f q15 h
        clear q15
        obtain ⟨x16, ex16⟩ : ∃ x16 : Int32, x16 = x6 + 1 := ⟨_, rfl⟩
        refine a_iinc (v := x16) (lv' := [(2, .int x16), (0, .ref (ga X.G 162)), (1, .int x5)]) (pc := 87) F dX8_minute_87 2 rfl (by rw [ex16]; rfl) (by decide) rfl ?_
        replace h := nm_at ex16 h
        clear ex16
        refine a_goto (tgt := 19) (pc := 90) F dX8_minute_90 (by decide) ?_
        refine a_lv F [1, 2, 0] rfl ?_
        exact hP4 _ (Option.some.inj h).symm
      · replace h := ite_t (Decidable.not_not.mp q15) h
        clear q15
        refine a_aload_n (pc := 53) F dX8_minute_53 0 rfl ?_
        refine a_iload_n (pc := 54) F dX8_minute_54 2 rfl ?_
        refine a_iconst (v := 5) (pc := 55) F dX8_minute_55 (by decide) ?_
        replace h := bnd_some h
        obtain ⟨x18, hc17, h⟩ := h
        refine a_callV (pc := 56) (k := 162) (As := [.int x6, .int 5]) (st := []) F dX8_minute_56 (m_X8_of hc17) cv_RX8_42 kl_162 ks_162 ⟨_, _, rfl⟩ rfl rfl rfl (Nat.le_of_ble_eq_true rfl) ⟨Nat.le_of_ble_eq_true rfl, Nat.le_of_ble_eq_true rfl⟩ ?_ rfl rfl
        clear hc17
        refine a_if_le (tgt := 82) (pc := 59) F dX8_minute_59 (by decide) (fun q19 => ?_) (fun q19 => ?_)
        · replace h := ite_t q19 h
          clear q19
          refine a_aload_n (pc := 82) F dX8_minute_82 0 rfl ?_
          refine a_iload_n (pc := 83) F dX8_minute_83 2 rfl ?_
          replace h := bnd_some h
          obtain ⟨m21, hc20, h⟩ := h
          refine a_callV (pc := 84) (k := 162) (As := [.int x6]) (st := []) F dX8_minute_84 (m_X8_adjourn hc20) cv_RX8_140 kl_162 ks_162 ⟨_, _, rfl⟩ rfl rfl rfl (Nat.le_of_ble_eq_true rfl) ⟨Nat.le_of_ble_eq_true rfl, Nat.le_of_ble_eq_true rfl⟩ ?_ rfl rfl
          clear hc20
          obtain ⟨x22, ex22⟩ : ∃ x22 : Int32, x22 = x6 + 1 := ⟨_, rfl⟩
          refine a_iinc (v := x22) (lv' := [(2, .int x22), (0, .ref (ga X.G 162)), (1, .int x5)]) (pc := 87) F dX8_minute_87 2 rfl (by rw [ex22]; rfl) (by decide) rfl ?_
          replace h := nm_at ex22 h
          clear ex22
          refine a_goto (tgt := 19) (pc := 90) F dX8_minute_90 (by decide) ?_
          refine a_lv F [1, 2, 0] rfl ?_
          exact hP4 _ (Option.some.inj h).symm
        · replace h := ite_f q19 h
          clear q19
          refine a_aload_n (pc := 62) F dX8_minute_62 0 rfl ?_
          refine a_iload_n (pc := 63) F dX8_minute_63 2 rfl ?_
          refine a_iconst (v := 2) (pc := 64) F dX8_minute_64 (by decide) ?_
          replace h := bnd2_some h
          obtain ⟨x24, m25, hc23, h⟩ := h
          refine a_callV (pc := 65) (k := 162) (As := [.int x6, .int 2]) (st := []) F dX8_minute_65 (m_X8_pay hc23) cv_RX8_131 kl_162 ks_162 ⟨_, _, rfl⟩ rfl rfl rfl (Nat.le_of_ble_eq_true rfl) ⟨Nat.le_of_ble_eq_true rfl, Nat.le_of_ble_eq_true rfl⟩ ?_ rfl rfl
          clear hc23
          refine a_istore_n (lv' := [(3, .int x24), (0, .ref (ga X.G 162)), (1, .int x5), (2, .int x6)]) (pc := 68) F dX8_minute_68 (by decide) rfl ?_
          refine a_aload_n (pc := 69) F dX8_minute_69 1 rfl ?_
          refine a_iload_n (pc := 70) F dX8_minute_70 3 rfl ?_
          refine a_iconst (v := 4) (pc := 71) F dX8_minute_71 (by decide) ?_
          refine a_iconst (v := 1) (pc := 72) F dX8_minute_72 (by decide) ?_
          replace h := bnd_some h
          obtain ⟨m27, hc26, h⟩ := h
          refine a_callV (pc := 73) (k := 162) (As := [.int x6, .int 4, .int 1]) (st := []) F dX8_minute_73 (m_X8_put hc26) cv_RX8_74 kl_162 ks_162 ⟨_, _, rfl⟩ rfl rfl rfl (Nat.le_of_ble_eq_true rfl) ⟨Nat.le_of_ble_eq_true rfl, Nat.le_of_ble_eq_true rfl⟩ ?_ rfl rfl
          clear hc26
          obtain ⟨x28, ex28⟩ : ∃ x28 : Int32, x28 = x5 + 1 := ⟨_, rfl⟩
          refine a_iinc (v := x28) (lv' := [(1, .int x28), (3, .int x24), (0, .ref (ga X.G 162)), (2, .int x6)]) (pc := 76) F dX8_minute_76 2 rfl (by rw [ex28]; rfl) (by decide) rfl ?_
          replace h := nm_at ex28 h
          clear ex28
          refine a_goto (tgt := 87) (pc := 79) F dX8_minute_79 (by decide) ?_
          obtain ⟨x29, ex29⟩ : ∃ x29 : Int32, x29 = x6 + 1 := ⟨_, rfl⟩
          refine a_iinc (v := x29) (lv' := [(2, .int x29), (1, .int x28), (3, .int x24), (0, .ref (ga X.G 162))]) (pc := 87) F dX8_minute_87 3 rfl (by rw [ex29]; rfl) (by decide) rfl ?_
          replace h := nm_at ex29 h
          clear ex29
          refine a_goto (tgt := 19) (pc := 90) F dX8_minute_90 (by decide) ?_
          refine a_lv F [3, 1, 0] rfl ?_
          exact hP4 _ (Option.some.inj h).symm
def f_X8_go_L4 (p1 : Int32) : (Int32 × Int32 × Mem) → Option ((Int32 × Int32 × Mem) ⊕ (Int32 × Mem))
  | (x2, x3, m4) => (if p1 ≤ x3 then some (.inr (x2, m4)) else bnd2 (f_X8_minute m4) fun x7 m8 => nm (x3 + 1) fun x9 => some (.inl (x2 + x7, x9, m8)))
def f_X8_go (p1 : Int32) (m0 : Mem) : Option (Int32 × Mem) :=
  bnd (lp (f_X8_go_L4 p1) 1000000 (0, 0, m0)) (fun (x10, m11) => some (x10, m11))
set_option maxRecDepth 100000 in
set_option maxHeartbeats 4000000 in
theorem m_X8_go {p1 : Int32} {m0 : Mem} {rr : Int32} {mm : Mem} (h : f_X8_go p1 m0 = some (rr, mm)) : Con yX8_go cX8_go 5 (some Jvm.ClassFile.FieldType.int) 6 141 (fun G => [.ref (ga G 162), .int p1]) m0 (some (.int rr)) mm := by
  refine con_of (by decide) (fun G => Nat.le_of_ble_eq_true rfl) (fun X F => ?_)
  show WA X 0 0 0 [(0, .ref (ga X.G 162)), (1, .int p1)] [] m0 (EQ X (some (.int rr)) mm)
  rw [f_X8_go] at h
  refine a_iconst (v := 0) (pc := 0) F dX8_go_0 (by decide) ?_
  refine a_istore_n (lv' := [(2, .int 0), (0, .ref (ga X.G 162)), (1, .int p1)]) (pc := 1) F dX8_go_1 (by decide) rfl ?_
  refine a_iconst (v := 0) (pc := 2) F dX8_go_2 (by decide) ?_
  refine a_istore_n (lv' := [(3, .int 0), (2, .int 0), (0, .ref (ga X.G 162)), (1, .int p1)]) (pc := 3) F dX8_go_3 (by decide) rfl ?_
  refine a_lv F [2, 3, 1, 0] rfl ?_
  replace h := bnd_some h
  obtain ⟨⟨x10, m11⟩, hL1, h⟩ := h
  have hE1 : WA X 0 0 26 [(2, .int x10)] [] m11 (EQ X (some (.int rr)) mm) := by
    refine a_iload_n (pc := 26) F dX8_go_26 0 rfl ?_
    cases h
    exact a_iret (pc := 27) F dX8_go_27 ⟨_, rfl, rfl⟩
  clear h
  refine lp_run (P := fun (s : (Int32 × Int32 × Mem)) => WA X 0 0 4 [(0, .ref (ga X.G 162)), (1, .int p1), (2, .int s.1), (3, .int s.2.1)] [] s.2.2 (EQ X (some (.int rr)) mm)) ?_ _ _ hL1
  clear hL1
  rintro ⟨x2, x3, m4⟩ xo h hP1 hT1
  show WA X 0 0 4 [(0, .ref (ga X.G 162)), (1, .int p1), (2, .int x2), (3, .int x3)] [] m4 (EQ X (some (.int rr)) mm)
  rw [f_X8_go_L4] at h
  refine a_iload_n (pc := 4) F dX8_go_4 3 rfl ?_
  refine a_iload_n (pc := 5) F dX8_go_5 1 rfl ?_
  refine a_icmp_ge (tgt := 26) (pc := 6) F dX8_go_6 (by decide) (fun q5 => ?_) (fun q5 => ?_)
  · replace h := ite_t q5 h
    clear q5
    refine a_lv F [2] rfl ?_
    cases hT1 _ (Option.some.inj h).symm
    exact hE1
  · replace h := ite_f q5 h
    clear q5
    refine a_aload_n (pc := 9) F dX8_go_9 0 rfl ?_
    replace h := bnd2_some h
    obtain ⟨x7, m8, hc6, h⟩ := h
    refine a_callV (pc := 10) (k := 162) (As := []) (st := []) F dX8_go_10 (m_X8_minute hc6) cv_RX8_146 kl_162 ks_162 ⟨_, _, rfl⟩ rfl rfl rfl (Nat.le_of_ble_eq_true rfl) ⟨Nat.le_of_ble_eq_true rfl, Nat.le_of_ble_eq_true rfl⟩ ?_ rfl rfl
    clear hc6
    refine a_istore (lv' := [(4, .int x7), (0, .ref (ga X.G 162)), (1, .int p1), (2, .int x2), (3, .int x3)]) (pc := 13) F dX8_go_13 (by decide) rfl ?_
    refine a_iload_n (pc := 15) F dX8_go_15 3 rfl ?_
    refine a_iload (pc := 16) F dX8_go_16 0 rfl ?_
    refine a_iadd (pc := 18) F dX8_go_18 ?_
    refine a_istore_n (lv' := [(2, .int (x2 + x7)), (4, .int x7), (0, .ref (ga X.G 162)), (1, .int p1), (3, .int x3)]) (pc := 19) F dX8_go_19 (by decide) rfl ?_
    obtain ⟨x9, ex9⟩ : ∃ x9 : Int32, x9 = x3 + 1 := ⟨_, rfl⟩
    refine a_iinc (v := x9) (lv' := [(3, .int x9), (2, .int (x2 + x7)), (4, .int x7), (0, .ref (ga X.G 162)), (1, .int p1)]) (pc := 20) F dX8_go_20 4 rfl (by rw [ex9]; rfl) (by decide) rfl ?_
    replace h := nm_at ex9 h
    clear ex9
    refine a_goto (tgt := 4) (pc := 23) F dX8_go_23 (by decide) ?_
    refine a_lv F [3, 4, 1, 0] rfl ?_
    exact hP1 _ (Option.some.inj h).symm
def f_X8_pass (p1 : Int32) (m0 : Mem) : Option (Int32 × Mem) :=
  bnd (f_X8_within p1 1 500 m0) fun x2 => bnd ((if x2 = 0 then some 1 else (if ((m0.1 163 9) + p1) ≤ 20000 then some 0 else some 2))) (fun (x6 : Int32) => nm (si m0 162 5 x6) fun m7 => (if (m7.1 162 5) ≤ 0 then bnd (f_X8_save m7) fun m10 => bnd2 (f_X8_go p1 m10) fun x12 m13 => some (x12, m13) else some (0, m7)))
set_option maxRecDepth 100000 in
set_option maxHeartbeats 4000000 in
theorem m_X8_pass {p1 : Int32} {m0 : Mem} {rr : Int32} {mm : Mem} (h : f_X8_pass p1 m0 = some (rr, mm)) : Con yX8_pass cX8_pass 2 (some Jvm.ClassFile.FieldType.int) 7 165 (fun G => [.ref (ga G 162), .int p1]) m0 (some (.int rr)) mm := by
  refine con_of (by decide) (fun G => Nat.le_of_ble_eq_true rfl) (fun X F => ?_)
  show WA X 0 0 0 [(0, .ref (ga X.G 162)), (1, .int p1)] [] m0 (EQ X (some (.int rr)) mm)
  rw [f_X8_pass] at h
  refine a_aload_n (pc := 0) F dX8_pass_0 0 rfl ?_
  refine a_iload_n (pc := 1) F dX8_pass_1 1 rfl ?_
  refine a_iconst (v := 1) (pc := 2) F dX8_pass_2 (by decide) ?_
  refine a_sipush (v := 500) (pc := 3) F dX8_pass_3 (by decide) ?_
  replace h := bnd_some h
  obtain ⟨x2, hc1, h⟩ := h
  refine a_callS (pc := 6) (As := [.int p1, .int 1, .int 500]) (st := [.ref (ga X.G 162)]) F dX8_pass_6 (m_X8_within hc1) cs_RX8_38 rfl rfl rfl (Nat.le_of_ble_eq_true rfl) ⟨Nat.le_of_ble_eq_true rfl, Nat.le_of_ble_eq_true rfl⟩ ?_ rfl rfl
  clear hc1
  replace h := bnd_some h
  obtain ⟨x6, hR3, h⟩ := h
  have hJ3 : WA X 0 0 36 [(0, .ref (ga X.G 162)), (1, .int p1)] [.int x6, .ref (ga X.G 162)] m0 (EQ X (some (.int rr)) mm) := by
    refine a_puti (k := 162) (pc := 36) F dX8_pass_36 fp_RX8_31 kl_162 ks_162 rfl ?_
    refine a_nmm fun m7 em7 => ?_
    replace h := nm_at em7 h
    clear em7
    refine a_aload_n (pc := 39) F dX8_pass_39 0 rfl ?_
    refine a_geti (k := 162) (pc := 40) F dX8_pass_40 fl_RX8_31 kl_162 ks_162 rfl ?_
    refine a_if_le (tgt := 48) (pc := 43) F dX8_pass_43 (by decide) (fun q8 => ?_) (fun q8 => ?_)
    · replace h := ite_t q8 h
      clear q8
      refine a_aload_n (pc := 48) F dX8_pass_48 0 rfl ?_
      replace h := bnd_some h
      obtain ⟨m10, hc9, h⟩ := h
      refine a_callV (pc := 49) (k := 162) (As := []) (st := []) F dX8_pass_49 (m_X8_save hc9) cv_RX8_71 kl_162 ks_162 ⟨_, _, rfl⟩ rfl rfl rfl (Nat.le_of_ble_eq_true rfl) ⟨Nat.le_of_ble_eq_true rfl, Nat.le_of_ble_eq_true rfl⟩ ?_ rfl rfl
      clear hc9
      refine a_aload_n (pc := 52) F dX8_pass_52 0 rfl ?_
      refine a_iload_n (pc := 53) F dX8_pass_53 1 rfl ?_
      replace h := bnd2_some h
      obtain ⟨x12, m13, hc11, h⟩ := h
      refine a_callV (pc := 54) (k := 162) (As := [.int p1]) (st := []) F dX8_pass_54 (m_X8_go hc11) cv_RX8_150 kl_162 ks_162 ⟨_, _, rfl⟩ rfl rfl rfl (Nat.le_of_ble_eq_true rfl) ⟨Nat.le_of_ble_eq_true rfl, Nat.le_of_ble_eq_true rfl⟩ ?_ rfl rfl
      clear hc11
      cases h
      exact a_iret (pc := 57) F dX8_pass_57 ⟨_, rfl, rfl⟩
    · replace h := ite_f q8 h
      clear q8
      refine a_iconst (v := 0) (pc := 46) F dX8_pass_46 (by decide) ?_
      cases h
      exact a_iret (pc := 47) F dX8_pass_47 ⟨_, rfl, rfl⟩
  clear h
  have h := hR3
  clear hR3
  refine a_if_ne (tgt := 16) (pc := 9) F dX8_pass_9 (by decide) (fun q4 => ?_) (fun q4 => ?_)
  · replace h := ite_f q4 h
    clear q4
    refine a_aload_n (pc := 16) F dX8_pass_16 0 rfl ?_
    refine a_getr (k := 162) (r := 163) (pc := 17) F dX8_pass_17 fl_RX8_7 kl_162 ks_162 rfl ?_
    refine a_bipush (v := 9) (pc := 20) F dX8_pass_20 (by decide) ?_
    refine a_ialc (k := 163) (pc := 22) F dX8_pass_22 kl_163 ks_163 rfl rfl ?_
    refine a_iload_n (pc := 23) F dX8_pass_23 1 rfl ?_
    refine a_iadd (pc := 24) F dX8_pass_24 ?_
    refine a_sipush (v := 20000) (pc := 25) F dX8_pass_25 (by decide) ?_
    refine a_icmp_le (tgt := 35) (pc := 28) F dX8_pass_28 (by decide) (fun q5 => ?_) (fun q5 => ?_)
    · replace h := ite_t q5 h
      clear q5
      refine a_iconst (v := 0) (pc := 35) F dX8_pass_35 (by decide) ?_
      cases h
      exact hJ3
    · replace h := ite_f q5 h
      clear q5
      refine a_iconst (v := 2) (pc := 31) F dX8_pass_31 (by decide) ?_
      refine a_goto (tgt := 36) (pc := 32) F dX8_pass_32 (by decide) ?_
      cases h
      exact hJ3
  · replace h := ite_t (Decidable.not_not.mp q4) h
    clear q4
    refine a_iconst (v := 1) (pc := 12) F dX8_pass_12 (by decide) ?_
    refine a_goto (tgt := 36) (pc := 13) F dX8_pass_13 (by decide) ?_
    cases h
    exact hJ3
def f_X8_append (p1 : Int32) (m0 : Mem) : Option (Int32 × Mem) :=
  bnd (f_X8_within p1 33 126 m0) fun x2 => bnd ((if x2 = 0 then some 1 else (if (m0.1 162 3) = 60 then some 2 else some 0))) (fun (x6 : Int32) => nm (si m0 162 5 x6) fun m7 => (if (m7.1 162 5) ≤ 0 then gIn (m7.1 162 3) 60 <| nm (si m7 165 (m7.1 162 3).toNatClampNeg p1) fun m10 => nm (si m10 162 3 ((m10.1 162 3) + 1)) fun m11 => some (m11.1 162 3, m11) else some (0, m7)))
set_option maxRecDepth 100000 in
set_option maxHeartbeats 4000000 in
theorem m_X8_append {p1 : Int32} {m0 : Mem} {rr : Int32} {mm : Mem} (h : f_X8_append p1 m0 = some (rr, mm)) : Con yX8_append cX8_append 2 (some Jvm.ClassFile.FieldType.int) 1 22 (fun G => [.ref (ga G 162), .int p1]) m0 (some (.int rr)) mm := by
  refine con_of (by decide) (fun G => Nat.le_of_ble_eq_true rfl) (fun X F => ?_)
  show WA X 0 0 0 [(0, .ref (ga X.G 162)), (1, .int p1)] [] m0 (EQ X (some (.int rr)) mm)
  rw [f_X8_append] at h
  refine a_aload_n (pc := 0) F dX8_append_0 0 rfl ?_
  refine a_iload_n (pc := 1) F dX8_append_1 1 rfl ?_
  refine a_bipush (v := 33) (pc := 2) F dX8_append_2 (by decide) ?_
  refine a_bipush (v := 126) (pc := 4) F dX8_append_4 (by decide) ?_
  replace h := bnd_some h
  obtain ⟨x2, hc1, h⟩ := h
  refine a_callS (pc := 6) (As := [.int p1, .int 33, .int 126]) (st := [.ref (ga X.G 162)]) F dX8_append_6 (m_X8_within hc1) cs_RX8_38 rfl rfl rfl (Nat.le_of_ble_eq_true rfl) ⟨Nat.le_of_ble_eq_true rfl, Nat.le_of_ble_eq_true rfl⟩ ?_ rfl rfl
  clear hc1
  replace h := bnd_some h
  obtain ⟨x6, hR3, h⟩ := h
  have hJ3 : WA X 0 0 30 [(0, .ref (ga X.G 162)), (1, .int p1)] [.int x6, .ref (ga X.G 162)] m0 (EQ X (some (.int rr)) mm) := by
    refine a_puti (k := 162) (pc := 30) F dX8_append_30 fp_RX8_31 kl_162 ks_162 rfl ?_
    refine a_nmm fun m7 em7 => ?_
    replace h := nm_at em7 h
    clear em7
    refine a_aload_n (pc := 33) F dX8_append_33 0 rfl ?_
    refine a_geti (k := 162) (pc := 34) F dX8_append_34 fl_RX8_31 kl_162 ks_162 rfl ?_
    refine a_if_le (tgt := 42) (pc := 37) F dX8_append_37 (by decide) (fun q8 => ?_) (fun q8 => ?_)
    · replace h := ite_t q8 h
      clear q8
      refine a_aload_n (pc := 42) F dX8_append_42 0 rfl ?_
      refine a_getr (k := 162) (r := 165) (pc := 43) F dX8_append_43 fl_RX8_16 kl_162 ks_162 rfl ?_
      refine a_aload_n (pc := 46) F dX8_append_46 0 rfl ?_
      refine a_geti (k := 162) (pc := 47) F dX8_append_47 fl_RX8_153 kl_162 ks_162 rfl ?_
      refine a_iload_n (pc := 50) F dX8_append_50 1 rfl ?_
      replace h := gIn_some h
      obtain ⟨g9, h⟩ := h
      refine a_ias (k := 165) (pc := 51) F dX8_append_51 kl_165 ks_165 g9 ?_
      refine a_nmm fun m10 em10 => ?_
      replace h := nm_at em10 h
      clear em10
      refine a_aload_n (pc := 52) F dX8_append_52 0 rfl ?_
      refine a_dup (pc := 53) F dX8_append_53 rfl ?_
      refine a_geti (k := 162) (pc := 54) F dX8_append_54 fl_RX8_153 kl_162 ks_162 rfl ?_
      refine a_iconst (v := 1) (pc := 57) F dX8_append_57 (by decide) ?_
      refine a_iadd (pc := 58) F dX8_append_58 ?_
      refine a_puti (k := 162) (pc := 59) F dX8_append_59 fp_RX8_153 kl_162 ks_162 rfl ?_
      refine a_nmm fun m11 em11 => ?_
      replace h := nm_at em11 h
      clear em11
      refine a_aload_n (pc := 62) F dX8_append_62 0 rfl ?_
      refine a_geti (k := 162) (pc := 63) F dX8_append_63 fl_RX8_153 kl_162 ks_162 rfl ?_
      cases h
      exact a_iret (pc := 66) F dX8_append_66 ⟨_, rfl, rfl⟩
    · replace h := ite_f q8 h
      clear q8
      refine a_iconst (v := 0) (pc := 40) F dX8_append_40 (by decide) ?_
      cases h
      exact a_iret (pc := 41) F dX8_append_41 ⟨_, rfl, rfl⟩
  clear h
  have h := hR3
  clear hR3
  refine a_if_ne (tgt := 16) (pc := 9) F dX8_append_9 (by decide) (fun q4 => ?_) (fun q4 => ?_)
  · replace h := ite_f q4 h
    clear q4
    refine a_aload_n (pc := 16) F dX8_append_16 0 rfl ?_
    refine a_geti (k := 162) (pc := 17) F dX8_append_17 fl_RX8_153 kl_162 ks_162 rfl ?_
    refine a_bipush (v := 60) (pc := 20) F dX8_append_20 (by decide) ?_
    refine a_icmp_ne (tgt := 29) (pc := 22) F dX8_append_22 (by decide) (fun q5 => ?_) (fun q5 => ?_)
    · replace h := ite_f q5 h
      clear q5
      refine a_iconst (v := 0) (pc := 29) F dX8_append_29 (by decide) ?_
      cases h
      exact hJ3
    · replace h := ite_t (Decidable.not_not.mp q5) h
      clear q5
      refine a_iconst (v := 2) (pc := 25) F dX8_append_25 (by decide) ?_
      refine a_goto (tgt := 30) (pc := 26) F dX8_append_26 (by decide) ?_
      cases h
      exact hJ3
  · replace h := ite_t (Decidable.not_not.mp q4) h
    clear q4
    refine a_iconst (v := 1) (pc := 12) F dX8_append_12 (by decide) ?_
    refine a_goto (tgt := 30) (pc := 13) F dX8_append_13 (by decide) ?_
    cases h
    exact hJ3
def f_X8_clearBuffer (m0 : Mem) : Option (Int32 × Mem) :=
  nm (si m0 162 5 0) fun m1 => nm (si m1 162 3 0) fun m2 => some (m1.1 162 3, m2)
set_option maxRecDepth 100000 in
set_option maxHeartbeats 4000000 in
theorem m_X8_clearBuffer {m0 : Mem} {rr : Int32} {mm : Mem} (h : f_X8_clearBuffer m0 = some (rr, mm)) : Con yX8_clearBuffer cX8_clearBuffer 2 (some Jvm.ClassFile.FieldType.int) 0 0 (fun G => [.ref (ga G 162)]) m0 (some (.int rr)) mm := by
  refine con_of (by decide) (fun G => Nat.le_of_ble_eq_true rfl) (fun X F => ?_)
  show WA X 0 0 0 [(0, .ref (ga X.G 162))] [] m0 (EQ X (some (.int rr)) mm)
  rw [f_X8_clearBuffer] at h
  refine a_aload_n (pc := 0) F dX8_clearBuffer_0 0 rfl ?_
  refine a_iconst (v := 0) (pc := 1) F dX8_clearBuffer_1 (by decide) ?_
  refine a_puti (k := 162) (pc := 2) F dX8_clearBuffer_2 fp_RX8_31 kl_162 ks_162 rfl ?_
  refine a_nmm fun m1 em1 => ?_
  replace h := nm_at em1 h
  clear em1
  refine a_aload_n (pc := 5) F dX8_clearBuffer_5 0 rfl ?_
  refine a_geti (k := 162) (pc := 6) F dX8_clearBuffer_6 fl_RX8_153 kl_162 ks_162 rfl ?_
  refine a_istore_n (lv' := [(1, .int (m1.1 162 3)), (0, .ref (ga X.G 162))]) (pc := 9) F dX8_clearBuffer_9 (by decide) rfl ?_
  refine a_aload_n (pc := 10) F dX8_clearBuffer_10 1 rfl ?_
  refine a_iconst (v := 0) (pc := 11) F dX8_clearBuffer_11 (by decide) ?_
  refine a_puti (k := 162) (pc := 12) F dX8_clearBuffer_12 fp_RX8_153 kl_162 ks_162 rfl ?_
  refine a_nmm fun m2 em2 => ?_
  replace h := nm_at em2 h
  clear em2
  refine a_iload_n (pc := 15) F dX8_clearBuffer_15 0 rfl ?_
  cases h
  exact a_iret (pc := 16) F dX8_clearBuffer_16 ⟨_, rfl, rfl⟩
def f_X8_takesDigit (p1 : Int32) (m0 : Mem) : Option (Int32 × Mem) :=
  bnd ((if (m0.1 162 10) = (-1) then some p1 else nm ((10 * (m0.1 162 10)) + p1) fun x3 => some x3)) (fun (x4 : Int32) => bnd (f_X8_within p1 0 9 m0) fun x6 => bnd ((if x6 = 0 then some 0 else (if x4 ≤ 0 then some 0 else (if (m0.1 162 11) = 3 then (if 2000 < x4 then some 0 else some 1) else (if 240 < x4 then some 0 else some 1))))) (fun (x13 : Int32) => (if x13 = 0 then nm (si m0 162 10 (m0.1 162 10)) fun m15 => gBo x13 <| some (x13, m15) else nm (si m0 162 10 x4) fun m17 => gBo x13 <| some (x13, m17))))
set_option maxRecDepth 100000 in
set_option maxHeartbeats 4000000 in
theorem m_X8_takesDigit {p1 : Int32} {m0 : Mem} {rr : Int32} {mm : Mem} (h : f_X8_takesDigit p1 m0 = some (rr, mm)) : Con yX8_takesDigit cX8_takesDigit 4 (some Jvm.ClassFile.FieldType.boolean) 1 22 (fun G => [.ref (ga G 162), .int p1]) m0 (some (.int rr)) mm := by
  refine con_of (by decide) (fun G => Nat.le_of_ble_eq_true rfl) (fun X F => ?_)
  show WA X 0 0 0 [(0, .ref (ga X.G 162)), (1, .int p1)] [] m0 (EQ X (some (.int rr)) mm)
  rw [f_X8_takesDigit] at h
  refine a_aload_n (pc := 0) F dX8_takesDigit_0 0 rfl ?_
  refine a_geti (k := 162) (pc := 1) F dX8_takesDigit_1 fl_RX8_156 kl_162 ks_162 rfl ?_
  refine a_iconst (v := (-1)) (pc := 4) F dX8_takesDigit_4 (by decide) ?_
  replace h := bnd_some h
  obtain ⟨x4, hR1, h⟩ := h
  have hJ1 : WA X 0 0 21 [(0, .ref (ga X.G 162)), (1, .int p1)] [.int x4] m0 (EQ X (some (.int rr)) mm) := by
    refine a_istore_n (lv' := [(2, .int x4), (0, .ref (ga X.G 162)), (1, .int p1)]) (pc := 21) F dX8_takesDigit_21 (by decide) rfl ?_
    refine a_iload_n (pc := 22) F dX8_takesDigit_22 2 rfl ?_
    refine a_iconst (v := 0) (pc := 23) F dX8_takesDigit_23 (by decide) ?_
    refine a_bipush (v := 9) (pc := 24) F dX8_takesDigit_24 (by decide) ?_
    replace h := bnd_some h
    obtain ⟨x6, hc5, h⟩ := h
    refine a_callS (pc := 26) (As := [.int p1, .int 0, .int 9]) (st := []) F dX8_takesDigit_26 (m_X8_within hc5) cs_RX8_38 rfl rfl rfl (Nat.le_of_ble_eq_true rfl) ⟨Nat.le_of_ble_eq_true rfl, Nat.le_of_ble_eq_true rfl⟩ ?_ rfl rfl
    clear hc5
    replace h := bnd_some h
    obtain ⟨x13, hR7, h⟩ := h
    have hJ7 : WA X 0 0 62 [(0, .ref (ga X.G 162)), (2, .int x4)] [.int x13] m0 (EQ X (some (.int rr)) mm) := by
      refine a_istore_n (lv' := [(3, .int x13), (0, .ref (ga X.G 162)), (2, .int x4)]) (pc := 62) F dX8_takesDigit_62 (by decide) rfl ?_
      refine a_aload_n (pc := 63) F dX8_takesDigit_63 1 rfl ?_
      refine a_iload_n (pc := 64) F dX8_takesDigit_64 0 rfl ?_
      refine a_if_eq (tgt := 72) (pc := 65) F dX8_takesDigit_65 (by decide) (fun q14 => ?_) (fun q14 => ?_)
      · replace h := ite_t q14 h
        clear q14
        refine a_aload_n (pc := 72) F dX8_takesDigit_72 1 rfl ?_
        refine a_geti (k := 162) (pc := 73) F dX8_takesDigit_73 fl_RX8_156 kl_162 ks_162 rfl ?_
        refine a_puti (k := 162) (pc := 76) F dX8_takesDigit_76 fp_RX8_156 kl_162 ks_162 rfl ?_
        refine a_nmm fun m15 em15 => ?_
        replace h := nm_at em15 h
        clear em15
        refine a_iload_n (pc := 79) F dX8_takesDigit_79 0 rfl ?_
        replace h := gBo_some h
        obtain ⟨g16, h⟩ := h
        cases h
        exact a_iret (pc := 80) F dX8_takesDigit_80 ⟨_, rfl, narrow_bo g16⟩
      · replace h := ite_f q14 h
        clear q14
        refine a_iload_n (pc := 68) F dX8_takesDigit_68 2 rfl ?_
        refine a_goto (tgt := 76) (pc := 69) F dX8_takesDigit_69 (by decide) ?_
        refine a_puti (k := 162) (pc := 76) F dX8_takesDigit_76 fp_RX8_156 kl_162 ks_162 rfl ?_
        refine a_nmm fun m17 em17 => ?_
        replace h := nm_at em17 h
        clear em17
        refine a_iload_n (pc := 79) F dX8_takesDigit_79 0 rfl ?_
        replace h := gBo_some h
        obtain ⟨g18, h⟩ := h
        cases h
        exact a_iret (pc := 80) F dX8_takesDigit_80 ⟨_, rfl, narrow_bo g18⟩
    clear h
    have h := hR7
    clear hR7
    refine a_if_eq (tgt := 61) (pc := 29) F dX8_takesDigit_29 (by decide) (fun q8 => ?_) (fun q8 => ?_)
    · replace h := ite_t q8 h
      clear q8
      refine a_iconst (v := 0) (pc := 61) F dX8_takesDigit_61 (by decide) ?_
      refine a_lv F [1, 0] rfl ?_
      cases h
      exact hJ7
    · replace h := ite_f q8 h
      clear q8
      refine a_iload_n (pc := 32) F dX8_takesDigit_32 0 rfl ?_
      refine a_if_le (tgt := 61) (pc := 33) F dX8_takesDigit_33 (by decide) (fun q9 => ?_) (fun q9 => ?_)
      · replace h := ite_t q9 h
        clear q9
        refine a_iconst (v := 0) (pc := 61) F dX8_takesDigit_61 (by decide) ?_
        refine a_lv F [1, 0] rfl ?_
        cases h
        exact hJ7
      · replace h := ite_f q9 h
        clear q9
        refine a_iload_n (pc := 36) F dX8_takesDigit_36 0 rfl ?_
        refine a_aload_n (pc := 37) F dX8_takesDigit_37 1 rfl ?_
        refine a_geti (k := 162) (pc := 38) F dX8_takesDigit_38 fl_RX8_159 kl_162 ks_162 rfl ?_
        refine a_iconst (v := 3) (pc := 41) F dX8_takesDigit_41 (by decide) ?_
        refine a_icmp_ne (tgt := 51) (pc := 42) F dX8_takesDigit_42 (by decide) (fun q10 => ?_) (fun q10 => ?_)
        · replace h := ite_f q10 h
          clear q10
          refine a_sipush (v := 240) (pc := 51) F dX8_takesDigit_51 (by decide) ?_
          refine a_icmp_gt (tgt := 61) (pc := 54) F dX8_takesDigit_54 (by decide) (fun q11 => ?_) (fun q11 => ?_)
          · replace h := ite_t q11 h
            clear q11
            refine a_iconst (v := 0) (pc := 61) F dX8_takesDigit_61 (by decide) ?_
            refine a_lv F [1, 0] rfl ?_
            cases h
            exact hJ7
          · replace h := ite_f q11 h
            clear q11
            refine a_iconst (v := 1) (pc := 57) F dX8_takesDigit_57 (by decide) ?_
            refine a_goto (tgt := 62) (pc := 58) F dX8_takesDigit_58 (by decide) ?_
            refine a_lv F [1, 0] rfl ?_
            cases h
            exact hJ7
        · replace h := ite_t (Decidable.not_not.mp q10) h
          clear q10
          refine a_sipush (v := 2000) (pc := 45) F dX8_takesDigit_45 (by decide) ?_
          refine a_goto (tgt := 54) (pc := 48) F dX8_takesDigit_48 (by decide) ?_
          refine a_icmp_gt (tgt := 61) (pc := 54) F dX8_takesDigit_54 (by decide) (fun q12 => ?_) (fun q12 => ?_)
          · replace h := ite_t q12 h
            clear q12
            refine a_iconst (v := 0) (pc := 61) F dX8_takesDigit_61 (by decide) ?_
            refine a_lv F [1, 0] rfl ?_
            cases h
            exact hJ7
          · replace h := ite_f q12 h
            clear q12
            refine a_iconst (v := 1) (pc := 57) F dX8_takesDigit_57 (by decide) ?_
            refine a_goto (tgt := 62) (pc := 58) F dX8_takesDigit_58 (by decide) ?_
            refine a_lv F [1, 0] rfl ?_
            cases h
            exact hJ7
  clear h
  have h := hR1
  clear hR1
  refine a_icmp_ne (tgt := 12) (pc := 5) F dX8_takesDigit_5 (by decide) (fun q2 => ?_) (fun q2 => ?_)
  · replace h := ite_f q2 h
    clear q2
    refine a_bipush (v := 10) (pc := 12) F dX8_takesDigit_12 (by decide) ?_
    refine a_aload_n (pc := 14) F dX8_takesDigit_14 0 rfl ?_
    refine a_geti (k := 162) (pc := 15) F dX8_takesDigit_15 fl_RX8_156 kl_162 ks_162 rfl ?_
    refine a_imul (pc := 18) F dX8_takesDigit_18 ?_
    refine a_iload_n (pc := 19) F dX8_takesDigit_19 1 rfl ?_
    refine a_iadd (pc := 20) F dX8_takesDigit_20 ?_
    refine a_nmi fun x3 ex3 => ?_
    replace h := nm_at ex3 h
    clear ex3
    cases h
    exact hJ1
  · replace h := ite_t (Decidable.not_not.mp q2) h
    clear q2
    refine a_iload_n (pc := 8) F dX8_takesDigit_8 1 rfl ?_
    refine a_goto (tgt := 21) (pc := 9) F dX8_takesDigit_9 (by decide) ?_
    cases h
    exact hJ1
