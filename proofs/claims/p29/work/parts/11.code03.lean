def f_X7_swap (p1 : Int32) (p2 : Int32) (p3 : Int32) (m0 : Mem) : Option (Int32 × Mem) :=
  bnd (f_X3_has 1 p1 m0) fun x2 => jn ((if x2 = 0 then some (.inl m0) else gIn p1 30 <| nm (m0.1 (1 + 14) p1.toNatClampNeg) fun x6 => bnd (f_X7_within p2 0 (x6 - 1) m0) fun x8 => (if x8 = 0 then some (.inl m0) else bnd (f_X6_has 1 p3 m0) fun x11 => (if x11 = 0 then some (.inl m0) else bnd (f_X3_holds 1 p1 p3 m0) fun x14 => bnd ((if x14 = 0 then (if p2 = 0 then some p3 else bnd (f_X3_member 1 p1 0 m0) fun x19 => some x19) else none)) (fun (x20 : Int32) => bnd ((if p2 = 1 then some p3 else bnd (f_X3_member 1 p1 1 m0) fun x24 => some x24)) (fun (x25 : Int32) => bnd ((if p2 = 2 then some p3 else bnd (f_X3_member 1 p1 2 m0) fun x29 => some x29)) (fun (x30 : Int32) => bnd (f_X2_reasonAgainst 1 p1 x20 x25 x30 m0) fun x32 => (if x32 = 0 then bnd (f_X4_save 1 m0) fun m35 => bnd (f_X3_member 1 p1 p2 m35) fun x37 => bnd (f_X3_giveChain 1 p1 x20 x25 x30 m35) fun m39 => some (.inr (x37, m39)) else none)))))))) (fun (m40 : Mem) => none)
set_option maxRecDepth 100000 in
set_option maxHeartbeats 4000000 in
theorem m_X7_swap {p1 : Int32} {p2 : Int32} {p3 : Int32} {m0 : Mem} {rr : Int32} {mm : Mem} (h : f_X7_swap p1 p2 p3 m0 = some (rr, mm)) : Con yX7_swap cX7_swap 8 (some Jvm.ClassFile.FieldType.int) 4 104 (fun G => [.ref (ga G 0), .int p1, .int p2, .int p3]) m0 (some (.int rr)) mm := by
  refine con_of (by decide) (fun G => Nat.le_of_ble_eq_true rfl) (fun X F => ?_)
  show WA X 0 0 0 [(0, .ref (ga X.G 0)), (1, .int p1), (2, .int p2), (3, .int p3)] [] m0 (EQ X (some (.int rr)) mm)
  rw [f_X7_swap] at h
  refine a_aload_n (pc := 0) F dX7_swap_0 0 rfl ?_
  refine a_getr (k := 0) (r := 1) (pc := 1) F dX7_swap_1 fl_RX7_10 kl_0 ks_0 rfl ?_
  refine a_getr (k := 1) (r := (1 + 8)) (pc := 4) F dX7_swap_4 fl_RX7_89 (klC_0 isC_1) (ksC_0 isC_1) rfl ?_
  refine a_iload_n (pc := 7) F dX7_swap_7 1 rfl ?_
  replace h := bnd_some h
  obtain ⟨x2, hc1, h⟩ := h
  refine a_callV (pc := 8) (k := (1 + 8)) (As := [.int p1]) (st := []) F dX7_swap_8 (m_X3_has isC_1 hc1) cv_RX7_133 (klC_8 isC_1) (ksC_8 isC_1) ⟨_, _, rfl⟩ rfl rfl rfl (Nat.le_of_ble_eq_true rfl) ⟨Nat.le_of_ble_eq_true rfl, Nat.le_of_ble_eq_true rfl⟩ ?_ rfl rfl
  clear hc1
  replace h := jn_some h
  obtain ⟨o3, hR3, hK3, hB3⟩ := h
  have hJ3 : ∀ (m40 : Mem), o3 = .inl m40 → WA X 0 0 50 [] [] m40 (EQ X (some (.int rr)) mm) := by
    intro m40 eo
    have h := hK3 _ eo
    clear hK3 eo
    cases h
  clear hK3
  have h := hR3
  clear hR3
  refine a_if_eq (tgt := 50) (pc := 11) F dX7_swap_11 (by decide) (fun q4 => ?_) (fun q4 => ?_)
  · replace h := ite_t q4 h
    clear q4
    refine a_lv F [] rfl ?_
    exact hJ3 _ (Option.some.inj h).symm
  · replace h := ite_f q4 h
    clear q4
    refine a_iload_n (pc := 14) F dX7_swap_14 2 rfl ?_
    refine a_iconst (v := 0) (pc := 15) F dX7_swap_15 (by decide) ?_
    refine a_aload_n (pc := 16) F dX7_swap_16 0 rfl ?_
    refine a_getr (k := 0) (r := 1) (pc := 17) F dX7_swap_17 fl_RX7_10 kl_0 ks_0 rfl ?_
    refine a_getr (k := 1) (r := (1 + 8)) (pc := 20) F dX7_swap_20 fl_RX7_89 (klC_0 isC_1) (ksC_0 isC_1) rfl ?_
    refine a_getr (k := (1 + 8)) (r := (1 + 14)) (pc := 23) F dX7_swap_23 fl_RX7_164 (klC_8 isC_1) (ksC_8 isC_1) rfl ?_
    refine a_iload_n (pc := 26) F dX7_swap_26 1 rfl ?_
    replace h := gIn_some h
    obtain ⟨g5, h⟩ := h
    refine a_ial (k := (1 + 14)) (pc := 27) F dX7_swap_27 (klC_14 isC_1) (ksC_14 isC_1) g5 ?_
    refine a_nmi fun x6 ex6 => ?_
    replace h := nm_at ex6 h
    clear ex6
    refine a_iconst (v := 1) (pc := 28) F dX7_swap_28 (by decide) ?_
    refine a_isub (pc := 29) F dX7_swap_29 ?_
    replace h := bnd_some h
    obtain ⟨x8, hc7, h⟩ := h
    refine a_callS (pc := 30) (As := [.int p2, .int 0, .int (x6 - 1)]) (st := []) F dX7_swap_30 (m_X7_within hc7) cs_RX7_47 rfl rfl rfl (Nat.le_of_ble_eq_true rfl) ⟨Nat.le_of_ble_eq_true rfl, Nat.le_of_ble_eq_true rfl⟩ ?_ rfl rfl
    clear hc7
    refine a_if_eq (tgt := 50) (pc := 33) F dX7_swap_33 (by decide) (fun q9 => ?_) (fun q9 => ?_)
    · replace h := ite_t q9 h
      clear q9
      refine a_lv F [] rfl ?_
      exact hJ3 _ (Option.some.inj h).symm
    · replace h := ite_f q9 h
      clear q9
      refine a_aload_n (pc := 36) F dX7_swap_36 0 rfl ?_
      refine a_getr (k := 0) (r := 1) (pc := 37) F dX7_swap_37 fl_RX7_10 kl_0 ks_0 rfl ?_
      refine a_getr (k := 1) (r := (1 + 1)) (pc := 40) F dX7_swap_40 fl_RX7_64 (klC_0 isC_1) (ksC_0 isC_1) rfl ?_
      refine a_iload_n (pc := 43) F dX7_swap_43 3 rfl ?_
      replace h := bnd_some h
      obtain ⟨x11, hc10, h⟩ := h
      refine a_callV (pc := 44) (k := (1 + 1)) (As := [.int p3]) (st := []) F dX7_swap_44 (m_X6_has isC_1 hc10) cv_RX7_105 (klC_1 isC_1) (ksC_1 isC_1) ⟨_, _, rfl⟩ rfl rfl rfl (Nat.le_of_ble_eq_true rfl) ⟨Nat.le_of_ble_eq_true rfl, Nat.le_of_ble_eq_true rfl⟩ ?_ rfl rfl
      clear hc10
      refine a_if_ne (tgt := 60) (pc := 47) F dX7_swap_47 (by decide) (fun q12 => ?_) (fun q12 => ?_)
      · replace h := ite_f q12 h
        clear q12
        refine a_aload_n (pc := 60) F dX7_swap_60 0 rfl ?_
        refine a_getr (k := 0) (r := 1) (pc := 61) F dX7_swap_61 fl_RX7_10 kl_0 ks_0 rfl ?_
        refine a_getr (k := 1) (r := (1 + 8)) (pc := 64) F dX7_swap_64 fl_RX7_89 (klC_0 isC_1) (ksC_0 isC_1) rfl ?_
        refine a_iload_n (pc := 67) F dX7_swap_67 1 rfl ?_
        refine a_iload_n (pc := 68) F dX7_swap_68 3 rfl ?_
        replace h := bnd_some h
        obtain ⟨x14, hc13, h⟩ := h
        refine a_callV (pc := 69) (k := (1 + 8)) (As := [.int p1, .int p3]) (st := []) F dX7_swap_69 (m_X3_holds isC_1 hc13) cv_RX7_169 (klC_8 isC_1) (ksC_8 isC_1) ⟨_, _, rfl⟩ rfl rfl rfl (Nat.le_of_ble_eq_true rfl) ⟨Nat.le_of_ble_eq_true rfl, Nat.le_of_ble_eq_true rfl⟩ ?_ rfl rfl
        clear hc13
        replace h := bnd_some h
        obtain ⟨x20, hR15, h⟩ := h
        have hJ15 : WA X 0 0 105 [(0, .ref (ga X.G 0)), (1, .int p1), (2, .int p2), (3, .int p3)] [.int x20] m0 (EQ X (some (.int rr)) mm) := by
          refine a_istore (lv' := [(4, .int x20), (0, .ref (ga X.G 0)), (1, .int p1), (2, .int p2), (3, .int p3)]) (pc := 105) F dX7_swap_105 (by decide) rfl ?_
          refine a_iload_n (pc := 107) F dX7_swap_107 3 rfl ?_
          refine a_iconst (v := 1) (pc := 108) F dX7_swap_108 (by decide) ?_
          replace h := bnd_some h
          obtain ⟨x25, hR21, h⟩ := h
          have hJ21 : WA X 0 0 128 [(0, .ref (ga X.G 0)), (1, .int p1), (2, .int p2), (3, .int p3), (4, .int x20)] [.int x25] m0 (EQ X (some (.int rr)) mm) := by
            refine a_istore (lv' := [(5, .int x25), (0, .ref (ga X.G 0)), (1, .int p1), (2, .int p2), (3, .int p3), (4, .int x20)]) (pc := 128) F dX7_swap_128 (by decide) rfl ?_
            refine a_iload_n (pc := 130) F dX7_swap_130 3 rfl ?_
            refine a_iconst (v := 2) (pc := 131) F dX7_swap_131 (by decide) ?_
            replace h := bnd_some h
            obtain ⟨x30, hR26, h⟩ := h
            have hJ26 : WA X 0 0 151 [(0, .ref (ga X.G 0)), (1, .int p1), (2, .int p2), (4, .int x20), (5, .int x25)] [.int x30] m0 (EQ X (some (.int rr)) mm) := by
              refine a_istore (lv' := [(6, .int x30), (0, .ref (ga X.G 0)), (1, .int p1), (2, .int p2), (4, .int x20), (5, .int x25)]) (pc := 151) F dX7_swap_151 (by decide) rfl ?_
              refine a_aload_n (pc := 153) F dX7_swap_153 1 rfl ?_
              refine a_getr (k := 0) (r := 1) (pc := 154) F dX7_swap_154 fl_RX7_10 kl_0 ks_0 rfl ?_
              refine a_iload_n (pc := 157) F dX7_swap_157 2 rfl ?_
              refine a_iload (pc := 158) F dX7_swap_158 4 rfl ?_
              refine a_iload (pc := 160) F dX7_swap_160 5 rfl ?_
              refine a_iload (pc := 162) F dX7_swap_162 0 rfl ?_
              replace h := bnd_some h
              obtain ⟨x32, hc31, h⟩ := h
              refine a_callV (pc := 164) (k := 1) (As := [.int p1, .int x20, .int x25, .int x30]) (st := []) F dX7_swap_164 (m_X2_reasonAgainst isC_1 hc31) cv_RX7_144 (klC_0 isC_1) (ksC_0 isC_1) ⟨_, _, rfl⟩ rfl rfl rfl (Nat.le_of_ble_eq_true rfl) ⟨Nat.le_of_ble_eq_true rfl, Nat.le_of_ble_eq_true rfl⟩ ?_ rfl rfl
              clear hc31
              refine a_if_eq (tgt := 180) (pc := 167) F dX7_swap_167 (by decide) (fun q33 => ?_) (fun q33 => ?_)
              · replace h := ite_t q33 h
                clear q33
                refine a_aload_n (pc := 180) F dX7_swap_180 1 rfl ?_
                refine a_getr (k := 0) (r := 39) (pc := 181) F dX7_swap_181 fl_RX7_22 kl_0 ks_0 rfl ?_
                refine a_aload_n (pc := 184) F dX7_swap_184 1 rfl ?_
                refine a_getr (k := 0) (r := 1) (pc := 185) F dX7_swap_185 fl_RX7_10 kl_0 ks_0 rfl ?_
                replace h := bnd_some h
                obtain ⟨m35, hc34, h⟩ := h
                refine a_callV (pc := 188) (k := 39) (As := [.ref (ga X.G 1)]) (st := []) F dX7_swap_188 (m_X4_save isC_1 hc34) cv_RX7_79 kl_39 ks_39 ⟨_, _, rfl⟩ rfl rfl rfl (Nat.le_of_ble_eq_true rfl) ⟨Nat.le_of_ble_eq_true rfl, Nat.le_of_ble_eq_true rfl⟩ ?_ rfl rfl
                clear hc34
                refine a_aload_n (pc := 191) F dX7_swap_191 1 rfl ?_
                refine a_getr (k := 0) (r := 1) (pc := 192) F dX7_swap_192 fl_RX7_10 kl_0 ks_0 rfl ?_
                refine a_getr (k := 1) (r := (1 + 8)) (pc := 195) F dX7_swap_195 fl_RX7_89 (klC_0 isC_1) (ksC_0 isC_1) rfl ?_
                refine a_iload_n (pc := 198) F dX7_swap_198 2 rfl ?_
                refine a_iload_n (pc := 199) F dX7_swap_199 3 rfl ?_
                replace h := bnd_some h
                obtain ⟨x37, hc36, h⟩ := h
                refine a_callV (pc := 200) (k := (1 + 8)) (As := [.int p1, .int p2]) (st := []) F dX7_swap_200 (m_X3_member isC_1 hc36) cv_RX7_175 (klC_8 isC_1) (ksC_8 isC_1) ⟨_, _, rfl⟩ rfl rfl rfl (Nat.le_of_ble_eq_true rfl) ⟨Nat.le_of_ble_eq_true rfl, Nat.le_of_ble_eq_true rfl⟩ ?_ rfl rfl
                clear hc36
                refine a_istore (lv' := [(7, .int x37), (6, .int x30), (0, .ref (ga X.G 0)), (1, .int p1), (2, .int p2), (4, .int x20), (5, .int x25)]) (pc := 203) F dX7_swap_203 (by decide) rfl ?_
                refine a_aload_n (pc := 205) F dX7_swap_205 2 rfl ?_
                refine a_getr (k := 0) (r := 1) (pc := 206) F dX7_swap_206 fl_RX7_10 kl_0 ks_0 rfl ?_
                refine a_getr (k := 1) (r := (1 + 8)) (pc := 209) F dX7_swap_209 fl_RX7_89 (klC_0 isC_1) (ksC_0 isC_1) rfl ?_
                refine a_iload_n (pc := 212) F dX7_swap_212 3 rfl ?_
                refine a_iload (pc := 213) F dX7_swap_213 5 rfl ?_
                refine a_iload (pc := 215) F dX7_swap_215 6 rfl ?_
                refine a_iload (pc := 217) F dX7_swap_217 1 rfl ?_
                replace h := bnd_some h
                obtain ⟨m39, hc38, h⟩ := h
                refine a_callV (pc := 219) (k := (1 + 8)) (As := [.int p1, .int x20, .int x25, .int x30]) (st := []) F dX7_swap_219 (m_X3_giveChain isC_1 hc38) cv_RX7_149 (klC_8 isC_1) (ksC_8 isC_1) ⟨_, _, rfl⟩ rfl rfl rfl (Nat.le_of_ble_eq_true rfl) ⟨Nat.le_of_ble_eq_true rfl, Nat.le_of_ble_eq_true rfl⟩ ?_ rfl rfl
                clear hc38
                refine a_iload (pc := 222) F dX7_swap_222 0 rfl ?_
                replace h := hB3 _ (Option.some.inj h).symm
                cases h
                exact a_iret (pc := 224) F dX7_swap_224 ⟨_, rfl, rfl⟩
              · replace h := ite_f q33 h
                clear q33
                cases h
            clear h
            have h := hR26
            clear hR26
            refine a_icmp_ne (tgt := 139) (pc := 132) F dX7_swap_132 (by decide) (fun q27 => ?_) (fun q27 => ?_)
            · replace h := ite_f q27 h
              clear q27
              refine a_aload_n (pc := 139) F dX7_swap_139 1 rfl ?_
              refine a_getr (k := 0) (r := 1) (pc := 140) F dX7_swap_140 fl_RX7_10 kl_0 ks_0 rfl ?_
              refine a_getr (k := 1) (r := (1 + 8)) (pc := 143) F dX7_swap_143 fl_RX7_89 (klC_0 isC_1) (ksC_0 isC_1) rfl ?_
              refine a_iload_n (pc := 146) F dX7_swap_146 2 rfl ?_
              refine a_iconst (v := 2) (pc := 147) F dX7_swap_147 (by decide) ?_
              replace h := bnd_some h
              obtain ⟨x29, hc28, h⟩ := h
              refine a_callV (pc := 148) (k := (1 + 8)) (As := [.int p1, .int 2]) (st := []) F dX7_swap_148 (m_X3_member isC_1 hc28) cv_RX7_175 (klC_8 isC_1) (ksC_8 isC_1) ⟨_, _, rfl⟩ rfl rfl rfl (Nat.le_of_ble_eq_true rfl) ⟨Nat.le_of_ble_eq_true rfl, Nat.le_of_ble_eq_true rfl⟩ ?_ rfl rfl
              clear hc28
              refine a_lv F [1, 2, 3, 5, 0] rfl ?_
              cases h
              exact hJ26
            · replace h := ite_t (Decidable.not_not.mp q27) h
              clear q27
              refine a_iload_n (pc := 135) F dX7_swap_135 4 rfl ?_
              refine a_goto (tgt := 151) (pc := 136) F dX7_swap_136 (by decide) ?_
              refine a_lv F [1, 2, 3, 5, 0] rfl ?_
              cases h
              exact hJ26
          clear h
          have h := hR21
          clear hR21
          refine a_icmp_ne (tgt := 116) (pc := 109) F dX7_swap_109 (by decide) (fun q22 => ?_) (fun q22 => ?_)
          · replace h := ite_f q22 h
            clear q22
            refine a_aload_n (pc := 116) F dX7_swap_116 1 rfl ?_
            refine a_getr (k := 0) (r := 1) (pc := 117) F dX7_swap_117 fl_RX7_10 kl_0 ks_0 rfl ?_
            refine a_getr (k := 1) (r := (1 + 8)) (pc := 120) F dX7_swap_120 fl_RX7_89 (klC_0 isC_1) (ksC_0 isC_1) rfl ?_
            refine a_iload_n (pc := 123) F dX7_swap_123 2 rfl ?_
            refine a_iconst (v := 1) (pc := 124) F dX7_swap_124 (by decide) ?_
            replace h := bnd_some h
            obtain ⟨x24, hc23, h⟩ := h
            refine a_callV (pc := 125) (k := (1 + 8)) (As := [.int p1, .int 1]) (st := []) F dX7_swap_125 (m_X3_member isC_1 hc23) cv_RX7_175 (klC_8 isC_1) (ksC_8 isC_1) ⟨_, _, rfl⟩ rfl rfl rfl (Nat.le_of_ble_eq_true rfl) ⟨Nat.le_of_ble_eq_true rfl, Nat.le_of_ble_eq_true rfl⟩ ?_ rfl rfl
            clear hc23
            refine a_lv F [1, 2, 3, 4, 0] rfl ?_
            cases h
            exact hJ21
          · replace h := ite_t (Decidable.not_not.mp q22) h
            clear q22
            refine a_iload_n (pc := 112) F dX7_swap_112 4 rfl ?_
            refine a_goto (tgt := 128) (pc := 113) F dX7_swap_113 (by decide) ?_
            refine a_lv F [1, 2, 3, 4, 0] rfl ?_
            cases h
            exact hJ21
        clear h
        have h := hR15
        clear hR15
        refine a_if_eq (tgt := 85) (pc := 72) F dX7_swap_72 (by decide) (fun q16 => ?_) (fun q16 => ?_)
        · replace h := ite_t q16 h
          clear q16
          refine a_iload_n (pc := 85) F dX7_swap_85 2 rfl ?_
          refine a_if_ne (tgt := 93) (pc := 86) F dX7_swap_86 (by decide) (fun q17 => ?_) (fun q17 => ?_)
          · replace h := ite_f q17 h
            clear q17
            refine a_aload_n (pc := 93) F dX7_swap_93 0 rfl ?_
            refine a_getr (k := 0) (r := 1) (pc := 94) F dX7_swap_94 fl_RX7_10 kl_0 ks_0 rfl ?_
            refine a_getr (k := 1) (r := (1 + 8)) (pc := 97) F dX7_swap_97 fl_RX7_89 (klC_0 isC_1) (ksC_0 isC_1) rfl ?_
            refine a_iload_n (pc := 100) F dX7_swap_100 1 rfl ?_
            refine a_iconst (v := 0) (pc := 101) F dX7_swap_101 (by decide) ?_
            replace h := bnd_some h
            obtain ⟨x19, hc18, h⟩ := h
            refine a_callV (pc := 102) (k := (1 + 8)) (As := [.int p1, .int 0]) (st := []) F dX7_swap_102 (m_X3_member isC_1 hc18) cv_RX7_175 (klC_8 isC_1) (ksC_8 isC_1) ⟨_, _, rfl⟩ rfl rfl rfl (Nat.le_of_ble_eq_true rfl) ⟨Nat.le_of_ble_eq_true rfl, Nat.le_of_ble_eq_true rfl⟩ ?_ rfl rfl
            clear hc18
            cases h
            exact hJ15
          · replace h := ite_t (Decidable.not_not.mp q17) h
            clear q17
            refine a_iload_n (pc := 89) F dX7_swap_89 3 rfl ?_
            refine a_goto (tgt := 105) (pc := 90) F dX7_swap_90 (by decide) ?_
            cases h
            exact hJ15
        · replace h := ite_f q16 h
          clear q16
          cases h
      · replace h := ite_t (Decidable.not_not.mp q12) h
        clear q12
        refine a_lv F [] rfl ?_
        exact hJ3 _ (Option.some.inj h).symm
def f_X2_payByNotice (c : Nat) (p1 : Int32) (m0 : Mem) : Option Int32 :=
  (if (m0.1 (c + 18) 4) ≤ p1 then (if (m0.1 (c + 18) 5) ≤ p1 then some 0 else some 1) else some 2)
set_option maxRecDepth 100000 in
set_option maxHeartbeats 4000000 in
theorem m_X2_payByNotice {c : Nat} {p1 : Int32} (hc : isC c) {m0 : Mem} {rr : Int32} (h : f_X2_payByNotice c p1 m0 = some rr) : Con yX2_payByNotice cX2_payByNotice 2 (some Jvm.ClassFile.FieldType.int) 0 0 (fun G => [.ref (ga G c), .int p1]) m0 (some (.int rr)) m0 := by
  refine con_of (by decide) (fun G => Nat.le_of_ble_eq_true rfl) (fun X F => ?_)
  show WA X 0 0 0 [(0, .ref (ga X.G c)), (1, .int p1)] [] m0 (EQ X (some (.int rr)) m0)
  rw [f_X2_payByNotice] at h
  refine a_iload_n (pc := 0) F dX2_payByNotice_0 1 rfl ?_
  refine a_aload_n (pc := 1) F dX2_payByNotice_1 0 rfl ?_
  refine a_getr (k := c) (r := (c + 18)) (pc := 2) F dX2_payByNotice_2 fl_RX2_34 (klC_0 hc) (ksC_0 hc) rfl ?_
  refine a_iconst (v := 4) (pc := 5) F dX2_payByNotice_5 (by decide) ?_
  refine a_ialc (k := (c + 18)) (pc := 6) F dX2_payByNotice_6 (klC_18 hc) (ksC_18 hc) rfl rfl ?_
  refine a_icmp_ge (tgt := 12) (pc := 7) F dX2_payByNotice_7 (by decide) (fun q1 => ?_) (fun q1 => ?_)
  · replace h := ite_t q1 h
    clear q1
    refine a_iload_n (pc := 12) F dX2_payByNotice_12 1 rfl ?_
    refine a_aload_n (pc := 13) F dX2_payByNotice_13 0 rfl ?_
    refine a_getr (k := c) (r := (c + 18)) (pc := 14) F dX2_payByNotice_14 fl_RX2_34 (klC_0 hc) (ksC_0 hc) rfl ?_
    refine a_iconst (v := 5) (pc := 17) F dX2_payByNotice_17 (by decide) ?_
    refine a_ialc (k := (c + 18)) (pc := 18) F dX2_payByNotice_18 (klC_18 hc) (ksC_18 hc) rfl rfl ?_
    refine a_icmp_ge (tgt := 26) (pc := 19) F dX2_payByNotice_19 (by decide) (fun q2 => ?_) (fun q2 => ?_)
    · replace h := ite_t q2 h
      clear q2
      refine a_iconst (v := 0) (pc := 26) F dX2_payByNotice_26 (by decide) ?_
      cases h
      exact a_iret (pc := 27) F dX2_payByNotice_27 ⟨_, rfl, rfl⟩
    · replace h := ite_f q2 h
      clear q2
      refine a_iconst (v := 1) (pc := 22) F dX2_payByNotice_22 (by decide) ?_
      refine a_goto (tgt := 27) (pc := 23) F dX2_payByNotice_23 (by decide) ?_
      cases h
      exact a_iret (pc := 27) F dX2_payByNotice_27 ⟨_, rfl, rfl⟩
  · replace h := ite_f q1 h
    clear q1
    refine a_iconst (v := 2) (pc := 10) F dX2_payByNotice_10 (by decide) ?_
    cases h
    exact a_iret (pc := 11) F dX2_payByNotice_11 ⟨_, rfl, rfl⟩
def f_X6_pay (c : Nat) (p1 : Int32) (p2 : Int32) (m0 : Mem) : Option Mem :=
  bnd (f_X6_has c p1 m0) fun x2 => (if x2 = 0 then some m0 else gIn p1 10 <| nm (m0.1 (c + 6) p1.toNatClampNeg) fun x5 => gIn p1 10 <| nm (si m0 (c + 6) p1.toNatClampNeg (x5 + p2)) fun m7 => some m7)
set_option maxRecDepth 100000 in
set_option maxHeartbeats 4000000 in
theorem m_X6_pay {c : Nat} {p1 : Int32} {p2 : Int32} (hc : isC c) {m0 : Mem} {mm : Mem} (h : f_X6_pay c p1 p2 m0 = some mm) : Con yX6_pay cX6_pay 3 none 1 21 (fun G => [.ref (ga G (c + 1)), .int p1, .int p2]) m0 none mm := by
  refine con_of (by decide) (fun G => Nat.le_of_ble_eq_true rfl) (fun X F => ?_)
  show WA X 0 0 0 [(0, .ref (ga X.G (c + 1))), (1, .int p1), (2, .int p2)] [] m0 (EQ X none mm)
  rw [f_X6_pay] at h
  refine a_aload_n (pc := 0) F dX6_pay_0 0 rfl ?_
  refine a_iload_n (pc := 1) F dX6_pay_1 1 rfl ?_
  replace h := bnd_some h
  obtain ⟨x2, hc1, h⟩ := h
  refine a_callV (pc := 2) (k := (c + 1)) (As := [.int p1]) (st := []) F dX6_pay_2 (m_X6_has hc hc1) cv_RX6_40 (klC_1 hc) (ksC_1 hc) ⟨_, _, rfl⟩ rfl rfl rfl (Nat.le_of_ble_eq_true rfl) ⟨Nat.le_of_ble_eq_true rfl, Nat.le_of_ble_eq_true rfl⟩ ?_ rfl rfl
  clear hc1
  refine a_if_eq (tgt := 18) (pc := 5) F dX6_pay_5 (by decide) (fun q3 => ?_) (fun q3 => ?_)
  · replace h := ite_t q3 h
    clear q3
    cases h
    exact a_vret (pc := 18) F dX6_pay_18 rfl
  · replace h := ite_f q3 h
    clear q3
    refine a_aload_n (pc := 8) F dX6_pay_8 0 rfl ?_
    refine a_getr (k := (c + 1)) (r := (c + 6)) (pc := 9) F dX6_pay_9 fl_RX6_24 (klC_1 hc) (ksC_1 hc) rfl ?_
    refine a_iload_n (pc := 12) F dX6_pay_12 1 rfl ?_
    refine a_dup2 (pc := 13) F dX6_pay_13 rfl rfl ?_
    replace h := gIn_some h
    obtain ⟨g4, h⟩ := h
    refine a_ial (k := (c + 6)) (pc := 14) F dX6_pay_14 (klC_6 hc) (ksC_6 hc) g4 ?_
    refine a_nmi fun x5 ex5 => ?_
    replace h := nm_at ex5 h
    clear ex5
    refine a_iload_n (pc := 15) F dX6_pay_15 2 rfl ?_
    refine a_iadd (pc := 16) F dX6_pay_16 ?_
    replace h := gIn_some h
    obtain ⟨g6, h⟩ := h
    refine a_ias (k := (c + 6)) (pc := 17) F dX6_pay_17 (klC_6 hc) (ksC_6 hc) g6 ?_
    refine a_nmm fun m7 em7 => ?_
    replace h := nm_at em7 h
    clear em7
    cases h
    exact a_vret (pc := 18) F dX6_pay_18 rfl
def f_X2_close_L6 (c : Nat) (p1 : Int32) (p3 : Int32) : (Int32 × Int32 × Mem) → Option ((Int32 × Int32 × Mem) ⊕ (Int32 × Mem))
  | (x2, x3, m4) => gIn p1 30 <| nm (m4.1 (c + 14) p1.toNatClampNeg) fun x6 => (if x6 ≤ x3 then some (.inr (x2, m4)) else bnd (f_X2_payOf c p1 x3 p3 m4) fun x9 => bnd (f_X3_member c p1 x3 m4) fun x11 => bnd (f_X6_pay c x11 x9 m4) fun m13 => nm (x3 + 1) fun x14 => some (.inl (x2 + x9, x14, m13)))
def f_X2_close (c : Nat) (p1 : Int32) (p2 : Int32) (p3 : Int32) (m0 : Mem) : Option (Int32 × Mem) :=
  bnd (lp (f_X2_close_L6 c p1 p3) 1000000 (0, 0, m0)) (fun (x15, m16) => gIn p1 30 <| nm (si m16 (c + 13) p1.toNatClampNeg p2) fun m18 => gIn p1 30 <| nm (m18.1 (c + 15) p1.toNatClampNeg) fun x20 => gIn p1 30 <| nm (si m18 (c + 15) p1.toNatClampNeg (x20 + x15)) fun m22 => nm (si m22 c 4 ((m22.1 c 4) + x15)) fun m23 => (if p2 = 3 then nm (si m23 c 5 ((m23.1 c 5) + x15)) fun m27 => some (x15, m27) else (if p2 = 2 then nm (si m23 c 6 ((m23.1 c 6) + x15)) fun m26 => some (x15, m26) else some (x15, m23))))
set_option maxRecDepth 100000 in
set_option maxHeartbeats 4000000 in
theorem m_X2_close {c : Nat} {p1 : Int32} {p2 : Int32} {p3 : Int32} (hc : isC c) {m0 : Mem} {rr : Int32} {mm : Mem} (h : f_X2_close c p1 p2 p3 m0 = some (rr, mm)) : Con yX2_close cX2_close 7 (some Jvm.ClassFile.FieldType.int) 2 47 (fun G => [.ref (ga G c), .int p1, .int p2, .int p3]) m0 (some (.int rr)) mm := by
  refine con_of (by decide) (fun G => Nat.le_of_ble_eq_true rfl) (fun X F => ?_)
  show WA X 0 0 0 [(0, .ref (ga X.G c)), (1, .int p1), (2, .int p2), (3, .int p3)] [] m0 (EQ X (some (.int rr)) mm)
  rw [f_X2_close] at h
  refine a_iconst (v := 0) (pc := 0) F dX2_close_0 (by decide) ?_
  refine a_istore (lv' := [(4, .int 0), (0, .ref (ga X.G c)), (1, .int p1), (2, .int p2), (3, .int p3)]) (pc := 1) F dX2_close_1 (by decide) rfl ?_
  refine a_iconst (v := 0) (pc := 3) F dX2_close_3 (by decide) ?_
  refine a_istore (lv' := [(5, .int 0), (4, .int 0), (0, .ref (ga X.G c)), (1, .int p1), (2, .int p2), (3, .int p3)]) (pc := 4) F dX2_close_4 (by decide) rfl ?_
  refine a_lv F [2, 3, 4, 5, 1, 0] rfl ?_
  replace h := bnd_some h
  obtain ⟨⟨x15, m16⟩, hL1, h⟩ := h
  have hE1 : WA X 0 0 62 [(0, .ref (ga X.G c)), (1, .int p1), (2, .int p2), (4, .int x15)] [] m16 (EQ X (some (.int rr)) mm) := by
    refine a_aload_n (pc := 62) F dX2_close_62 0 rfl ?_
    refine a_getr (k := c) (r := (c + 8)) (pc := 63) F dX2_close_63 fl_RX2_21 (klC_0 hc) (ksC_0 hc) rfl ?_
    refine a_getr (k := (c + 8)) (r := (c + 13)) (pc := 66) F dX2_close_66 fl_RX2_127 (klC_8 hc) (ksC_8 hc) rfl ?_
    refine a_iload_n (pc := 69) F dX2_close_69 1 rfl ?_
    refine a_iload_n (pc := 70) F dX2_close_70 2 rfl ?_
    replace h := gIn_some h
    obtain ⟨g17, h⟩ := h
    refine a_ias (k := (c + 13)) (pc := 71) F dX2_close_71 (klC_13 hc) (ksC_13 hc) g17 ?_
    refine a_nmm fun m18 em18 => ?_
    replace h := nm_at em18 h
    clear em18
    refine a_aload_n (pc := 72) F dX2_close_72 0 rfl ?_
    refine a_getr (k := c) (r := (c + 8)) (pc := 73) F dX2_close_73 fl_RX2_21 (klC_0 hc) (ksC_0 hc) rfl ?_
    refine a_getr (k := (c + 8)) (r := (c + 15)) (pc := 76) F dX2_close_76 fl_RX2_130 (klC_8 hc) (ksC_8 hc) rfl ?_
    refine a_iload_n (pc := 79) F dX2_close_79 1 rfl ?_
    refine a_dup2 (pc := 80) F dX2_close_80 rfl rfl ?_
    replace h := gIn_some h
    obtain ⟨g19, h⟩ := h
    refine a_ial (k := (c + 15)) (pc := 81) F dX2_close_81 (klC_15 hc) (ksC_15 hc) g19 ?_
    refine a_nmi fun x20 ex20 => ?_
    replace h := nm_at ex20 h
    clear ex20
    refine a_iload (pc := 82) F dX2_close_82 3 rfl ?_
    refine a_iadd (pc := 84) F dX2_close_84 ?_
    replace h := gIn_some h
    obtain ⟨g21, h⟩ := h
    refine a_ias (k := (c + 15)) (pc := 85) F dX2_close_85 (klC_15 hc) (ksC_15 hc) g21 ?_
    refine a_nmm fun m22 em22 => ?_
    replace h := nm_at em22 h
    clear em22
    refine a_aload_n (pc := 86) F dX2_close_86 0 rfl ?_
    refine a_dup (pc := 87) F dX2_close_87 rfl ?_
    refine a_geti (k := c) (pc := 88) F dX2_close_88 fl_RX2_54 (klC_0 hc) (ksC_0 hc) rfl ?_
    refine a_iload (pc := 91) F dX2_close_91 3 rfl ?_
    refine a_iadd (pc := 93) F dX2_close_93 ?_
    refine a_puti (k := c) (pc := 94) F dX2_close_94 fp_RX2_54 (klC_0 hc) (ksC_0 hc) rfl ?_
    refine a_nmm fun m23 em23 => ?_
    replace h := nm_at em23 h
    clear em23
    refine a_iload_n (pc := 97) F dX2_close_97 2 rfl ?_
    refine a_iconst (v := 3) (pc := 98) F dX2_close_98 (by decide) ?_
    refine a_icmp_ne (tgt := 116) (pc := 99) F dX2_close_99 (by decide) (fun q24 => ?_) (fun q24 => ?_)
    · replace h := ite_f q24 h
      clear q24
      refine a_iload_n (pc := 116) F dX2_close_116 2 rfl ?_
      refine a_iconst (v := 2) (pc := 117) F dX2_close_117 (by decide) ?_
      refine a_icmp_ne (tgt := 132) (pc := 118) F dX2_close_118 (by decide) (fun q25 => ?_) (fun q25 => ?_)
      · replace h := ite_f q25 h
        clear q25
        refine a_iload (pc := 132) F dX2_close_132 3 rfl ?_
        cases h
        exact a_iret (pc := 134) F dX2_close_134 ⟨_, rfl, rfl⟩
      · replace h := ite_t (Decidable.not_not.mp q25) h
        clear q25
        refine a_aload_n (pc := 121) F dX2_close_121 0 rfl ?_
        refine a_dup (pc := 122) F dX2_close_122 rfl ?_
        refine a_geti (k := c) (pc := 123) F dX2_close_123 fl_RX2_60 (klC_0 hc) (ksC_0 hc) rfl ?_
        refine a_iload (pc := 126) F dX2_close_126 3 rfl ?_
        refine a_iadd (pc := 128) F dX2_close_128 ?_
        refine a_puti (k := c) (pc := 129) F dX2_close_129 fp_RX2_60 (klC_0 hc) (ksC_0 hc) rfl ?_
        refine a_nmm fun m26 em26 => ?_
        replace h := nm_at em26 h
        clear em26
        refine a_iload (pc := 132) F dX2_close_132 3 rfl ?_
        cases h
        exact a_iret (pc := 134) F dX2_close_134 ⟨_, rfl, rfl⟩
    · replace h := ite_t (Decidable.not_not.mp q24) h
      clear q24
      refine a_aload_n (pc := 102) F dX2_close_102 0 rfl ?_
      refine a_dup (pc := 103) F dX2_close_103 rfl ?_
      refine a_geti (k := c) (pc := 104) F dX2_close_104 fl_RX2_57 (klC_0 hc) (ksC_0 hc) rfl ?_
      refine a_iload (pc := 107) F dX2_close_107 3 rfl ?_
      refine a_iadd (pc := 109) F dX2_close_109 ?_
      refine a_puti (k := c) (pc := 110) F dX2_close_110 fp_RX2_57 (klC_0 hc) (ksC_0 hc) rfl ?_
      refine a_nmm fun m27 em27 => ?_
      replace h := nm_at em27 h
      clear em27
      refine a_goto (tgt := 132) (pc := 113) F dX2_close_113 (by decide) ?_
      refine a_iload (pc := 132) F dX2_close_132 3 rfl ?_
      cases h
      exact a_iret (pc := 134) F dX2_close_134 ⟨_, rfl, rfl⟩
  clear h
  refine lp_run (P := fun (s : (Int32 × Int32 × Mem)) => WA X 0 0 6 [(0, .ref (ga X.G c)), (1, .int p1), (2, .int p2), (3, .int p3), (4, .int s.1), (5, .int s.2.1)] [] s.2.2 (EQ X (some (.int rr)) mm)) ?_ _ _ hL1
  clear hL1
  rintro ⟨x2, x3, m4⟩ xo h hP1 hT1
  show WA X 0 0 6 [(0, .ref (ga X.G c)), (1, .int p1), (2, .int p2), (3, .int p3), (4, .int x2), (5, .int x3)] [] m4 (EQ X (some (.int rr)) mm)
  rw [f_X2_close_L6] at h
  refine a_iload (pc := 6) F dX2_close_6 5 rfl ?_
  refine a_aload_n (pc := 8) F dX2_close_8 0 rfl ?_
  refine a_getr (k := c) (r := (c + 8)) (pc := 9) F dX2_close_9 fl_RX2_21 (klC_0 hc) (ksC_0 hc) rfl ?_
  refine a_getr (k := (c + 8)) (r := (c + 14)) (pc := 12) F dX2_close_12 fl_RX2_107 (klC_8 hc) (ksC_8 hc) rfl ?_
  refine a_iload_n (pc := 15) F dX2_close_15 1 rfl ?_
  replace h := gIn_some h
  obtain ⟨g5, h⟩ := h
  refine a_ial (k := (c + 14)) (pc := 16) F dX2_close_16 (klC_14 hc) (ksC_14 hc) g5 ?_
  refine a_nmi fun x6 ex6 => ?_
  replace h := nm_at ex6 h
  clear ex6
  refine a_icmp_ge (tgt := 62) (pc := 17) F dX2_close_17 (by decide) (fun q7 => ?_) (fun q7 => ?_)
  · replace h := ite_t q7 h
    clear q7
    refine a_lv F [0, 1, 2, 4] rfl ?_
    cases hT1 _ (Option.some.inj h).symm
    exact hE1
  · replace h := ite_f q7 h
    clear q7
    refine a_aload_n (pc := 20) F dX2_close_20 0 rfl ?_
    refine a_iload_n (pc := 21) F dX2_close_21 1 rfl ?_
    refine a_iload (pc := 22) F dX2_close_22 5 rfl ?_
    refine a_iload_n (pc := 24) F dX2_close_24 3 rfl ?_
    replace h := bnd_some h
    obtain ⟨x9, hc8, h⟩ := h
    refine a_callV (pc := 25) (k := c) (As := [.int p1, .int x3, .int p3]) (st := []) F dX2_close_25 (m_X2_payOf hc hc8) cv_RX2_114 (klC_0 hc) (ksC_0 hc) ⟨_, _, rfl⟩ rfl rfl rfl (Nat.le_of_ble_eq_true rfl) ⟨Nat.le_of_ble_eq_true rfl, Nat.le_of_ble_eq_true rfl⟩ ?_ rfl rfl
    clear hc8
    refine a_istore (lv' := [(6, .int x9), (0, .ref (ga X.G c)), (1, .int p1), (2, .int p2), (3, .int p3), (4, .int x2), (5, .int x3)]) (pc := 28) F dX2_close_28 (by decide) rfl ?_
    refine a_aload_n (pc := 30) F dX2_close_30 1 rfl ?_
    refine a_getr (k := c) (r := (c + 1)) (pc := 31) F dX2_close_31 fl_RX2_12 (klC_0 hc) (ksC_0 hc) rfl ?_
    refine a_aload_n (pc := 34) F dX2_close_34 1 rfl ?_
    refine a_getr (k := c) (r := (c + 8)) (pc := 35) F dX2_close_35 fl_RX2_21 (klC_0 hc) (ksC_0 hc) rfl ?_
    refine a_iload_n (pc := 38) F dX2_close_38 2 rfl ?_
    refine a_iload (pc := 39) F dX2_close_39 6 rfl ?_
    replace h := bnd_some h
    obtain ⟨x11, hc10, h⟩ := h
    refine a_callV (pc := 41) (k := (c + 8)) (As := [.int p1, .int x3]) (st := [.ref (ga X.G (c + 1))]) F dX2_close_41 (m_X3_member hc hc10) cv_RX2_103 (klC_8 hc) (ksC_8 hc) ⟨_, _, rfl⟩ rfl rfl rfl (Nat.le_of_ble_eq_true rfl) ⟨Nat.le_of_ble_eq_true rfl, Nat.le_of_ble_eq_true rfl⟩ ?_ rfl rfl
    clear hc10
    refine a_iload (pc := 44) F dX2_close_44 0 rfl ?_
    replace h := bnd_some h
    obtain ⟨m13, hc12, h⟩ := h
    refine a_callV (pc := 46) (k := (c + 1)) (As := [.int x11, .int x9]) (st := []) F dX2_close_46 (m_X6_pay hc hc12) cv_RX2_123 (klC_1 hc) (ksC_1 hc) ⟨_, _, rfl⟩ rfl rfl rfl (Nat.le_of_ble_eq_true rfl) ⟨Nat.le_of_ble_eq_true rfl, Nat.le_of_ble_eq_true rfl⟩ ?_ rfl rfl
    clear hc12
    refine a_iload (pc := 49) F dX2_close_49 5 rfl ?_
    refine a_iload (pc := 51) F dX2_close_51 0 rfl ?_
    refine a_iadd (pc := 53) F dX2_close_53 ?_
    refine a_istore (lv' := [(4, .int (x2 + x9)), (6, .int x9), (0, .ref (ga X.G c)), (1, .int p1), (2, .int p2), (3, .int p3), (5, .int x3)]) (pc := 54) F dX2_close_54 (by decide) rfl ?_
    obtain ⟨x14, ex14⟩ : ∃ x14 : Int32, x14 = x3 + 1 := ⟨_, rfl⟩
    refine a_iinc (v := x14) (lv' := [(5, .int x14), (4, .int (x2 + x9)), (6, .int x9), (0, .ref (ga X.G c)), (1, .int p1), (2, .int p2), (3, .int p3)]) (pc := 56) F dX2_close_56 6 rfl (by rw [ex14]; rfl) (by decide) rfl ?_
    replace h := nm_at ex14 h
    clear ex14
    refine a_goto (tgt := 6) (pc := 59) F dX2_close_59 (by decide) ?_
    refine a_lv F [3, 4, 5, 6, 1, 0] rfl ?_
    exact hP1 _ (Option.some.inj h).symm
def f_X7_vacate (p1 : Int32) (m0 : Mem) : Option (Int32 × Mem) :=
  bnd (f_X3_has 1 p1 m0) fun x2 => (if x2 = 0 then none else bnd (f_X2_isAhead 1 p1 m0) fun x5 => (if x5 = 0 then none else bnd (f_X4_save 1 m0) fun m8 => gIn p1 30 <| nm (m8.1 (1 + 11) p1.toNatClampNeg) fun x10 => bnd (f_X2_payByNotice 1 (x10 - (m8.1 1 3)) m8) fun x12 => bnd2 (f_X2_close 1 p1 3 x12 m8) fun x14 m15 => some (x14, m15)))
set_option maxRecDepth 100000 in
set_option maxHeartbeats 4000000 in
theorem m_X7_vacate {p1 : Int32} {m0 : Mem} {rr : Int32} {mm : Mem} (h : f_X7_vacate p1 m0 = some (rr, mm)) : Con yX7_vacate cX7_vacate 2 (some Jvm.ClassFile.FieldType.int) 4 104 (fun G => [.ref (ga G 0), .int p1]) m0 (some (.int rr)) mm := by
  refine con_of (by decide) (fun G => Nat.le_of_ble_eq_true rfl) (fun X F => ?_)
  show WA X 0 0 0 [(0, .ref (ga X.G 0)), (1, .int p1)] [] m0 (EQ X (some (.int rr)) mm)
  rw [f_X7_vacate] at h
  refine a_aload_n (pc := 0) F dX7_vacate_0 0 rfl ?_
  refine a_getr (k := 0) (r := 1) (pc := 1) F dX7_vacate_1 fl_RX7_10 kl_0 ks_0 rfl ?_
  refine a_getr (k := 1) (r := (1 + 8)) (pc := 4) F dX7_vacate_4 fl_RX7_89 (klC_0 isC_1) (ksC_0 isC_1) rfl ?_
  refine a_iload_n (pc := 7) F dX7_vacate_7 1 rfl ?_
  replace h := bnd_some h
  obtain ⟨x2, hc1, h⟩ := h
  refine a_callV (pc := 8) (k := (1 + 8)) (As := [.int p1]) (st := []) F dX7_vacate_8 (m_X3_has isC_1 hc1) cv_RX7_133 (klC_8 isC_1) (ksC_8 isC_1) ⟨_, _, rfl⟩ rfl rfl rfl (Nat.le_of_ble_eq_true rfl) ⟨Nat.le_of_ble_eq_true rfl, Nat.le_of_ble_eq_true rfl⟩ ?_ rfl rfl
  clear hc1
  refine a_if_ne (tgt := 24) (pc := 11) F dX7_vacate_11 (by decide) (fun q3 => ?_) (fun q3 => ?_)
  · replace h := ite_f q3 h
    clear q3
    refine a_aload_n (pc := 24) F dX7_vacate_24 0 rfl ?_
    refine a_getr (k := 0) (r := 1) (pc := 25) F dX7_vacate_25 fl_RX7_10 kl_0 ks_0 rfl ?_
    refine a_iload_n (pc := 28) F dX7_vacate_28 1 rfl ?_
    replace h := bnd_some h
    obtain ⟨x5, hc4, h⟩ := h
    refine a_callV (pc := 29) (k := 1) (As := [.int p1]) (st := []) F dX7_vacate_29 (m_X2_isAhead isC_1 hc4) cv_RX7_159 (klC_0 isC_1) (ksC_0 isC_1) ⟨_, _, rfl⟩ rfl rfl rfl (Nat.le_of_ble_eq_true rfl) ⟨Nat.le_of_ble_eq_true rfl, Nat.le_of_ble_eq_true rfl⟩ ?_ rfl rfl
    clear hc4
    refine a_if_ne (tgt := 45) (pc := 32) F dX7_vacate_32 (by decide) (fun q6 => ?_) (fun q6 => ?_)
    · replace h := ite_f q6 h
      clear q6
      refine a_aload_n (pc := 45) F dX7_vacate_45 0 rfl ?_
      refine a_getr (k := 0) (r := 39) (pc := 46) F dX7_vacate_46 fl_RX7_22 kl_0 ks_0 rfl ?_
      refine a_aload_n (pc := 49) F dX7_vacate_49 0 rfl ?_
      refine a_getr (k := 0) (r := 1) (pc := 50) F dX7_vacate_50 fl_RX7_10 kl_0 ks_0 rfl ?_
      replace h := bnd_some h
      obtain ⟨m8, hc7, h⟩ := h
      refine a_callV (pc := 53) (k := 39) (As := [.ref (ga X.G 1)]) (st := []) F dX7_vacate_53 (m_X4_save isC_1 hc7) cv_RX7_79 kl_39 ks_39 ⟨_, _, rfl⟩ rfl rfl rfl (Nat.le_of_ble_eq_true rfl) ⟨Nat.le_of_ble_eq_true rfl, Nat.le_of_ble_eq_true rfl⟩ ?_ rfl rfl
      clear hc7
      refine a_aload_n (pc := 56) F dX7_vacate_56 0 rfl ?_
      refine a_getr (k := 0) (r := 1) (pc := 57) F dX7_vacate_57 fl_RX7_10 kl_0 ks_0 rfl ?_
      refine a_iload_n (pc := 60) F dX7_vacate_60 1 rfl ?_
      refine a_iconst (v := 3) (pc := 61) F dX7_vacate_61 (by decide) ?_
      refine a_aload_n (pc := 62) F dX7_vacate_62 0 rfl ?_
      refine a_getr (k := 0) (r := 1) (pc := 63) F dX7_vacate_63 fl_RX7_10 kl_0 ks_0 rfl ?_
      refine a_aload_n (pc := 66) F dX7_vacate_66 0 rfl ?_
      refine a_getr (k := 0) (r := 1) (pc := 67) F dX7_vacate_67 fl_RX7_10 kl_0 ks_0 rfl ?_
      refine a_getr (k := 1) (r := (1 + 8)) (pc := 70) F dX7_vacate_70 fl_RX7_89 (klC_0 isC_1) (ksC_0 isC_1) rfl ?_
      refine a_getr (k := (1 + 8)) (r := (1 + 11)) (pc := 73) F dX7_vacate_73 fl_RX7_180 (klC_8 isC_1) (ksC_8 isC_1) rfl ?_
      refine a_iload_n (pc := 76) F dX7_vacate_76 1 rfl ?_
      replace h := gIn_some h
      obtain ⟨g9, h⟩ := h
      refine a_ial (k := (1 + 11)) (pc := 77) F dX7_vacate_77 (klC_11 isC_1) (ksC_11 isC_1) g9 ?_
      refine a_nmi fun x10 ex10 => ?_
      replace h := nm_at ex10 h
      clear ex10
      refine a_aload_n (pc := 78) F dX7_vacate_78 0 rfl ?_
      refine a_getr (k := 0) (r := 1) (pc := 79) F dX7_vacate_79 fl_RX7_10 kl_0 ks_0 rfl ?_
      refine a_geti (k := 1) (pc := 82) F dX7_vacate_82 fl_RX7_98 (klC_0 isC_1) (ksC_0 isC_1) rfl ?_
      refine a_isub (pc := 85) F dX7_vacate_85 ?_
      replace h := bnd_some h
      obtain ⟨x12, hc11, h⟩ := h
      refine a_callV (pc := 86) (k := 1) (As := [.int (x10 - (m8.1 1 3))]) (st := [.int 3, .int p1, .ref (ga X.G 1)]) F dX7_vacate_86 (m_X2_payByNotice isC_1 hc11) cv_RX7_183 (klC_0 isC_1) (ksC_0 isC_1) ⟨_, _, rfl⟩ rfl rfl rfl (Nat.le_of_ble_eq_true rfl) ⟨Nat.le_of_ble_eq_true rfl, Nat.le_of_ble_eq_true rfl⟩ ?_ rfl rfl
      clear hc11
      replace h := bnd2_some h
      obtain ⟨x14, m15, hc13, h⟩ := h
      refine a_callV (pc := 89) (k := 1) (As := [.int p1, .int 3, .int x12]) (st := []) F dX7_vacate_89 (m_X2_close isC_1 hc13) cv_RX7_186 (klC_0 isC_1) (ksC_0 isC_1) ⟨_, _, rfl⟩ rfl rfl rfl (Nat.le_of_ble_eq_true rfl) ⟨Nat.le_of_ble_eq_true rfl, Nat.le_of_ble_eq_true rfl⟩ ?_ rfl rfl
      clear hc13
      cases h
      exact a_iret (pc := 92) F dX7_vacate_92 ⟨_, rfl, rfl⟩
    · replace h := ite_t (Decidable.not_not.mp q6) h
      clear q6
      cases h
  · replace h := ite_t (Decidable.not_not.mp q3) h
    clear q3
    cases h
def f_X2_isUnderWay (c : Nat) (p1 : Int32) (m0 : Mem) : Option Int32 :=
  bnd (f_X3_isListed c p1 m0) fun x2 => (if x2 = 0 then some 0 else bnd (f_X2_hasStarted c p1 m0) fun x5 => (if x5 = 0 then some 0 else some 1))
set_option maxRecDepth 100000 in
set_option maxHeartbeats 4000000 in
theorem m_X2_isUnderWay {c : Nat} {p1 : Int32} (hc : isC c) {m0 : Mem} {rr : Int32} (h : f_X2_isUnderWay c p1 m0 = some rr) : Con yX2_isUnderWay cX2_isUnderWay 2 (some Jvm.ClassFile.FieldType.boolean) 1 21 (fun G => [.ref (ga G c), .int p1]) m0 (some (.int rr)) m0 := by
  refine con_of (by decide) (fun G => Nat.le_of_ble_eq_true rfl) (fun X F => ?_)
  show WA X 0 0 0 [(0, .ref (ga X.G c)), (1, .int p1)] [] m0 (EQ X (some (.int rr)) m0)
  rw [f_X2_isUnderWay] at h
  refine a_aload_n (pc := 0) F dX2_isUnderWay_0 0 rfl ?_
  refine a_getr (k := c) (r := (c + 8)) (pc := 1) F dX2_isUnderWay_1 fl_RX2_21 (klC_0 hc) (ksC_0 hc) rfl ?_
  refine a_iload_n (pc := 4) F dX2_isUnderWay_4 1 rfl ?_
  replace h := bnd_some h
  obtain ⟨x2, hc1, h⟩ := h
  refine a_callV (pc := 5) (k := (c + 8)) (As := [.int p1]) (st := []) F dX2_isUnderWay_5 (m_X3_isListed hc hc1) cv_RX2_66 (klC_8 hc) (ksC_8 hc) ⟨_, _, rfl⟩ rfl rfl rfl (Nat.le_of_ble_eq_true rfl) ⟨Nat.le_of_ble_eq_true rfl, Nat.le_of_ble_eq_true rfl⟩ ?_ rfl rfl
  clear hc1
  refine a_if_eq (tgt := 23) (pc := 8) F dX2_isUnderWay_8 (by decide) (fun q3 => ?_) (fun q3 => ?_)
  · replace h := ite_t q3 h
    clear q3
    refine a_iconst (v := 0) (pc := 23) F dX2_isUnderWay_23 (by decide) ?_
    cases h
    exact a_iret (pc := 24) F dX2_isUnderWay_24 ⟨_, rfl, rfl⟩
  · replace h := ite_f q3 h
    clear q3
    refine a_aload_n (pc := 11) F dX2_isUnderWay_11 0 rfl ?_
    refine a_iload_n (pc := 12) F dX2_isUnderWay_12 1 rfl ?_
    replace h := bnd_some h
    obtain ⟨x5, hc4, h⟩ := h
    refine a_callV (pc := 13) (k := c) (As := [.int p1]) (st := []) F dX2_isUnderWay_13 (m_X2_hasStarted hc hc4) cv_RX2_70 (klC_0 hc) (ksC_0 hc) ⟨_, _, rfl⟩ rfl rfl rfl (Nat.le_of_ble_eq_true rfl) ⟨Nat.le_of_ble_eq_true rfl, Nat.le_of_ble_eq_true rfl⟩ ?_ rfl rfl
    clear hc4
    refine a_if_eq (tgt := 23) (pc := 16) F dX2_isUnderWay_16 (by decide) (fun q6 => ?_) (fun q6 => ?_)
    · replace h := ite_t q6 h
      clear q6
      refine a_iconst (v := 0) (pc := 23) F dX2_isUnderWay_23 (by decide) ?_
      cases h
      exact a_iret (pc := 24) F dX2_isUnderWay_24 ⟨_, rfl, rfl⟩
    · replace h := ite_f q6 h
      clear q6
      refine a_iconst (v := 1) (pc := 19) F dX2_isUnderWay_19 (by decide) ?_
      refine a_goto (tgt := 24) (pc := 20) F dX2_isUnderWay_20 (by decide) ?_
      cases h
      exact a_iret (pc := 24) F dX2_isUnderWay_24 ⟨_, rfl, rfl⟩
def f_X6_work (c : Nat) (p1 : Int32) (p2 : Int32) (m0 : Mem) : Option Mem :=
  bnd (f_X6_has c p1 m0) fun x2 => (if x2 = 0 then some m0 else gIn p1 10 <| nm (m0.1 (c + 5) p1.toNatClampNeg) fun x5 => nm ((if (x5 + p2) < 1000 then (x5 + p2) else 1000)) fun x6 => gIn p1 10 <| nm (si m0 (c + 5) p1.toNatClampNeg x6) fun m8 => gIn p1 10 <| nm (m8.1 (c + 7) p1.toNatClampNeg) fun x10 => gIn p1 10 <| nm (si m8 (c + 7) p1.toNatClampNeg (x10 + 1)) fun m12 => some m12)
set_option maxRecDepth 100000 in
set_option maxHeartbeats 4000000 in
theorem m_X6_work {c : Nat} {p1 : Int32} {p2 : Int32} (hc : isC c) {m0 : Mem} {mm : Mem} (h : f_X6_work c p1 p2 m0 = some mm) : Con yX6_work cX6_work 3 none 1 21 (fun G => [.ref (ga G (c + 1)), .int p1, .int p2]) m0 none mm := by
  refine con_of (by decide) (fun G => Nat.le_of_ble_eq_true rfl) (fun X F => ?_)
  show WA X 0 0 0 [(0, .ref (ga X.G (c + 1))), (1, .int p1), (2, .int p2)] [] m0 (EQ X none mm)
  rw [f_X6_work] at h
  refine a_aload_n (pc := 0) F dX6_work_0 0 rfl ?_
  refine a_iload_n (pc := 1) F dX6_work_1 1 rfl ?_
  replace h := bnd_some h
  obtain ⟨x2, hc1, h⟩ := h
  refine a_callV (pc := 2) (k := (c + 1)) (As := [.int p1]) (st := []) F dX6_work_2 (m_X6_has hc hc1) cv_RX6_40 (klC_1 hc) (ksC_1 hc) ⟨_, _, rfl⟩ rfl rfl rfl (Nat.le_of_ble_eq_true rfl) ⟨Nat.le_of_ble_eq_true rfl, Nat.le_of_ble_eq_true rfl⟩ ?_ rfl rfl
  clear hc1
  refine a_if_eq (tgt := 38) (pc := 5) F dX6_work_5 (by decide) (fun q3 => ?_) (fun q3 => ?_)
  · replace h := ite_t q3 h
    clear q3
    cases h
    exact a_vret (pc := 38) F dX6_work_38 rfl
  · replace h := ite_f q3 h
    clear q3
    refine a_aload_n (pc := 8) F dX6_work_8 0 rfl ?_
    refine a_getr (k := (c + 1)) (r := (c + 5)) (pc := 9) F dX6_work_9 fl_RX6_21 (klC_1 hc) (ksC_1 hc) rfl ?_
    refine a_iload_n (pc := 12) F dX6_work_12 1 rfl ?_
    refine a_sipush (v := 1000) (pc := 13) F dX6_work_13 (by decide) ?_
    refine a_aload_n (pc := 16) F dX6_work_16 0 rfl ?_
    refine a_getr (k := (c + 1)) (r := (c + 5)) (pc := 17) F dX6_work_17 fl_RX6_21 (klC_1 hc) (ksC_1 hc) rfl ?_
    refine a_iload_n (pc := 20) F dX6_work_20 1 rfl ?_
    replace h := gIn_some h
    obtain ⟨g4, h⟩ := h
    refine a_ial (k := (c + 5)) (pc := 21) F dX6_work_21 (klC_5 hc) (ksC_5 hc) g4 ?_
    refine a_nmi fun x5 ex5 => ?_
    replace h := nm_at ex5 h
    clear ex5
    refine a_iload_n (pc := 22) F dX6_work_22 2 rfl ?_
    refine a_iadd (pc := 23) F dX6_work_23 ?_
    refine a_mmin (pc := 24) F dX6_work_24 cw_RX6_55 (by decide) (Nat.le_of_ble_eq_true rfl) rfl rfl ?_
    refine a_nmi fun x6 ex6 => ?_
    replace h := nm_at ex6 h
    clear ex6
    replace h := gIn_some h
    obtain ⟨g7, h⟩ := h
    refine a_ias (k := (c + 5)) (pc := 27) F dX6_work_27 (klC_5 hc) (ksC_5 hc) g7 ?_
    refine a_nmm fun m8 em8 => ?_
    replace h := nm_at em8 h
    clear em8
    refine a_aload_n (pc := 28) F dX6_work_28 0 rfl ?_
    refine a_getr (k := (c + 1)) (r := (c + 7)) (pc := 29) F dX6_work_29 fl_RX6_27 (klC_1 hc) (ksC_1 hc) rfl ?_
    refine a_iload_n (pc := 32) F dX6_work_32 1 rfl ?_
    refine a_dup2 (pc := 33) F dX6_work_33 rfl rfl ?_
    replace h := gIn_some h
    obtain ⟨g9, h⟩ := h
    refine a_ial (k := (c + 7)) (pc := 34) F dX6_work_34 (klC_7 hc) (ksC_7 hc) g9 ?_
    refine a_nmi fun x10 ex10 => ?_
    replace h := nm_at ex10 h
    clear ex10
    refine a_iconst (v := 1) (pc := 35) F dX6_work_35 (by decide) ?_
    refine a_iadd (pc := 36) F dX6_work_36 ?_
    replace h := gIn_some h
    obtain ⟨g11, h⟩ := h
    refine a_ias (k := (c + 7)) (pc := 37) F dX6_work_37 (klC_7 hc) (ksC_7 hc) g11 ?_
    refine a_nmm fun m12 em12 => ?_
    replace h := nm_at em12 h
    clear em12
    cases h
    exact a_vret (pc := 38) F dX6_work_38 rfl
def f_X6_rest (c : Nat) (p1 : Int32) (p2 : Int32) (m0 : Mem) : Option Mem :=
  bnd (f_X6_has c p1 m0) fun x2 => (if x2 = 0 then some m0 else gIn p1 10 <| nm (m0.1 (c + 5) p1.toNatClampNeg) fun x5 => nm ((if 0 < (x5 - p2) then (x5 - p2) else 0)) fun x6 => gIn p1 10 <| nm (si m0 (c + 5) p1.toNatClampNeg x6) fun m8 => some m8)
set_option maxRecDepth 100000 in
set_option maxHeartbeats 4000000 in
theorem m_X6_rest {c : Nat} {p1 : Int32} {p2 : Int32} (hc : isC c) {m0 : Mem} {mm : Mem} (h : f_X6_rest c p1 p2 m0 = some mm) : Con yX6_rest cX6_rest 3 none 1 21 (fun G => [.ref (ga G (c + 1)), .int p1, .int p2]) m0 none mm := by
  refine con_of (by decide) (fun G => Nat.le_of_ble_eq_true rfl) (fun X F => ?_)
  show WA X 0 0 0 [(0, .ref (ga X.G (c + 1))), (1, .int p1), (2, .int p2)] [] m0 (EQ X none mm)
  rw [f_X6_rest] at h
  refine a_aload_n (pc := 0) F dX6_rest_0 0 rfl ?_
  refine a_iload_n (pc := 1) F dX6_rest_1 1 rfl ?_
  replace h := bnd_some h
  obtain ⟨x2, hc1, h⟩ := h
  refine a_callV (pc := 2) (k := (c + 1)) (As := [.int p1]) (st := []) F dX6_rest_2 (m_X6_has hc hc1) cv_RX6_40 (klC_1 hc) (ksC_1 hc) ⟨_, _, rfl⟩ rfl rfl rfl (Nat.le_of_ble_eq_true rfl) ⟨Nat.le_of_ble_eq_true rfl, Nat.le_of_ble_eq_true rfl⟩ ?_ rfl rfl
  clear hc1
  refine a_if_eq (tgt := 26) (pc := 5) F dX6_rest_5 (by decide) (fun q3 => ?_) (fun q3 => ?_)
  · replace h := ite_t q3 h
    clear q3
    cases h
    exact a_vret (pc := 26) F dX6_rest_26 rfl
  · replace h := ite_f q3 h
    clear q3
    refine a_aload_n (pc := 8) F dX6_rest_8 0 rfl ?_
    refine a_getr (k := (c + 1)) (r := (c + 5)) (pc := 9) F dX6_rest_9 fl_RX6_21 (klC_1 hc) (ksC_1 hc) rfl ?_
    refine a_iload_n (pc := 12) F dX6_rest_12 1 rfl ?_
    refine a_iconst (v := 0) (pc := 13) F dX6_rest_13 (by decide) ?_
    refine a_aload_n (pc := 14) F dX6_rest_14 0 rfl ?_
    refine a_getr (k := (c + 1)) (r := (c + 5)) (pc := 15) F dX6_rest_15 fl_RX6_21 (klC_1 hc) (ksC_1 hc) rfl ?_
    refine a_iload_n (pc := 18) F dX6_rest_18 1 rfl ?_
    replace h := gIn_some h
    obtain ⟨g4, h⟩ := h
    refine a_ial (k := (c + 5)) (pc := 19) F dX6_rest_19 (klC_5 hc) (ksC_5 hc) g4 ?_
    refine a_nmi fun x5 ex5 => ?_
    replace h := nm_at ex5 h
    clear ex5
    refine a_iload_n (pc := 20) F dX6_rest_20 2 rfl ?_
    refine a_isub (pc := 21) F dX6_rest_21 ?_
    refine a_mmax (pc := 22) F dX6_rest_22 cw_RX6_61 (by decide) (Nat.le_of_ble_eq_true rfl) rfl rfl ?_
    refine a_nmi fun x6 ex6 => ?_
    replace h := nm_at ex6 h
    clear ex6
    replace h := gIn_some h
    obtain ⟨g7, h⟩ := h
    refine a_ias (k := (c + 5)) (pc := 25) F dX6_rest_25 (klC_5 hc) (ksC_5 hc) g7 ?_
    refine a_nmm fun m8 em8 => ?_
    replace h := nm_at em8 h
    clear em8
    cases h
    exact a_vret (pc := 26) F dX6_rest_26 rfl
def f_X2_tireAndRest_L73 (c : Nat) (x19 : Int32) (x20 : Int32) : (Int32 × Mem) → Option ((Int32 × Mem) ⊕ Mem)
  | (x22, m23) => (if (m23.1 (c + 1) 0) ≤ x22 then some (.inr m23) else bnd (f_X7_bitOf x22 m23) fun x26 => (if (x20 &&& x26) = 0 then bnd (f_X7_bitOf x22 m23) fun x29 => (if (x19 &&& x29) = 0 then bnd (f_X6_rest c x22 (m23.1 (c + 18) 2) m23) fun m32 => nm (x22 + 1) fun x33 => some (.inl (x33, m32)) else bnd (f_X6_work c x22 (m23.1 (c + 18) 0) m23) fun m35 => nm (x22 + 1) fun x36 => some (.inl (x36, m35))) else nm ((m23.1 (c + 18) 0) + (m23.1 (c + 18) 1)) fun x37 => bnd (f_X6_work c x22 x37 m23) fun m39 => nm (x22 + 1) fun x40 => some (.inl (x40, m39))))
def f_X2_tireAndRest_L6 (c : Nat) (m0 : Mem) : (Int32 × Int32 × Int32) → Option ((Int32 × Int32 × Int32) ⊕ (Int32 × Int32))
  | (x2, x3, x4) => (if (m0.1 (c + 8) 0) ≤ x4 then some (.inr (x2, x3)) else bnd (f_X2_isUnderWay c x4 m0) fun x7 => (if x7 = 0 then nm (x4 + 1) fun x9 => some (.inl (x2, x3, x9)) else gIn x4 30 <| nm (m0.1 (c + 14) x4.toNatClampNeg) fun x11 => (if x11 ≤ 1 then gIn x4 30 <| nm (m0.1 (c + 16) x4.toNatClampNeg) fun x14 => nm (x4 + 1) fun x15 => some (.inl (x2 ||| x14, x3, x15)) else gIn x4 30 <| nm (m0.1 (c + 16) x4.toNatClampNeg) fun x17 => nm (x4 + 1) fun x18 => some (.inl (x2, x3 ||| x17, x18)))))
def f_X2_tireAndRest (c : Nat) (m0 : Mem) : Option Mem :=
  bnd (lp (f_X2_tireAndRest_L6 c m0) 1000000 (0, 0, 0)) (fun (x19, x20) => bnd (lp (f_X2_tireAndRest_L73 c x19 x20) 1000000 (0, m0)) (fun m41 => some m41))
set_option maxRecDepth 100000 in
set_option maxHeartbeats 4000000 in
theorem m_X2_tireAndRest {c : Nat} (hc : isC c) {m0 : Mem} {mm : Mem} (h : f_X2_tireAndRest c m0 = some mm) : Con yX2_tireAndRest cX2_tireAndRest 4 none 2 43 (fun G => [.ref (ga G c)]) m0 none mm := by
  refine con_of (by decide) (fun G => Nat.le_of_ble_eq_true rfl) (fun X F => ?_)
  show WA X 0 0 0 [(0, .ref (ga X.G c))] [] m0 (EQ X none mm)
  rw [f_X2_tireAndRest] at h
  refine a_iconst (v := 0) (pc := 0) F dX2_tireAndRest_0 (by decide) ?_
  refine a_istore_n (lv' := [(1, .int 0), (0, .ref (ga X.G c))]) (pc := 1) F dX2_tireAndRest_1 (by decide) rfl ?_
  refine a_iconst (v := 0) (pc := 2) F dX2_tireAndRest_2 (by decide) ?_
  refine a_istore_n (lv' := [(2, .int 0), (1, .int 0), (0, .ref (ga X.G c))]) (pc := 3) F dX2_tireAndRest_3 (by decide) rfl ?_
  refine a_iconst (v := 0) (pc := 4) F dX2_tireAndRest_4 (by decide) ?_
  refine a_istore_n (lv' := [(3, .int 0), (2, .int 0), (1, .int 0), (0, .ref (ga X.G c))]) (pc := 5) F dX2_tireAndRest_5 (by decide) rfl ?_
  refine a_lv F [3, 2, 1, 0] rfl ?_
  replace h := bnd_some h
  obtain ⟨⟨x19, x20⟩, hL1, h⟩ := h
  have hE1 : WA X 0 0 71 [(0, .ref (ga X.G c)), (1, .int x19), (2, .int x20)] [] m0 (EQ X none mm) := by
    refine a_iconst (v := 0) (pc := 71) F dX2_tireAndRest_71 (by decide) ?_
    refine a_istore_n (lv' := [(3, .int 0), (0, .ref (ga X.G c)), (1, .int x19), (2, .int x20)]) (pc := 72) F dX2_tireAndRest_72 (by decide) rfl ?_
    refine a_lv F [1, 2, 3, 0] rfl ?_
    replace h := bnd_some h
    obtain ⟨m41, hL21, h⟩ := h
    have hE21 : WA X 0 0 163 [] [] m41 (EQ X none mm) := by
      cases h
      exact a_vret (pc := 163) F dX2_tireAndRest_163 rfl
    clear h
    refine lp_run (P := fun (s : (Int32 × Mem)) => WA X 0 0 73 [(0, .ref (ga X.G c)), (1, .int x19), (2, .int x20), (3, .int s.1)] [] s.2 (EQ X none mm)) ?_ _ _ hL21
    clear hL21
    rintro ⟨x22, m23⟩ xo h hP21 hT21
    show WA X 0 0 73 [(0, .ref (ga X.G c)), (1, .int x19), (2, .int x20), (3, .int x22)] [] m23 (EQ X none mm)
    rw [f_X2_tireAndRest_L73] at h
    refine a_iload_n (pc := 73) F dX2_tireAndRest_73 3 rfl ?_
    refine a_aload_n (pc := 74) F dX2_tireAndRest_74 0 rfl ?_
    refine a_getr (k := c) (r := (c + 1)) (pc := 75) F dX2_tireAndRest_75 fl_RX2_12 (klC_0 hc) (ksC_0 hc) rfl ?_
    refine a_geti (k := (c + 1)) (pc := 78) F dX2_tireAndRest_78 fl_RX2_94 (klC_1 hc) (ksC_1 hc) rfl ?_
    refine a_icmp_ge (tgt := 163) (pc := 81) F dX2_tireAndRest_81 (by decide) (fun q24 => ?_) (fun q24 => ?_)
    · replace h := ite_t q24 h
      clear q24
      refine a_lv F [] rfl ?_
      cases hT21 _ (Option.some.inj h).symm
      exact hE21
    · replace h := ite_f q24 h
      clear q24
      refine a_iload_n (pc := 84) F dX2_tireAndRest_84 2 rfl ?_
      refine a_iload_n (pc := 85) F dX2_tireAndRest_85 3 rfl ?_
      replace h := bnd_some h
      obtain ⟨x26, hc25, h⟩ := h
      refine a_callSN (pc := 86) (As := [.int x22]) (st := [.int x20]) F dX2_tireAndRest_86 (m_X7_bitOf hc25) cn_RX2_151 rfl rfl rfl (Nat.le_of_ble_eq_true rfl) ⟨Nat.le_of_ble_eq_true rfl, Nat.le_of_ble_eq_true rfl⟩ ?_ rfl rfl
      clear hc25
      refine a_iand (pc := 89) F dX2_tireAndRest_89 ?_
      refine a_if_eq (tgt := 117) (pc := 90) F dX2_tireAndRest_90 (by decide) (fun q27 => ?_) (fun q27 => ?_)
      · replace h := ite_t q27 h
        clear q27
        refine a_iload_n (pc := 117) F dX2_tireAndRest_117 1 rfl ?_
        refine a_iload_n (pc := 118) F dX2_tireAndRest_118 3 rfl ?_
        replace h := bnd_some h
        obtain ⟨x29, hc28, h⟩ := h
        refine a_callSN (pc := 119) (As := [.int x22]) (st := [.int x19]) F dX2_tireAndRest_119 (m_X7_bitOf hc28) cn_RX2_151 rfl rfl rfl (Nat.le_of_ble_eq_true rfl) ⟨Nat.le_of_ble_eq_true rfl, Nat.le_of_ble_eq_true rfl⟩ ?_ rfl rfl
        clear hc28
        refine a_iand (pc := 122) F dX2_tireAndRest_122 ?_
        refine a_if_eq (tgt := 143) (pc := 123) F dX2_tireAndRest_123 (by decide) (fun q30 => ?_) (fun q30 => ?_)
        · replace h := ite_t q30 h
          clear q30
          refine a_aload_n (pc := 143) F dX2_tireAndRest_143 0 rfl ?_
          refine a_getr (k := c) (r := (c + 1)) (pc := 144) F dX2_tireAndRest_144 fl_RX2_12 (klC_0 hc) (ksC_0 hc) rfl ?_
          refine a_iload_n (pc := 147) F dX2_tireAndRest_147 3 rfl ?_
          refine a_aload_n (pc := 148) F dX2_tireAndRest_148 0 rfl ?_
          refine a_getr (k := c) (r := (c + 18)) (pc := 149) F dX2_tireAndRest_149 fl_RX2_34 (klC_0 hc) (ksC_0 hc) rfl ?_
          refine a_iconst (v := 2) (pc := 152) F dX2_tireAndRest_152 (by decide) ?_
          refine a_ialc (k := (c + 18)) (pc := 153) F dX2_tireAndRest_153 (klC_18 hc) (ksC_18 hc) rfl rfl ?_
          replace h := bnd_some h
          obtain ⟨m32, hc31, h⟩ := h
          refine a_callV (pc := 154) (k := (c + 1)) (As := [.int x22, .int (m23.1 (c + 18) 2)]) (st := []) F dX2_tireAndRest_154 (m_X6_rest hc hc31) cv_RX2_157 (klC_1 hc) (ksC_1 hc) ⟨_, _, rfl⟩ rfl rfl rfl (Nat.le_of_ble_eq_true rfl) ⟨Nat.le_of_ble_eq_true rfl, Nat.le_of_ble_eq_true rfl⟩ ?_ rfl rfl
          clear hc31
          obtain ⟨x33, ex33⟩ : ∃ x33 : Int32, x33 = x22 + 1 := ⟨_, rfl⟩
          refine a_iinc (v := x33) (lv' := [(3, .int x33), (0, .ref (ga X.G c)), (1, .int x19), (2, .int x20)]) (pc := 157) F dX2_tireAndRest_157 3 rfl (by rw [ex33]; rfl) (by decide) rfl ?_
          replace h := nm_at ex33 h
          clear ex33
          refine a_goto (tgt := 73) (pc := 160) F dX2_tireAndRest_160 (by decide) ?_
          refine a_lv F [1, 2, 3, 0] rfl ?_
          exact hP21 _ (Option.some.inj h).symm
        · replace h := ite_f q30 h
          clear q30
          refine a_aload_n (pc := 126) F dX2_tireAndRest_126 0 rfl ?_
          refine a_getr (k := c) (r := (c + 1)) (pc := 127) F dX2_tireAndRest_127 fl_RX2_12 (klC_0 hc) (ksC_0 hc) rfl ?_
          refine a_iload_n (pc := 130) F dX2_tireAndRest_130 3 rfl ?_
          refine a_aload_n (pc := 131) F dX2_tireAndRest_131 0 rfl ?_
          refine a_getr (k := c) (r := (c + 18)) (pc := 132) F dX2_tireAndRest_132 fl_RX2_34 (klC_0 hc) (ksC_0 hc) rfl ?_
          refine a_iconst (v := 0) (pc := 135) F dX2_tireAndRest_135 (by decide) ?_
          refine a_ialc (k := (c + 18)) (pc := 136) F dX2_tireAndRest_136 (klC_18 hc) (ksC_18 hc) rfl rfl ?_
          replace h := bnd_some h
          obtain ⟨m35, hc34, h⟩ := h
          refine a_callV (pc := 137) (k := (c + 1)) (As := [.int x22, .int (m23.1 (c + 18) 0)]) (st := []) F dX2_tireAndRest_137 (m_X6_work hc hc34) cv_RX2_154 (klC_1 hc) (ksC_1 hc) ⟨_, _, rfl⟩ rfl rfl rfl (Nat.le_of_ble_eq_true rfl) ⟨Nat.le_of_ble_eq_true rfl, Nat.le_of_ble_eq_true rfl⟩ ?_ rfl rfl
          clear hc34
          refine a_goto (tgt := 157) (pc := 140) F dX2_tireAndRest_140 (by decide) ?_
          obtain ⟨x36, ex36⟩ : ∃ x36 : Int32, x36 = x22 + 1 := ⟨_, rfl⟩
          refine a_iinc (v := x36) (lv' := [(3, .int x36), (0, .ref (ga X.G c)), (1, .int x19), (2, .int x20)]) (pc := 157) F dX2_tireAndRest_157 3 rfl (by rw [ex36]; rfl) (by decide) rfl ?_
          replace h := nm_at ex36 h
          clear ex36
          refine a_goto (tgt := 73) (pc := 160) F dX2_tireAndRest_160 (by decide) ?_
          refine a_lv F [1, 2, 3, 0] rfl ?_
          exact hP21 _ (Option.some.inj h).symm
      · replace h := ite_f q27 h
        clear q27
        refine a_aload_n (pc := 93) F dX2_tireAndRest_93 0 rfl ?_
        refine a_getr (k := c) (r := (c + 1)) (pc := 94) F dX2_tireAndRest_94 fl_RX2_12 (klC_0 hc) (ksC_0 hc) rfl ?_
        refine a_iload_n (pc := 97) F dX2_tireAndRest_97 3 rfl ?_
        refine a_aload_n (pc := 98) F dX2_tireAndRest_98 0 rfl ?_
        refine a_getr (k := c) (r := (c + 18)) (pc := 99) F dX2_tireAndRest_99 fl_RX2_34 (klC_0 hc) (ksC_0 hc) rfl ?_
        refine a_iconst (v := 0) (pc := 102) F dX2_tireAndRest_102 (by decide) ?_
        refine a_ialc (k := (c + 18)) (pc := 103) F dX2_tireAndRest_103 (klC_18 hc) (ksC_18 hc) rfl rfl ?_
        refine a_aload_n (pc := 104) F dX2_tireAndRest_104 0 rfl ?_
        refine a_getr (k := c) (r := (c + 18)) (pc := 105) F dX2_tireAndRest_105 fl_RX2_34 (klC_0 hc) (ksC_0 hc) rfl ?_
        refine a_iconst (v := 1) (pc := 108) F dX2_tireAndRest_108 (by decide) ?_
        refine a_ialc (k := (c + 18)) (pc := 109) F dX2_tireAndRest_109 (klC_18 hc) (ksC_18 hc) rfl rfl ?_
        refine a_iadd (pc := 110) F dX2_tireAndRest_110 ?_
        refine a_nmi fun x37 ex37 => ?_
        replace h := nm_at ex37 h
        clear ex37
        replace h := bnd_some h
        obtain ⟨m39, hc38, h⟩ := h
        refine a_callV (pc := 111) (k := (c + 1)) (As := [.int x22, .int x37]) (st := []) F dX2_tireAndRest_111 (m_X6_work hc hc38) cv_RX2_154 (klC_1 hc) (ksC_1 hc) ⟨_, _, rfl⟩ rfl rfl rfl (Nat.le_of_ble_eq_true rfl) ⟨Nat.le_of_ble_eq_true rfl, Nat.le_of_ble_eq_true rfl⟩ ?_ rfl rfl
        clear hc38
        refine a_goto (tgt := 157) (pc := 114) F dX2_tireAndRest_114 (by decide) ?_
        obtain ⟨x40, ex40⟩ : ∃ x40 : Int32, x40 = x22 + 1 := ⟨_, rfl⟩
        refine a_iinc (v := x40) (lv' := [(3, .int x40), (0, .ref (ga X.G c)), (1, .int x19), (2, .int x20)]) (pc := 157) F dX2_tireAndRest_157 3 rfl (by rw [ex40]; rfl) (by decide) rfl ?_
        replace h := nm_at ex40 h
        clear ex40
        refine a_goto (tgt := 73) (pc := 160) F dX2_tireAndRest_160 (by decide) ?_
        refine a_lv F [1, 2, 3, 0] rfl ?_
        exact hP21 _ (Option.some.inj h).symm
  clear h
  refine lp_run (P := fun (s : (Int32 × Int32 × Int32)) => WA X 0 0 6 [(0, .ref (ga X.G c)), (1, .int s.1), (2, .int s.2.1), (3, .int s.2.2)] [] m0 (EQ X none mm)) ?_ _ _ hL1
  clear hL1
  rintro ⟨x2, x3, x4⟩ xo h hP1 hT1
  show WA X 0 0 6 [(0, .ref (ga X.G c)), (1, .int x2), (2, .int x3), (3, .int x4)] [] m0 (EQ X none mm)
  rw [f_X2_tireAndRest_L6] at h
  refine a_iload_n (pc := 6) F dX2_tireAndRest_6 3 rfl ?_
  refine a_aload_n (pc := 7) F dX2_tireAndRest_7 0 rfl ?_
  refine a_getr (k := c) (r := (c + 8)) (pc := 8) F dX2_tireAndRest_8 fl_RX2_21 (klC_0 hc) (ksC_0 hc) rfl ?_
  refine a_geti (k := (c + 8)) (pc := 11) F dX2_tireAndRest_11 fl_RX2_135 (klC_8 hc) (ksC_8 hc) rfl ?_
  refine a_icmp_ge (tgt := 71) (pc := 14) F dX2_tireAndRest_14 (by decide) (fun q5 => ?_) (fun q5 => ?_)
  · replace h := ite_t q5 h
    clear q5
    refine a_lv F [0, 1, 2] rfl ?_
    cases hT1 _ (Option.some.inj h).symm
    exact hE1
  · replace h := ite_f q5 h
    clear q5
    refine a_aload_n (pc := 17) F dX2_tireAndRest_17 0 rfl ?_
    refine a_iload_n (pc := 18) F dX2_tireAndRest_18 3 rfl ?_
    replace h := bnd_some h
    obtain ⟨x7, hc6, h⟩ := h
    refine a_callV (pc := 19) (k := c) (As := [.int x4]) (st := []) F dX2_tireAndRest_19 (m_X2_isUnderWay hc hc6) cv_RX2_145 (klC_0 hc) (ksC_0 hc) ⟨_, _, rfl⟩ rfl rfl rfl (Nat.le_of_ble_eq_true rfl) ⟨Nat.le_of_ble_eq_true rfl, Nat.le_of_ble_eq_true rfl⟩ ?_ rfl rfl
    clear hc6
    refine a_if_eq (tgt := 65) (pc := 22) F dX2_tireAndRest_22 (by decide) (fun q8 => ?_) (fun q8 => ?_)
    · replace h := ite_t q8 h
      clear q8
      obtain ⟨x9, ex9⟩ : ∃ x9 : Int32, x9 = x4 + 1 := ⟨_, rfl⟩
      refine a_iinc (v := x9) (lv' := [(3, .int x9), (0, .ref (ga X.G c)), (1, .int x2), (2, .int x3)]) (pc := 65) F dX2_tireAndRest_65 3 rfl (by rw [ex9]; rfl) (by decide) rfl ?_
      replace h := nm_at ex9 h
      clear ex9
      refine a_goto (tgt := 6) (pc := 68) F dX2_tireAndRest_68 (by decide) ?_
      refine a_lv F [1, 2, 3, 0] rfl ?_
      exact hP1 _ (Option.some.inj h).symm
    · replace h := ite_f q8 h
      clear q8
      refine a_aload_n (pc := 25) F dX2_tireAndRest_25 0 rfl ?_
      refine a_getr (k := c) (r := (c + 8)) (pc := 26) F dX2_tireAndRest_26 fl_RX2_21 (klC_0 hc) (ksC_0 hc) rfl ?_
      refine a_getr (k := (c + 8)) (r := (c + 14)) (pc := 29) F dX2_tireAndRest_29 fl_RX2_107 (klC_8 hc) (ksC_8 hc) rfl ?_
      refine a_iload_n (pc := 32) F dX2_tireAndRest_32 3 rfl ?_
      replace h := gIn_some h
      obtain ⟨g10, h⟩ := h
      refine a_ial (k := (c + 14)) (pc := 33) F dX2_tireAndRest_33 (klC_14 hc) (ksC_14 hc) g10 ?_
      refine a_nmi fun x11 ex11 => ?_
      replace h := nm_at ex11 h
      clear ex11
      refine a_iconst (v := 1) (pc := 34) F dX2_tireAndRest_34 (by decide) ?_
      refine a_icmp_le (tgt := 53) (pc := 35) F dX2_tireAndRest_35 (by decide) (fun q12 => ?_) (fun q12 => ?_)
      · replace h := ite_t q12 h
        clear q12
        refine a_iload_n (pc := 53) F dX2_tireAndRest_53 1 rfl ?_
        refine a_aload_n (pc := 54) F dX2_tireAndRest_54 0 rfl ?_
        refine a_getr (k := c) (r := (c + 8)) (pc := 55) F dX2_tireAndRest_55 fl_RX2_21 (klC_0 hc) (ksC_0 hc) rfl ?_
        refine a_getr (k := (c + 8)) (r := (c + 16)) (pc := 58) F dX2_tireAndRest_58 fl_RX2_148 (klC_8 hc) (ksC_8 hc) rfl ?_
        refine a_iload_n (pc := 61) F dX2_tireAndRest_61 3 rfl ?_
        replace h := gIn_some h
        obtain ⟨g13, h⟩ := h
        refine a_ial (k := (c + 16)) (pc := 62) F dX2_tireAndRest_62 (klC_16 hc) (ksC_16 hc) g13 ?_
        refine a_nmi fun x14 ex14 => ?_
        replace h := nm_at ex14 h
        clear ex14
        refine a_ior (pc := 63) F dX2_tireAndRest_63 ?_
        refine a_istore_n (lv' := [(1, .int (x2 ||| x14)), (0, .ref (ga X.G c)), (2, .int x3), (3, .int x4)]) (pc := 64) F dX2_tireAndRest_64 (by decide) rfl ?_
        obtain ⟨x15, ex15⟩ : ∃ x15 : Int32, x15 = x4 + 1 := ⟨_, rfl⟩
        refine a_iinc (v := x15) (lv' := [(3, .int x15), (1, .int (x2 ||| x14)), (0, .ref (ga X.G c)), (2, .int x3)]) (pc := 65) F dX2_tireAndRest_65 3 rfl (by rw [ex15]; rfl) (by decide) rfl ?_
        replace h := nm_at ex15 h
        clear ex15
        refine a_goto (tgt := 6) (pc := 68) F dX2_tireAndRest_68 (by decide) ?_
        refine a_lv F [2, 1, 3, 0] rfl ?_
        exact hP1 _ (Option.some.inj h).symm
      · replace h := ite_f q12 h
        clear q12
        refine a_iload_n (pc := 38) F dX2_tireAndRest_38 2 rfl ?_
        refine a_aload_n (pc := 39) F dX2_tireAndRest_39 0 rfl ?_
        refine a_getr (k := c) (r := (c + 8)) (pc := 40) F dX2_tireAndRest_40 fl_RX2_21 (klC_0 hc) (ksC_0 hc) rfl ?_
        refine a_getr (k := (c + 8)) (r := (c + 16)) (pc := 43) F dX2_tireAndRest_43 fl_RX2_148 (klC_8 hc) (ksC_8 hc) rfl ?_
        refine a_iload_n (pc := 46) F dX2_tireAndRest_46 3 rfl ?_
        replace h := gIn_some h
        obtain ⟨g16, h⟩ := h
        refine a_ial (k := (c + 16)) (pc := 47) F dX2_tireAndRest_47 (klC_16 hc) (ksC_16 hc) g16 ?_
        refine a_nmi fun x17 ex17 => ?_
        replace h := nm_at ex17 h
        clear ex17
        refine a_ior (pc := 48) F dX2_tireAndRest_48 ?_
        refine a_istore_n (lv' := [(2, .int (x3 ||| x17)), (0, .ref (ga X.G c)), (1, .int x2), (3, .int x4)]) (pc := 49) F dX2_tireAndRest_49 (by decide) rfl ?_
        refine a_goto (tgt := 65) (pc := 50) F dX2_tireAndRest_50 (by decide) ?_
        obtain ⟨x18, ex18⟩ : ∃ x18 : Int32, x18 = x4 + 1 := ⟨_, rfl⟩
        refine a_iinc (v := x18) (lv' := [(3, .int x18), (2, .int (x3 ||| x17)), (0, .ref (ga X.G c)), (1, .int x2)]) (pc := 65) F dX2_tireAndRest_65 3 rfl (by rw [ex18]; rfl) (by decide) rfl ?_
        replace h := nm_at ex18 h
        clear ex18
        refine a_goto (tgt := 6) (pc := 68) F dX2_tireAndRest_68 (by decide) ?_
        refine a_lv F [2, 3, 1, 0] rfl ?_
        exact hP1 _ (Option.some.inj h).symm
def f_X6_tiredAbove_L4 (c : Nat) (p1 : Int32) (m0 : Mem) : (Int32 × Int32) → Option ((Int32 × Int32) ⊕ Int32)
  | (x2, x3) => (if (m0.1 (c + 1) 0) ≤ x3 then some (.inr x2) else gIn x3 10 <| nm (m0.1 (c + 5) x3.toNatClampNeg) fun x6 => (if x6 ≤ p1 then nm (x3 + 1) fun x8 => some (.inl (x2, x8)) else bnd (f_X7_bitOf x3 m0) fun x10 => nm (x3 + 1) fun x11 => some (.inl (x2 ||| x10, x11))))
def f_X6_tiredAbove (c : Nat) (p1 : Int32) (m0 : Mem) : Option Int32 :=
  bnd (lp (f_X6_tiredAbove_L4 c p1 m0) 1000000 (0, 0)) (fun x12 => some x12)
set_option maxRecDepth 100000 in
set_option maxHeartbeats 4000000 in
theorem m_X6_tiredAbove {c : Nat} {p1 : Int32} (hc : isC c) {m0 : Mem} {rr : Int32} (h : f_X6_tiredAbove c p1 m0 = some rr) : Con yX6_tiredAbove cX6_tiredAbove 4 (some Jvm.ClassFile.FieldType.int) 1 20 (fun G => [.ref (ga G (c + 1)), .int p1]) m0 (some (.int rr)) m0 := by
  refine con_of (by decide) (fun G => Nat.le_of_ble_eq_true rfl) (fun X F => ?_)
  show WA X 0 0 0 [(0, .ref (ga X.G (c + 1))), (1, .int p1)] [] m0 (EQ X (some (.int rr)) m0)
  rw [f_X6_tiredAbove] at h
  refine a_iconst (v := 0) (pc := 0) F dX6_tiredAbove_0 (by decide) ?_
  refine a_istore_n (lv' := [(2, .int 0), (0, .ref (ga X.G (c + 1))), (1, .int p1)]) (pc := 1) F dX6_tiredAbove_1 (by decide) rfl ?_
  refine a_iconst (v := 0) (pc := 2) F dX6_tiredAbove_2 (by decide) ?_
  refine a_istore_n (lv' := [(3, .int 0), (2, .int 0), (0, .ref (ga X.G (c + 1))), (1, .int p1)]) (pc := 3) F dX6_tiredAbove_3 (by decide) rfl ?_
  refine a_lv F [2, 3, 1, 0] rfl ?_
  replace h := bnd_some h
  obtain ⟨x12, hL1, h⟩ := h
  have hE1 : WA X 0 0 35 [(2, .int x12)] [] m0 (EQ X (some (.int rr)) m0) := by
    refine a_iload_n (pc := 35) F dX6_tiredAbove_35 0 rfl ?_
    cases h
    exact a_iret (pc := 36) F dX6_tiredAbove_36 ⟨_, rfl, rfl⟩
  clear h
  refine lp_run (P := fun (s : (Int32 × Int32)) => WA X 0 0 4 [(0, .ref (ga X.G (c + 1))), (1, .int p1), (2, .int s.1), (3, .int s.2)] [] m0 (EQ X (some (.int rr)) m0)) ?_ _ _ hL1
  clear hL1
  rintro ⟨x2, x3⟩ xo h hP1 hT1
  show WA X 0 0 4 [(0, .ref (ga X.G (c + 1))), (1, .int p1), (2, .int x2), (3, .int x3)] [] m0 (EQ X (some (.int rr)) m0)
  rw [f_X6_tiredAbove_L4] at h
  refine a_iload_n (pc := 4) F dX6_tiredAbove_4 3 rfl ?_
  refine a_aload_n (pc := 5) F dX6_tiredAbove_5 0 rfl ?_
  refine a_geti (k := (c + 1)) (pc := 6) F dX6_tiredAbove_6 fl_RX6_30 (klC_1 hc) (ksC_1 hc) rfl ?_
  refine a_icmp_ge (tgt := 35) (pc := 9) F dX6_tiredAbove_9 (by decide) (fun q4 => ?_) (fun q4 => ?_)
  · replace h := ite_t q4 h
    clear q4
    refine a_lv F [2] rfl ?_
    cases hT1 _ (Option.some.inj h).symm
    exact hE1
  · replace h := ite_f q4 h
    clear q4
    refine a_aload_n (pc := 12) F dX6_tiredAbove_12 0 rfl ?_
    refine a_getr (k := (c + 1)) (r := (c + 5)) (pc := 13) F dX6_tiredAbove_13 fl_RX6_21 (klC_1 hc) (ksC_1 hc) rfl ?_
    refine a_iload_n (pc := 16) F dX6_tiredAbove_16 3 rfl ?_
    replace h := gIn_some h
    obtain ⟨g5, h⟩ := h
    refine a_ial (k := (c + 5)) (pc := 17) F dX6_tiredAbove_17 (klC_5 hc) (ksC_5 hc) g5 ?_
    refine a_nmi fun x6 ex6 => ?_
    replace h := nm_at ex6 h
    clear ex6
    refine a_iload_n (pc := 18) F dX6_tiredAbove_18 1 rfl ?_
    refine a_icmp_le (tgt := 29) (pc := 19) F dX6_tiredAbove_19 (by decide) (fun q7 => ?_) (fun q7 => ?_)
    · replace h := ite_t q7 h
      clear q7
      obtain ⟨x8, ex8⟩ : ∃ x8 : Int32, x8 = x3 + 1 := ⟨_, rfl⟩
      refine a_iinc (v := x8) (lv' := [(3, .int x8), (0, .ref (ga X.G (c + 1))), (1, .int p1), (2, .int x2)]) (pc := 29) F dX6_tiredAbove_29 3 rfl (by rw [ex8]; rfl) (by decide) rfl ?_
      replace h := nm_at ex8 h
      clear ex8
      refine a_goto (tgt := 4) (pc := 32) F dX6_tiredAbove_32 (by decide) ?_
      refine a_lv F [1, 2, 3, 0] rfl ?_
      exact hP1 _ (Option.some.inj h).symm
    · replace h := ite_f q7 h
      clear q7
      refine a_iload_n (pc := 22) F dX6_tiredAbove_22 2 rfl ?_
      refine a_iload_n (pc := 23) F dX6_tiredAbove_23 3 rfl ?_
      replace h := bnd_some h
      obtain ⟨x10, hc9, h⟩ := h
      refine a_callSN (pc := 24) (As := [.int x3]) (st := [.int x2]) F dX6_tiredAbove_24 (m_X7_bitOf hc9) cn_RX6_51 rfl rfl rfl (Nat.le_of_ble_eq_true rfl) ⟨Nat.le_of_ble_eq_true rfl, Nat.le_of_ble_eq_true rfl⟩ ?_ rfl rfl
      clear hc9
      refine a_ior (pc := 27) F dX6_tiredAbove_27 ?_
      refine a_istore_n (lv' := [(2, .int (x2 ||| x10)), (0, .ref (ga X.G (c + 1))), (1, .int p1), (3, .int x3)]) (pc := 28) F dX6_tiredAbove_28 (by decide) rfl ?_
      obtain ⟨x11, ex11⟩ : ∃ x11 : Int32, x11 = x3 + 1 := ⟨_, rfl⟩
      refine a_iinc (v := x11) (lv' := [(3, .int x11), (2, .int (x2 ||| x10)), (0, .ref (ga X.G (c + 1))), (1, .int p1)]) (pc := 29) F dX6_tiredAbove_29 3 rfl (by rw [ex11]; rfl) (by decide) rfl ?_
      replace h := nm_at ex11 h
      clear ex11
      refine a_goto (tgt := 4) (pc := 32) F dX6_tiredAbove_32 (by decide) ?_
      refine a_lv F [2, 3, 1, 0] rfl ?_
      exact hP1 _ (Option.some.inj h).symm
def f_X2_adjournTired_L16 (c : Nat) (x2 : Int32) : (Int32 × Mem) → Option ((Int32 × Mem) ⊕ Mem)
  | (x4, m5) => (if (m5.1 (c + 8) 0) ≤ x4 then some (.inr m5) else bnd (f_X3_isListed c x4 m5) fun x8 => (if x8 = 0 then nm (x4 + 1) fun x10 => some (.inl (x10, m5)) else gIn x4 30 <| nm (m5.1 (c + 11) x4.toNatClampNeg) fun x12 => (if x12 = (m5.1 c 3) then gIn x4 30 <| nm (m5.1 (c + 16) x4.toNatClampNeg) fun x16 => (if (x16 &&& x2) = 0 then nm (x4 + 1) fun x18 => some (.inl (x18, m5)) else bnd2 (f_X2_close c x4 2 1 m5) fun x20 m21 => nm (x4 + 1) fun x22 => some (.inl (x22, m21))) else nm (x4 + 1) fun x14 => some (.inl (x14, m5)))))
def f_X2_adjournTired (c : Nat) (m0 : Mem) : Option Mem :=
  bnd (f_X6_tiredAbove c (m0.1 (c + 18) 3) m0) fun x2 => bnd (lp (f_X2_adjournTired_L16 c x2) 1000000 (0, m0)) (fun m23 => some m23)
set_option maxRecDepth 100000 in
set_option maxHeartbeats 4000000 in
theorem m_X2_adjournTired {c : Nat} (hc : isC c) {m0 : Mem} {mm : Mem} (h : f_X2_adjournTired c m0 = some mm) : Con yX2_adjournTired cX2_adjournTired 3 none 3 73 (fun G => [.ref (ga G c)]) m0 none mm := by
  refine con_of (by decide) (fun G => Nat.le_of_ble_eq_true rfl) (fun X F => ?_)
  show WA X 0 0 0 [(0, .ref (ga X.G c))] [] m0 (EQ X none mm)
  rw [f_X2_adjournTired] at h
  refine a_aload_n (pc := 0) F dX2_adjournTired_0 0 rfl ?_
  refine a_getr (k := c) (r := (c + 1)) (pc := 1) F dX2_adjournTired_1 fl_RX2_12 (klC_0 hc) (ksC_0 hc) rfl ?_
  refine a_aload_n (pc := 4) F dX2_adjournTired_4 0 rfl ?_
  refine a_getr (k := c) (r := (c + 18)) (pc := 5) F dX2_adjournTired_5 fl_RX2_34 (klC_0 hc) (ksC_0 hc) rfl ?_
  refine a_iconst (v := 3) (pc := 8) F dX2_adjournTired_8 (by decide) ?_
  refine a_ialc (k := (c + 18)) (pc := 9) F dX2_adjournTired_9 (klC_18 hc) (ksC_18 hc) rfl rfl ?_
  replace h := bnd_some h
  obtain ⟨x2, hc1, h⟩ := h
  refine a_callV (pc := 10) (k := (c + 1)) (As := [.int (m0.1 (c + 18) 3)]) (st := []) F dX2_adjournTired_10 (m_X6_tiredAbove hc hc1) cv_RX2_160 (klC_1 hc) (ksC_1 hc) ⟨_, _, rfl⟩ rfl rfl rfl (Nat.le_of_ble_eq_true rfl) ⟨Nat.le_of_ble_eq_true rfl, Nat.le_of_ble_eq_true rfl⟩ ?_ rfl rfl
  clear hc1
  refine a_istore_n (lv' := [(1, .int x2), (0, .ref (ga X.G c))]) (pc := 13) F dX2_adjournTired_13 (by decide) rfl ?_
  refine a_iconst (v := 0) (pc := 14) F dX2_adjournTired_14 (by decide) ?_
  refine a_istore_n (lv' := [(2, .int 0), (1, .int x2), (0, .ref (ga X.G c))]) (pc := 15) F dX2_adjournTired_15 (by decide) rfl ?_
  refine a_lv F [2, 1, 0] rfl ?_
  replace h := bnd_some h
  obtain ⟨m23, hL3, h⟩ := h
  have hE3 : WA X 0 0 82 [] [] m23 (EQ X none mm) := by
    cases h
    exact a_vret (pc := 82) F dX2_adjournTired_82 rfl
  clear h
  refine lp_run (P := fun (s : (Int32 × Mem)) => WA X 0 0 16 [(0, .ref (ga X.G c)), (1, .int x2), (2, .int s.1)] [] s.2 (EQ X none mm)) ?_ _ _ hL3
  clear hL3
  rintro ⟨x4, m5⟩ xo h hP3 hT3
  show WA X 0 0 16 [(0, .ref (ga X.G c)), (1, .int x2), (2, .int x4)] [] m5 (EQ X none mm)
  rw [f_X2_adjournTired_L16] at h
  refine a_iload_n (pc := 16) F dX2_adjournTired_16 2 rfl ?_
  refine a_aload_n (pc := 17) F dX2_adjournTired_17 0 rfl ?_
  refine a_getr (k := c) (r := (c + 8)) (pc := 18) F dX2_adjournTired_18 fl_RX2_21 (klC_0 hc) (ksC_0 hc) rfl ?_
  refine a_geti (k := (c + 8)) (pc := 21) F dX2_adjournTired_21 fl_RX2_135 (klC_8 hc) (ksC_8 hc) rfl ?_
  refine a_icmp_ge (tgt := 82) (pc := 24) F dX2_adjournTired_24 (by decide) (fun q6 => ?_) (fun q6 => ?_)
  · replace h := ite_t q6 h
    clear q6
    refine a_lv F [] rfl ?_
    cases hT3 _ (Option.some.inj h).symm
    exact hE3
  · replace h := ite_f q6 h
    clear q6
    refine a_aload_n (pc := 27) F dX2_adjournTired_27 0 rfl ?_
    refine a_getr (k := c) (r := (c + 8)) (pc := 28) F dX2_adjournTired_28 fl_RX2_21 (klC_0 hc) (ksC_0 hc) rfl ?_
    refine a_iload_n (pc := 31) F dX2_adjournTired_31 2 rfl ?_
    replace h := bnd_some h
    obtain ⟨x8, hc7, h⟩ := h
    refine a_callV (pc := 32) (k := (c + 8)) (As := [.int x4]) (st := []) F dX2_adjournTired_32 (m_X3_isListed hc hc7) cv_RX2_66 (klC_8 hc) (ksC_8 hc) ⟨_, _, rfl⟩ rfl rfl rfl (Nat.le_of_ble_eq_true rfl) ⟨Nat.le_of_ble_eq_true rfl, Nat.le_of_ble_eq_true rfl⟩ ?_ rfl rfl
    clear hc7
    refine a_if_eq (tgt := 76) (pc := 35) F dX2_adjournTired_35 (by decide) (fun q9 => ?_) (fun q9 => ?_)
    · replace h := ite_t q9 h
      clear q9
      obtain ⟨x10, ex10⟩ : ∃ x10 : Int32, x10 = x4 + 1 := ⟨_, rfl⟩
      refine a_iinc (v := x10) (lv' := [(2, .int x10), (0, .ref (ga X.G c)), (1, .int x2)]) (pc := 76) F dX2_adjournTired_76 2 rfl (by rw [ex10]; rfl) (by decide) rfl ?_
      replace h := nm_at ex10 h
      clear ex10
      refine a_goto (tgt := 16) (pc := 79) F dX2_adjournTired_79 (by decide) ?_
      refine a_lv F [1, 2, 0] rfl ?_
      exact hP3 _ (Option.some.inj h).symm
    · replace h := ite_f q9 h
      clear q9
      refine a_aload_n (pc := 38) F dX2_adjournTired_38 0 rfl ?_
      refine a_getr (k := c) (r := (c + 8)) (pc := 39) F dX2_adjournTired_39 fl_RX2_21 (klC_0 hc) (ksC_0 hc) rfl ?_
      refine a_getr (k := (c + 8)) (r := (c + 11)) (pc := 42) F dX2_adjournTired_42 fl_RX2_63 (klC_8 hc) (ksC_8 hc) rfl ?_
      refine a_iload_n (pc := 45) F dX2_adjournTired_45 2 rfl ?_
      replace h := gIn_some h
      obtain ⟨g11, h⟩ := h
      refine a_ial (k := (c + 11)) (pc := 46) F dX2_adjournTired_46 (klC_11 hc) (ksC_11 hc) g11 ?_
      refine a_nmi fun x12 ex12 => ?_
      replace h := nm_at ex12 h
      clear ex12
      refine a_aload_n (pc := 47) F dX2_adjournTired_47 0 rfl ?_
      refine a_geti (k := c) (pc := 48) F dX2_adjournTired_48 fl_RX2_50 (klC_0 hc) (ksC_0 hc) rfl ?_
      refine a_icmp_ne (tgt := 76) (pc := 51) F dX2_adjournTired_51 (by decide) (fun q13 => ?_) (fun q13 => ?_)
      · replace h := ite_f q13 h
        clear q13
        obtain ⟨x14, ex14⟩ : ∃ x14 : Int32, x14 = x4 + 1 := ⟨_, rfl⟩
        refine a_iinc (v := x14) (lv' := [(2, .int x14), (0, .ref (ga X.G c)), (1, .int x2)]) (pc := 76) F dX2_adjournTired_76 2 rfl (by rw [ex14]; rfl) (by decide) rfl ?_
        replace h := nm_at ex14 h
        clear ex14
        refine a_goto (tgt := 16) (pc := 79) F dX2_adjournTired_79 (by decide) ?_
        refine a_lv F [1, 2, 0] rfl ?_
        exact hP3 _ (Option.some.inj h).symm
      · replace h := ite_t (Decidable.not_not.mp q13) h
        clear q13
        refine a_aload_n (pc := 54) F dX2_adjournTired_54 0 rfl ?_
        refine a_getr (k := c) (r := (c + 8)) (pc := 55) F dX2_adjournTired_55 fl_RX2_21 (klC_0 hc) (ksC_0 hc) rfl ?_
        refine a_getr (k := (c + 8)) (r := (c + 16)) (pc := 58) F dX2_adjournTired_58 fl_RX2_148 (klC_8 hc) (ksC_8 hc) rfl ?_
        refine a_iload_n (pc := 61) F dX2_adjournTired_61 2 rfl ?_
        replace h := gIn_some h
        obtain ⟨g15, h⟩ := h
        refine a_ial (k := (c + 16)) (pc := 62) F dX2_adjournTired_62 (klC_16 hc) (ksC_16 hc) g15 ?_
        refine a_nmi fun x16 ex16 => ?_
        replace h := nm_at ex16 h
        clear ex16
        refine a_iload_n (pc := 63) F dX2_adjournTired_63 1 rfl ?_
        refine a_iand (pc := 64) F dX2_adjournTired_64 ?_
        refine a_if_eq (tgt := 76) (pc := 65) F dX2_adjournTired_65 (by decide) (fun q17 => ?_) (fun q17 => ?_)
        · replace h := ite_t q17 h
          clear q17
          obtain ⟨x18, ex18⟩ : ∃ x18 : Int32, x18 = x4 + 1 := ⟨_, rfl⟩
          refine a_iinc (v := x18) (lv' := [(2, .int x18), (0, .ref (ga X.G c)), (1, .int x2)]) (pc := 76) F dX2_adjournTired_76 2 rfl (by rw [ex18]; rfl) (by decide) rfl ?_
          replace h := nm_at ex18 h
          clear ex18
          refine a_goto (tgt := 16) (pc := 79) F dX2_adjournTired_79 (by decide) ?_
          refine a_lv F [1, 2, 0] rfl ?_
          exact hP3 _ (Option.some.inj h).symm
        · replace h := ite_f q17 h
          clear q17
          refine a_aload_n (pc := 68) F dX2_adjournTired_68 0 rfl ?_
          refine a_iload_n (pc := 69) F dX2_adjournTired_69 2 rfl ?_
          refine a_iconst (v := 2) (pc := 70) F dX2_adjournTired_70 (by decide) ?_
          refine a_iconst (v := 1) (pc := 71) F dX2_adjournTired_71 (by decide) ?_
          replace h := bnd2_some h
          obtain ⟨x20, m21, hc19, h⟩ := h
          refine a_callV (pc := 72) (k := c) (As := [.int x4, .int 2, .int 1]) (st := []) F dX2_adjournTired_72 (m_X2_close hc hc19) cv_RX2_139 (klC_0 hc) (ksC_0 hc) ⟨_, _, rfl⟩ rfl rfl rfl (Nat.le_of_ble_eq_true rfl) ⟨Nat.le_of_ble_eq_true rfl, Nat.le_of_ble_eq_true rfl⟩ ?_ rfl rfl
          clear hc19
          refine a_pop (pc := 75) F dX2_adjournTired_75 rfl ?_
          obtain ⟨x22, ex22⟩ : ∃ x22 : Int32, x22 = x4 + 1 := ⟨_, rfl⟩
          refine a_iinc (v := x22) (lv' := [(2, .int x22), (0, .ref (ga X.G c)), (1, .int x2)]) (pc := 76) F dX2_adjournTired_76 2 rfl (by rw [ex22]; rfl) (by decide) rfl ?_
          replace h := nm_at ex22 h
          clear ex22
          refine a_goto (tgt := 16) (pc := 79) F dX2_adjournTired_79 (by decide) ?_
          refine a_lv F [1, 2, 0] rfl ?_
          exact hP3 _ (Option.some.inj h).symm
def f_X2_passMinute_L18 (c : Nat) : (Int32 × Int32 × Mem) → Option ((Int32 × Int32 × Mem) ⊕ (Int32 × Mem))
  | (x5, x6, m7) => (if (m7.1 (c + 8) 0) ≤ x6 then some (.inr (x5, m7)) else bnd (f_X3_isListed c x6 m7) fun x10 => (if x10 = 0 then nm (x6 + 1) fun x12 => some (.inl (x5, x12, m7)) else bnd (f_X3_end c x6 m7) fun x14 => (if x14 = (m7.1 c 3) then gIn x6 30 <| nm (m7.1 (c + 14) x6.toNatClampNeg) fun x18 => bnd ((if x18 ≤ 0 then some 0 else some 1)) (fun (x21 : Int32) => bnd ((if x21 = 0 then some 2 else some 1)) (fun (x24 : Int32) => bnd2 (f_X2_close c x6 x24 2 m7) fun x26 m27 => (if x21 = 0 then nm (x6 + 1) fun x29 => some (.inl (x5 + 0, x29, m27)) else nm (x6 + 1) fun x30 => some (.inl (x5 + 1, x30, m27))))) else nm (x6 + 1) fun x16 => some (.inl (x5, x16, m7)))))
def f_X2_passMinute (c : Nat) (m0 : Mem) : Option (Int32 × Mem) :=
  bnd (f_X2_tireAndRest c m0) fun m2 => nm (si m2 c 3 ((m2.1 c 3) + 1)) fun m3 => bnd (lp (f_X2_passMinute_L18 c) 1000000 (0, 0, m3)) (fun (x31, m32) => bnd (f_X2_adjournTired c m32) fun m34 => some (x31, m34))
set_option maxRecDepth 100000 in
set_option maxHeartbeats 4000000 in
theorem m_X2_passMinute {c : Nat} (hc : isC c) {m0 : Mem} {rr : Int32} {mm : Mem} (h : f_X2_passMinute c m0 = some (rr, mm)) : Con yX2_passMinute cX2_passMinute 4 (some Jvm.ClassFile.FieldType.int) 4 95 (fun G => [.ref (ga G c)]) m0 (some (.int rr)) mm := by
  refine con_of (by decide) (fun G => Nat.le_of_ble_eq_true rfl) (fun X F => ?_)
  show WA X 0 0 0 [(0, .ref (ga X.G c))] [] m0 (EQ X (some (.int rr)) mm)
  rw [f_X2_passMinute] at h
  refine a_aload_n (pc := 0) F dX2_passMinute_0 0 rfl ?_
  replace h := bnd_some h
  obtain ⟨m2, hc1, h⟩ := h
  refine a_callV (pc := 1) (k := c) (As := []) (st := []) F dX2_passMinute_1 (m_X2_tireAndRest hc hc1) cv_RX2_132 (klC_0 hc) (ksC_0 hc) ⟨_, _, rfl⟩ rfl rfl rfl (Nat.le_of_ble_eq_true rfl) ⟨Nat.le_of_ble_eq_true rfl, Nat.le_of_ble_eq_true rfl⟩ ?_ rfl rfl
  clear hc1
  refine a_aload_n (pc := 4) F dX2_passMinute_4 0 rfl ?_
  refine a_dup (pc := 5) F dX2_passMinute_5 rfl ?_
  refine a_geti (k := c) (pc := 6) F dX2_passMinute_6 fl_RX2_50 (klC_0 hc) (ksC_0 hc) rfl ?_
  refine a_iconst (v := 1) (pc := 9) F dX2_passMinute_9 (by decide) ?_
  refine a_iadd (pc := 10) F dX2_passMinute_10 ?_
  refine a_puti (k := c) (pc := 11) F dX2_passMinute_11 fp_RX2_50 (klC_0 hc) (ksC_0 hc) rfl ?_
  refine a_nmm fun m3 em3 => ?_
  replace h := nm_at em3 h
  clear em3
  refine a_iconst (v := 0) (pc := 14) F dX2_passMinute_14 (by decide) ?_
  refine a_istore_n (lv' := [(1, .int 0), (0, .ref (ga X.G c))]) (pc := 15) F dX2_passMinute_15 (by decide) rfl ?_
  refine a_iconst (v := 0) (pc := 16) F dX2_passMinute_16 (by decide) ?_
  refine a_istore_n (lv' := [(2, .int 0), (1, .int 0), (0, .ref (ga X.G c))]) (pc := 17) F dX2_passMinute_17 (by decide) rfl ?_
  refine a_lv F [2, 1, 0] rfl ?_
  replace h := bnd_some h
  obtain ⟨⟨x31, m32⟩, hL4, h⟩ := h
  have hE4 : WA X 0 0 107 [(0, .ref (ga X.G c)), (1, .int x31)] [] m32 (EQ X (some (.int rr)) mm) := by
    refine a_aload_n (pc := 107) F dX2_passMinute_107 0 rfl ?_
    replace h := bnd_some h
    obtain ⟨m34, hc33, h⟩ := h
    refine a_callV (pc := 108) (k := c) (As := []) (st := []) F dX2_passMinute_108 (m_X2_adjournTired hc hc33) cv_RX2_142 (klC_0 hc) (ksC_0 hc) ⟨_, _, rfl⟩ rfl rfl rfl (Nat.le_of_ble_eq_true rfl) ⟨Nat.le_of_ble_eq_true rfl, Nat.le_of_ble_eq_true rfl⟩ ?_ rfl rfl
    clear hc33
    refine a_iload_n (pc := 111) F dX2_passMinute_111 1 rfl ?_
    cases h
    exact a_iret (pc := 112) F dX2_passMinute_112 ⟨_, rfl, rfl⟩
  clear h
  refine lp_run (P := fun (s : (Int32 × Int32 × Mem)) => WA X 0 0 18 [(0, .ref (ga X.G c)), (1, .int s.1), (2, .int s.2.1)] [] s.2.2 (EQ X (some (.int rr)) mm)) ?_ _ _ hL4
  clear hL4
  rintro ⟨x5, x6, m7⟩ xo h hP4 hT4
  show WA X 0 0 18 [(0, .ref (ga X.G c)), (1, .int x5), (2, .int x6)] [] m7 (EQ X (some (.int rr)) mm)
  rw [f_X2_passMinute_L18] at h
  refine a_iload_n (pc := 18) F dX2_passMinute_18 2 rfl ?_
  refine a_aload_n (pc := 19) F dX2_passMinute_19 0 rfl ?_
  refine a_getr (k := c) (r := (c + 8)) (pc := 20) F dX2_passMinute_20 fl_RX2_21 (klC_0 hc) (ksC_0 hc) rfl ?_
  refine a_geti (k := (c + 8)) (pc := 23) F dX2_passMinute_23 fl_RX2_135 (klC_8 hc) (ksC_8 hc) rfl ?_
  refine a_icmp_ge (tgt := 107) (pc := 26) F dX2_passMinute_26 (by decide) (fun q8 => ?_) (fun q8 => ?_)
  · replace h := ite_t q8 h
    clear q8
    refine a_lv F [0, 1] rfl ?_
    cases hT4 _ (Option.some.inj h).symm
    exact hE4
  · replace h := ite_f q8 h
    clear q8
    refine a_aload_n (pc := 29) F dX2_passMinute_29 0 rfl ?_
    refine a_getr (k := c) (r := (c + 8)) (pc := 30) F dX2_passMinute_30 fl_RX2_21 (klC_0 hc) (ksC_0 hc) rfl ?_
    refine a_iload_n (pc := 33) F dX2_passMinute_33 2 rfl ?_
    replace h := bnd_some h
    obtain ⟨x10, hc9, h⟩ := h
    refine a_callV (pc := 34) (k := (c + 8)) (As := [.int x6]) (st := []) F dX2_passMinute_34 (m_X3_isListed hc hc9) cv_RX2_66 (klC_8 hc) (ksC_8 hc) ⟨_, _, rfl⟩ rfl rfl rfl (Nat.le_of_ble_eq_true rfl) ⟨Nat.le_of_ble_eq_true rfl, Nat.le_of_ble_eq_true rfl⟩ ?_ rfl rfl
    clear hc9
    refine a_if_eq (tgt := 101) (pc := 37) F dX2_passMinute_37 (by decide) (fun q11 => ?_) (fun q11 => ?_)
    · replace h := ite_t q11 h
      clear q11
      obtain ⟨x12, ex12⟩ : ∃ x12 : Int32, x12 = x6 + 1 := ⟨_, rfl⟩
      refine a_iinc (v := x12) (lv' := [(2, .int x12), (0, .ref (ga X.G c)), (1, .int x5)]) (pc := 101) F dX2_passMinute_101 2 rfl (by rw [ex12]; rfl) (by decide) rfl ?_
      replace h := nm_at ex12 h
      clear ex12
      refine a_goto (tgt := 18) (pc := 104) F dX2_passMinute_104 (by decide) ?_
      refine a_lv F [1, 2, 0] rfl ?_
      exact hP4 _ (Option.some.inj h).symm
    · replace h := ite_f q11 h
      clear q11
      refine a_aload_n (pc := 40) F dX2_passMinute_40 0 rfl ?_
      refine a_getr (k := c) (r := (c + 8)) (pc := 41) F dX2_passMinute_41 fl_RX2_21 (klC_0 hc) (ksC_0 hc) rfl ?_
      refine a_iload_n (pc := 44) F dX2_passMinute_44 2 rfl ?_
      replace h := bnd_some h
      obtain ⟨x14, hc13, h⟩ := h
      refine a_callV (pc := 45) (k := (c + 8)) (As := [.int x6]) (st := []) F dX2_passMinute_45 (m_X3_end hc hc13) cv_RX2_136 (klC_8 hc) (ksC_8 hc) ⟨_, _, rfl⟩ rfl rfl rfl (Nat.le_of_ble_eq_true rfl) ⟨Nat.le_of_ble_eq_true rfl, Nat.le_of_ble_eq_true rfl⟩ ?_ rfl rfl
      clear hc13
      refine a_aload_n (pc := 48) F dX2_passMinute_48 0 rfl ?_
      refine a_geti (k := c) (pc := 49) F dX2_passMinute_49 fl_RX2_50 (klC_0 hc) (ksC_0 hc) rfl ?_
      refine a_icmp_ne (tgt := 101) (pc := 52) F dX2_passMinute_52 (by decide) (fun q15 => ?_) (fun q15 => ?_)
      · replace h := ite_f q15 h
        clear q15
        obtain ⟨x16, ex16⟩ : ∃ x16 : Int32, x16 = x6 + 1 := ⟨_, rfl⟩
        refine a_iinc (v := x16) (lv' := [(2, .int x16), (0, .ref (ga X.G c)), (1, .int x5)]) (pc := 101) F dX2_passMinute_101 2 rfl (by rw [ex16]; rfl) (by decide) rfl ?_
        replace h := nm_at ex16 h
        clear ex16
        refine a_goto (tgt := 18) (pc := 104) F dX2_passMinute_104 (by decide) ?_
        refine a_lv F [1, 2, 0] rfl ?_
        exact hP4 _ (Option.some.inj h).symm
      · replace h := ite_t (Decidable.not_not.mp q15) h
        clear q15
        refine a_aload_n (pc := 55) F dX2_passMinute_55 0 rfl ?_
        refine a_getr (k := c) (r := (c + 8)) (pc := 56) F dX2_passMinute_56 fl_RX2_21 (klC_0 hc) (ksC_0 hc) rfl ?_
        refine a_getr (k := (c + 8)) (r := (c + 14)) (pc := 59) F dX2_passMinute_59 fl_RX2_107 (klC_8 hc) (ksC_8 hc) rfl ?_
        refine a_iload_n (pc := 62) F dX2_passMinute_62 2 rfl ?_
        replace h := gIn_some h
        obtain ⟨g17, h⟩ := h
        refine a_ial (k := (c + 14)) (pc := 63) F dX2_passMinute_63 (klC_14 hc) (ksC_14 hc) g17 ?_
        refine a_nmi fun x18 ex18 => ?_
        replace h := nm_at ex18 h
        clear ex18
        replace h := bnd_some h
        obtain ⟨x21, hR19, h⟩ := h
        have hJ19 : WA X 0 0 72 [(0, .ref (ga X.G c)), (1, .int x5), (2, .int x6)] [.int x21] m7 (EQ X (some (.int rr)) mm) := by
          refine a_istore_n (lv' := [(3, .int x21), (0, .ref (ga X.G c)), (1, .int x5), (2, .int x6)]) (pc := 72) F dX2_passMinute_72 (by decide) rfl ?_
          refine a_aload_n (pc := 73) F dX2_passMinute_73 1 rfl ?_
          refine a_iload_n (pc := 74) F dX2_passMinute_74 3 rfl ?_
          refine a_iload_n (pc := 75) F dX2_passMinute_75 0 rfl ?_
          replace h := bnd_some h
          obtain ⟨x24, hR22, h⟩ := h
          have hJ22 : WA X 0 0 84 [(0, .ref (ga X.G c)), (1, .int x5), (2, .int x6), (3, .int x21)] [.int x24, .int x6, .ref (ga X.G c)] m7 (EQ X (some (.int rr)) mm) := by
            refine a_iconst (v := 2) (pc := 84) F dX2_passMinute_84 (by decide) ?_
            replace h := bnd2_some h
            obtain ⟨x26, m27, hc25, h⟩ := h
            refine a_callV (pc := 85) (k := c) (As := [.int x6, .int x24, .int 2]) (st := []) F dX2_passMinute_85 (m_X2_close hc hc25) cv_RX2_139 (klC_0 hc) (ksC_0 hc) ⟨_, _, rfl⟩ rfl rfl rfl (Nat.le_of_ble_eq_true rfl) ⟨Nat.le_of_ble_eq_true rfl, Nat.le_of_ble_eq_true rfl⟩ ?_ rfl rfl
            clear hc25
            refine a_pop (pc := 88) F dX2_passMinute_88 rfl ?_
            refine a_iload_n (pc := 89) F dX2_passMinute_89 1 rfl ?_
            refine a_iload_n (pc := 90) F dX2_passMinute_90 3 rfl ?_
            refine a_if_eq (tgt := 98) (pc := 91) F dX2_passMinute_91 (by decide) (fun q28 => ?_) (fun q28 => ?_)
            · replace h := ite_t q28 h
              clear q28
              refine a_iconst (v := 0) (pc := 98) F dX2_passMinute_98 (by decide) ?_
              refine a_iadd (pc := 99) F dX2_passMinute_99 ?_
              refine a_istore_n (lv' := [(1, .int (x5 + 0)), (0, .ref (ga X.G c)), (2, .int x6), (3, .int x21)]) (pc := 100) F dX2_passMinute_100 (by decide) rfl ?_
              obtain ⟨x29, ex29⟩ : ∃ x29 : Int32, x29 = x6 + 1 := ⟨_, rfl⟩
              refine a_iinc (v := x29) (lv' := [(2, .int x29), (1, .int (x5 + 0)), (0, .ref (ga X.G c)), (3, .int x21)]) (pc := 101) F dX2_passMinute_101 2 rfl (by rw [ex29]; rfl) (by decide) rfl ?_
              replace h := nm_at ex29 h
              clear ex29
              refine a_goto (tgt := 18) (pc := 104) F dX2_passMinute_104 (by decide) ?_
              refine a_lv F [2, 1, 0] rfl ?_
              exact hP4 _ (Option.some.inj h).symm
            · replace h := ite_f q28 h
              clear q28
              refine a_iconst (v := 1) (pc := 94) F dX2_passMinute_94 (by decide) ?_
              refine a_goto (tgt := 99) (pc := 95) F dX2_passMinute_95 (by decide) ?_
              refine a_iadd (pc := 99) F dX2_passMinute_99 ?_
              refine a_istore_n (lv' := [(1, .int (x5 + 1)), (0, .ref (ga X.G c)), (2, .int x6), (3, .int x21)]) (pc := 100) F dX2_passMinute_100 (by decide) rfl ?_
              obtain ⟨x30, ex30⟩ : ∃ x30 : Int32, x30 = x6 + 1 := ⟨_, rfl⟩
              refine a_iinc (v := x30) (lv' := [(2, .int x30), (1, .int (x5 + 1)), (0, .ref (ga X.G c)), (3, .int x21)]) (pc := 101) F dX2_passMinute_101 2 rfl (by rw [ex30]; rfl) (by decide) rfl ?_
              replace h := nm_at ex30 h
              clear ex30
              refine a_goto (tgt := 18) (pc := 104) F dX2_passMinute_104 (by decide) ?_
              refine a_lv F [2, 1, 0] rfl ?_
              exact hP4 _ (Option.some.inj h).symm
          clear h
          have h := hR22
          clear hR22
          refine a_if_eq (tgt := 83) (pc := 76) F dX2_passMinute_76 (by decide) (fun q23 => ?_) (fun q23 => ?_)
          · replace h := ite_t q23 h
            clear q23
            refine a_iconst (v := 2) (pc := 83) F dX2_passMinute_83 (by decide) ?_
            refine a_lv F [1, 2, 3, 0] rfl ?_
            cases h
            exact hJ22
          · replace h := ite_f q23 h
            clear q23
            refine a_iconst (v := 1) (pc := 79) F dX2_passMinute_79 (by decide) ?_
            refine a_goto (tgt := 84) (pc := 80) F dX2_passMinute_80 (by decide) ?_
            refine a_lv F [1, 2, 3, 0] rfl ?_
            cases h
            exact hJ22
        clear h
        have h := hR19
        clear hR19
        refine a_if_le (tgt := 71) (pc := 64) F dX2_passMinute_64 (by decide) (fun q20 => ?_) (fun q20 => ?_)
        · replace h := ite_t q20 h
          clear q20
          refine a_iconst (v := 0) (pc := 71) F dX2_passMinute_71 (by decide) ?_
          cases h
          exact hJ19
        · replace h := ite_f q20 h
          clear q20
          refine a_iconst (v := 1) (pc := 67) F dX2_passMinute_67 (by decide) ?_
          refine a_goto (tgt := 72) (pc := 68) F dX2_passMinute_68 (by decide) ?_
          cases h
          exact hJ19
