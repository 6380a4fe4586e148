def f_X8_takesKind (p1 : Int32) (m0 : Mem) : Option (Int32 × Mem) :=
  bnd ((if p1 = 99 then some 0 else (if p1 = 114 then some 1 else some 2))) (fun (x4 : Int32) => gIn (4 * (m0.1 162 9)) 40 <| nm (si m0 167 (4 * (m0.1 162 9)).toNatClampNeg x4) fun m6 => nm (si m6 162 11 1) fun m7 => (if p1 = 99 then some (1, m7) else (if p1 = 114 then some (1, m7) else (if p1 = 97 then some (1, m7) else some (0, m7)))))
set_option maxRecDepth 100000 in
set_option maxHeartbeats 4000000 in
theorem m_X8_takesKind {p1 : Int32} {m0 : Mem} {rr : Int32} {mm : Mem} (h : f_X8_takesKind p1 m0 = some (rr, mm)) : Con yX8_takesKind cX8_takesKind 2 (some Jvm.ClassFile.FieldType.boolean) 0 0 (fun G => [.ref (ga G 162), .int p1]) m0 (some (.int rr)) mm := by
  refine con_of (by decide) (fun G => Nat.le_of_ble_eq_true rfl) (fun X F => ?_)
  show WA X 0 0 0 [(0, .ref (ga X.G 162)), (1, .int p1)] [] m0 (EQ X (some (.int rr)) mm)
  rw [f_X8_takesKind] at h
  refine a_aload_n (pc := 0) F dX8_takesKind_0 0 rfl ?_
  refine a_getr (k := 162) (r := 167) (pc := 1) F dX8_takesKind_1 fl_RX8_22 kl_162 ks_162 rfl ?_
  refine a_iconst (v := 4) (pc := 4) F dX8_takesKind_4 (by decide) ?_
  refine a_aload_n (pc := 5) F dX8_takesKind_5 0 rfl ?_
  refine a_geti (k := 162) (pc := 6) F dX8_takesKind_6 fl_RX8_162 kl_162 ks_162 rfl ?_
  refine a_imul (pc := 9) F dX8_takesKind_9 ?_
  refine a_iload_n (pc := 10) F dX8_takesKind_10 1 rfl ?_
  refine a_bipush (v := 99) (pc := 11) F dX8_takesKind_11 (by decide) ?_
  replace h := bnd_some h
  obtain ⟨x4, hR1, h⟩ := h
  have hJ1 : WA X 0 0 31 [(0, .ref (ga X.G 162)), (1, .int p1)] [.int x4, .int (4 * (m0.1 162 9)), .ref (ga X.G 167)] m0 (EQ X (some (.int rr)) mm) := by
    replace h := gIn_some h
    obtain ⟨g5, h⟩ := h
    refine a_ias (k := 167) (pc := 31) F dX8_takesKind_31 kl_167 ks_167 g5 ?_
    refine a_nmm fun m6 em6 => ?_
    replace h := nm_at em6 h
    clear em6
    refine a_aload_n (pc := 32) F dX8_takesKind_32 0 rfl ?_
    refine a_iconst (v := 1) (pc := 33) F dX8_takesKind_33 (by decide) ?_
    refine a_puti (k := 162) (pc := 34) F dX8_takesKind_34 fp_RX8_159 kl_162 ks_162 rfl ?_
    refine a_nmm fun m7 em7 => ?_
    replace h := nm_at em7 h
    clear em7
    refine a_iload_n (pc := 37) F dX8_takesKind_37 1 rfl ?_
    refine a_bipush (v := 99) (pc := 38) F dX8_takesKind_38 (by decide) ?_
    refine a_icmp_eq (tgt := 55) (pc := 40) F dX8_takesKind_40 (by decide) (fun q8 => ?_) (fun q8 => ?_)
    · replace h := ite_t q8 h
      clear q8
      refine a_iconst (v := 1) (pc := 55) F dX8_takesKind_55 (by decide) ?_
      refine a_goto (tgt := 60) (pc := 56) F dX8_takesKind_56 (by decide) ?_
      cases h
      exact a_iret (pc := 60) F dX8_takesKind_60 ⟨_, rfl, rfl⟩
    · replace h := ite_f q8 h
      clear q8
      refine a_iload_n (pc := 43) F dX8_takesKind_43 1 rfl ?_
      refine a_bipush (v := 114) (pc := 44) F dX8_takesKind_44 (by decide) ?_
      refine a_icmp_eq (tgt := 55) (pc := 46) F dX8_takesKind_46 (by decide) (fun q9 => ?_) (fun q9 => ?_)
      · replace h := ite_t q9 h
        clear q9
        refine a_iconst (v := 1) (pc := 55) F dX8_takesKind_55 (by decide) ?_
        refine a_goto (tgt := 60) (pc := 56) F dX8_takesKind_56 (by decide) ?_
        cases h
        exact a_iret (pc := 60) F dX8_takesKind_60 ⟨_, rfl, rfl⟩
      · replace h := ite_f q9 h
        clear q9
        refine a_iload_n (pc := 49) F dX8_takesKind_49 1 rfl ?_
        refine a_bipush (v := 97) (pc := 50) F dX8_takesKind_50 (by decide) ?_
        refine a_icmp_ne (tgt := 59) (pc := 52) F dX8_takesKind_52 (by decide) (fun q10 => ?_) (fun q10 => ?_)
        · replace h := ite_f q10 h
          clear q10
          refine a_iconst (v := 0) (pc := 59) F dX8_takesKind_59 (by decide) ?_
          cases h
          exact a_iret (pc := 60) F dX8_takesKind_60 ⟨_, rfl, rfl⟩
        · replace h := ite_t (Decidable.not_not.mp q10) h
          clear q10
          refine a_iconst (v := 1) (pc := 55) F dX8_takesKind_55 (by decide) ?_
          refine a_goto (tgt := 60) (pc := 56) F dX8_takesKind_56 (by decide) ?_
          cases h
          exact a_iret (pc := 60) F dX8_takesKind_60 ⟨_, rfl, rfl⟩
  clear h
  have h := hR1
  clear hR1
  refine a_icmp_ne (tgt := 20) (pc := 13) F dX8_takesKind_13 (by decide) (fun q2 => ?_) (fun q2 => ?_)
  · replace h := ite_f q2 h
    clear q2
    refine a_iload_n (pc := 20) F dX8_takesKind_20 1 rfl ?_
    refine a_bipush (v := 114) (pc := 21) F dX8_takesKind_21 (by decide) ?_
    refine a_icmp_ne (tgt := 30) (pc := 23) F dX8_takesKind_23 (by decide) (fun q3 => ?_) (fun q3 => ?_)
    · replace h := ite_f q3 h
      clear q3
      refine a_iconst (v := 2) (pc := 30) F dX8_takesKind_30 (by decide) ?_
      cases h
      exact hJ1
    · replace h := ite_t (Decidable.not_not.mp q3) h
      clear q3
      refine a_iconst (v := 1) (pc := 26) F dX8_takesKind_26 (by decide) ?_
      refine a_goto (tgt := 31) (pc := 27) F dX8_takesKind_27 (by decide) ?_
      cases h
      exact hJ1
  · replace h := ite_t (Decidable.not_not.mp q2) h
    clear q2
    refine a_iconst (v := 0) (pc := 16) F dX8_takesKind_16 (by decide) ?_
    refine a_goto (tgt := 31) (pc := 17) F dX8_takesKind_17 (by decide) ?_
    cases h
    exact hJ1
def f_X8_endHearing (m0 : Mem) : Option Mem :=
  gIn ((4 * (m0.1 162 9)) + 3) 40 <| nm (si m0 167 ((4 * (m0.1 162 9)) + 3).toNatClampNeg (m0.1 162 10)) fun m2 => nm (si m2 162 10 (-1)) fun m3 => nm (si m3 162 9 ((m3.1 162 9) + 1)) fun m4 => some m4
set_option maxRecDepth 100000 in
set_option maxHeartbeats 4000000 in
theorem m_X8_endHearing {m0 : Mem} {mm : Mem} (h : f_X8_endHearing m0 = some mm) : Con yX8_endHearing cX8_endHearing 1 none 0 0 (fun G => [.ref (ga G 162)]) m0 none mm := by
  refine con_of (by decide) (fun G => Nat.le_of_ble_eq_true rfl) (fun X F => ?_)
  show WA X 0 0 0 [(0, .ref (ga X.G 162))] [] m0 (EQ X none mm)
  rw [f_X8_endHearing] at h
  refine a_aload_n (pc := 0) F dX8_endHearing_0 0 rfl ?_
  refine a_getr (k := 162) (r := 167) (pc := 1) F dX8_endHearing_1 fl_RX8_22 kl_162 ks_162 rfl ?_
  refine a_iconst (v := 4) (pc := 4) F dX8_endHearing_4 (by decide) ?_
  refine a_aload_n (pc := 5) F dX8_endHearing_5 0 rfl ?_
  refine a_geti (k := 162) (pc := 6) F dX8_endHearing_6 fl_RX8_162 kl_162 ks_162 rfl ?_
  refine a_imul (pc := 9) F dX8_endHearing_9 ?_
  refine a_iconst (v := 3) (pc := 10) F dX8_endHearing_10 (by decide) ?_
  refine a_iadd (pc := 11) F dX8_endHearing_11 ?_
  refine a_aload_n (pc := 12) F dX8_endHearing_12 0 rfl ?_
  refine a_geti (k := 162) (pc := 13) F dX8_endHearing_13 fl_RX8_156 kl_162 ks_162 rfl ?_
  replace h := gIn_some h
  obtain ⟨g1, h⟩ := h
  refine a_ias (k := 167) (pc := 16) F dX8_endHearing_16 kl_167 ks_167 g1 ?_
  refine a_nmm fun m2 em2 => ?_
  replace h := nm_at em2 h
  clear em2
  refine a_aload_n (pc := 17) F dX8_endHearing_17 0 rfl ?_
  refine a_iconst (v := (-1)) (pc := 18) F dX8_endHearing_18 (by decide) ?_
  refine a_puti (k := 162) (pc := 19) F dX8_endHearing_19 fp_RX8_156 kl_162 ks_162 rfl ?_
  refine a_nmm fun m3 em3 => ?_
  replace h := nm_at em3 h
  clear em3
  refine a_aload_n (pc := 22) F dX8_endHearing_22 0 rfl ?_
  refine a_dup (pc := 23) F dX8_endHearing_23 rfl ?_
  refine a_geti (k := 162) (pc := 24) F dX8_endHearing_24 fl_RX8_162 kl_162 ks_162 rfl ?_
  refine a_iconst (v := 1) (pc := 27) F dX8_endHearing_27 (by decide) ?_
  refine a_iadd (pc := 28) F dX8_endHearing_28 ?_
  refine a_puti (k := 162) (pc := 29) F dX8_endHearing_29 fp_RX8_162 kl_162 ks_162 rfl ?_
  refine a_nmm fun m4 em4 => ?_
  replace h := nm_at em4 h
  clear em4
  cases h
  exact a_vret (pc := 32) F dX8_endHearing_32 rfl
def f_X8_takes (p1 : Int32) (m0 : Mem) : Option (Int32 × Mem) :=
  nm (m0.1 162 11) fun x1 => (if x1 = 0 then bnd2 (f_X8_takesKind p1 m0) fun x4 m5 => gBo x4 <| some (x4, m5) else (if x1 = 1 then gIn ((4 * (m0.1 162 9)) + 1) 40 <| nm (si m0 167 ((4 * (m0.1 162 9)) + 1).toNatClampNeg (p1 - 48)) fun m9 => nm (si m9 162 11 2) fun m10 => bnd (f_X8_within p1 49 57 m10) fun x12 => gBo x12 <| some (x12, m10) else (if x1 = 2 then nm (si m0 162 11 3) fun m15 => (if p1 = 64 then some (1, m15) else some (0, m15)) else jn ((if p1 = 43 then (if (m0.1 162 11) = 3 then (if (m0.1 162 10) = (-1) then some (.inl m0) else gIn ((4 * (m0.1 162 9)) + 2) 40 <| nm (si m0 167 ((4 * (m0.1 162 9)) + 2).toNatClampNeg (m0.1 162 10)) fun m22 => nm (si m22 162 10 (-1)) fun m23 => nm (si m23 162 11 4) fun m24 => some (.inr (1, m24))) else some (.inl m0)) else some (.inl m0))) (fun (m25 : Mem) => jn ((if p1 = 44 then (if (m25.1 162 11) = 4 then (if (m25.1 162 10) ≤ 9 then some (.inl m25) else bnd (f_X8_endHearing m25) fun m31 => nm (si m31 162 11 0) fun m32 => some (.inr (1, m32))) else some (.inl m25)) else some (.inl m25))) (fun (m33 : Mem) => bnd2 (f_X8_takesDigit (p1 - 48) m33) fun x35 m36 => gBo x35 <| some (x35, m36))))))
set_option maxRecDepth 100000 in
set_option maxHeartbeats 4000000 in
theorem m_X8_takes {p1 : Int32} {m0 : Mem} {rr : Int32} {mm : Mem} (h : f_X8_takes p1 m0 = some (rr, mm)) : Con yX8_takes cX8_takes 2 (some Jvm.ClassFile.FieldType.boolean) 2 45 (fun G => [.ref (ga G 162), .int p1]) m0 (some (.int rr)) mm := by
  refine con_of (by decide) (fun G => Nat.le_of_ble_eq_true rfl) (fun X F => ?_)
  show WA X 0 0 0 [(0, .ref (ga X.G 162)), (1, .int p1)] [] m0 (EQ X (some (.int rr)) mm)
  rw [f_X8_takes] at h
  refine a_aload_n (pc := 0) F dX8_takes_0 0 rfl ?_
  refine a_geti (k := 162) (pc := 1) F dX8_takes_1 fl_RX8_159 kl_162 ks_162 rfl ?_
  refine a_nmi fun x1 ex1 => ?_
  replace h := nm_at ex1 h
  clear ex1
  by_cases q2 : x1 = 0
  · replace h := ite_t q2 h
    refine a_swin (pc := 4) (tgt := 32) F dX8_takes_4 (by rw [q2]; decide) (by rw [q2]; decide) (by rw [q2]; rfl) (by decide) ?_
    clear q2
    refine a_aload_n (pc := 32) F dX8_takes_32 0 rfl ?_
    refine a_iload_n (pc := 33) F dX8_takes_33 1 rfl ?_
    replace h := bnd2_some h
    obtain ⟨x4, m5, hc3, h⟩ := h
    refine a_callV (pc := 34) (k := 162) (As := [.int p1]) (st := []) F dX8_takes_34 (m_X8_takesKind hc3) cv_RX8_165 kl_162 ks_162 ⟨_, _, rfl⟩ rfl rfl rfl (Nat.le_of_ble_eq_true rfl) ⟨Nat.le_of_ble_eq_true rfl, Nat.le_of_ble_eq_true rfl⟩ ?_ rfl rfl
    clear hc3
    replace h := gBo_some h
    obtain ⟨g6, h⟩ := h
    cases h
    exact a_iret (pc := 37) F dX8_takes_37 ⟨_, rfl, narrow_bo g6⟩
  replace h := ite_f q2 h
  by_cases q7 : x1 = 1
  · replace h := ite_t q7 h
    refine a_swin (pc := 4) (tgt := 38) F dX8_takes_4 (by rw [q7]; decide) (by rw [q7]; decide) (by rw [q7]; rfl) (by decide) ?_
    clear q7
    refine a_aload_n (pc := 38) F dX8_takes_38 0 rfl ?_
    refine a_getr (k := 162) (r := 167) (pc := 39) F dX8_takes_39 fl_RX8_22 kl_162 ks_162 rfl ?_
    refine a_iconst (v := 4) (pc := 42) F dX8_takes_42 (by decide) ?_
    refine a_aload_n (pc := 43) F dX8_takes_43 0 rfl ?_
    refine a_geti (k := 162) (pc := 44) F dX8_takes_44 fl_RX8_162 kl_162 ks_162 rfl ?_
    refine a_imul (pc := 47) F dX8_takes_47 ?_
    refine a_iconst (v := 1) (pc := 48) F dX8_takes_48 (by decide) ?_
    refine a_iadd (pc := 49) F dX8_takes_49 ?_
    refine a_iload_n (pc := 50) F dX8_takes_50 1 rfl ?_
    refine a_bipush (v := 48) (pc := 51) F dX8_takes_51 (by decide) ?_
    refine a_isub (pc := 53) F dX8_takes_53 ?_
    replace h := gIn_some h
    obtain ⟨g8, h⟩ := h
    refine a_ias (k := 167) (pc := 54) F dX8_takes_54 kl_167 ks_167 g8 ?_
    refine a_nmm fun m9 em9 => ?_
    replace h := nm_at em9 h
    clear em9
    refine a_aload_n (pc := 55) F dX8_takes_55 0 rfl ?_
    refine a_iconst (v := 2) (pc := 56) F dX8_takes_56 (by decide) ?_
    refine a_puti (k := 162) (pc := 57) F dX8_takes_57 fp_RX8_159 kl_162 ks_162 rfl ?_
    refine a_nmm fun m10 em10 => ?_
    replace h := nm_at em10 h
    clear em10
    refine a_iload_n (pc := 60) F dX8_takes_60 1 rfl ?_
    refine a_bipush (v := 49) (pc := 61) F dX8_takes_61 (by decide) ?_
    refine a_bipush (v := 57) (pc := 63) F dX8_takes_63 (by decide) ?_
    replace h := bnd_some h
    obtain ⟨x12, hc11, h⟩ := h
    refine a_callS (pc := 65) (As := [.int p1, .int 49, .int 57]) (st := []) F dX8_takes_65 (m_X8_within hc11) cs_RX8_38 rfl rfl rfl (Nat.le_of_ble_eq_true rfl) ⟨Nat.le_of_ble_eq_true rfl, Nat.le_of_ble_eq_true rfl⟩ ?_ rfl rfl
    clear hc11
    replace h := gBo_some h
    obtain ⟨g13, h⟩ := h
    cases h
    exact a_iret (pc := 68) F dX8_takes_68 ⟨_, rfl, narrow_bo g13⟩
  replace h := ite_f q7 h
  by_cases q14 : x1 = 2
  · replace h := ite_t q14 h
    refine a_swin (pc := 4) (tgt := 69) F dX8_takes_4 (by rw [q14]; decide) (by rw [q14]; decide) (by rw [q14]; rfl) (by decide) ?_
    clear q14
    refine a_aload_n (pc := 69) F dX8_takes_69 0 rfl ?_
    refine a_iconst (v := 3) (pc := 70) F dX8_takes_70 (by decide) ?_
    refine a_puti (k := 162) (pc := 71) F dX8_takes_71 fp_RX8_159 kl_162 ks_162 rfl ?_
    refine a_nmm fun m15 em15 => ?_
    replace h := nm_at em15 h
    clear em15
    refine a_iload_n (pc := 74) F dX8_takes_74 1 rfl ?_
    refine a_bipush (v := 64) (pc := 75) F dX8_takes_75 (by decide) ?_
    refine a_icmp_ne (tgt := 84) (pc := 77) F dX8_takes_77 (by decide) (fun q16 => ?_) (fun q16 => ?_)
    · replace h := ite_f q16 h
      clear q16
      refine a_iconst (v := 0) (pc := 84) F dX8_takes_84 (by decide) ?_
      cases h
      exact a_iret (pc := 85) F dX8_takes_85 ⟨_, rfl, rfl⟩
    · replace h := ite_t (Decidable.not_not.mp q16) h
      clear q16
      refine a_iconst (v := 1) (pc := 80) F dX8_takes_80 (by decide) ?_
      refine a_goto (tgt := 85) (pc := 81) F dX8_takes_81 (by decide) ?_
      cases h
      exact a_iret (pc := 85) F dX8_takes_85 ⟨_, rfl, rfl⟩
  replace h := ite_f q14 h
  refine a_swout (pc := 4) (tgt := 86) F dX8_takes_4 (by have nq2 := lv_neT (a := 0) q2 (by decide); have nq7 := lv_neT (a := 1) q7 (by decide); have nq14 := lv_neT (a := 2) q14 (by decide); omega) (by decide) ?_
  clear q2
  clear q7
  clear q14
  refine a_iload_n (pc := 86) F dX8_takes_86 1 rfl ?_
  refine a_bipush (v := 43) (pc := 87) F dX8_takes_87 (by decide) ?_
  replace h := jn_some h
  obtain ⟨o17, hR17, hK17, hB17⟩ := h
  have hJ17 : ∀ (m25 : Mem), o17 = .inl m25 → WA X 0 0 137 [(0, .ref (ga X.G 162)), (1, .int p1)] [] m25 (EQ X (some (.int rr)) mm) := by
    intro m25 eo
    have h := hK17 _ eo
    clear hK17 eo
    refine a_iload_n (pc := 137) F dX8_takes_137 1 rfl ?_
    refine a_bipush (v := 44) (pc := 138) F dX8_takes_138 (by decide) ?_
    replace h := jn_some h
    obtain ⟨o26, hR26, hK26, hB26⟩ := h
    have hJ26 : ∀ (m33 : Mem), o26 = .inl m33 → WA X 0 0 171 [(0, .ref (ga X.G 162)), (1, .int p1)] [] m33 (EQ X (some (.int rr)) mm) := by
      intro m33 eo
      have h := hK26 _ eo
      clear hK26 eo
      refine a_aload_n (pc := 171) F dX8_takes_171 0 rfl ?_
      refine a_iload_n (pc := 172) F dX8_takes_172 1 rfl ?_
      refine a_bipush (v := 48) (pc := 173) F dX8_takes_173 (by decide) ?_
      refine a_isub (pc := 175) F dX8_takes_175 ?_
      replace h := bnd2_some h
      obtain ⟨x35, m36, hc34, h⟩ := h
      refine a_callV (pc := 176) (k := 162) (As := [.int (p1 - 48)]) (st := []) F dX8_takes_176 (m_X8_takesDigit hc34) cv_RX8_171 kl_162 ks_162 ⟨_, _, rfl⟩ rfl rfl rfl (Nat.le_of_ble_eq_true rfl) ⟨Nat.le_of_ble_eq_true rfl, Nat.le_of_ble_eq_true rfl⟩ ?_ rfl rfl
      clear hc34
      replace h := gBo_some h
      obtain ⟨g37, h⟩ := h
      cases h
      exact a_iret (pc := 179) F dX8_takes_179 ⟨_, rfl, narrow_bo g37⟩
    clear hK26
    have h := hR26
    clear hR26
    refine a_icmp_ne (tgt := 171) (pc := 140) F dX8_takes_140 (by decide) (fun q27 => ?_) (fun q27 => ?_)
    · replace h := ite_f q27 h
      clear q27
      exact hJ26 _ (Option.some.inj h).symm
    · replace h := ite_t (Decidable.not_not.mp q27) h
      clear q27
      refine a_aload_n (pc := 143) F dX8_takes_143 0 rfl ?_
      refine a_geti (k := 162) (pc := 144) F dX8_takes_144 fl_RX8_159 kl_162 ks_162 rfl ?_
      refine a_iconst (v := 4) (pc := 147) F dX8_takes_147 (by decide) ?_
      refine a_icmp_ne (tgt := 171) (pc := 148) F dX8_takes_148 (by decide) (fun q28 => ?_) (fun q28 => ?_)
      · replace h := ite_f q28 h
        clear q28
        exact hJ26 _ (Option.some.inj h).symm
      · replace h := ite_t (Decidable.not_not.mp q28) h
        clear q28
        refine a_aload_n (pc := 151) F dX8_takes_151 0 rfl ?_
        refine a_geti (k := 162) (pc := 152) F dX8_takes_152 fl_RX8_156 kl_162 ks_162 rfl ?_
        refine a_bipush (v := 9) (pc := 155) F dX8_takes_155 (by decide) ?_
        refine a_icmp_le (tgt := 171) (pc := 157) F dX8_takes_157 (by decide) (fun q29 => ?_) (fun q29 => ?_)
        · replace h := ite_t q29 h
          clear q29
          exact hJ26 _ (Option.some.inj h).symm
        · replace h := ite_f q29 h
          clear q29
          refine a_aload_n (pc := 160) F dX8_takes_160 0 rfl ?_
          replace h := bnd_some h
          obtain ⟨m31, hc30, h⟩ := h
          refine a_callV (pc := 161) (k := 162) (As := []) (st := []) F dX8_takes_161 (m_X8_endHearing hc30) cv_RX8_168 kl_162 ks_162 ⟨_, _, rfl⟩ rfl rfl rfl (Nat.le_of_ble_eq_true rfl) ⟨Nat.le_of_ble_eq_true rfl, Nat.le_of_ble_eq_true rfl⟩ ?_ rfl rfl
          clear hc30
          refine a_aload_n (pc := 164) F dX8_takes_164 0 rfl ?_
          refine a_iconst (v := 0) (pc := 165) F dX8_takes_165 (by decide) ?_
          refine a_puti (k := 162) (pc := 166) F dX8_takes_166 fp_RX8_159 kl_162 ks_162 rfl ?_
          refine a_nmm fun m32 em32 => ?_
          replace h := nm_at em32 h
          clear em32
          refine a_iconst (v := 1) (pc := 169) F dX8_takes_169 (by decide) ?_
          replace h := hB26 _ (Option.some.inj h).symm
          cases h
          exact a_iret (pc := 170) F dX8_takes_170 ⟨_, rfl, rfl⟩
  clear hK17
  have h := hR17
  clear hR17
  refine a_icmp_ne (tgt := 137) (pc := 89) F dX8_takes_89 (by decide) (fun q18 => ?_) (fun q18 => ?_)
  · replace h := ite_f q18 h
    clear q18
    exact hJ17 _ (Option.some.inj h).symm
  · replace h := ite_t (Decidable.not_not.mp q18) h
    clear q18
    refine a_aload_n (pc := 92) F dX8_takes_92 0 rfl ?_
    refine a_geti (k := 162) (pc := 93) F dX8_takes_93 fl_RX8_159 kl_162 ks_162 rfl ?_
    refine a_iconst (v := 3) (pc := 96) F dX8_takes_96 (by decide) ?_
    refine a_icmp_ne (tgt := 137) (pc := 97) F dX8_takes_97 (by decide) (fun q19 => ?_) (fun q19 => ?_)
    · replace h := ite_f q19 h
      clear q19
      exact hJ17 _ (Option.some.inj h).symm
    · replace h := ite_t (Decidable.not_not.mp q19) h
      clear q19
      refine a_aload_n (pc := 100) F dX8_takes_100 0 rfl ?_
      refine a_geti (k := 162) (pc := 101) F dX8_takes_101 fl_RX8_156 kl_162 ks_162 rfl ?_
      refine a_iconst (v := (-1)) (pc := 104) F dX8_takes_104 (by decide) ?_
      refine a_icmp_eq (tgt := 137) (pc := 105) F dX8_takes_105 (by decide) (fun q20 => ?_) (fun q20 => ?_)
      · replace h := ite_t q20 h
        clear q20
        exact hJ17 _ (Option.some.inj h).symm
      · replace h := ite_f q20 h
        clear q20
        refine a_aload_n (pc := 108) F dX8_takes_108 0 rfl ?_
        refine a_getr (k := 162) (r := 167) (pc := 109) F dX8_takes_109 fl_RX8_22 kl_162 ks_162 rfl ?_
        refine a_iconst (v := 4) (pc := 112) F dX8_takes_112 (by decide) ?_
        refine a_aload_n (pc := 113) F dX8_takes_113 0 rfl ?_
        refine a_geti (k := 162) (pc := 114) F dX8_takes_114 fl_RX8_162 kl_162 ks_162 rfl ?_
        refine a_imul (pc := 117) F dX8_takes_117 ?_
        refine a_iconst (v := 2) (pc := 118) F dX8_takes_118 (by decide) ?_
        refine a_iadd (pc := 119) F dX8_takes_119 ?_
        refine a_aload_n (pc := 120) F dX8_takes_120 0 rfl ?_
        refine a_geti (k := 162) (pc := 121) F dX8_takes_121 fl_RX8_156 kl_162 ks_162 rfl ?_
        replace h := gIn_some h
        obtain ⟨g21, h⟩ := h
        refine a_ias (k := 167) (pc := 124) F dX8_takes_124 kl_167 ks_167 g21 ?_
        refine a_nmm fun m22 em22 => ?_
        replace h := nm_at em22 h
        clear em22
        refine a_aload_n (pc := 125) F dX8_takes_125 0 rfl ?_
        refine a_iconst (v := (-1)) (pc := 126) F dX8_takes_126 (by decide) ?_
        refine a_puti (k := 162) (pc := 127) F dX8_takes_127 fp_RX8_156 kl_162 ks_162 rfl ?_
        refine a_nmm fun m23 em23 => ?_
        replace h := nm_at em23 h
        clear em23
        refine a_aload_n (pc := 130) F dX8_takes_130 0 rfl ?_
        refine a_iconst (v := 4) (pc := 131) F dX8_takes_131 (by decide) ?_
        refine a_puti (k := 162) (pc := 132) F dX8_takes_132 fp_RX8_159 kl_162 ks_162 rfl ?_
        refine a_nmm fun m24 em24 => ?_
        replace h := nm_at em24 h
        clear em24
        refine a_iconst (v := 1) (pc := 135) F dX8_takes_135 (by decide) ?_
        replace h := hB17 _ (Option.some.inj h).symm
        cases h
        exact a_iret (pc := 136) F dX8_takes_136 ⟨_, rfl, rfl⟩
def f_X8_rightUpTo_L17 : (Int32 × Mem) → Option ((Int32 × Mem) ⊕ (Int32 × Mem))
  | (x5, m6) => (if (m6.1 162 3) ≤ x5 then some (.inr (x5, m6)) else gIn x5 60 <| nm (m6.1 165 x5.toNatClampNeg) fun x9 => bnd2 (f_X8_takes x9 m6) fun x11 m12 => (if x11 = 0 then some (.inr (x5, m12)) else nm (x5 + 1) fun x14 => some (.inl (x14, m12))))
def f_X8_rightUpTo (m0 : Mem) : Option (Int32 × Mem) :=
  nm (si m0 162 9 0) fun m1 => nm (si m1 162 10 (-1)) fun m2 => nm (si m2 162 11 0) fun m3 => bnd (lp (f_X8_rightUpTo_L17) 1000000 (0, m3)) (fun (x15, m16) => some (x15, m16))
set_option maxRecDepth 100000 in
set_option maxHeartbeats 4000000 in
theorem m_X8_rightUpTo {m0 : Mem} {rr : Int32} {mm : Mem} (h : f_X8_rightUpTo m0 = some (rr, mm)) : Con yX8_rightUpTo cX8_rightUpTo 2 (some Jvm.ClassFile.FieldType.int) 3 66 (fun G => [.ref (ga G 162)]) m0 (some (.int rr)) mm := by
  refine con_of (by decide) (fun G => Nat.le_of_ble_eq_true rfl) (fun X F => ?_)
  show WA X 0 0 0 [(0, .ref (ga X.G 162))] [] m0 (EQ X (some (.int rr)) mm)
  rw [f_X8_rightUpTo] at h
  refine a_aload_n (pc := 0) F dX8_rightUpTo_0 0 rfl ?_
  refine a_iconst (v := 0) (pc := 1) F dX8_rightUpTo_1 (by decide) ?_
  refine a_puti (k := 162) (pc := 2) F dX8_rightUpTo_2 fp_RX8_162 kl_162 ks_162 rfl ?_
  refine a_nmm fun m1 em1 => ?_
  replace h := nm_at em1 h
  clear em1
  refine a_aload_n (pc := 5) F dX8_rightUpTo_5 0 rfl ?_
  refine a_iconst (v := (-1)) (pc := 6) F dX8_rightUpTo_6 (by decide) ?_
  refine a_puti (k := 162) (pc := 7) F dX8_rightUpTo_7 fp_RX8_156 kl_162 ks_162 rfl ?_
  refine a_nmm fun m2 em2 => ?_
  replace h := nm_at em2 h
  clear em2
  refine a_aload_n (pc := 10) F dX8_rightUpTo_10 0 rfl ?_
  refine a_iconst (v := 0) (pc := 11) F dX8_rightUpTo_11 (by decide) ?_
  refine a_puti (k := 162) (pc := 12) F dX8_rightUpTo_12 fp_RX8_159 kl_162 ks_162 rfl ?_
  refine a_nmm fun m3 em3 => ?_
  replace h := nm_at em3 h
  clear em3
  refine a_iconst (v := 0) (pc := 15) F dX8_rightUpTo_15 (by decide) ?_
  refine a_istore_n (lv' := [(1, .int 0), (0, .ref (ga X.G 162))]) (pc := 16) F dX8_rightUpTo_16 (by decide) rfl ?_
  refine a_lv F [1, 0] rfl ?_
  replace h := bnd_some h
  obtain ⟨⟨x15, m16⟩, hL4, h⟩ := h
  have hE4 : WA X 0 0 44 [(1, .int x15)] [] m16 (EQ X (some (.int rr)) mm) := by
    refine a_iload_n (pc := 44) F dX8_rightUpTo_44 0 rfl ?_
    cases h
    exact a_iret (pc := 45) F dX8_rightUpTo_45 ⟨_, rfl, rfl⟩
  clear h
  refine lp_run (P := fun (s : (Int32 × Mem)) => WA X 0 0 17 [(0, .ref (ga X.G 162)), (1, .int s.1)] [] s.2 (EQ X (some (.int rr)) mm)) ?_ _ _ hL4
  clear hL4
  rintro ⟨x5, m6⟩ xo h hP4 hT4
  show WA X 0 0 17 [(0, .ref (ga X.G 162)), (1, .int x5)] [] m6 (EQ X (some (.int rr)) mm)
  rw [f_X8_rightUpTo_L17] at h
  refine a_iload_n (pc := 17) F dX8_rightUpTo_17 1 rfl ?_
  refine a_aload_n (pc := 18) F dX8_rightUpTo_18 0 rfl ?_
  refine a_geti (k := 162) (pc := 19) F dX8_rightUpTo_19 fl_RX8_153 kl_162 ks_162 rfl ?_
  refine a_icmp_ge (tgt := 44) (pc := 22) F dX8_rightUpTo_22 (by decide) (fun q7 => ?_) (fun q7 => ?_)
  · replace h := ite_t q7 h
    clear q7
    refine a_lv F [1] rfl ?_
    cases hT4 _ (Option.some.inj h).symm
    exact hE4
  · replace h := ite_f q7 h
    clear q7
    refine a_aload_n (pc := 25) F dX8_rightUpTo_25 0 rfl ?_
    refine a_aload_n (pc := 26) F dX8_rightUpTo_26 0 rfl ?_
    refine a_getr (k := 162) (r := 165) (pc := 27) F dX8_rightUpTo_27 fl_RX8_16 kl_162 ks_162 rfl ?_
    refine a_iload_n (pc := 30) F dX8_rightUpTo_30 1 rfl ?_
    replace h := gIn_some h
    obtain ⟨g8, h⟩ := h
    refine a_ial (k := 165) (pc := 31) F dX8_rightUpTo_31 kl_165 ks_165 g8 ?_
    refine a_nmi fun x9 ex9 => ?_
    replace h := nm_at ex9 h
    clear ex9
    replace h := bnd2_some h
    obtain ⟨x11, m12, hc10, h⟩ := h
    refine a_callV (pc := 32) (k := 162) (As := [.int x9]) (st := []) F dX8_rightUpTo_32 (m_X8_takes hc10) cv_RX8_174 kl_162 ks_162 ⟨_, _, rfl⟩ rfl rfl rfl (Nat.le_of_ble_eq_true rfl) ⟨Nat.le_of_ble_eq_true rfl, Nat.le_of_ble_eq_true rfl⟩ ?_ rfl rfl
    clear hc10
    refine a_if_eq (tgt := 44) (pc := 35) F dX8_rightUpTo_35 (by decide) (fun q13 => ?_) (fun q13 => ?_)
    · replace h := ite_t q13 h
      clear q13
      refine a_lv F [1] rfl ?_
      cases hT4 _ (Option.some.inj h).symm
      exact hE4
    · replace h := ite_f q13 h
      clear q13
      obtain ⟨x14, ex14⟩ : ∃ x14 : Int32, x14 = x5 + 1 := ⟨_, rfl⟩
      refine a_iinc (v := x14) (lv' := [(1, .int x14), (0, .ref (ga X.G 162))]) (pc := 38) F dX8_rightUpTo_38 1 rfl (by rw [ex14]; rfl) (by decide) rfl ?_
      replace h := nm_at ex14 h
      clear ex14
      refine a_goto (tgt := 17) (pc := 41) F dX8_rightUpTo_41 (by decide) ?_
      refine a_lv F [1, 0] rfl ?_
      exact hP4 _ (Option.some.inj h).symm
def f_X8_firstError (m0 : Mem) : Option (Int32 × Mem) :=
  nm (si m0 162 5 0) fun m1 => bnd2 (f_X8_rightUpTo m1) fun x3 m4 => some (x3, m4)
set_option maxRecDepth 100000 in
set_option maxHeartbeats 4000000 in
theorem m_X8_firstError {m0 : Mem} {rr : Int32} {mm : Mem} (h : f_X8_firstError m0 = some (rr, mm)) : Con yX8_firstError cX8_firstError 1 (some Jvm.ClassFile.FieldType.int) 4 87 (fun G => [.ref (ga G 162)]) m0 (some (.int rr)) mm := by
  refine con_of (by decide) (fun G => Nat.le_of_ble_eq_true rfl) (fun X F => ?_)
  show WA X 0 0 0 [(0, .ref (ga X.G 162))] [] m0 (EQ X (some (.int rr)) mm)
  rw [f_X8_firstError] at h
  refine a_aload_n (pc := 0) F dX8_firstError_0 0 rfl ?_
  refine a_iconst (v := 0) (pc := 1) F dX8_firstError_1 (by decide) ?_
  refine a_puti (k := 162) (pc := 2) F dX8_firstError_2 fp_RX8_31 kl_162 ks_162 rfl ?_
  refine a_nmm fun m1 em1 => ?_
  replace h := nm_at em1 h
  clear em1
  refine a_aload_n (pc := 5) F dX8_firstError_5 0 rfl ?_
  replace h := bnd2_some h
  obtain ⟨x3, m4, hc2, h⟩ := h
  refine a_callV (pc := 6) (k := 162) (As := []) (st := []) F dX8_firstError_6 (m_X8_rightUpTo hc2) cv_RX8_177 kl_162 ks_162 ⟨_, _, rfl⟩ rfl rfl rfl (Nat.le_of_ble_eq_true rfl) ⟨Nat.le_of_ble_eq_true rfl, Nat.le_of_ble_eq_true rfl⟩ ?_ rfl rfl
  clear hc2
  cases h
  exact a_iret (pc := 9) F dX8_firstError_9 ⟨_, rfl, rfl⟩
def f_X8_addList_L94 : (Int32 × Mem) → Option ((Int32 × Mem) ⊕ Mem)
  | (x22, m23) => (if (4 * (m23.1 162 9)) ≤ x22 then some (.inr m23) else gIn x22 40 <| nm (m23.1 167 x22.toNatClampNeg) fun x26 => gIn (x22 + 1) 40 <| nm (m23.1 167 (x22 + 1).toNatClampNeg) fun x28 => gIn (x22 + 2) 40 <| nm (m23.1 167 (x22 + 2).toNatClampNeg) fun x30 => gIn (x22 + 3) 40 <| nm (m23.1 167 (x22 + 3).toNatClampNeg) fun x32 => bnd2 (f_X8_putHearing x26 x28 x30 x32 m23) fun x34 m35 => nm (x22 + 4) fun x36 => some (.inl (x36, m35)))
def f_X8_addList (m0 : Mem) : Option (Int32 × Mem) :=
  bnd2 (f_X8_rightUpTo m0) fun x2 m3 => bnd ((if x2 = (m3.1 162 3) then (if (m3.1 162 11) = 4 then (if (m3.1 162 10) ≤ 9 then some 0 else some 1) else some 0) else some 0)) (fun (x8 : Int32) => bnd ((if x8 = 0 then some 1 else nm ((m3.1 163 8) + (m3.1 162 9)) fun x11 => (if (x11 + 1) ≤ 30 then some 0 else some 2))) (fun (x13 : Int32) => nm (si m3 162 5 x13) fun m14 => (if (m14.1 162 5) ≤ 0 then bnd (f_X8_save m14) fun m17 => bnd (f_X8_endHearing m17) fun m19 => nm (si m19 162 3 0) fun m20 => bnd (lp (f_X8_addList_L94) 1000000 (0, m20)) (fun m37 => some (m37.1 163 8, m37)) else some (0, m14))))
set_option maxRecDepth 100000 in
set_option maxHeartbeats 4000000 in
theorem m_X8_addList {m0 : Mem} {rr : Int32} {mm : Mem} (h : f_X8_addList m0 = some (rr, mm)) : Con yX8_addList cX8_addList 3 (some Jvm.ClassFile.FieldType.int) 4 87 (fun G => [.ref (ga G 162)]) m0 (some (.int rr)) mm := by
  refine con_of (by decide) (fun G => Nat.le_of_ble_eq_true rfl) (fun X F => ?_)
  show WA X 0 0 0 [(0, .ref (ga X.G 162))] [] m0 (EQ X (some (.int rr)) mm)
  rw [f_X8_addList] at h
  refine a_aload_n (pc := 0) F dX8_addList_0 0 rfl ?_
  replace h := bnd2_some h
  obtain ⟨x2, m3, hc1, h⟩ := h
  refine a_callV (pc := 1) (k := 162) (As := []) (st := []) F dX8_addList_1 (m_X8_rightUpTo hc1) cv_RX8_177 kl_162 ks_162 ⟨_, _, rfl⟩ rfl rfl rfl (Nat.le_of_ble_eq_true rfl) ⟨Nat.le_of_ble_eq_true rfl, Nat.le_of_ble_eq_true rfl⟩ ?_ rfl rfl
  clear hc1
  refine a_aload_n (pc := 4) F dX8_addList_4 0 rfl ?_
  refine a_geti (k := 162) (pc := 5) F dX8_addList_5 fl_RX8_153 kl_162 ks_162 rfl ?_
  replace h := bnd_some h
  obtain ⟨x8, hR4, h⟩ := h
  have hJ4 : WA X 0 0 33 [(0, .ref (ga X.G 162))] [.int x8] m3 (EQ X (some (.int rr)) mm) := by
    refine a_istore_n (lv' := [(1, .int x8), (0, .ref (ga X.G 162))]) (pc := 33) F dX8_addList_33 (by decide) rfl ?_
    refine a_aload_n (pc := 34) F dX8_addList_34 1 rfl ?_
    refine a_iload_n (pc := 35) F dX8_addList_35 0 rfl ?_
    replace h := bnd_some h
    obtain ⟨x13, hR9, h⟩ := h
    have hJ9 : WA X 0 0 67 [(0, .ref (ga X.G 162))] [.int x13, .ref (ga X.G 162)] m3 (EQ X (some (.int rr)) mm) := by
      refine a_puti (k := 162) (pc := 67) F dX8_addList_67 fp_RX8_31 kl_162 ks_162 rfl ?_
      refine a_nmm fun m14 em14 => ?_
      replace h := nm_at em14 h
      clear em14
      refine a_aload_n (pc := 70) F dX8_addList_70 0 rfl ?_
      refine a_geti (k := 162) (pc := 71) F dX8_addList_71 fl_RX8_31 kl_162 ks_162 rfl ?_
      refine a_if_le (tgt := 79) (pc := 74) F dX8_addList_74 (by decide) (fun q15 => ?_) (fun q15 => ?_)
      · replace h := ite_t q15 h
        clear q15
        refine a_aload_n (pc := 79) F dX8_addList_79 0 rfl ?_
        replace h := bnd_some h
        obtain ⟨m17, hc16, h⟩ := h
        refine a_callV (pc := 80) (k := 162) (As := []) (st := []) F dX8_addList_80 (m_X8_save hc16) cv_RX8_71 kl_162 ks_162 ⟨_, _, rfl⟩ rfl rfl rfl (Nat.le_of_ble_eq_true rfl) ⟨Nat.le_of_ble_eq_true rfl, Nat.le_of_ble_eq_true rfl⟩ ?_ rfl rfl
        clear hc16
        refine a_aload_n (pc := 83) F dX8_addList_83 0 rfl ?_
        replace h := bnd_some h
        obtain ⟨m19, hc18, h⟩ := h
        refine a_callV (pc := 84) (k := 162) (As := []) (st := []) F dX8_addList_84 (m_X8_endHearing hc18) cv_RX8_168 kl_162 ks_162 ⟨_, _, rfl⟩ rfl rfl rfl (Nat.le_of_ble_eq_true rfl) ⟨Nat.le_of_ble_eq_true rfl, Nat.le_of_ble_eq_true rfl⟩ ?_ rfl rfl
        clear hc18
        refine a_aload_n (pc := 87) F dX8_addList_87 0 rfl ?_
        refine a_iconst (v := 0) (pc := 88) F dX8_addList_88 (by decide) ?_
        refine a_puti (k := 162) (pc := 89) F dX8_addList_89 fp_RX8_153 kl_162 ks_162 rfl ?_
        refine a_nmm fun m20 em20 => ?_
        replace h := nm_at em20 h
        clear em20
        refine a_iconst (v := 0) (pc := 92) F dX8_addList_92 (by decide) ?_
        refine a_istore_n (lv' := [(2, .int 0), (0, .ref (ga X.G 162))]) (pc := 93) F dX8_addList_93 (by decide) rfl ?_
        refine a_lv F [1, 0] rfl ?_
        replace h := bnd_some h
        obtain ⟨m37, hL21, h⟩ := h
        have hE21 : WA X 0 0 145 [(0, .ref (ga X.G 162))] [] m37 (EQ X (some (.int rr)) mm) := by
          refine a_aload_n (pc := 145) F dX8_addList_145 0 rfl ?_
          refine a_getr (k := 162) (r := 163) (pc := 146) F dX8_addList_146 fl_RX8_7 kl_162 ks_162 rfl ?_
          refine a_bipush (v := 8) (pc := 149) F dX8_addList_149 (by decide) ?_
          refine a_ialc (k := 163) (pc := 151) F dX8_addList_151 kl_163 ks_163 rfl rfl ?_
          cases h
          exact a_iret (pc := 152) F dX8_addList_152 ⟨_, rfl, rfl⟩
        clear h
        refine lp_run (P := fun (s : (Int32 × Mem)) => WA X 0 0 94 [(0, .ref (ga X.G 162)), (2, .int s.1)] [] s.2 (EQ X (some (.int rr)) mm)) ?_ _ _ hL21
        clear hL21
        rintro ⟨x22, m23⟩ xo h hP21 hT21
        show WA X 0 0 94 [(0, .ref (ga X.G 162)), (2, .int x22)] [] m23 (EQ X (some (.int rr)) mm)
        rw [f_X8_addList_L94] at h
        refine a_iload_n (pc := 94) F dX8_addList_94 1 rfl ?_
        refine a_iconst (v := 4) (pc := 95) F dX8_addList_95 (by decide) ?_
        refine a_aload_n (pc := 96) F dX8_addList_96 0 rfl ?_
        refine a_geti (k := 162) (pc := 97) F dX8_addList_97 fl_RX8_162 kl_162 ks_162 rfl ?_
        refine a_imul (pc := 100) F dX8_addList_100 ?_
        refine a_icmp_ge (tgt := 145) (pc := 101) F dX8_addList_101 (by decide) (fun q24 => ?_) (fun q24 => ?_)
        · replace h := ite_t q24 h
          clear q24
          refine a_lv F [0] rfl ?_
          cases hT21 _ (Option.some.inj h).symm
          exact hE21
        · replace h := ite_f q24 h
          clear q24
          refine a_aload_n (pc := 104) F dX8_addList_104 0 rfl ?_
          refine a_aload_n (pc := 105) F dX8_addList_105 0 rfl ?_
          refine a_getr (k := 162) (r := 167) (pc := 106) F dX8_addList_106 fl_RX8_22 kl_162 ks_162 rfl ?_
          refine a_iload_n (pc := 109) F dX8_addList_109 1 rfl ?_
          replace h := gIn_some h
          obtain ⟨g25, h⟩ := h
          refine a_ial (k := 167) (pc := 110) F dX8_addList_110 kl_167 ks_167 g25 ?_
          refine a_nmi fun x26 ex26 => ?_
          replace h := nm_at ex26 h
          clear ex26
          refine a_aload_n (pc := 111) F dX8_addList_111 0 rfl ?_
          refine a_getr (k := 162) (r := 167) (pc := 112) F dX8_addList_112 fl_RX8_22 kl_162 ks_162 rfl ?_
          refine a_iload_n (pc := 115) F dX8_addList_115 1 rfl ?_
          refine a_iconst (v := 1) (pc := 116) F dX8_addList_116 (by decide) ?_
          refine a_iadd (pc := 117) F dX8_addList_117 ?_
          replace h := gIn_some h
          obtain ⟨g27, h⟩ := h
          refine a_ial (k := 167) (pc := 118) F dX8_addList_118 kl_167 ks_167 g27 ?_
          refine a_nmi fun x28 ex28 => ?_
          replace h := nm_at ex28 h
          clear ex28
          refine a_aload_n (pc := 119) F dX8_addList_119 0 rfl ?_
          refine a_getr (k := 162) (r := 167) (pc := 120) F dX8_addList_120 fl_RX8_22 kl_162 ks_162 rfl ?_
          refine a_iload_n (pc := 123) F dX8_addList_123 1 rfl ?_
          refine a_iconst (v := 2) (pc := 124) F dX8_addList_124 (by decide) ?_
          refine a_iadd (pc := 125) F dX8_addList_125 ?_
          replace h := gIn_some h
          obtain ⟨g29, h⟩ := h
          refine a_ial (k := 167) (pc := 126) F dX8_addList_126 kl_167 ks_167 g29 ?_
          refine a_nmi fun x30 ex30 => ?_
          replace h := nm_at ex30 h
          clear ex30
          refine a_aload_n (pc := 127) F dX8_addList_127 0 rfl ?_
          refine a_getr (k := 162) (r := 167) (pc := 128) F dX8_addList_128 fl_RX8_22 kl_162 ks_162 rfl ?_
          refine a_iload_n (pc := 131) F dX8_addList_131 1 rfl ?_
          refine a_iconst (v := 3) (pc := 132) F dX8_addList_132 (by decide) ?_
          refine a_iadd (pc := 133) F dX8_addList_133 ?_
          replace h := gIn_some h
          obtain ⟨g31, h⟩ := h
          refine a_ial (k := 167) (pc := 134) F dX8_addList_134 kl_167 ks_167 g31 ?_
          refine a_nmi fun x32 ex32 => ?_
          replace h := nm_at ex32 h
          clear ex32
          replace h := bnd2_some h
          obtain ⟨x34, m35, hc33, h⟩ := h
          refine a_callV (pc := 135) (k := 162) (As := [.int x26, .int x28, .int x30, .int x32]) (st := []) F dX8_addList_135 (m_X8_putHearing hc33) cv_RX8_78 kl_162 ks_162 ⟨_, _, rfl⟩ rfl rfl rfl (Nat.le_of_ble_eq_true rfl) ⟨Nat.le_of_ble_eq_true rfl, Nat.le_of_ble_eq_true rfl⟩ ?_ rfl rfl
          clear hc33
          refine a_pop (pc := 138) F dX8_addList_138 rfl ?_
          obtain ⟨x36, ex36⟩ : ∃ x36 : Int32, x36 = x22 + 4 := ⟨_, rfl⟩
          refine a_iinc (v := x36) (lv' := [(2, .int x36), (0, .ref (ga X.G 162))]) (pc := 139) F dX8_addList_139 1 rfl (by rw [ex36]; rfl) (by decide) rfl ?_
          replace h := nm_at ex36 h
          clear ex36
          refine a_goto (tgt := 94) (pc := 142) F dX8_addList_142 (by decide) ?_
          refine a_lv F [1, 0] rfl ?_
          exact hP21 _ (Option.some.inj h).symm
      · replace h := ite_f q15 h
        clear q15
        refine a_iconst (v := 0) (pc := 77) F dX8_addList_77 (by decide) ?_
        cases h
        exact a_iret (pc := 78) F dX8_addList_78 ⟨_, rfl, rfl⟩
    clear h
    have h := hR9
    clear hR9
    refine a_if_ne (tgt := 43) (pc := 36) F dX8_addList_36 (by decide) (fun q10 => ?_) (fun q10 => ?_)
    · replace h := ite_f q10 h
      clear q10
      refine a_aload_n (pc := 43) F dX8_addList_43 1 rfl ?_
      refine a_getr (k := 162) (r := 163) (pc := 44) F dX8_addList_44 fl_RX8_7 kl_162 ks_162 rfl ?_
      refine a_bipush (v := 8) (pc := 47) F dX8_addList_47 (by decide) ?_
      refine a_ialc (k := 163) (pc := 49) F dX8_addList_49 kl_163 ks_163 rfl rfl ?_
      refine a_aload_n (pc := 50) F dX8_addList_50 1 rfl ?_
      refine a_geti (k := 162) (pc := 51) F dX8_addList_51 fl_RX8_162 kl_162 ks_162 rfl ?_
      refine a_iadd (pc := 54) F dX8_addList_54 ?_
      refine a_nmi fun x11 ex11 => ?_
      replace h := nm_at ex11 h
      clear ex11
      refine a_iconst (v := 1) (pc := 55) F dX8_addList_55 (by decide) ?_
      refine a_iadd (pc := 56) F dX8_addList_56 ?_
      refine a_bipush (v := 30) (pc := 57) F dX8_addList_57 (by decide) ?_
      refine a_icmp_le (tgt := 66) (pc := 59) F dX8_addList_59 (by decide) (fun q12 => ?_) (fun q12 => ?_)
      · replace h := ite_t q12 h
        clear q12
        refine a_iconst (v := 0) (pc := 66) F dX8_addList_66 (by decide) ?_
        refine a_lv F [1] rfl ?_
        cases h
        exact hJ9
      · replace h := ite_f q12 h
        clear q12
        refine a_iconst (v := 2) (pc := 62) F dX8_addList_62 (by decide) ?_
        refine a_goto (tgt := 67) (pc := 63) F dX8_addList_63 (by decide) ?_
        refine a_lv F [1] rfl ?_
        cases h
        exact hJ9
    · replace h := ite_t (Decidable.not_not.mp q10) h
      clear q10
      refine a_iconst (v := 1) (pc := 39) F dX8_addList_39 (by decide) ?_
      refine a_goto (tgt := 67) (pc := 40) F dX8_addList_40 (by decide) ?_
      refine a_lv F [1] rfl ?_
      cases h
      exact hJ9
  clear h
  have h := hR4
  clear hR4
  refine a_icmp_ne (tgt := 32) (pc := 8) F dX8_addList_8 (by decide) (fun q5 => ?_) (fun q5 => ?_)
  · replace h := ite_f q5 h
    clear q5
    refine a_iconst (v := 0) (pc := 32) F dX8_addList_32 (by decide) ?_
    cases h
    exact hJ4
  · replace h := ite_t (Decidable.not_not.mp q5) h
    clear q5
    refine a_aload_n (pc := 11) F dX8_addList_11 0 rfl ?_
    refine a_geti (k := 162) (pc := 12) F dX8_addList_12 fl_RX8_159 kl_162 ks_162 rfl ?_
    refine a_iconst (v := 4) (pc := 15) F dX8_addList_15 (by decide) ?_
    refine a_icmp_ne (tgt := 32) (pc := 16) F dX8_addList_16 (by decide) (fun q6 => ?_) (fun q6 => ?_)
    · replace h := ite_f q6 h
      clear q6
      refine a_iconst (v := 0) (pc := 32) F dX8_addList_32 (by decide) ?_
      cases h
      exact hJ4
    · replace h := ite_t (Decidable.not_not.mp q6) h
      clear q6
      refine a_aload_n (pc := 19) F dX8_addList_19 0 rfl ?_
      refine a_geti (k := 162) (pc := 20) F dX8_addList_20 fl_RX8_156 kl_162 ks_162 rfl ?_
      refine a_bipush (v := 9) (pc := 23) F dX8_addList_23 (by decide) ?_
      refine a_icmp_le (tgt := 32) (pc := 25) F dX8_addList_25 (by decide) (fun q7 => ?_) (fun q7 => ?_)
      · replace h := ite_t q7 h
        clear q7
        refine a_iconst (v := 0) (pc := 32) F dX8_addList_32 (by decide) ?_
        cases h
        exact hJ4
      · replace h := ite_f q7 h
        clear q7
        refine a_iconst (v := 1) (pc := 28) F dX8_addList_28 (by decide) ?_
        refine a_goto (tgt := 33) (pc := 29) F dX8_addList_29 (by decide) ?_
        cases h
        exact hJ4
def f_X8_undo_L37 : (Int32 × Mem) → Option ((Int32 × Mem) ⊕ Mem)
  | (x8, m9) => (if 373 ≤ x8 then some (.inr m9) else nm ((373 * (m9.1 162 1)) + x8) fun x11 => gIn x11 2238 <| nm (m9.1 164 x11.toNatClampNeg) fun x13 => gIn x8 373 <| nm (si m9 163 x8.toNatClampNeg x13) fun m15 => nm (x8 + 1) fun x16 => some (.inl (x16, m15)))
def f_X8_undo (m0 : Mem) : Option (Int32 × Mem) :=
  bnd ((if (m0.1 162 1) ≤ 0 then some 1 else some 0)) (fun (x3 : Int32) => nm (si m0 162 5 x3) fun m4 => (if (m4.1 162 5) ≤ 0 then nm (si m4 162 1 ((m4.1 162 1) - 1)) fun m6 => bnd (lp (f_X8_undo_L37) 1000000 (0, m6)) (fun m17 => some (m17.1 162 1, m17)) else some (0, m4)))
set_option maxRecDepth 100000 in
set_option maxHeartbeats 4000000 in
theorem m_X8_undo {m0 : Mem} {rr : Int32} {mm : Mem} (h : f_X8_undo m0 = some (rr, mm)) : Con yX8_undo cX8_undo 2 (some Jvm.ClassFile.FieldType.int) 0 0 (fun G => [.ref (ga G 162)]) m0 (some (.int rr)) mm := by
  refine con_of (by decide) (fun G => Nat.le_of_ble_eq_true rfl) (fun X F => ?_)
  show WA X 0 0 0 [(0, .ref (ga X.G 162))] [] m0 (EQ X (some (.int rr)) mm)
  rw [f_X8_undo] at h
  refine a_aload_n (pc := 0) F dX8_undo_0 0 rfl ?_
  refine a_aload_n (pc := 1) F dX8_undo_1 0 rfl ?_
  refine a_geti (k := 162) (pc := 2) F dX8_undo_2 fl_RX8_35 kl_162 ks_162 rfl ?_
  replace h := bnd_some h
  obtain ⟨x3, hR1, h⟩ := h
  have hJ1 : WA X 0 0 13 [(0, .ref (ga X.G 162))] [.int x3, .ref (ga X.G 162)] m0 (EQ X (some (.int rr)) mm) := by
    refine a_puti (k := 162) (pc := 13) F dX8_undo_13 fp_RX8_31 kl_162 ks_162 rfl ?_
    refine a_nmm fun m4 em4 => ?_
    replace h := nm_at em4 h
    clear em4
    refine a_aload_n (pc := 16) F dX8_undo_16 0 rfl ?_
    refine a_geti (k := 162) (pc := 17) F dX8_undo_17 fl_RX8_31 kl_162 ks_162 rfl ?_
    refine a_if_le (tgt := 25) (pc := 20) F dX8_undo_20 (by decide) (fun q5 => ?_) (fun q5 => ?_)
    · replace h := ite_t q5 h
      clear q5
      refine a_aload_n (pc := 25) F dX8_undo_25 0 rfl ?_
      refine a_dup (pc := 26) F dX8_undo_26 rfl ?_
      refine a_geti (k := 162) (pc := 27) F dX8_undo_27 fl_RX8_35 kl_162 ks_162 rfl ?_
      refine a_iconst (v := 1) (pc := 30) F dX8_undo_30 (by decide) ?_
      refine a_isub (pc := 31) F dX8_undo_31 ?_
      refine a_puti (k := 162) (pc := 32) F dX8_undo_32 fp_RX8_35 kl_162 ks_162 rfl ?_
      refine a_nmm fun m6 em6 => ?_
      replace h := nm_at em6 h
      clear em6
      refine a_iconst (v := 0) (pc := 35) F dX8_undo_35 (by decide) ?_
      refine a_istore_n (lv' := [(1, .int 0), (0, .ref (ga X.G 162))]) (pc := 36) F dX8_undo_36 (by decide) rfl ?_
      refine a_lv F [1, 0] rfl ?_
      replace h := bnd_some h
      obtain ⟨m17, hL7, h⟩ := h
      have hE7 : WA X 0 0 71 [(0, .ref (ga X.G 162))] [] m17 (EQ X (some (.int rr)) mm) := by
        refine a_aload_n (pc := 71) F dX8_undo_71 0 rfl ?_
        refine a_geti (k := 162) (pc := 72) F dX8_undo_72 fl_RX8_35 kl_162 ks_162 rfl ?_
        cases h
        exact a_iret (pc := 75) F dX8_undo_75 ⟨_, rfl, rfl⟩
      clear h
      refine lp_run (P := fun (s : (Int32 × Mem)) => WA X 0 0 37 [(0, .ref (ga X.G 162)), (1, .int s.1)] [] s.2 (EQ X (some (.int rr)) mm)) ?_ _ _ hL7
      clear hL7
      rintro ⟨x8, m9⟩ xo h hP7 hT7
      show WA X 0 0 37 [(0, .ref (ga X.G 162)), (1, .int x8)] [] m9 (EQ X (some (.int rr)) mm)
      rw [f_X8_undo_L37] at h
      refine a_iload_n (pc := 37) F dX8_undo_37 1 rfl ?_
      refine a_sipush (v := 373) (pc := 38) F dX8_undo_38 (by decide) ?_
      refine a_icmp_ge (tgt := 71) (pc := 41) F dX8_undo_41 (by decide) (fun q10 => ?_) (fun q10 => ?_)
      · replace h := ite_t q10 h
        clear q10
        refine a_lv F [0] rfl ?_
        cases hT7 _ (Option.some.inj h).symm
        exact hE7
      · replace h := ite_f q10 h
        clear q10
        refine a_aload_n (pc := 44) F dX8_undo_44 0 rfl ?_
        refine a_getr (k := 162) (r := 163) (pc := 45) F dX8_undo_45 fl_RX8_7 kl_162 ks_162 rfl ?_
        refine a_iload_n (pc := 48) F dX8_undo_48 1 rfl ?_
        refine a_aload_n (pc := 49) F dX8_undo_49 0 rfl ?_
        refine a_getr (k := 162) (r := 164) (pc := 50) F dX8_undo_50 fl_RX8_13 kl_162 ks_162 rfl ?_
        refine a_sipush (v := 373) (pc := 53) F dX8_undo_53 (by decide) ?_
        refine a_aload_n (pc := 56) F dX8_undo_56 0 rfl ?_
        refine a_geti (k := 162) (pc := 57) F dX8_undo_57 fl_RX8_35 kl_162 ks_162 rfl ?_
        refine a_imul (pc := 60) F dX8_undo_60 ?_
        refine a_iload_n (pc := 61) F dX8_undo_61 1 rfl ?_
        refine a_iadd (pc := 62) F dX8_undo_62 ?_
        refine a_nmi fun x11 ex11 => ?_
        replace h := nm_at ex11 h
        clear ex11
        replace h := gIn_some h
        obtain ⟨g12, h⟩ := h
        refine a_ial (k := 164) (pc := 63) F dX8_undo_63 kl_164 ks_164 g12 ?_
        refine a_nmi fun x13 ex13 => ?_
        replace h := nm_at ex13 h
        clear ex13
        replace h := gIn_some h
        obtain ⟨g14, h⟩ := h
        refine a_ias (k := 163) (pc := 64) F dX8_undo_64 kl_163 ks_163 g14 ?_
        refine a_nmm fun m15 em15 => ?_
        replace h := nm_at em15 h
        clear em15
        obtain ⟨x16, ex16⟩ : ∃ x16 : Int32, x16 = x8 + 1 := ⟨_, rfl⟩
        refine a_iinc (v := x16) (lv' := [(1, .int x16), (0, .ref (ga X.G 162))]) (pc := 65) F dX8_undo_65 1 rfl (by rw [ex16]; rfl) (by decide) rfl ?_
        replace h := nm_at ex16 h
        clear ex16
        refine a_goto (tgt := 37) (pc := 68) F dX8_undo_68 (by decide) ?_
        refine a_lv F [1, 0] rfl ?_
        exact hP7 _ (Option.some.inj h).symm
    · replace h := ite_f q5 h
      clear q5
      refine a_iconst (v := 0) (pc := 23) F dX8_undo_23 (by decide) ?_
      cases h
      exact a_iret (pc := 24) F dX8_undo_24 ⟨_, rfl, rfl⟩
  clear h
  have h := hR1
  clear hR1
  refine a_if_le (tgt := 12) (pc := 5) F dX8_undo_5 (by decide) (fun q2 => ?_) (fun q2 => ?_)
  · replace h := ite_t q2 h
    clear q2
    refine a_iconst (v := 1) (pc := 12) F dX8_undo_12 (by decide) ?_
    cases h
    exact hJ1
  · replace h := ite_f q2 h
    clear q2
    refine a_iconst (v := 0) (pc := 8) F dX8_undo_8 (by decide) ?_
    refine a_goto (tgt := 13) (pc := 9) F dX8_undo_9 (by decide) ?_
    cases h
    exact hJ1
def f_X8_listedWith_L4 (p1 : Int32) (m0 : Mem) : (Int32 × Int32) → Option ((Int32 × Int32) ⊕ Int32)
  | (x2, x3) => (if (m0.1 163 8) ≤ x3 then some (.inr x2) else bnd (f_X8_isListed x3 m0) fun x6 => (if x6 = 0 then nm (x3 + 1) fun x8 => some (.inl (x2 + 0, x8)) else bnd (f_X8_isIn p1 x3 m0) fun x10 => (if x10 = 0 then nm (x3 + 1) fun x12 => some (.inl (x2 + 0, x12)) else nm (x3 + 1) fun x13 => some (.inl (x2 + 1, x13)))))
def f_X8_listedWith (p1 : Int32) (m0 : Mem) : Option Int32 :=
  bnd (lp (f_X8_listedWith_L4 p1 m0) 1000000 (0, 0)) (fun x14 => some x14)
set_option maxRecDepth 100000 in
set_option maxHeartbeats 4000000 in
theorem m_X8_listedWith {p1 : Int32} {m0 : Mem} {rr : Int32} (h : f_X8_listedWith p1 m0 = some rr) : Con yX8_listedWith cX8_listedWith 4 (some Jvm.ClassFile.FieldType.int) 2 46 (fun G => [.ref (ga G 162), .int p1]) m0 (some (.int rr)) m0 := by
  refine con_of (by decide) (fun G => Nat.le_of_ble_eq_true rfl) (fun X F => ?_)
  show WA X 0 0 0 [(0, .ref (ga X.G 162)), (1, .int p1)] [] m0 (EQ X (some (.int rr)) m0)
  rw [f_X8_listedWith] at h
  refine a_iconst (v := 0) (pc := 0) F dX8_listedWith_0 (by decide) ?_
  refine a_istore_n (lv' := [(2, .int 0), (0, .ref (ga X.G 162)), (1, .int p1)]) (pc := 1) F dX8_listedWith_1 (by decide) rfl ?_
  refine a_iconst (v := 0) (pc := 2) F dX8_listedWith_2 (by decide) ?_
  refine a_istore_n (lv' := [(3, .int 0), (2, .int 0), (0, .ref (ga X.G 162)), (1, .int p1)]) (pc := 3) F dX8_listedWith_3 (by decide) rfl ?_
  refine a_lv F [2, 3, 1, 0] rfl ?_
  replace h := bnd_some h
  obtain ⟨x14, hL1, h⟩ := h
  have hE1 : WA X 0 0 46 [(2, .int x14)] [] m0 (EQ X (some (.int rr)) m0) := by
    refine a_iload_n (pc := 46) F dX8_listedWith_46 0 rfl ?_
    cases h
    exact a_iret (pc := 47) F dX8_listedWith_47 ⟨_, rfl, rfl⟩
  clear h
  refine lp_run (P := fun (s : (Int32 × Int32)) => WA X 0 0 4 [(0, .ref (ga X.G 162)), (1, .int p1), (2, .int s.1), (3, .int s.2)] [] m0 (EQ X (some (.int rr)) m0)) ?_ _ _ hL1
  clear hL1
  rintro ⟨x2, x3⟩ xo h hP1 hT1
  show WA X 0 0 4 [(0, .ref (ga X.G 162)), (1, .int p1), (2, .int x2), (3, .int x3)] [] m0 (EQ X (some (.int rr)) m0)
  rw [f_X8_listedWith_L4] at h
  refine a_iload_n (pc := 4) F dX8_listedWith_4 3 rfl ?_
  refine a_aload_n (pc := 5) F dX8_listedWith_5 0 rfl ?_
  refine a_getr (k := 162) (r := 163) (pc := 6) F dX8_listedWith_6 fl_RX8_7 kl_162 ks_162 rfl ?_
  refine a_bipush (v := 8) (pc := 9) F dX8_listedWith_9 (by decide) ?_
  refine a_ialc (k := 163) (pc := 11) F dX8_listedWith_11 kl_163 ks_163 rfl rfl ?_
  refine a_icmp_ge (tgt := 46) (pc := 12) F dX8_listedWith_12 (by decide) (fun q4 => ?_) (fun q4 => ?_)
  · replace h := ite_t q4 h
    clear q4
    refine a_lv F [2] rfl ?_
    cases hT1 _ (Option.some.inj h).symm
    exact hE1
  · replace h := ite_f q4 h
    clear q4
    refine a_iload_n (pc := 15) F dX8_listedWith_15 2 rfl ?_
    refine a_aload_n (pc := 16) F dX8_listedWith_16 0 rfl ?_
    refine a_iload_n (pc := 17) F dX8_listedWith_17 3 rfl ?_
    replace h := bnd_some h
    obtain ⟨x6, hc5, h⟩ := h
    refine a_callV (pc := 18) (k := 162) (As := [.int x3]) (st := [.int x2]) F dX8_listedWith_18 (m_X8_isListed hc5) cv_RX8_50 kl_162 ks_162 ⟨_, _, rfl⟩ rfl rfl rfl (Nat.le_of_ble_eq_true rfl) ⟨Nat.le_of_ble_eq_true rfl, Nat.le_of_ble_eq_true rfl⟩ ?_ rfl rfl
    clear hc5
    refine a_if_eq (tgt := 37) (pc := 21) F dX8_listedWith_21 (by decide) (fun q7 => ?_) (fun q7 => ?_)
    · replace h := ite_t q7 h
      clear q7
      refine a_iconst (v := 0) (pc := 37) F dX8_listedWith_37 (by decide) ?_
      refine a_iadd (pc := 38) F dX8_listedWith_38 ?_
      refine a_istore_n (lv' := [(2, .int (x2 + 0)), (0, .ref (ga X.G 162)), (1, .int p1), (3, .int x3)]) (pc := 39) F dX8_listedWith_39 (by decide) rfl ?_
      obtain ⟨x8, ex8⟩ : ∃ x8 : Int32, x8 = x3 + 1 := ⟨_, rfl⟩
      refine a_iinc (v := x8) (lv' := [(3, .int x8), (2, .int (x2 + 0)), (0, .ref (ga X.G 162)), (1, .int p1)]) (pc := 40) F dX8_listedWith_40 3 rfl (by rw [ex8]; rfl) (by decide) rfl ?_
      replace h := nm_at ex8 h
      clear ex8
      refine a_goto (tgt := 4) (pc := 43) F dX8_listedWith_43 (by decide) ?_
      refine a_lv F [2, 3, 1, 0] rfl ?_
      exact hP1 _ (Option.some.inj h).symm
    · replace h := ite_f q7 h
      clear q7
      refine a_aload_n (pc := 24) F dX8_listedWith_24 0 rfl ?_
      refine a_iload_n (pc := 25) F dX8_listedWith_25 1 rfl ?_
      refine a_iload_n (pc := 26) F dX8_listedWith_26 3 rfl ?_
      replace h := bnd_some h
      obtain ⟨x10, hc9, h⟩ := h
      refine a_callV (pc := 27) (k := 162) (As := [.int p1, .int x3]) (st := [.int x2]) F dX8_listedWith_27 (m_X8_isIn hc9) cv_RX8_54 kl_162 ks_162 ⟨_, _, rfl⟩ rfl rfl rfl (Nat.le_of_ble_eq_true rfl) ⟨Nat.le_of_ble_eq_true rfl, Nat.le_of_ble_eq_true rfl⟩ ?_ rfl rfl
      clear hc9
      refine a_if_eq (tgt := 37) (pc := 30) F dX8_listedWith_30 (by decide) (fun q11 => ?_) (fun q11 => ?_)
      · replace h := ite_t q11 h
        clear q11
        refine a_iconst (v := 0) (pc := 37) F dX8_listedWith_37 (by decide) ?_
        refine a_iadd (pc := 38) F dX8_listedWith_38 ?_
        refine a_istore_n (lv' := [(2, .int (x2 + 0)), (0, .ref (ga X.G 162)), (1, .int p1), (3, .int x3)]) (pc := 39) F dX8_listedWith_39 (by decide) rfl ?_
        obtain ⟨x12, ex12⟩ : ∃ x12 : Int32, x12 = x3 + 1 := ⟨_, rfl⟩
        refine a_iinc (v := x12) (lv' := [(3, .int x12), (2, .int (x2 + 0)), (0, .ref (ga X.G 162)), (1, .int p1)]) (pc := 40) F dX8_listedWith_40 3 rfl (by rw [ex12]; rfl) (by decide) rfl ?_
        replace h := nm_at ex12 h
        clear ex12
        refine a_goto (tgt := 4) (pc := 43) F dX8_listedWith_43 (by decide) ?_
        refine a_lv F [2, 3, 1, 0] rfl ?_
        exact hP1 _ (Option.some.inj h).symm
      · replace h := ite_f q11 h
        clear q11
        refine a_iconst (v := 1) (pc := 33) F dX8_listedWith_33 (by decide) ?_
        refine a_goto (tgt := 38) (pc := 34) F dX8_listedWith_34 (by decide) ?_
        refine a_iadd (pc := 38) F dX8_listedWith_38 ?_
        refine a_istore_n (lv' := [(2, .int (x2 + 1)), (0, .ref (ga X.G 162)), (1, .int p1), (3, .int x3)]) (pc := 39) F dX8_listedWith_39 (by decide) rfl ?_
        obtain ⟨x13, ex13⟩ : ∃ x13 : Int32, x13 = x3 + 1 := ⟨_, rfl⟩
        refine a_iinc (v := x13) (lv' := [(3, .int x13), (2, .int (x2 + 1)), (0, .ref (ga X.G 162)), (1, .int p1)]) (pc := 40) F dX8_listedWith_40 3 rfl (by rw [ex13]; rfl) (by decide) rfl ?_
        replace h := nm_at ex13 h
        clear ex13
        refine a_goto (tgt := 4) (pc := 43) F dX8_listedWith_43 (by decide) ?_
        refine a_lv F [2, 3, 1, 0] rfl ?_
        exact hP1 _ (Option.some.inj h).symm
def f_X8_personNow (p1 : Int32) (p2 : Int32) (m0 : Mem) : Option Int32 :=
  (if p2 = 0 then gIn (13 + p1) 373 <| nm (m0.1 163 (13 + p1).toNatClampNeg) fun x3 => some x3 else (if p2 = 1 then gIn (23 + p1) 373 <| nm (m0.1 163 (23 + p1).toNatClampNeg) fun x6 => some x6 else (if p2 = 2 then gIn (33 + p1) 373 <| nm (m0.1 163 (33 + p1).toNatClampNeg) fun x9 => some x9 else (if p2 = 3 then gIn (43 + p1) 373 <| nm (m0.1 163 (43 + p1).toNatClampNeg) fun x12 => some x12 else (if p2 = 4 then gIn (53 + p1) 373 <| nm (m0.1 163 (53 + p1).toNatClampNeg) fun x15 => some x15 else (if p2 = 5 then bnd (f_X8_listedWith p1 m0) fun x18 => some x18 else (if p2 = 6 then bnd (f_X8_worksIn p1 m0) fun x21 => some x21 else gIn (63 + p1) 373 <| nm (m0.1 163 (63 + p1).toNatClampNeg) fun x23 => some x23)))))))
set_option maxRecDepth 100000 in
set_option maxHeartbeats 4000000 in
theorem m_X8_personNow {p1 : Int32} {p2 : Int32} {m0 : Mem} {rr : Int32} (h : f_X8_personNow p1 p2 m0 = some rr) : Con yX8_personNow cX8_personNow 3 (some Jvm.ClassFile.FieldType.int) 3 69 (fun G => [.ref (ga G 162), .int p1, .int p2]) m0 (some (.int rr)) m0 := by
  refine con_of (by decide) (fun G => Nat.le_of_ble_eq_true rfl) (fun X F => ?_)
  show WA X 0 0 0 [(0, .ref (ga X.G 162)), (1, .int p1), (2, .int p2)] [] m0 (EQ X (some (.int rr)) m0)
  rw [f_X8_personNow] at h
  refine a_iload_n (pc := 0) F dX8_personNow_0 2 rfl ?_
  by_cases q1 : p2 = 0
  · replace h := ite_t q1 h
    refine a_swin (pc := 1) (tgt := 44) F dX8_personNow_1 (by rw [q1]; decide) (by rw [q1]; decide) (by rw [q1]; rfl) (by decide) ?_
    clear q1
    refine a_aload_n (pc := 44) F dX8_personNow_44 0 rfl ?_
    refine a_getr (k := 162) (r := 163) (pc := 45) F dX8_personNow_45 fl_RX8_7 kl_162 ks_162 rfl ?_
    refine a_bipush (v := 13) (pc := 48) F dX8_personNow_48 (by decide) ?_
    refine a_iload_n (pc := 50) F dX8_personNow_50 1 rfl ?_
    refine a_iadd (pc := 51) F dX8_personNow_51 ?_
    replace h := gIn_some h
    obtain ⟨g2, h⟩ := h
    refine a_ial (k := 163) (pc := 52) F dX8_personNow_52 kl_163 ks_163 g2 ?_
    refine a_nmi fun x3 ex3 => ?_
    replace h := nm_at ex3 h
    clear ex3
    cases h
    exact a_iret (pc := 53) F dX8_personNow_53 ⟨_, rfl, rfl⟩
  replace h := ite_f q1 h
  by_cases q4 : p2 = 1
  · replace h := ite_t q4 h
    refine a_swin (pc := 1) (tgt := 54) F dX8_personNow_1 (by rw [q4]; decide) (by rw [q4]; decide) (by rw [q4]; rfl) (by decide) ?_
    clear q4
    refine a_aload_n (pc := 54) F dX8_personNow_54 0 rfl ?_
    refine a_getr (k := 162) (r := 163) (pc := 55) F dX8_personNow_55 fl_RX8_7 kl_162 ks_162 rfl ?_
    refine a_bipush (v := 23) (pc := 58) F dX8_personNow_58 (by decide) ?_
    refine a_iload_n (pc := 60) F dX8_personNow_60 1 rfl ?_
    refine a_iadd (pc := 61) F dX8_personNow_61 ?_
    replace h := gIn_some h
    obtain ⟨g5, h⟩ := h
    refine a_ial (k := 163) (pc := 62) F dX8_personNow_62 kl_163 ks_163 g5 ?_
    refine a_nmi fun x6 ex6 => ?_
    replace h := nm_at ex6 h
    clear ex6
    cases h
    exact a_iret (pc := 63) F dX8_personNow_63 ⟨_, rfl, rfl⟩
  replace h := ite_f q4 h
  by_cases q7 : p2 = 2
  · replace h := ite_t q7 h
    refine a_swin (pc := 1) (tgt := 64) F dX8_personNow_1 (by rw [q7]; decide) (by rw [q7]; decide) (by rw [q7]; rfl) (by decide) ?_
    clear q7
    refine a_aload_n (pc := 64) F dX8_personNow_64 0 rfl ?_
    refine a_getr (k := 162) (r := 163) (pc := 65) F dX8_personNow_65 fl_RX8_7 kl_162 ks_162 rfl ?_
    refine a_bipush (v := 33) (pc := 68) F dX8_personNow_68 (by decide) ?_
    refine a_iload_n (pc := 70) F dX8_personNow_70 1 rfl ?_
    refine a_iadd (pc := 71) F dX8_personNow_71 ?_
    replace h := gIn_some h
    obtain ⟨g8, h⟩ := h
    refine a_ial (k := 163) (pc := 72) F dX8_personNow_72 kl_163 ks_163 g8 ?_
    refine a_nmi fun x9 ex9 => ?_
    replace h := nm_at ex9 h
    clear ex9
    cases h
    exact a_iret (pc := 73) F dX8_personNow_73 ⟨_, rfl, rfl⟩
  replace h := ite_f q7 h
  by_cases q10 : p2 = 3
  · replace h := ite_t q10 h
    refine a_swin (pc := 1) (tgt := 74) F dX8_personNow_1 (by rw [q10]; decide) (by rw [q10]; decide) (by rw [q10]; rfl) (by decide) ?_
    clear q10
    refine a_aload_n (pc := 74) F dX8_personNow_74 0 rfl ?_
    refine a_getr (k := 162) (r := 163) (pc := 75) F dX8_personNow_75 fl_RX8_7 kl_162 ks_162 rfl ?_
    refine a_bipush (v := 43) (pc := 78) F dX8_personNow_78 (by decide) ?_
    refine a_iload_n (pc := 80) F dX8_personNow_80 1 rfl ?_
    refine a_iadd (pc := 81) F dX8_personNow_81 ?_
    replace h := gIn_some h
    obtain ⟨g11, h⟩ := h
    refine a_ial (k := 163) (pc := 82) F dX8_personNow_82 kl_163 ks_163 g11 ?_
    refine a_nmi fun x12 ex12 => ?_
    replace h := nm_at ex12 h
    clear ex12
    cases h
    exact a_iret (pc := 83) F dX8_personNow_83 ⟨_, rfl, rfl⟩
  replace h := ite_f q10 h
  by_cases q13 : p2 = 4
  · replace h := ite_t q13 h
    refine a_swin (pc := 1) (tgt := 84) F dX8_personNow_1 (by rw [q13]; decide) (by rw [q13]; decide) (by rw [q13]; rfl) (by decide) ?_
    clear q13
    refine a_aload_n (pc := 84) F dX8_personNow_84 0 rfl ?_
    refine a_getr (k := 162) (r := 163) (pc := 85) F dX8_personNow_85 fl_RX8_7 kl_162 ks_162 rfl ?_
    refine a_bipush (v := 53) (pc := 88) F dX8_personNow_88 (by decide) ?_
    refine a_iload_n (pc := 90) F dX8_personNow_90 1 rfl ?_
    refine a_iadd (pc := 91) F dX8_personNow_91 ?_
    replace h := gIn_some h
    obtain ⟨g14, h⟩ := h
    refine a_ial (k := 163) (pc := 92) F dX8_personNow_92 kl_163 ks_163 g14 ?_
    refine a_nmi fun x15 ex15 => ?_
    replace h := nm_at ex15 h
    clear ex15
    cases h
    exact a_iret (pc := 93) F dX8_personNow_93 ⟨_, rfl, rfl⟩
  replace h := ite_f q13 h
  by_cases q16 : p2 = 5
  · replace h := ite_t q16 h
    refine a_swin (pc := 1) (tgt := 94) F dX8_personNow_1 (by rw [q16]; decide) (by rw [q16]; decide) (by rw [q16]; rfl) (by decide) ?_
    clear q16
    refine a_aload_n (pc := 94) F dX8_personNow_94 0 rfl ?_
    refine a_iload_n (pc := 95) F dX8_personNow_95 1 rfl ?_
    replace h := bnd_some h
    obtain ⟨x18, hc17, h⟩ := h
    refine a_callV (pc := 96) (k := 162) (As := [.int p1]) (st := []) F dX8_personNow_96 (m_X8_listedWith hc17) cv_RX8_180 kl_162 ks_162 ⟨_, _, rfl⟩ rfl rfl rfl (Nat.le_of_ble_eq_true rfl) ⟨Nat.le_of_ble_eq_true rfl, Nat.le_of_ble_eq_true rfl⟩ ?_ rfl rfl
    clear hc17
    cases h
    exact a_iret (pc := 99) F dX8_personNow_99 ⟨_, rfl, rfl⟩
  replace h := ite_f q16 h
  by_cases q19 : p2 = 6
  · replace h := ite_t q19 h
    refine a_swin (pc := 1) (tgt := 100) F dX8_personNow_1 (by rw [q19]; decide) (by rw [q19]; decide) (by rw [q19]; rfl) (by decide) ?_
    clear q19
    refine a_aload_n (pc := 100) F dX8_personNow_100 0 rfl ?_
    refine a_iload_n (pc := 101) F dX8_personNow_101 1 rfl ?_
    replace h := bnd_some h
    obtain ⟨x21, hc20, h⟩ := h
    refine a_callV (pc := 102) (k := 162) (As := [.int p1]) (st := []) F dX8_personNow_102 (m_X8_worksIn hc20) cv_RX8_134 kl_162 ks_162 ⟨_, _, rfl⟩ rfl rfl rfl (Nat.le_of_ble_eq_true rfl) ⟨Nat.le_of_ble_eq_true rfl, Nat.le_of_ble_eq_true rfl⟩ ?_ rfl rfl
    clear hc20
    cases h
    exact a_iret (pc := 105) F dX8_personNow_105 ⟨_, rfl, rfl⟩
  replace h := ite_f q19 h
  refine a_swout (pc := 1) (tgt := 106) F dX8_personNow_1 (by have nq1 := lv_neT (a := 0) q1 (by decide); have nq4 := lv_neT (a := 1) q4 (by decide); have nq7 := lv_neT (a := 2) q7 (by decide); have nq10 := lv_neT (a := 3) q10 (by decide); have nq13 := lv_neT (a := 4) q13 (by decide); have nq16 := lv_neT (a := 5) q16 (by decide); have nq19 := lv_neT (a := 6) q19 (by decide); omega) (by decide) ?_
  clear q1
  clear q4
  clear q7
  clear q10
  clear q13
  clear q16
  clear q19
  refine a_aload_n (pc := 106) F dX8_personNow_106 0 rfl ?_
  refine a_getr (k := 162) (r := 163) (pc := 107) F dX8_personNow_107 fl_RX8_7 kl_162 ks_162 rfl ?_
  refine a_bipush (v := 63) (pc := 110) F dX8_personNow_110 (by decide) ?_
  refine a_iload_n (pc := 112) F dX8_personNow_112 1 rfl ?_
  refine a_iadd (pc := 113) F dX8_personNow_113 ?_
  replace h := gIn_some h
  obtain ⟨g22, h⟩ := h
  refine a_ial (k := 163) (pc := 114) F dX8_personNow_114 kl_163 ks_163 g22 ?_
  refine a_nmi fun x23 ex23 => ?_
  replace h := nm_at ex23 h
  clear ex23
  cases h
  exact a_iret (pc := 115) F dX8_personNow_115 ⟨_, rfl, rfl⟩
def f_X8_interpreter (p1 : Int32) (p2 : Int32) (m0 : Mem) : Option (Int32 × Mem) :=
  bnd (f_X8_isPerson p1 m0) fun x2 => bnd ((if x2 = 0 then some 1 else bnd (f_X8_within p2 0 7 m0) fun x6 => (if x6 = 0 then some 2 else some 0))) (fun (x8 : Int32) => nm (si m0 162 5 x8) fun m9 => (if (m9.1 162 5) ≤ 0 then bnd (f_X8_personNow p1 p2 m9) fun x12 => some (x12, m9) else some (0, m9)))
set_option maxRecDepth 100000 in
set_option maxHeartbeats 4000000 in
theorem m_X8_interpreter {p1 : Int32} {p2 : Int32} {m0 : Mem} {rr : Int32} {mm : Mem} (h : f_X8_interpreter p1 p2 m0 = some (rr, mm)) : Con yX8_interpreter cX8_interpreter 3 (some Jvm.ClassFile.FieldType.int) 4 91 (fun G => [.ref (ga G 162), .int p1, .int p2]) m0 (some (.int rr)) mm := by
  refine con_of (by decide) (fun G => Nat.le_of_ble_eq_true rfl) (fun X F => ?_)
  show WA X 0 0 0 [(0, .ref (ga X.G 162)), (1, .int p1), (2, .int p2)] [] m0 (EQ X (some (.int rr)) mm)
  rw [f_X8_interpreter] at h
  refine a_aload_n (pc := 0) F dX8_interpreter_0 0 rfl ?_
  refine a_aload_n (pc := 1) F dX8_interpreter_1 0 rfl ?_
  refine a_iload_n (pc := 2) F dX8_interpreter_2 1 rfl ?_
  replace h := bnd_some h
  obtain ⟨x2, hc1, h⟩ := h
  refine a_callV (pc := 3) (k := 162) (As := [.int p1]) (st := [.ref (ga X.G 162)]) F dX8_interpreter_3 (m_X8_isPerson hc1) cv_RX8_82 kl_162 ks_162 ⟨_, _, rfl⟩ rfl rfl rfl (Nat.le_of_ble_eq_true rfl) ⟨Nat.le_of_ble_eq_true rfl, Nat.le_of_ble_eq_true rfl⟩ ?_ rfl rfl
  clear hc1
  replace h := bnd_some h
  obtain ⟨x8, hR3, h⟩ := h
  have hJ3 : WA X 0 0 28 [(0, .ref (ga X.G 162)), (1, .int p1), (2, .int p2)] [.int x8, .ref (ga X.G 162)] m0 (EQ X (some (.int rr)) mm) := by
    refine a_puti (k := 162) (pc := 28) F dX8_interpreter_28 fp_RX8_31 kl_162 ks_162 rfl ?_
    refine a_nmm fun m9 em9 => ?_
    replace h := nm_at em9 h
    clear em9
    refine a_aload_n (pc := 31) F dX8_interpreter_31 0 rfl ?_
    refine a_geti (k := 162) (pc := 32) F dX8_interpreter_32 fl_RX8_31 kl_162 ks_162 rfl ?_
    refine a_if_le (tgt := 42) (pc := 35) F dX8_interpreter_35 (by decide) (fun q10 => ?_) (fun q10 => ?_)
    · replace h := ite_t q10 h
      clear q10
      refine a_aload_n (pc := 42) F dX8_interpreter_42 0 rfl ?_
      refine a_iload_n (pc := 43) F dX8_interpreter_43 1 rfl ?_
      refine a_iload_n (pc := 44) F dX8_interpreter_44 2 rfl ?_
      replace h := bnd_some h
      obtain ⟨x12, hc11, h⟩ := h
      refine a_callV (pc := 45) (k := 162) (As := [.int p1, .int p2]) (st := []) F dX8_interpreter_45 (m_X8_personNow hc11) cv_RX8_183 kl_162 ks_162 ⟨_, _, rfl⟩ rfl rfl rfl (Nat.le_of_ble_eq_true rfl) ⟨Nat.le_of_ble_eq_true rfl, Nat.le_of_ble_eq_true rfl⟩ ?_ rfl rfl
      clear hc11
      cases h
      exact a_iret (pc := 48) F dX8_interpreter_48 ⟨_, rfl, rfl⟩
    · replace h := ite_f q10 h
      clear q10
      refine a_iconst (v := 0) (pc := 38) F dX8_interpreter_38 (by decide) ?_
      refine a_goto (tgt := 48) (pc := 39) F dX8_interpreter_39 (by decide) ?_
      cases h
      exact a_iret (pc := 48) F dX8_interpreter_48 ⟨_, rfl, rfl⟩
  clear h
  have h := hR3
  clear hR3
  refine a_if_ne (tgt := 13) (pc := 6) F dX8_interpreter_6 (by decide) (fun q4 => ?_) (fun q4 => ?_)
  · replace h := ite_f q4 h
    clear q4
    refine a_iload_n (pc := 13) F dX8_interpreter_13 2 rfl ?_
    refine a_iconst (v := 0) (pc := 14) F dX8_interpreter_14 (by decide) ?_
    refine a_bipush (v := 7) (pc := 15) F dX8_interpreter_15 (by decide) ?_
    replace h := bnd_some h
    obtain ⟨x6, hc5, h⟩ := h
    refine a_callS (pc := 17) (As := [.int p2, .int 0, .int 7]) (st := [.ref (ga X.G 162)]) F dX8_interpreter_17 (m_X8_within hc5) cs_RX8_38 rfl rfl rfl (Nat.le_of_ble_eq_true rfl) ⟨Nat.le_of_ble_eq_true rfl, Nat.le_of_ble_eq_true rfl⟩ ?_ rfl rfl
    clear hc5
    refine a_if_eq (tgt := 27) (pc := 20) F dX8_interpreter_20 (by decide) (fun q7 => ?_) (fun q7 => ?_)
    · replace h := ite_t q7 h
      clear q7
      refine a_iconst (v := 2) (pc := 27) F dX8_interpreter_27 (by decide) ?_
      cases h
      exact hJ3
    · replace h := ite_f q7 h
      clear q7
      refine a_iconst (v := 0) (pc := 23) F dX8_interpreter_23 (by decide) ?_
      refine a_goto (tgt := 28) (pc := 24) F dX8_interpreter_24 (by decide) ?_
      cases h
      exact hJ3
  · replace h := ite_t (Decidable.not_not.mp q4) h
    clear q4
    refine a_iconst (v := 1) (pc := 9) F dX8_interpreter_9 (by decide) ?_
    refine a_goto (tgt := 28) (pc := 10) F dX8_interpreter_10 (by decide) ?_
    cases h
    exact hJ3
def f_X8_clashes_L4 (p1 : Int32) (m0 : Mem) : (Int32 × Int32) → Option ((Int32 × Int32) ⊕ Int32)
  | (x2, x3) => (if (m0.1 163 8) ≤ x3 then some (.inr x2) else (if x3 = p1 then nm (x3 + 1) fun x6 => some (.inl (x2 + 0, x6)) else bnd (f_X8_isListed x3 m0) fun x8 => (if x8 = 0 then nm (x3 + 1) fun x10 => some (.inl (x2 + 0, x10)) else bnd (f_X8_isListed p1 m0) fun x12 => (if x12 = 0 then nm (x3 + 1) fun x14 => some (.inl (x2 + 0, x14)) else bnd (f_X8_clash x3 p1 m0) fun x16 => (if x16 = 0 then nm (x3 + 1) fun x18 => some (.inl (x2 + 0, x18)) else nm (x3 + 1) fun x19 => some (.inl (x2 + 1, x19)))))))
def f_X8_clashes (p1 : Int32) (m0 : Mem) : Option Int32 :=
  bnd (lp (f_X8_clashes_L4 p1 m0) 1000000 (0, 0)) (fun x20 => some x20)
set_option maxRecDepth 100000 in
set_option maxHeartbeats 4000000 in
theorem m_X8_clashes {p1 : Int32} {m0 : Mem} {rr : Int32} (h : f_X8_clashes p1 m0 = some rr) : Con yX8_clashes cX8_clashes 4 (some Jvm.ClassFile.FieldType.int) 3 65 (fun G => [.ref (ga G 162), .int p1]) m0 (some (.int rr)) m0 := by
  refine con_of (by decide) (fun G => Nat.le_of_ble_eq_true rfl) (fun X F => ?_)
  show WA X 0 0 0 [(0, .ref (ga X.G 162)), (1, .int p1)] [] m0 (EQ X (some (.int rr)) m0)
  rw [f_X8_clashes] at h
  refine a_iconst (v := 0) (pc := 0) F dX8_clashes_0 (by decide) ?_
  refine a_istore_n (lv' := [(2, .int 0), (0, .ref (ga X.G 162)), (1, .int p1)]) (pc := 1) F dX8_clashes_1 (by decide) rfl ?_
  refine a_iconst (v := 0) (pc := 2) F dX8_clashes_2 (by decide) ?_
  refine a_istore_n (lv' := [(3, .int 0), (2, .int 0), (0, .ref (ga X.G 162)), (1, .int p1)]) (pc := 3) F dX8_clashes_3 (by decide) rfl ?_
  refine a_lv F [2, 3, 1, 0] rfl ?_
  replace h := bnd_some h
  obtain ⟨x20, hL1, h⟩ := h
  have hE1 : WA X 0 0 59 [(2, .int x20)] [] m0 (EQ X (some (.int rr)) m0) := by
    refine a_iload_n (pc := 59) F dX8_clashes_59 0 rfl ?_
    cases h
    exact a_iret (pc := 60) F dX8_clashes_60 ⟨_, rfl, rfl⟩
  clear h
  refine lp_run (P := fun (s : (Int32 × Int32)) => WA X 0 0 4 [(0, .ref (ga X.G 162)), (1, .int p1), (2, .int s.1), (3, .int s.2)] [] m0 (EQ X (some (.int rr)) m0)) ?_ _ _ hL1
  clear hL1
  rintro ⟨x2, x3⟩ xo h hP1 hT1
  show WA X 0 0 4 [(0, .ref (ga X.G 162)), (1, .int p1), (2, .int x2), (3, .int x3)] [] m0 (EQ X (some (.int rr)) m0)
  rw [f_X8_clashes_L4] at h
  refine a_iload_n (pc := 4) F dX8_clashes_4 3 rfl ?_
  refine a_aload_n (pc := 5) F dX8_clashes_5 0 rfl ?_
  refine a_getr (k := 162) (r := 163) (pc := 6) F dX8_clashes_6 fl_RX8_7 kl_162 ks_162 rfl ?_
  refine a_bipush (v := 8) (pc := 9) F dX8_clashes_9 (by decide) ?_
  refine a_ialc (k := 163) (pc := 11) F dX8_clashes_11 kl_163 ks_163 rfl rfl ?_
  refine a_icmp_ge (tgt := 59) (pc := 12) F dX8_clashes_12 (by decide) (fun q4 => ?_) (fun q4 => ?_)
  · replace h := ite_t q4 h
    clear q4
    refine a_lv F [2] rfl ?_
    cases hT1 _ (Option.some.inj h).symm
    exact hE1
  · replace h := ite_f q4 h
    clear q4
    refine a_iload_n (pc := 15) F dX8_clashes_15 2 rfl ?_
    refine a_iload_n (pc := 16) F dX8_clashes_16 3 rfl ?_
    refine a_iload_n (pc := 17) F dX8_clashes_17 1 rfl ?_
    refine a_icmp_eq (tgt := 50) (pc := 18) F dX8_clashes_18 (by decide) (fun q5 => ?_) (fun q5 => ?_)
    · replace h := ite_t q5 h
      clear q5
      refine a_iconst (v := 0) (pc := 50) F dX8_clashes_50 (by decide) ?_
      refine a_iadd (pc := 51) F dX8_clashes_51 ?_
      refine a_istore_n (lv' := [(2, .int (x2 + 0)), (0, .ref (ga X.G 162)), (1, .int p1), (3, .int x3)]) (pc := 52) F dX8_clashes_52 (by decide) rfl ?_
      obtain ⟨x6, ex6⟩ : ∃ x6 : Int32, x6 = x3 + 1 := ⟨_, rfl⟩
      refine a_iinc (v := x6) (lv' := [(3, .int x6), (2, .int (x2 + 0)), (0, .ref (ga X.G 162)), (1, .int p1)]) (pc := 53) F dX8_clashes_53 3 rfl (by rw [ex6]; rfl) (by decide) rfl ?_
      replace h := nm_at ex6 h
      clear ex6
      refine a_goto (tgt := 4) (pc := 56) F dX8_clashes_56 (by decide) ?_
      refine a_lv F [2, 3, 1, 0] rfl ?_
      exact hP1 _ (Option.some.inj h).symm
    · replace h := ite_f q5 h
      clear q5
      refine a_aload_n (pc := 21) F dX8_clashes_21 0 rfl ?_
      refine a_iload_n (pc := 22) F dX8_clashes_22 3 rfl ?_
      replace h := bnd_some h
      obtain ⟨x8, hc7, h⟩ := h
      refine a_callV (pc := 23) (k := 162) (As := [.int x3]) (st := [.int x2]) F dX8_clashes_23 (m_X8_isListed hc7) cv_RX8_50 kl_162 ks_162 ⟨_, _, rfl⟩ rfl rfl rfl (Nat.le_of_ble_eq_true rfl) ⟨Nat.le_of_ble_eq_true rfl, Nat.le_of_ble_eq_true rfl⟩ ?_ rfl rfl
      clear hc7
      refine a_if_eq (tgt := 50) (pc := 26) F dX8_clashes_26 (by decide) (fun q9 => ?_) (fun q9 => ?_)
      · replace h := ite_t q9 h
        clear q9
        refine a_iconst (v := 0) (pc := 50) F dX8_clashes_50 (by decide) ?_
        refine a_iadd (pc := 51) F dX8_clashes_51 ?_
        refine a_istore_n (lv' := [(2, .int (x2 + 0)), (0, .ref (ga X.G 162)), (1, .int p1), (3, .int x3)]) (pc := 52) F dX8_clashes_52 (by decide) rfl ?_
        obtain ⟨x10, ex10⟩ : ∃ x10 : Int32, x10 = x3 + 1 := ⟨_, rfl⟩
        refine a_iinc (v := x10) (lv' := [(3, .int x10), (2, .int (x2 + 0)), (0, .ref (ga X.G 162)), (1, .int p1)]) (pc := 53) F dX8_clashes_53 3 rfl (by rw [ex10]; rfl) (by decide) rfl ?_
        replace h := nm_at ex10 h
        clear ex10
        refine a_goto (tgt := 4) (pc := 56) F dX8_clashes_56 (by decide) ?_
        refine a_lv F [2, 3, 1, 0] rfl ?_
        exact hP1 _ (Option.some.inj h).symm
      · replace h := ite_f q9 h
        clear q9
        refine a_aload_n (pc := 29) F dX8_clashes_29 0 rfl ?_
        refine a_iload_n (pc := 30) F dX8_clashes_30 1 rfl ?_
        replace h := bnd_some h
        obtain ⟨x12, hc11, h⟩ := h
        refine a_callV (pc := 31) (k := 162) (As := [.int p1]) (st := [.int x2]) F dX8_clashes_31 (m_X8_isListed hc11) cv_RX8_50 kl_162 ks_162 ⟨_, _, rfl⟩ rfl rfl rfl (Nat.le_of_ble_eq_true rfl) ⟨Nat.le_of_ble_eq_true rfl, Nat.le_of_ble_eq_true rfl⟩ ?_ rfl rfl
        clear hc11
        refine a_if_eq (tgt := 50) (pc := 34) F dX8_clashes_34 (by decide) (fun q13 => ?_) (fun q13 => ?_)
        · replace h := ite_t q13 h
          clear q13
          refine a_iconst (v := 0) (pc := 50) F dX8_clashes_50 (by decide) ?_
          refine a_iadd (pc := 51) F dX8_clashes_51 ?_
          refine a_istore_n (lv' := [(2, .int (x2 + 0)), (0, .ref (ga X.G 162)), (1, .int p1), (3, .int x3)]) (pc := 52) F dX8_clashes_52 (by decide) rfl ?_
          obtain ⟨x14, ex14⟩ : ∃ x14 : Int32, x14 = x3 + 1 := ⟨_, rfl⟩
          refine a_iinc (v := x14) (lv' := [(3, .int x14), (2, .int (x2 + 0)), (0, .ref (ga X.G 162)), (1, .int p1)]) (pc := 53) F dX8_clashes_53 3 rfl (by rw [ex14]; rfl) (by decide) rfl ?_
          replace h := nm_at ex14 h
          clear ex14
          refine a_goto (tgt := 4) (pc := 56) F dX8_clashes_56 (by decide) ?_
          refine a_lv F [2, 3, 1, 0] rfl ?_
          exact hP1 _ (Option.some.inj h).symm
        · replace h := ite_f q13 h
          clear q13
          refine a_aload_n (pc := 37) F dX8_clashes_37 0 rfl ?_
          refine a_iload_n (pc := 38) F dX8_clashes_38 3 rfl ?_
          refine a_iload_n (pc := 39) F dX8_clashes_39 1 rfl ?_
          replace h := bnd_some h
          obtain ⟨x16, hc15, h⟩ := h
          refine a_callV (pc := 40) (k := 162) (As := [.int x3, .int p1]) (st := [.int x2]) F dX8_clashes_40 (m_X8_clash hc15) cv_RX8_58 kl_162 ks_162 ⟨_, _, rfl⟩ rfl rfl rfl (Nat.le_of_ble_eq_true rfl) ⟨Nat.le_of_ble_eq_true rfl, Nat.le_of_ble_eq_true rfl⟩ ?_ rfl rfl
          clear hc15
          refine a_if_eq (tgt := 50) (pc := 43) F dX8_clashes_43 (by decide) (fun q17 => ?_) (fun q17 => ?_)
          · replace h := ite_t q17 h
            clear q17
            refine a_iconst (v := 0) (pc := 50) F dX8_clashes_50 (by decide) ?_
            refine a_iadd (pc := 51) F dX8_clashes_51 ?_
            refine a_istore_n (lv' := [(2, .int (x2 + 0)), (0, .ref (ga X.G 162)), (1, .int p1), (3, .int x3)]) (pc := 52) F dX8_clashes_52 (by decide) rfl ?_
            obtain ⟨x18, ex18⟩ : ∃ x18 : Int32, x18 = x3 + 1 := ⟨_, rfl⟩
            refine a_iinc (v := x18) (lv' := [(3, .int x18), (2, .int (x2 + 0)), (0, .ref (ga X.G 162)), (1, .int p1)]) (pc := 53) F dX8_clashes_53 3 rfl (by rw [ex18]; rfl) (by decide) rfl ?_
            replace h := nm_at ex18 h
            clear ex18
            refine a_goto (tgt := 4) (pc := 56) F dX8_clashes_56 (by decide) ?_
            refine a_lv F [2, 3, 1, 0] rfl ?_
            exact hP1 _ (Option.some.inj h).symm
          · replace h := ite_f q17 h
            clear q17
            refine a_iconst (v := 1) (pc := 46) F dX8_clashes_46 (by decide) ?_
            refine a_goto (tgt := 51) (pc := 47) F dX8_clashes_47 (by decide) ?_
            refine a_iadd (pc := 51) F dX8_clashes_51 ?_
            refine a_istore_n (lv' := [(2, .int (x2 + 1)), (0, .ref (ga X.G 162)), (1, .int p1), (3, .int x3)]) (pc := 52) F dX8_clashes_52 (by decide) rfl ?_
            obtain ⟨x19, ex19⟩ : ∃ x19 : Int32, x19 = x3 + 1 := ⟨_, rfl⟩
            refine a_iinc (v := x19) (lv' := [(3, .int x19), (2, .int (x2 + 1)), (0, .ref (ga X.G 162)), (1, .int p1)]) (pc := 53) F dX8_clashes_53 3 rfl (by rw [ex19]; rfl) (by decide) rfl ?_
            replace h := nm_at ex19 h
            clear ex19
            refine a_goto (tgt := 4) (pc := 56) F dX8_clashes_56 (by decide) ?_
            refine a_lv F [2, 3, 1, 0] rfl ?_
            exact hP1 _ (Option.some.inj h).symm
def f_X8_hearingNow (p1 : Int32) (p2 : Int32) (m0 : Mem) : Option Int32 :=
  (if p2 = 9 then bnd (f_X8_payFor p1 2 m0) fun x3 => some x3 else (if p2 = 10 then bnd (f_X8_of p1 9 m0) fun x6 => some x6 else (if p2 = 11 then bnd (f_X8_clashes p1 m0) fun x9 => some x9 else bnd (f_X8_of p1 p2 m0) fun x11 => some x11)))
set_option maxRecDepth 100000 in
set_option maxHeartbeats 4000000 in
theorem m_X8_hearingNow {p1 : Int32} {p2 : Int32} {m0 : Mem} {rr : Int32} (h : f_X8_hearingNow p1 p2 m0 = some rr) : Con yX8_hearingNow cX8_hearingNow 3 (some Jvm.ClassFile.FieldType.int) 4 88 (fun G => [.ref (ga G 162), .int p1, .int p2]) m0 (some (.int rr)) m0 := by
  refine con_of (by decide) (fun G => Nat.le_of_ble_eq_true rfl) (fun X F => ?_)
  show WA X 0 0 0 [(0, .ref (ga X.G 162)), (1, .int p1), (2, .int p2)] [] m0 (EQ X (some (.int rr)) m0)
  rw [f_X8_hearingNow] at h
  refine a_iload_n (pc := 0) F dX8_hearingNow_0 2 rfl ?_
  by_cases q1 : p2 = 9
  · replace h := ite_t q1 h
    refine a_swin (pc := 1) (tgt := 28) F dX8_hearingNow_1 (by rw [q1]; decide) (by rw [q1]; decide) (by rw [q1]; rfl) (by decide) ?_
    clear q1
    refine a_aload_n (pc := 28) F dX8_hearingNow_28 0 rfl ?_
    refine a_iload_n (pc := 29) F dX8_hearingNow_29 1 rfl ?_
    refine a_iconst (v := 2) (pc := 30) F dX8_hearingNow_30 (by decide) ?_
    replace h := bnd_some h
    obtain ⟨x3, hc2, h⟩ := h
    refine a_callV (pc := 31) (k := 162) (As := [.int p1, .int 2]) (st := []) F dX8_hearingNow_31 (m_X8_payFor hc2) cv_RX8_65 kl_162 ks_162 ⟨_, _, rfl⟩ rfl rfl rfl (Nat.le_of_ble_eq_true rfl) ⟨Nat.le_of_ble_eq_true rfl, Nat.le_of_ble_eq_true rfl⟩ ?_ rfl rfl
    clear hc2
    cases h
    exact a_iret (pc := 34) F dX8_hearingNow_34 ⟨_, rfl, rfl⟩
  replace h := ite_f q1 h
  by_cases q4 : p2 = 10
  · replace h := ite_t q4 h
    refine a_swin (pc := 1) (tgt := 35) F dX8_hearingNow_1 (by rw [q4]; decide) (by rw [q4]; decide) (by rw [q4]; rfl) (by decide) ?_
    clear q4
    refine a_aload_n (pc := 35) F dX8_hearingNow_35 0 rfl ?_
    refine a_iload_n (pc := 36) F dX8_hearingNow_36 1 rfl ?_
    refine a_bipush (v := 9) (pc := 37) F dX8_hearingNow_37 (by decide) ?_
    replace h := bnd_some h
    obtain ⟨x6, hc5, h⟩ := h
    refine a_callV (pc := 39) (k := 162) (As := [.int p1, .int 9]) (st := []) F dX8_hearingNow_39 (m_X8_of hc5) cv_RX8_42 kl_162 ks_162 ⟨_, _, rfl⟩ rfl rfl rfl (Nat.le_of_ble_eq_true rfl) ⟨Nat.le_of_ble_eq_true rfl, Nat.le_of_ble_eq_true rfl⟩ ?_ rfl rfl
    clear hc5
    cases h
    exact a_iret (pc := 42) F dX8_hearingNow_42 ⟨_, rfl, rfl⟩
  replace h := ite_f q4 h
  by_cases q7 : p2 = 11
  · replace h := ite_t q7 h
    refine a_swin (pc := 1) (tgt := 43) F dX8_hearingNow_1 (by rw [q7]; decide) (by rw [q7]; decide) (by rw [q7]; rfl) (by decide) ?_
    clear q7
    refine a_aload_n (pc := 43) F dX8_hearingNow_43 0 rfl ?_
    refine a_iload_n (pc := 44) F dX8_hearingNow_44 1 rfl ?_
    replace h := bnd_some h
    obtain ⟨x9, hc8, h⟩ := h
    refine a_callV (pc := 45) (k := 162) (As := [.int p1]) (st := []) F dX8_hearingNow_45 (m_X8_clashes hc8) cv_RX8_186 kl_162 ks_162 ⟨_, _, rfl⟩ rfl rfl rfl (Nat.le_of_ble_eq_true rfl) ⟨Nat.le_of_ble_eq_true rfl, Nat.le_of_ble_eq_true rfl⟩ ?_ rfl rfl
    clear hc8
    cases h
    exact a_iret (pc := 48) F dX8_hearingNow_48 ⟨_, rfl, rfl⟩
  replace h := ite_f q7 h
  refine a_swout (pc := 1) (tgt := 49) F dX8_hearingNow_1 (by have nq1 := lv_neT (a := 9) q1 (by decide); have nq4 := lv_neT (a := 10) q4 (by decide); have nq7 := lv_neT (a := 11) q7 (by decide); omega) (by decide) ?_
  clear q1
  clear q4
  clear q7
  refine a_aload_n (pc := 49) F dX8_hearingNow_49 0 rfl ?_
  refine a_iload_n (pc := 50) F dX8_hearingNow_50 1 rfl ?_
  refine a_iload_n (pc := 51) F dX8_hearingNow_51 2 rfl ?_
  replace h := bnd_some h
  obtain ⟨x11, hc10, h⟩ := h
  refine a_callV (pc := 52) (k := 162) (As := [.int p1, .int p2]) (st := []) F dX8_hearingNow_52 (m_X8_of hc10) cv_RX8_42 kl_162 ks_162 ⟨_, _, rfl⟩ rfl rfl rfl (Nat.le_of_ble_eq_true rfl) ⟨Nat.le_of_ble_eq_true rfl, Nat.le_of_ble_eq_true rfl⟩ ?_ rfl rfl
  clear hc10
  cases h
  exact a_iret (pc := 55) F dX8_hearingNow_55 ⟨_, rfl, rfl⟩
def f_X8_hearing (p1 : Int32) (p2 : Int32) (m0 : Mem) : Option (Int32 × Mem) :=
  bnd (f_X8_isHearing p1 m0) fun x2 => bnd ((if x2 = 0 then some 1 else bnd (f_X8_within p2 0 11 m0) fun x6 => (if x6 = 0 then some 2 else some 0))) (fun (x8 : Int32) => nm (si m0 162 5 x8) fun m9 => (if (m9.1 162 5) ≤ 0 then bnd (f_X8_hearingNow p1 p2 m9) fun x12 => some (x12, m9) else some (0, m9)))
set_option maxRecDepth 100000 in
set_option maxHeartbeats 4000000 in
theorem m_X8_hearing {p1 : Int32} {p2 : Int32} {m0 : Mem} {rr : Int32} {mm : Mem} (h : f_X8_hearing p1 p2 m0 = some (rr, mm)) : Con yX8_hearing cX8_hearing 3 (some Jvm.ClassFile.FieldType.int) 5 110 (fun G => [.ref (ga G 162), .int p1, .int p2]) m0 (some (.int rr)) mm := by
  refine con_of (by decide) (fun G => Nat.le_of_ble_eq_true rfl) (fun X F => ?_)
  show WA X 0 0 0 [(0, .ref (ga X.G 162)), (1, .int p1), (2, .int p2)] [] m0 (EQ X (some (.int rr)) mm)
  rw [f_X8_hearing] at h
  refine a_aload_n (pc := 0) F dX8_hearing_0 0 rfl ?_
  refine a_aload_n (pc := 1) F dX8_hearing_1 0 rfl ?_
  refine a_iload_n (pc := 2) F dX8_hearing_2 1 rfl ?_
  replace h := bnd_some h
  obtain ⟨x2, hc1, h⟩ := h
  refine a_callV (pc := 3) (k := 162) (As := [.int p1]) (st := [.ref (ga X.G 162)]) F dX8_hearing_3 (m_X8_isHearing hc1) cv_RX8_109 kl_162 ks_162 ⟨_, _, rfl⟩ rfl rfl rfl (Nat.le_of_ble_eq_true rfl) ⟨Nat.le_of_ble_eq_true rfl, Nat.le_of_ble_eq_true rfl⟩ ?_ rfl rfl
  clear hc1
  replace h := bnd_some h
  obtain ⟨x8, hR3, h⟩ := h
  have hJ3 : WA X 0 0 28 [(0, .ref (ga X.G 162)), (1, .int p1), (2, .int p2)] [.int x8, .ref (ga X.G 162)] m0 (EQ X (some (.int rr)) mm) := by
    refine a_puti (k := 162) (pc := 28) F dX8_hearing_28 fp_RX8_31 kl_162 ks_162 rfl ?_
    refine a_nmm fun m9 em9 => ?_
    replace h := nm_at em9 h
    clear em9
    refine a_aload_n (pc := 31) F dX8_hearing_31 0 rfl ?_
    refine a_geti (k := 162) (pc := 32) F dX8_hearing_32 fl_RX8_31 kl_162 ks_162 rfl ?_
    refine a_if_le (tgt := 42) (pc := 35) F dX8_hearing_35 (by decide) (fun q10 => ?_) (fun q10 => ?_)
    · replace h := ite_t q10 h
      clear q10
      refine a_aload_n (pc := 42) F dX8_hearing_42 0 rfl ?_
      refine a_iload_n (pc := 43) F dX8_hearing_43 1 rfl ?_
      refine a_iload_n (pc := 44) F dX8_hearing_44 2 rfl ?_
      replace h := bnd_some h
      obtain ⟨x12, hc11, h⟩ := h
      refine a_callV (pc := 45) (k := 162) (As := [.int p1, .int p2]) (st := []) F dX8_hearing_45 (m_X8_hearingNow hc11) cv_RX8_189 kl_162 ks_162 ⟨_, _, rfl⟩ rfl rfl rfl (Nat.le_of_ble_eq_true rfl) ⟨Nat.le_of_ble_eq_true rfl, Nat.le_of_ble_eq_true rfl⟩ ?_ rfl rfl
      clear hc11
      cases h
      exact a_iret (pc := 48) F dX8_hearing_48 ⟨_, rfl, rfl⟩
    · replace h := ite_f q10 h
      clear q10
      refine a_iconst (v := 0) (pc := 38) F dX8_hearing_38 (by decide) ?_
      refine a_goto (tgt := 48) (pc := 39) F dX8_hearing_39 (by decide) ?_
      cases h
      exact a_iret (pc := 48) F dX8_hearing_48 ⟨_, rfl, rfl⟩
  clear h
  have h := hR3
  clear hR3
  refine a_if_ne (tgt := 13) (pc := 6) F dX8_hearing_6 (by decide) (fun q4 => ?_) (fun q4 => ?_)
  · replace h := ite_f q4 h
    clear q4
    refine a_iload_n (pc := 13) F dX8_hearing_13 2 rfl ?_
    refine a_iconst (v := 0) (pc := 14) F dX8_hearing_14 (by decide) ?_
    refine a_bipush (v := 11) (pc := 15) F dX8_hearing_15 (by decide) ?_
    replace h := bnd_some h
    obtain ⟨x6, hc5, h⟩ := h
    refine a_callS (pc := 17) (As := [.int p2, .int 0, .int 11]) (st := [.ref (ga X.G 162)]) F dX8_hearing_17 (m_X8_within hc5) cs_RX8_38 rfl rfl rfl (Nat.le_of_ble_eq_true rfl) ⟨Nat.le_of_ble_eq_true rfl, Nat.le_of_ble_eq_true rfl⟩ ?_ rfl rfl
    clear hc5
    refine a_if_eq (tgt := 27) (pc := 20) F dX8_hearing_20 (by decide) (fun q7 => ?_) (fun q7 => ?_)
    · replace h := ite_t q7 h
      clear q7
      refine a_iconst (v := 2) (pc := 27) F dX8_hearing_27 (by decide) ?_
      cases h
      exact hJ3
    · replace h := ite_f q7 h
      clear q7
      refine a_iconst (v := 0) (pc := 23) F dX8_hearing_23 (by decide) ?_
      refine a_goto (tgt := 28) (pc := 24) F dX8_hearing_24 (by decide) ?_
      cases h
      exact hJ3
  · replace h := ite_t (Decidable.not_not.mp q4) h
    clear q4
    refine a_iconst (v := 1) (pc := 9) F dX8_hearing_9 (by decide) ?_
    refine a_goto (tgt := 28) (pc := 10) F dX8_hearing_10 (by decide) ?_
    cases h
    exact hJ3
def f_X8_hearingsIn_L5 (p1 : Int32) (p2 : Int32) (m0 : Mem) : (Int32 × Int32) → Option ((Int32 × Int32) ⊕ Int32)
  | (x2, x3) => (if (m0.1 163 8) ≤ x3 then some (.inr x2) else bnd (f_X8_of x3 4 m0) fun x6 => (if x6 = p1 then (if p2 = 0 then nm (x3 + 1) fun x10 => some (.inl (x2 + 1, x10)) else bnd (f_X8_of x3 5 m0) fun x12 => (if x12 ≤ 0 then nm (x3 + 1) fun x14 => some (.inl (x2 + 0, x14)) else nm (x3 + 1) fun x15 => some (.inl (x2 + 1, x15)))) else nm (x3 + 1) fun x8 => some (.inl (x2 + 0, x8))))
def f_X8_hearingsIn (p1 : Int32) (p2 : Int32) (m0 : Mem) : Option Int32 :=
  bnd (lp (f_X8_hearingsIn_L5 p1 p2 m0) 1000000 (0, 0)) (fun x16 => some x16)
set_option maxRecDepth 100000 in
set_option maxHeartbeats 4000000 in
theorem m_X8_hearingsIn {p1 : Int32} {p2 : Int32} {m0 : Mem} {rr : Int32} (h : f_X8_hearingsIn p1 p2 m0 = some rr) : Con yX8_hearingsIn cX8_hearingsIn 5 (some Jvm.ClassFile.FieldType.int) 1 22 (fun G => [.ref (ga G 162), .int p1, .int p2]) m0 (some (.int rr)) m0 := by
  refine con_of (by decide) (fun G => Nat.le_of_ble_eq_true rfl) (fun X F => ?_)
  show WA X 0 0 0 [(0, .ref (ga X.G 162)), (1, .int p1), (2, .int p2)] [] m0 (EQ X (some (.int rr)) m0)
  rw [f_X8_hearingsIn] at h
  refine a_iconst (v := 0) (pc := 0) F dX8_hearingsIn_0 (by decide) ?_
  refine a_istore_n (lv' := [(3, .int 0), (0, .ref (ga X.G 162)), (1, .int p1), (2, .int p2)]) (pc := 1) F dX8_hearingsIn_1 (by decide) rfl ?_
  refine a_iconst (v := 0) (pc := 2) F dX8_hearingsIn_2 (by decide) ?_
  refine a_istore (lv' := [(4, .int 0), (3, .int 0), (0, .ref (ga X.G 162)), (1, .int p1), (2, .int p2)]) (pc := 3) F dX8_hearingsIn_3 (by decide) rfl ?_
  refine a_lv F [2, 3, 4, 1, 0] rfl ?_
  replace h := bnd_some h
  obtain ⟨x16, hL1, h⟩ := h
  have hE1 : WA X 0 0 56 [(3, .int x16)] [] m0 (EQ X (some (.int rr)) m0) := by
    refine a_iload_n (pc := 56) F dX8_hearingsIn_56 0 rfl ?_
    cases h
    exact a_iret (pc := 57) F dX8_hearingsIn_57 ⟨_, rfl, rfl⟩
  clear h
  refine lp_run (P := fun (s : (Int32 × Int32)) => WA X 0 0 5 [(0, .ref (ga X.G 162)), (1, .int p1), (2, .int p2), (3, .int s.1), (4, .int s.2)] [] m0 (EQ X (some (.int rr)) m0)) ?_ _ _ hL1
  clear hL1
  rintro ⟨x2, x3⟩ xo h hP1 hT1
  show WA X 0 0 5 [(0, .ref (ga X.G 162)), (1, .int p1), (2, .int p2), (3, .int x2), (4, .int x3)] [] m0 (EQ X (some (.int rr)) m0)
  rw [f_X8_hearingsIn_L5] at h
  refine a_iload (pc := 5) F dX8_hearingsIn_5 4 rfl ?_
  refine a_aload_n (pc := 7) F dX8_hearingsIn_7 0 rfl ?_
  refine a_getr (k := 162) (r := 163) (pc := 8) F dX8_hearingsIn_8 fl_RX8_7 kl_162 ks_162 rfl ?_
  refine a_bipush (v := 8) (pc := 11) F dX8_hearingsIn_11 (by decide) ?_
  refine a_ialc (k := 163) (pc := 13) F dX8_hearingsIn_13 kl_163 ks_163 rfl rfl ?_
  refine a_icmp_ge (tgt := 56) (pc := 14) F dX8_hearingsIn_14 (by decide) (fun q4 => ?_) (fun q4 => ?_)
  · replace h := ite_t q4 h
    clear q4
    refine a_lv F [3] rfl ?_
    cases hT1 _ (Option.some.inj h).symm
    exact hE1
  · replace h := ite_f q4 h
    clear q4
    refine a_iload_n (pc := 17) F dX8_hearingsIn_17 3 rfl ?_
    refine a_aload_n (pc := 18) F dX8_hearingsIn_18 0 rfl ?_
    refine a_iload (pc := 19) F dX8_hearingsIn_19 4 rfl ?_
    refine a_iconst (v := 4) (pc := 21) F dX8_hearingsIn_21 (by decide) ?_
    replace h := bnd_some h
    obtain ⟨x6, hc5, h⟩ := h
    refine a_callV (pc := 22) (k := 162) (As := [.int x3, .int 4]) (st := [.int x2]) F dX8_hearingsIn_22 (m_X8_of hc5) cv_RX8_42 kl_162 ks_162 ⟨_, _, rfl⟩ rfl rfl rfl (Nat.le_of_ble_eq_true rfl) ⟨Nat.le_of_ble_eq_true rfl, Nat.le_of_ble_eq_true rfl⟩ ?_ rfl rfl
    clear hc5
    refine a_iload_n (pc := 25) F dX8_hearingsIn_25 1 rfl ?_
    refine a_icmp_ne (tgt := 47) (pc := 26) F dX8_hearingsIn_26 (by decide) (fun q7 => ?_) (fun q7 => ?_)
    · replace h := ite_f q7 h
      clear q7
      refine a_iconst (v := 0) (pc := 47) F dX8_hearingsIn_47 (by decide) ?_
      refine a_iadd (pc := 48) F dX8_hearingsIn_48 ?_
      refine a_istore_n (lv' := [(3, .int (x2 + 0)), (0, .ref (ga X.G 162)), (1, .int p1), (2, .int p2), (4, .int x3)]) (pc := 49) F dX8_hearingsIn_49 (by decide) rfl ?_
      obtain ⟨x8, ex8⟩ : ∃ x8 : Int32, x8 = x3 + 1 := ⟨_, rfl⟩
      refine a_iinc (v := x8) (lv' := [(4, .int x8), (3, .int (x2 + 0)), (0, .ref (ga X.G 162)), (1, .int p1), (2, .int p2)]) (pc := 50) F dX8_hearingsIn_50 4 rfl (by rw [ex8]; rfl) (by decide) rfl ?_
      replace h := nm_at ex8 h
      clear ex8
      refine a_goto (tgt := 5) (pc := 53) F dX8_hearingsIn_53 (by decide) ?_
      refine a_lv F [2, 3, 4, 1, 0] rfl ?_
      exact hP1 _ (Option.some.inj h).symm
    · replace h := ite_t (Decidable.not_not.mp q7) h
      clear q7
      refine a_iload_n (pc := 29) F dX8_hearingsIn_29 2 rfl ?_
      refine a_if_eq (tgt := 43) (pc := 30) F dX8_hearingsIn_30 (by decide) (fun q9 => ?_) (fun q9 => ?_)
      · replace h := ite_t q9 h
        clear q9
        refine a_iconst (v := 1) (pc := 43) F dX8_hearingsIn_43 (by decide) ?_
        refine a_goto (tgt := 48) (pc := 44) F dX8_hearingsIn_44 (by decide) ?_
        refine a_iadd (pc := 48) F dX8_hearingsIn_48 ?_
        refine a_istore_n (lv' := [(3, .int (x2 + 1)), (0, .ref (ga X.G 162)), (1, .int p1), (2, .int p2), (4, .int x3)]) (pc := 49) F dX8_hearingsIn_49 (by decide) rfl ?_
        obtain ⟨x10, ex10⟩ : ∃ x10 : Int32, x10 = x3 + 1 := ⟨_, rfl⟩
        refine a_iinc (v := x10) (lv' := [(4, .int x10), (3, .int (x2 + 1)), (0, .ref (ga X.G 162)), (1, .int p1), (2, .int p2)]) (pc := 50) F dX8_hearingsIn_50 4 rfl (by rw [ex10]; rfl) (by decide) rfl ?_
        replace h := nm_at ex10 h
        clear ex10
        refine a_goto (tgt := 5) (pc := 53) F dX8_hearingsIn_53 (by decide) ?_
        refine a_lv F [2, 3, 4, 1, 0] rfl ?_
        exact hP1 _ (Option.some.inj h).symm
      · replace h := ite_f q9 h
        clear q9
        refine a_aload_n (pc := 33) F dX8_hearingsIn_33 0 rfl ?_
        refine a_iload (pc := 34) F dX8_hearingsIn_34 4 rfl ?_
        refine a_iconst (v := 5) (pc := 36) F dX8_hearingsIn_36 (by decide) ?_
        replace h := bnd_some h
        obtain ⟨x12, hc11, h⟩ := h
        refine a_callV (pc := 37) (k := 162) (As := [.int x3, .int 5]) (st := [.int x2]) F dX8_hearingsIn_37 (m_X8_of hc11) cv_RX8_42 kl_162 ks_162 ⟨_, _, rfl⟩ rfl rfl rfl (Nat.le_of_ble_eq_true rfl) ⟨Nat.le_of_ble_eq_true rfl, Nat.le_of_ble_eq_true rfl⟩ ?_ rfl rfl
        clear hc11
        refine a_if_le (tgt := 47) (pc := 40) F dX8_hearingsIn_40 (by decide) (fun q13 => ?_) (fun q13 => ?_)
        · replace h := ite_t q13 h
          clear q13
          refine a_iconst (v := 0) (pc := 47) F dX8_hearingsIn_47 (by decide) ?_
          refine a_iadd (pc := 48) F dX8_hearingsIn_48 ?_
          refine a_istore_n (lv' := [(3, .int (x2 + 0)), (0, .ref (ga X.G 162)), (1, .int p1), (2, .int p2), (4, .int x3)]) (pc := 49) F dX8_hearingsIn_49 (by decide) rfl ?_
          obtain ⟨x14, ex14⟩ : ∃ x14 : Int32, x14 = x3 + 1 := ⟨_, rfl⟩
          refine a_iinc (v := x14) (lv' := [(4, .int x14), (3, .int (x2 + 0)), (0, .ref (ga X.G 162)), (1, .int p1), (2, .int p2)]) (pc := 50) F dX8_hearingsIn_50 4 rfl (by rw [ex14]; rfl) (by decide) rfl ?_
          replace h := nm_at ex14 h
          clear ex14
          refine a_goto (tgt := 5) (pc := 53) F dX8_hearingsIn_53 (by decide) ?_
          refine a_lv F [2, 3, 4, 1, 0] rfl ?_
          exact hP1 _ (Option.some.inj h).symm
        · replace h := ite_f q13 h
          clear q13
          refine a_iconst (v := 1) (pc := 43) F dX8_hearingsIn_43 (by decide) ?_
          refine a_goto (tgt := 48) (pc := 44) F dX8_hearingsIn_44 (by decide) ?_
          refine a_iadd (pc := 48) F dX8_hearingsIn_48 ?_
          refine a_istore_n (lv' := [(3, .int (x2 + 1)), (0, .ref (ga X.G 162)), (1, .int p1), (2, .int p2), (4, .int x3)]) (pc := 49) F dX8_hearingsIn_49 (by decide) rfl ?_
          obtain ⟨x15, ex15⟩ : ∃ x15 : Int32, x15 = x3 + 1 := ⟨_, rfl⟩
          refine a_iinc (v := x15) (lv' := [(4, .int x15), (3, .int (x2 + 1)), (0, .ref (ga X.G 162)), (1, .int p1), (2, .int p2)]) (pc := 50) F dX8_hearingsIn_50 4 rfl (by rw [ex15]; rfl) (by decide) rfl ?_
          replace h := nm_at ex15 h
          clear ex15
          refine a_goto (tgt := 5) (pc := 53) F dX8_hearingsIn_53 (by decide) ?_
          refine a_lv F [2, 3, 4, 1, 0] rfl ?_
          exact hP1 _ (Option.some.inj h).symm
