def f_X7_bitsOfShare_L18 : (UInt64 × Int64 × Int32) → Option ((UInt64 × Int64 × Int32) ⊕ (UInt64 × Int64))
  | (z5, y6, x7) => (if 1000 ≤ x7 then some (.inr (z5, y6)) else nm (Op.cmpValue (FP.dcmp z5 0x3ff0000000000000) .g) fun x9 => (if 0 ≤ x9 then some (.inr (z5, y6)) else gDn (FP.dmul z5 4611686018427387904) <| nm (FP.dmul z5 4611686018427387904) fun z12 => nm (x7 + 1) fun x13 => some (.inl (z12, y6 - (1 : Int64), x13))))
def f_X7_bitsOfShare (p1 : UInt64) (m0 : Mem) : Option Int64 :=
  nm (Op.cmpValue (FP.dcmp p1 0) .g) fun x1 => jn ((if 0 < x1 then bnd (lp (f_X7_bitsOfShare_L18) 1000000 (p1, 1023, 0)) (fun (z14, y15) => some (.inl (z14, y15))) else some (.inr 0))) (fun ((z16, y17) : UInt64 × Int64) => gDn (FP.dsub z16 0x3ff0000000000000) <| nm (FP.dsub z16 0x3ff0000000000000) fun z19 => gDn (FP.dmul z19 4841369599423283200) <| nm (FP.dmul z19 4841369599423283200) fun z21 => nm (y17 <<< ((52 : Int32).toInt64 &&& 63)) fun y22 => some (y22 ||| (FP.d2l z21)))
set_option maxRecDepth 100000 in
set_option maxHeartbeats 4000000 in
theorem m_X7_bitsOfShare {p1 : UInt64} {m0 : Mem} {rr : Int64} (h : f_X7_bitsOfShare p1 m0 = some rr) : Con yX7_bitsOfShare cX7_bitsOfShare 8 (some Jvm.ClassFile.FieldType.long) 0 0 (fun G => [.double p1]) m0 (some (.long rr)) m0 := by
  refine con_of (by decide) (fun G => Nat.le_of_ble_eq_true rfl) (fun X F => ?_)
  show WA X 0 0 0 [(0, .double p1)] [] m0 (EQ X (some (.long rr)) m0)
  rw [f_X7_bitsOfShare] at h
  refine a_dload_n (pc := 0) F dX7_bitsOfShare_0 0 rfl ?_
  refine a_dconst0 (pc := 1) F dX7_bitsOfShare_1 ?_
  refine a_dcmp (pc := 2) F dX7_bitsOfShare_2 ?_
  refine a_nmi fun x1 ex1 => ?_
  replace h := nm_at ex1 h
  clear ex1
  replace h := jn_some h
  obtain ⟨o2, hR2, hK2, hB2⟩ := h
  have hJ2 : ∀ (z16 : UInt64) (y17 : Int64), o2 = .inl (z16, y17) → WA X 0 0 50 [(2, .double z16), (4, .long y17)] [] m0 (EQ X (some (.long rr)) m0) := by
    intro z16 y17 eo
    have h := hK2 _ eo
    clear hK2 eo
    refine a_dload_n (pc := 50) F dX7_bitsOfShare_50 0 rfl ?_
    refine a_dconst1 (pc := 51) F dX7_bitsOfShare_51 ?_
    replace h := gDn_some h
    obtain ⟨g18, h⟩ := h
    refine a_dsub (pc := 52) F dX7_bitsOfShare_52 g18 ?_
    refine a_nmd fun z19 ez19 => ?_
    replace h := nm_at ez19 h
    clear ez19
    refine a_ldc2d (v := 4841369599423283200) (pc := 53) F dX7_bitsOfShare_53 cw_RX7_335 ?_
    replace h := gDn_some h
    obtain ⟨g20, h⟩ := h
    refine a_dmul (pc := 56) F dX7_bitsOfShare_56 g20 ?_
    refine a_nmd fun z21 ez21 => ?_
    replace h := nm_at ez21 h
    clear ez21
    refine a_d2l (pc := 57) F dX7_bitsOfShare_57 ?_
    refine a_lstore (lv' := [(6, .long (FP.d2l z21)), (2, .double z16), (4, .long y17)]) (pc := 58) F dX7_bitsOfShare_58 (by decide) rfl ?_
    refine a_lload (pc := 60) F dX7_bitsOfShare_60 2 rfl ?_
    refine a_bipush (v := 52) (pc := 62) F dX7_bitsOfShare_62 (by decide) ?_
    refine a_lshl (pc := 64) F dX7_bitsOfShare_64 ?_
    refine a_nml fun y22 ey22 => ?_
    replace h := nm_at ey22 h
    clear ey22
    refine a_lload (pc := 65) F dX7_bitsOfShare_65 0 rfl ?_
    refine a_lor (pc := 67) F dX7_bitsOfShare_67 ?_
    cases h
    exact a_lret (pc := 68) F dX7_bitsOfShare_68 rfl
  clear hK2
  have h := hR2
  clear hR2
  refine a_if_gt (tgt := 8) (pc := 3) F dX7_bitsOfShare_3 (by decide) (fun q3 => ?_) (fun q3 => ?_)
  · replace h := ite_t q3 h
    clear q3
    refine a_dload_n (pc := 8) F dX7_bitsOfShare_8 0 rfl ?_
    refine a_dstore_n (lv' := [(2, .double p1), (0, .double p1)]) (pc := 9) F dX7_bitsOfShare_9 (by decide) rfl ?_
    refine a_ldc2l (v := 1023) (pc := 10) F dX7_bitsOfShare_10 cw_RX7_331 ?_
    refine a_lstore (lv' := [(4, .long 1023), (2, .double p1), (0, .double p1)]) (pc := 13) F dX7_bitsOfShare_13 (by decide) rfl ?_
    refine a_iconst (v := 0) (pc := 15) F dX7_bitsOfShare_15 (by decide) ?_
    refine a_istore (lv' := [(6, .int 0), (4, .long 1023), (2, .double p1), (0, .double p1)]) (pc := 16) F dX7_bitsOfShare_16 (by decide) rfl ?_
    refine a_lv F [2, 1, 0] rfl ?_
    replace h := bnd_some h
    obtain ⟨⟨z14, y15⟩, hL4, h⟩ := h
    have hE4 : WA X 0 0 50 [(2, .double z14), (4, .long y15)] [] m0 (EQ X (some (.long rr)) m0) := by
      exact hJ2 _ _ (Option.some.inj h).symm
    clear h
    refine lp_run (P := fun (s : (UInt64 × Int64 × Int32)) => WA X 0 0 18 [(2, .double s.1), (4, .long s.2.1), (6, .int s.2.2)] [] m0 (EQ X (some (.long rr)) m0)) ?_ _ _ hL4
    clear hL4
    rintro ⟨z5, y6, x7⟩ xo h hP4 hT4
    show WA X 0 0 18 [(2, .double z5), (4, .long y6), (6, .int x7)] [] m0 (EQ X (some (.long rr)) m0)
    rw [f_X7_bitsOfShare_L18] at h
    refine a_iload (pc := 18) F dX7_bitsOfShare_18 2 rfl ?_
    refine a_sipush (v := 1000) (pc := 20) F dX7_bitsOfShare_20 (by decide) ?_
    refine a_icmp_ge (tgt := 50) (pc := 23) F dX7_bitsOfShare_23 (by decide) (fun q8 => ?_) (fun q8 => ?_)
    · replace h := ite_t q8 h
      clear q8
      refine a_lv F [0, 1] rfl ?_
      cases hT4 _ (Option.some.inj h).symm
      exact hE4
    · replace h := ite_f q8 h
      clear q8
      refine a_dload_n (pc := 26) F dX7_bitsOfShare_26 0 rfl ?_
      refine a_dconst1 (pc := 27) F dX7_bitsOfShare_27 ?_
      refine a_dcmp (pc := 28) F dX7_bitsOfShare_28 ?_
      refine a_nmi fun x9 ex9 => ?_
      replace h := nm_at ex9 h
      clear ex9
      refine a_if_ge (tgt := 50) (pc := 29) F dX7_bitsOfShare_29 (by decide) (fun q10 => ?_) (fun q10 => ?_)
      · replace h := ite_t q10 h
        clear q10
        refine a_lv F [0, 1] rfl ?_
        cases hT4 _ (Option.some.inj h).symm
        exact hE4
      · replace h := ite_f q10 h
        clear q10
        refine a_dload_n (pc := 32) F dX7_bitsOfShare_32 0 rfl ?_
        refine a_ldc2d (v := 4611686018427387904) (pc := 33) F dX7_bitsOfShare_33 cw_RX7_333 ?_
        replace h := gDn_some h
        obtain ⟨g11, h⟩ := h
        refine a_dmul (pc := 36) F dX7_bitsOfShare_36 g11 ?_
        refine a_nmd fun z12 ez12 => ?_
        replace h := nm_at ez12 h
        clear ez12
        refine a_dstore_n (lv' := [(2, .double z12), (4, .long y6), (6, .int x7)]) (pc := 37) F dX7_bitsOfShare_37 (by decide) rfl ?_
        refine a_lload (pc := 38) F dX7_bitsOfShare_38 1 rfl ?_
        refine a_lconst (v := 1) (pc := 40) F dX7_bitsOfShare_40 (by decide) ?_
        refine a_lsub (pc := 41) F dX7_bitsOfShare_41 ?_
        refine a_lstore (lv' := [(4, .long (y6 - (1 : Int64))), (2, .double z12), (6, .int x7)]) (pc := 42) F dX7_bitsOfShare_42 (by decide) rfl ?_
        obtain ⟨x13, ex13⟩ : ∃ x13 : Int32, x13 = x7 + 1 := ⟨_, rfl⟩
        refine a_iinc (v := x13) (lv' := [(6, .int x13), (4, .long (y6 - (1 : Int64))), (2, .double z12)]) (pc := 44) F dX7_bitsOfShare_44 2 rfl (by rw [ex13]; rfl) (by decide) rfl ?_
        replace h := nm_at ex13 h
        clear ex13
        refine a_goto (tgt := 18) (pc := 47) F dX7_bitsOfShare_47 (by decide) ?_
        refine a_lv F [2, 1, 0] rfl ?_
        exact hP4 _ (Option.some.inj h).symm
  · replace h := ite_f q3 h
    clear q3
    refine a_lconst (v := 0) (pc := 6) F dX7_bitsOfShare_6 (by decide) ?_
    replace h := hB2 _ (Option.some.inj h).symm
    cases h
    exact a_lret (pc := 7) F dX7_bitsOfShare_7 rfl
def f_X0_mixInto_L13 (m0 : Mem) : (Int64 × Int32) → Option ((Int64 × Int32) ⊕ Int64)
  | (y4, x5) => (if (m0.1 155 0) ≤ x5 then some (.inr y4) else bnd (f_X0_codeAt x5 m0) fun x8 => bnd (f_X7_mix y4 x8.toInt64 m0) fun y10 => nm (x5 + 1) fun x11 => some (.inl (y10, x11)))
def f_X0_mixInto (p1 : Int64) (m0 : Mem) : Option Int64 :=
  bnd (f_X7_mix p1 ((m0.1 155 0).toInt64) m0) fun y2 => bnd (lp (f_X0_mixInto_L13 m0) 1000000 (y2, 0)) (fun y12 => some y12)
set_option maxRecDepth 100000 in
set_option maxHeartbeats 4000000 in
theorem m_X0_mixInto {p1 : Int64} {m0 : Mem} {rr : Int64} (h : f_X0_mixInto p1 m0 = some rr) : Con yX0_mixInto cX0_mixInto 6 (some Jvm.ClassFile.FieldType.long) 1 23 (fun G => [.ref (ga G 155), .long p1]) m0 (some (.long rr)) m0 := by
  refine con_of (by decide) (fun G => Nat.le_of_ble_eq_true rfl) (fun X F => ?_)
  show WA X 0 0 0 [(0, .ref (ga X.G 155)), (1, .long p1)] [] m0 (EQ X (some (.long rr)) m0)
  rw [f_X0_mixInto] at h
  refine a_lload_n (pc := 0) F dX0_mixInto_0 1 rfl ?_
  refine a_aload_n (pc := 1) F dX0_mixInto_1 0 rfl ?_
  refine a_geti (k := 155) (pc := 2) F dX0_mixInto_2 fl_RX0_15 kl_155 ks_155 rfl ?_
  refine a_i2l (pc := 5) F dX0_mixInto_5 ?_
  replace h := bnd_some h
  obtain ⟨y2, hc1, h⟩ := h
  refine a_callSN (pc := 6) (As := [.long p1, .long ((m0.1 155 0).toInt64)]) (st := []) F dX0_mixInto_6 (m_X7_mix hc1) cn_RX0_19 rfl rfl rfl (Nat.le_of_ble_eq_true rfl) ⟨Nat.le_of_ble_eq_true rfl, Nat.le_of_ble_eq_true rfl⟩ ?_ rfl rfl
  clear hc1
  refine a_lstore_n (lv' := [(3, .long y2), (0, .ref (ga X.G 155)), (1, .long p1)]) (pc := 9) F dX0_mixInto_9 (by decide) rfl ?_
  refine a_iconst (v := 0) (pc := 10) F dX0_mixInto_10 (by decide) ?_
  refine a_istore (lv' := [(5, .int 0), (3, .long y2), (0, .ref (ga X.G 155)), (1, .long p1)]) (pc := 11) F dX0_mixInto_11 (by decide) rfl ?_
  refine a_lv F [2, 1, 0] rfl ?_
  replace h := bnd_some h
  obtain ⟨y12, hL3, h⟩ := h
  have hE3 : WA X 0 0 40 [(3, .long y12)] [] m0 (EQ X (some (.long rr)) m0) := by
    refine a_lload_n (pc := 40) F dX0_mixInto_40 0 rfl ?_
    cases h
    exact a_lret (pc := 41) F dX0_mixInto_41 rfl
  clear h
  refine lp_run (P := fun (s : (Int64 × Int32)) => WA X 0 0 13 [(0, .ref (ga X.G 155)), (3, .long s.1), (5, .int s.2)] [] m0 (EQ X (some (.long rr)) m0)) ?_ _ _ hL3
  clear hL3
  rintro ⟨y4, x5⟩ xo h hP3 hT3
  show WA X 0 0 13 [(0, .ref (ga X.G 155)), (3, .long y4), (5, .int x5)] [] m0 (EQ X (some (.long rr)) m0)
  rw [f_X0_mixInto_L13] at h
  refine a_iload (pc := 13) F dX0_mixInto_13 2 rfl ?_
  refine a_aload_n (pc := 15) F dX0_mixInto_15 0 rfl ?_
  refine a_geti (k := 155) (pc := 16) F dX0_mixInto_16 fl_RX0_15 kl_155 ks_155 rfl ?_
  refine a_icmp_ge (tgt := 40) (pc := 19) F dX0_mixInto_19 (by decide) (fun q6 => ?_) (fun q6 => ?_)
  · replace h := ite_t q6 h
    clear q6
    refine a_lv F [1] rfl ?_
    cases hT3 _ (Option.some.inj h).symm
    exact hE3
  · replace h := ite_f q6 h
    clear q6
    refine a_lload_n (pc := 22) F dX0_mixInto_22 1 rfl ?_
    refine a_aload_n (pc := 23) F dX0_mixInto_23 0 rfl ?_
    refine a_iload (pc := 24) F dX0_mixInto_24 2 rfl ?_
    replace h := bnd_some h
    obtain ⟨x8, hc7, h⟩ := h
    refine a_callV (pc := 26) (k := 155) (As := [.int x5]) (st := [.long y4]) F dX0_mixInto_26 (m_X0_codeAt hc7) cv_RX0_23 kl_155 ks_155 ⟨_, _, rfl⟩ rfl rfl rfl (Nat.le_of_ble_eq_true rfl) ⟨Nat.le_of_ble_eq_true rfl, Nat.le_of_ble_eq_true rfl⟩ ?_ rfl rfl
    clear hc7
    refine a_i2l (pc := 29) F dX0_mixInto_29 ?_
    replace h := bnd_some h
    obtain ⟨y10, hc9, h⟩ := h
    refine a_callSN (pc := 30) (As := [.long y4, .long x8.toInt64]) (st := []) F dX0_mixInto_30 (m_X7_mix hc9) cn_RX0_19 rfl rfl rfl (Nat.le_of_ble_eq_true rfl) ⟨Nat.le_of_ble_eq_true rfl, Nat.le_of_ble_eq_true rfl⟩ ?_ rfl rfl
    clear hc9
    refine a_lstore_n (lv' := [(3, .long y10), (0, .ref (ga X.G 155)), (5, .int x5)]) (pc := 33) F dX0_mixInto_33 (by decide) rfl ?_
    obtain ⟨x11, ex11⟩ : ∃ x11 : Int32, x11 = x5 + 1 := ⟨_, rfl⟩
    refine a_iinc (v := x11) (lv' := [(5, .int x11), (3, .long y10), (0, .ref (ga X.G 155))]) (pc := 34) F dX0_mixInto_34 2 rfl (by rw [ex11]; rfl) (by decide) rfl ?_
    replace h := nm_at ex11 h
    clear ex11
    refine a_goto (tgt := 13) (pc := 37) F dX0_mixInto_37 (by decide) ?_
    refine a_lv F [2, 1, 0] rfl ?_
    exact hP3 _ (Option.some.inj h).symm
def f_X7_digest_L94 (m30 : Mem) : (Int64 × Int32) → Option ((Int64 × Int32) ⊕ Int64)
  | (y34, x35) => (if 3 ≤ x35 then some (.inr y34) else bnd (f_X6_languagesWithoutChain 1 x35 m30) fun x38 => bnd (f_X7_mix y34 x38.toInt64 m30) fun y40 => nm (x35 + 1) fun x41 => some (.inl (y40, x41)))
def f_X7_digest_L31 (m0 : Mem) : (Int64 × Int32) → Option ((Int64 × Int32) ⊕ Int64)
  | (y12, x13) => (if (Int32.ofNat 7) ≤ x13 then some (.inr y12) else gIn x13 7 <| nm (m0.1 (1 + 18) x13.toNatClampNeg) fun x16 => bnd (f_X7_mix y12 x16.toInt64 m0) fun y18 => nm (x13 + 1) fun x19 => some (.inl (y18, x19)))
def f_X7_digest_L6 (m0 : Mem) : (Int64 × Int32) → Option ((Int64 × Int32) ⊕ Int64)
  | (y2, x3) => (if 12 < x3 then some (.inr y2) else bnd (f_X7_count x3 m0) fun x6 => bnd (f_X7_mix y2 x6.toInt64 m0) fun y8 => nm (x3 + 1) fun x9 => some (.inl (y8, x9)))
def f_X7_digest (m0 : Mem) : Option (Int64 × Mem) :=
  bnd (lp (f_X7_digest_L6 m0) 1000000 (2399, 0)) (fun y10 => bnd (lp (f_X7_digest_L31 m0) 1000000 (y10, 0)) (fun y20 => bnd (f_X7_imagineLater 60 m0) fun m22 => bnd (f_X7_mixInterpreters y20 m22) fun y24 => bnd2 (f_X7_mixHearings y24 m22) fun y26 m27 => bnd2 (f_X7_mannable m27) fun x29 m30 => bnd (f_X7_mix y26 x29.toInt64 m30) fun y32 => bnd (lp (f_X7_digest_L94 m30) 1000000 (y32, 0)) (fun y42 => bnd (f_X7_doneShare m30) fun z44 => bnd (f_X7_bitsOfShare z44 m30) fun y46 => bnd (f_X7_mix y42 y46 m30) fun y48 => bnd (f_X0_mixInto y48 m30) fun y50 => some (y50, m30))))
set_option maxRecDepth 100000 in
set_option maxHeartbeats 4000000 in
theorem m_X7_digest {m0 : Mem} {rr : Int64} {mm : Mem} (h : f_X7_digest m0 = some (rr, mm)) : Con yX7_digest cX7_digest 4 (some Jvm.ClassFile.FieldType.long) 6 149 (fun G => [.ref (ga G 0)]) m0 (some (.long rr)) mm := by
  refine con_of (by decide) (fun G => Nat.le_of_ble_eq_true rfl) (fun X F => ?_)
  show WA X 0 0 0 [(0, .ref (ga X.G 0))] [] m0 (EQ X (some (.long rr)) mm)
  rw [f_X7_digest] at h
  refine a_ldc2l (v := 2399) (pc := 0) F dX7_digest_0 cw_RX7_294 ?_
  refine a_lstore_n (lv' := [(1, .long 2399), (0, .ref (ga X.G 0))]) (pc := 3) F dX7_digest_3 (by decide) rfl ?_
  refine a_iconst (v := 0) (pc := 4) F dX7_digest_4 (by decide) ?_
  refine a_istore_n (lv' := [(3, .int 0), (1, .long 2399), (0, .ref (ga X.G 0))]) (pc := 5) F dX7_digest_5 (by decide) rfl ?_
  refine a_lv F [2, 1, 0] rfl ?_
  replace h := bnd_some h
  obtain ⟨y10, hL1, h⟩ := h
  have hE1 : WA X 0 0 29 [(0, .ref (ga X.G 0)), (1, .long y10)] [] m0 (EQ X (some (.long rr)) mm) := by
    refine a_iconst (v := 0) (pc := 29) F dX7_digest_29 (by decide) ?_
    refine a_istore_n (lv' := [(3, .int 0), (0, .ref (ga X.G 0)), (1, .long y10)]) (pc := 30) F dX7_digest_30 (by decide) rfl ?_
    refine a_lv F [1, 2, 0] rfl ?_
    replace h := bnd_some h
    obtain ⟨y20, hL11, h⟩ := h
    have hE11 : WA X 0 0 64 [(0, .ref (ga X.G 0)), (1, .long y20)] [] m0 (EQ X (some (.long rr)) mm) := by
      refine a_aload_n (pc := 64) F dX7_digest_64 0 rfl ?_
      refine a_bipush (v := 60) (pc := 65) F dX7_digest_65 (by decide) ?_
      replace h := bnd_some h
      obtain ⟨m22, hc21, h⟩ := h
      refine a_callV (pc := 67) (k := 0) (As := [.int 60]) (st := []) F dX7_digest_67 (m_X7_imagineLater hc21) cv_RX7_257 kl_0 ks_0 ⟨_, _, rfl⟩ rfl rfl rfl (Nat.le_of_ble_eq_true rfl) ⟨Nat.le_of_ble_eq_true rfl, Nat.le_of_ble_eq_true rfl⟩ ?_ rfl rfl
      clear hc21
      refine a_aload_n (pc := 70) F dX7_digest_70 0 rfl ?_
      refine a_lload_n (pc := 71) F dX7_digest_71 1 rfl ?_
      replace h := bnd_some h
      obtain ⟨y24, hc23, h⟩ := h
      refine a_callV (pc := 72) (k := 0) (As := [.long y20]) (st := []) F dX7_digest_72 (m_X7_mixInterpreters hc23) cv_RX7_302 kl_0 ks_0 ⟨_, _, rfl⟩ rfl rfl rfl (Nat.le_of_ble_eq_true rfl) ⟨Nat.le_of_ble_eq_true rfl, Nat.le_of_ble_eq_true rfl⟩ ?_ rfl rfl
      clear hc23
      refine a_lstore_n (lv' := [(1, .long y24), (0, .ref (ga X.G 0))]) (pc := 75) F dX7_digest_75 (by decide) rfl ?_
      refine a_aload_n (pc := 76) F dX7_digest_76 1 rfl ?_
      refine a_lload_n (pc := 77) F dX7_digest_77 0 rfl ?_
      replace h := bnd2_some h
      obtain ⟨y26, m27, hc25, h⟩ := h
      refine a_callV (pc := 78) (k := 0) (As := [.long y24]) (st := []) F dX7_digest_78 (m_X7_mixHearings hc25) cv_RX7_306 kl_0 ks_0 ⟨_, _, rfl⟩ rfl rfl rfl (Nat.le_of_ble_eq_true rfl) ⟨Nat.le_of_ble_eq_true rfl, Nat.le_of_ble_eq_true rfl⟩ ?_ rfl rfl
      clear hc25
      refine a_lstore_n (lv' := [(1, .long y26), (0, .ref (ga X.G 0))]) (pc := 81) F dX7_digest_81 (by decide) rfl ?_
      refine a_lload_n (pc := 82) F dX7_digest_82 0 rfl ?_
      refine a_aload_n (pc := 83) F dX7_digest_83 1 rfl ?_
      replace h := bnd2_some h
      obtain ⟨x29, m30, hc28, h⟩ := h
      refine a_callV (pc := 84) (k := 0) (As := []) (st := [.long y26]) F dX7_digest_84 (m_X7_mannable hc28) cv_RX7_309 kl_0 ks_0 ⟨_, _, rfl⟩ rfl rfl rfl (Nat.le_of_ble_eq_true rfl) ⟨Nat.le_of_ble_eq_true rfl, Nat.le_of_ble_eq_true rfl⟩ ?_ rfl rfl
      clear hc28
      refine a_i2l (pc := 87) F dX7_digest_87 ?_
      replace h := bnd_some h
      obtain ⟨y32, hc31, h⟩ := h
      refine a_callS (pc := 88) (As := [.long y26, .long x29.toInt64]) (st := []) F dX7_digest_88 (m_X7_mix hc31) cs_RX7_298 rfl rfl rfl (Nat.le_of_ble_eq_true rfl) ⟨Nat.le_of_ble_eq_true rfl, Nat.le_of_ble_eq_true rfl⟩ ?_ rfl rfl
      clear hc31
      refine a_lstore_n (lv' := [(1, .long y32), (0, .ref (ga X.G 0))]) (pc := 91) F dX7_digest_91 (by decide) rfl ?_
      refine a_iconst (v := 0) (pc := 92) F dX7_digest_92 (by decide) ?_
      refine a_istore_n (lv' := [(3, .int 0), (1, .long y32), (0, .ref (ga X.G 0))]) (pc := 93) F dX7_digest_93 (by decide) rfl ?_
      refine a_lv F [2, 1, 0] rfl ?_
      replace h := bnd_some h
      obtain ⟨y42, hL33, h⟩ := h
      have hE33 : WA X 0 0 122 [(0, .ref (ga X.G 0)), (1, .long y42)] [] m30 (EQ X (some (.long rr)) mm) := by
        refine a_lload_n (pc := 122) F dX7_digest_122 1 rfl ?_
        refine a_aload_n (pc := 123) F dX7_digest_123 0 rfl ?_
        replace h := bnd_some h
        obtain ⟨z44, hc43, h⟩ := h
        refine a_callV (pc := 124) (k := 0) (As := []) (st := [.long y42]) F dX7_digest_124 (m_X7_doneShare hc43) cv_RX7_312 kl_0 ks_0 ⟨_, _, rfl⟩ rfl rfl rfl (Nat.le_of_ble_eq_true rfl) ⟨Nat.le_of_ble_eq_true rfl, Nat.le_of_ble_eq_true rfl⟩ ?_ rfl rfl
        clear hc43
        replace h := bnd_some h
        obtain ⟨y46, hc45, h⟩ := h
        refine a_callS (pc := 127) (As := [.double z44]) (st := [.long y42]) F dX7_digest_127 (m_X7_bitsOfShare hc45) cs_RX7_316 rfl rfl rfl (Nat.le_of_ble_eq_true rfl) ⟨Nat.le_of_ble_eq_true rfl, Nat.le_of_ble_eq_true rfl⟩ ?_ rfl rfl
        clear hc45
        replace h := bnd_some h
        obtain ⟨y48, hc47, h⟩ := h
        refine a_callS (pc := 130) (As := [.long y42, .long y46]) (st := []) F dX7_digest_130 (m_X7_mix hc47) cs_RX7_298 rfl rfl rfl (Nat.le_of_ble_eq_true rfl) ⟨Nat.le_of_ble_eq_true rfl, Nat.le_of_ble_eq_true rfl⟩ ?_ rfl rfl
        clear hc47
        refine a_lstore_n (lv' := [(1, .long y48), (0, .ref (ga X.G 0))]) (pc := 133) F dX7_digest_133 (by decide) rfl ?_
        refine a_aload_n (pc := 134) F dX7_digest_134 1 rfl ?_
        refine a_getr (k := 0) (r := 155) (pc := 135) F dX7_digest_135 fl_RX7_29 kl_0 ks_0 rfl ?_
        refine a_lload_n (pc := 138) F dX7_digest_138 0 rfl ?_
        replace h := bnd_some h
        obtain ⟨y50, hc49, h⟩ := h
        refine a_callV (pc := 139) (k := 155) (As := [.long y48]) (st := []) F dX7_digest_139 (m_X0_mixInto hc49) cv_RX7_320 kl_155 ks_155 ⟨_, _, rfl⟩ rfl rfl rfl (Nat.le_of_ble_eq_true rfl) ⟨Nat.le_of_ble_eq_true rfl, Nat.le_of_ble_eq_true rfl⟩ ?_ rfl rfl
        clear hc49
        cases h
        exact a_lret (pc := 142) F dX7_digest_142 rfl
      clear h
      refine lp_run (P := fun (s : (Int64 × Int32)) => WA X 0 0 94 [(0, .ref (ga X.G 0)), (1, .long s.1), (3, .int s.2)] [] m30 (EQ X (some (.long rr)) mm)) ?_ _ _ hL33
      clear hL33
      rintro ⟨y34, x35⟩ xo h hP33 hT33
      show WA X 0 0 94 [(0, .ref (ga X.G 0)), (1, .long y34), (3, .int x35)] [] m30 (EQ X (some (.long rr)) mm)
      rw [f_X7_digest_L94] at h
      refine a_iload_n (pc := 94) F dX7_digest_94 2 rfl ?_
      refine a_iconst (v := 3) (pc := 95) F dX7_digest_95 (by decide) ?_
      refine a_icmp_ge (tgt := 122) (pc := 96) F dX7_digest_96 (by decide) (fun q36 => ?_) (fun q36 => ?_)
      · replace h := ite_t q36 h
        clear q36
        refine a_lv F [0, 1] rfl ?_
        cases hT33 _ (Option.some.inj h).symm
        exact hE33
      · replace h := ite_f q36 h
        clear q36
        refine a_lload_n (pc := 99) F dX7_digest_99 1 rfl ?_
        refine a_aload_n (pc := 100) F dX7_digest_100 0 rfl ?_
        refine a_getr (k := 0) (r := 1) (pc := 101) F dX7_digest_101 fl_RX7_10 kl_0 ks_0 rfl ?_
        refine a_getr (k := 1) (r := (1 + 1)) (pc := 104) F dX7_digest_104 fl_RX7_64 (klC_0 isC_1) (ksC_0 isC_1) rfl ?_
        refine a_iload_n (pc := 107) F dX7_digest_107 2 rfl ?_
        replace h := bnd_some h
        obtain ⟨x38, hc37, h⟩ := h
        refine a_callV (pc := 108) (k := (1 + 1)) (As := [.int x35]) (st := [.long y34]) F dX7_digest_108 (m_X6_languagesWithoutChain isC_1 hc37) cv_RX7_282 (klC_1 isC_1) (ksC_1 isC_1) ⟨_, _, rfl⟩ rfl rfl rfl (Nat.le_of_ble_eq_true rfl) ⟨Nat.le_of_ble_eq_true rfl, Nat.le_of_ble_eq_true rfl⟩ ?_ rfl rfl
        clear hc37
        refine a_i2l (pc := 111) F dX7_digest_111 ?_
        replace h := bnd_some h
        obtain ⟨y40, hc39, h⟩ := h
        refine a_callS (pc := 112) (As := [.long y34, .long x38.toInt64]) (st := []) F dX7_digest_112 (m_X7_mix hc39) cs_RX7_298 rfl rfl rfl (Nat.le_of_ble_eq_true rfl) ⟨Nat.le_of_ble_eq_true rfl, Nat.le_of_ble_eq_true rfl⟩ ?_ rfl rfl
        clear hc39
        refine a_lstore_n (lv' := [(1, .long y40), (0, .ref (ga X.G 0)), (3, .int x35)]) (pc := 115) F dX7_digest_115 (by decide) rfl ?_
        obtain ⟨x41, ex41⟩ : ∃ x41 : Int32, x41 = x35 + 1 := ⟨_, rfl⟩
        refine a_iinc (v := x41) (lv' := [(3, .int x41), (1, .long y40), (0, .ref (ga X.G 0))]) (pc := 116) F dX7_digest_116 2 rfl (by rw [ex41]; rfl) (by decide) rfl ?_
        replace h := nm_at ex41 h
        clear ex41
        refine a_goto (tgt := 94) (pc := 119) F dX7_digest_119 (by decide) ?_
        refine a_lv F [2, 1, 0] rfl ?_
        exact hP33 _ (Option.some.inj h).symm
    clear h
    refine lp_run (P := fun (s : (Int64 × Int32)) => WA X 0 0 31 [(0, .ref (ga X.G 0)), (1, .long s.1), (3, .int s.2)] [] m0 (EQ X (some (.long rr)) mm)) ?_ _ _ hL11
    clear hL11
    rintro ⟨y12, x13⟩ xo h hP11 hT11
    show WA X 0 0 31 [(0, .ref (ga X.G 0)), (1, .long y12), (3, .int x13)] [] m0 (EQ X (some (.long rr)) mm)
    rw [f_X7_digest_L31] at h
    refine a_iload_n (pc := 31) F dX7_digest_31 2 rfl ?_
    refine a_aload_n (pc := 32) F dX7_digest_32 0 rfl ?_
    refine a_getr (k := 0) (r := 1) (pc := 33) F dX7_digest_33 fl_RX7_10 kl_0 ks_0 rfl ?_
    refine a_getr (k := 1) (r := (1 + 18)) (pc := 36) F dX7_digest_36 fl_RX7_130 (klC_0 isC_1) (ksC_0 isC_1) rfl ?_
    refine a_alen (k := (1 + 18)) (n := 7) (pc := 39) F dX7_digest_39 (klC_18 isC_1) (ksC_18 isC_1) ?_
    refine a_icmp_ge (tgt := 64) (pc := 40) F dX7_digest_40 (by decide) (fun q14 => ?_) (fun q14 => ?_)
    · replace h := ite_t q14 h
      clear q14
      refine a_lv F [0, 1] rfl ?_
      cases hT11 _ (Option.some.inj h).symm
      exact hE11
    · replace h := ite_f q14 h
      clear q14
      refine a_lload_n (pc := 43) F dX7_digest_43 1 rfl ?_
      refine a_aload_n (pc := 44) F dX7_digest_44 0 rfl ?_
      refine a_getr (k := 0) (r := 1) (pc := 45) F dX7_digest_45 fl_RX7_10 kl_0 ks_0 rfl ?_
      refine a_getr (k := 1) (r := (1 + 18)) (pc := 48) F dX7_digest_48 fl_RX7_130 (klC_0 isC_1) (ksC_0 isC_1) rfl ?_
      refine a_iload_n (pc := 51) F dX7_digest_51 2 rfl ?_
      replace h := gIn_some h
      obtain ⟨g15, h⟩ := h
      refine a_ial (k := (1 + 18)) (pc := 52) F dX7_digest_52 (klC_18 isC_1) (ksC_18 isC_1) g15 ?_
      refine a_nmi fun x16 ex16 => ?_
      replace h := nm_at ex16 h
      clear ex16
      refine a_i2l (pc := 53) F dX7_digest_53 ?_
      replace h := bnd_some h
      obtain ⟨y18, hc17, h⟩ := h
      refine a_callS (pc := 54) (As := [.long y12, .long x16.toInt64]) (st := []) F dX7_digest_54 (m_X7_mix hc17) cs_RX7_298 rfl rfl rfl (Nat.le_of_ble_eq_true rfl) ⟨Nat.le_of_ble_eq_true rfl, Nat.le_of_ble_eq_true rfl⟩ ?_ rfl rfl
      clear hc17
      refine a_lstore_n (lv' := [(1, .long y18), (0, .ref (ga X.G 0)), (3, .int x13)]) (pc := 57) F dX7_digest_57 (by decide) rfl ?_
      obtain ⟨x19, ex19⟩ : ∃ x19 : Int32, x19 = x13 + 1 := ⟨_, rfl⟩
      refine a_iinc (v := x19) (lv' := [(3, .int x19), (1, .long y18), (0, .ref (ga X.G 0))]) (pc := 58) F dX7_digest_58 2 rfl (by rw [ex19]; rfl) (by decide) rfl ?_
      replace h := nm_at ex19 h
      clear ex19
      refine a_goto (tgt := 31) (pc := 61) F dX7_digest_61 (by decide) ?_
      refine a_lv F [2, 1, 0] rfl ?_
      exact hP11 _ (Option.some.inj h).symm
  clear h
  refine lp_run (P := fun (s : (Int64 × Int32)) => WA X 0 0 6 [(0, .ref (ga X.G 0)), (1, .long s.1), (3, .int s.2)] [] m0 (EQ X (some (.long rr)) mm)) ?_ _ _ hL1
  clear hL1
  rintro ⟨y2, x3⟩ xo h hP1 hT1
  show WA X 0 0 6 [(0, .ref (ga X.G 0)), (1, .long y2), (3, .int x3)] [] m0 (EQ X (some (.long rr)) mm)
  rw [f_X7_digest_L6] at h
  refine a_iload_n (pc := 6) F dX7_digest_6 2 rfl ?_
  refine a_bipush (v := 12) (pc := 7) F dX7_digest_7 (by decide) ?_
  refine a_icmp_gt (tgt := 29) (pc := 9) F dX7_digest_9 (by decide) (fun q4 => ?_) (fun q4 => ?_)
  · replace h := ite_t q4 h
    clear q4
    refine a_lv F [0, 1] rfl ?_
    cases hT1 _ (Option.some.inj h).symm
    exact hE1
  · replace h := ite_f q4 h
    clear q4
    refine a_lload_n (pc := 12) F dX7_digest_12 1 rfl ?_
    refine a_aload_n (pc := 13) F dX7_digest_13 0 rfl ?_
    refine a_iload_n (pc := 14) F dX7_digest_14 2 rfl ?_
    replace h := bnd_some h
    obtain ⟨x6, hc5, h⟩ := h
    refine a_callV (pc := 15) (k := 0) (As := [.int x3]) (st := [.long y2]) F dX7_digest_15 (m_X7_count hc5) cv_RX7_296 kl_0 ks_0 ⟨_, _, rfl⟩ rfl rfl rfl (Nat.le_of_ble_eq_true rfl) ⟨Nat.le_of_ble_eq_true rfl, Nat.le_of_ble_eq_true rfl⟩ ?_ rfl rfl
    clear hc5
    refine a_i2l (pc := 18) F dX7_digest_18 ?_
    replace h := bnd_some h
    obtain ⟨y8, hc7, h⟩ := h
    refine a_callS (pc := 19) (As := [.long y2, .long x6.toInt64]) (st := []) F dX7_digest_19 (m_X7_mix hc7) cs_RX7_298 rfl rfl rfl (Nat.le_of_ble_eq_true rfl) ⟨Nat.le_of_ble_eq_true rfl, Nat.le_of_ble_eq_true rfl⟩ ?_ rfl rfl
    clear hc7
    refine a_lstore_n (lv' := [(1, .long y8), (0, .ref (ga X.G 0)), (3, .int x3)]) (pc := 22) F dX7_digest_22 (by decide) rfl ?_
    obtain ⟨x9, ex9⟩ : ∃ x9 : Int32, x9 = x3 + 1 := ⟨_, rfl⟩
    refine a_iinc (v := x9) (lv' := [(3, .int x9), (1, .long y8), (0, .ref (ga X.G 0))]) (pc := 23) F dX7_digest_23 2 rfl (by rw [ex9]; rfl) (by decide) rfl ?_
    replace h := nm_at ex9 h
    clear ex9
    refine a_goto (tgt := 6) (pc := 26) F dX7_digest_26 (by decide) ?_
    refine a_lv F [2, 1, 0] rfl ?_
    exact hP1 _ (Option.some.inj h).symm
def f_Jxe99ae_isNaN_b9ae7 (p1 : UInt64) (m0 : Mem) : Option Int32 :=
  nm (Op.cmpValue (FP.dcmp p1 p1) .l) fun x1 => (if x1 = 0 then some 0 else some 1)
set_option maxRecDepth 100000 in
set_option maxHeartbeats 4000000 in
theorem m_Jxe99ae_isNaN_b9ae7 {p1 : UInt64} {m0 : Mem} {rr : Int32} (h : f_Jxe99ae_isNaN_b9ae7 p1 m0 = some rr) : Con yJxe99ae_isNaN_b9ae7 cJxe99ae_isNaN_b9ae7 2 (some Jvm.ClassFile.FieldType.boolean) 0 0 (fun G => [.double p1]) m0 (some (.int rr)) m0 := by
  refine con_of (by decide) (fun G => Nat.le_of_ble_eq_true rfl) (fun X F => ?_)
  show WA X 0 0 0 [(0, .double p1)] [] m0 (EQ X (some (.int rr)) m0)
  rw [f_Jxe99ae_isNaN_b9ae7] at h
  refine a_dload_n (pc := 0) F dJxe99ae_isNaN_b9ae7_0 0 rfl ?_
  refine a_dload_n (pc := 1) F dJxe99ae_isNaN_b9ae7_1 0 rfl ?_
  refine a_dcmp (pc := 2) F dJxe99ae_isNaN_b9ae7_2 ?_
  refine a_nmi fun x1 ex1 => ?_
  replace h := nm_at ex1 h
  clear ex1
  refine a_if_eq (tgt := 10) (pc := 3) F dJxe99ae_isNaN_b9ae7_3 (by decide) (fun q2 => ?_) (fun q2 => ?_)
  · replace h := ite_t q2 h
    clear q2
    refine a_iconst (v := 0) (pc := 10) F dJxe99ae_isNaN_b9ae7_10 (by decide) ?_
    cases h
    exact a_iret (pc := 11) F dJxe99ae_isNaN_b9ae7_11 ⟨_, rfl, rfl⟩
  · replace h := ite_f q2 h
    clear q2
    refine a_iconst (v := 1) (pc := 6) F dJxe99ae_isNaN_b9ae7_6 (by decide) ?_
    refine a_goto (tgt := 11) (pc := 7) F dJxe99ae_isNaN_b9ae7_7 (by decide) ?_
    cases h
    exact a_iret (pc := 11) F dJxe99ae_isNaN_b9ae7_11 ⟨_, rfl, rfl⟩
def f_Jxe99ae_doubleToLongBits_ccdee (p1 : UInt64) (m0 : Mem) : Option Int64 :=
  bnd (f_Jxe99ae_isNaN_b9ae7 p1 m0) fun x2 => (if x2 = 0 then some p1.toInt64 else some 9221120237041090560)
set_option maxRecDepth 100000 in
set_option maxHeartbeats 4000000 in
theorem m_Jxe99ae_doubleToLongBits_ccdee {p1 : UInt64} {m0 : Mem} {rr : Int64} (h : f_Jxe99ae_doubleToLongBits_ccdee p1 m0 = some rr) : Con yJxe99ae_doubleToLongBits_ccdee cJxe99ae_doubleToLongBits_ccdee 2 (some Jvm.ClassFile.FieldType.long) 1 23 (fun G => [.double p1]) m0 (some (.long rr)) m0 := by
  refine con_of (by decide) (fun G => Nat.le_of_ble_eq_true rfl) (fun X F => ?_)
  show WA X 0 0 0 [(0, .double p1)] [] m0 (EQ X (some (.long rr)) m0)
  rw [f_Jxe99ae_doubleToLongBits_ccdee] at h
  refine a_dload_n (pc := 0) F dJxe99ae_doubleToLongBits_ccdee_0 0 rfl ?_
  replace h := bnd_some h
  obtain ⟨x2, hc1, h⟩ := h
  refine a_callS (pc := 1) (As := [.double p1]) (st := []) F dJxe99ae_doubleToLongBits_ccdee_1 (m_Jxe99ae_isNaN_b9ae7 hc1) cs_RJxe99ae_122 rfl rfl rfl (Nat.le_of_ble_eq_true rfl) ⟨Nat.le_of_ble_eq_true rfl, Nat.le_of_ble_eq_true rfl⟩ ?_ rfl rfl
  clear hc1
  refine a_if_ne (tgt := 12) (pc := 4) F dJxe99ae_doubleToLongBits_ccdee_4 (by decide) (fun q3 => ?_) (fun q3 => ?_)
  · replace h := ite_f q3 h
    clear q3
    refine a_ldc2l (v := 9221120237041090560) (pc := 12) F dJxe99ae_doubleToLongBits_ccdee_12 cw_RJxe99ae_137 ?_
    cases h
    exact a_lret (pc := 15) F dJxe99ae_doubleToLongBits_ccdee_15 rfl
  · replace h := ite_t (Decidable.not_not.mp q3) h
    clear q3
    refine a_dload_n (pc := 7) F dJxe99ae_doubleToLongBits_ccdee_7 0 rfl ?_
    refine a_rawbits (pc := 8) F dJxe99ae_doubleToLongBits_ccdee_8 cw_RJxe99ae_134 (by decide) (Nat.le_of_ble_eq_true rfl) ?_
    cases h
    exact a_lret (pc := 11) F dJxe99ae_doubleToLongBits_ccdee_11 rfl
