def f_X8_mannableNow_L8 : (Int32 × Int32 × Mem) → Option ((Int32 × Int32 × Mem) ⊕ (Int32 × Mem))
  | (x4, x5, m6) => (if (m6.1 163 8) ≤ x5 then some (.inr (x4, m6)) else bnd (f_X8_isOpen x5 m6) fun x9 => (if x9 = 0 then nm (x5 + 1) fun x11 => some (.inl (x4, x11, m6)) else bnd (f_X8_of x5 5 m6) fun x13 => (if x13 = 0 then bnd2 (f_X8_layCheapest x5 m6) fun x17 m18 => (if x17 = 0 then nm (x5 + 1) fun x20 => some (.inl (x4, x20, m18)) else bnd (f_X8_lay (m18.1 168 0) (m18.1 168 1) (m18.1 168 2) m18) fun m22 => bnd (f_X8_assignTried x5 m22) fun m24 => nm (x4 + 1) fun x25 => nm (x5 + 1) fun x26 => some (.inl (x25, x26, m24))) else nm (x5 + 1) fun x15 => some (.inl (x4, x15, m6)))))
def f_X8_mannableNow (m0 : Mem) : Option (Int32 × Mem) :=
  bnd (f_X8_keep m0) fun m2 => bnd (lp (f_X8_mannableNow_L8) 1000000 (0, 0, m2)) (fun (x27, m28) => bnd (f_X8_layBack m28) fun m30 => some (x27, m30))
set_option maxRecDepth 100000 in
set_option maxHeartbeats 4000000 in
theorem m_X8_mannableNow {m0 : Mem} {rr : Int32} {mm : Mem} (h : f_X8_mannableNow m0 = some (rr, mm)) : Con yX8_mannableNow cX8_mannableNow 3 (some Jvm.ClassFile.FieldType.int) 8 184 (fun G => [.ref (ga G 162)]) m0 (some (.int rr)) mm := by
  refine con_of (by decide) (fun G => Nat.le_of_ble_eq_true rfl) (fun X F => ?_)
  show WA X 0 0 0 [(0, .ref (ga X.G 162))] [] m0 (EQ X (some (.int rr)) mm)
  rw [f_X8_mannableNow] at h
  refine a_aload_n (pc := 0) F dX8_mannableNow_0 0 rfl ?_
  replace h := bnd_some h
  obtain ⟨m2, hc1, h⟩ := h
  refine a_callV (pc := 1) (k := 162) (As := []) (st := []) F dX8_mannableNow_1 (m_X8_keep hc1) cv_RX8_218 kl_162 ks_162 ⟨_, _, rfl⟩ rfl rfl rfl (Nat.le_of_ble_eq_true rfl) ⟨Nat.le_of_ble_eq_true rfl, Nat.le_of_ble_eq_true rfl⟩ ?_ rfl rfl
  clear hc1
  refine a_iconst (v := 0) (pc := 4) F dX8_mannableNow_4 (by decide) ?_
  refine a_istore_n (lv' := [(1, .int 0), (0, .ref (ga X.G 162))]) (pc := 5) F dX8_mannableNow_5 (by decide) rfl ?_
  refine a_iconst (v := 0) (pc := 6) F dX8_mannableNow_6 (by decide) ?_
  refine a_istore_n (lv' := [(2, .int 0), (1, .int 0), (0, .ref (ga X.G 162))]) (pc := 7) F dX8_mannableNow_7 (by decide) rfl ?_
  refine a_lv F [2, 1, 0] rfl ?_
  replace h := bnd_some h
  obtain ⟨⟨x27, m28⟩, hL3, h⟩ := h
  have hE3 : WA X 0 0 80 [(0, .ref (ga X.G 162)), (1, .int x27)] [] m28 (EQ X (some (.int rr)) mm) := by
    refine a_aload_n (pc := 80) F dX8_mannableNow_80 0 rfl ?_
    replace h := bnd_some h
    obtain ⟨m30, hc29, h⟩ := h
    refine a_callV (pc := 81) (k := 162) (As := []) (st := []) F dX8_mannableNow_81 (m_X8_layBack hc29) cv_RX8_221 kl_162 ks_162 ⟨_, _, rfl⟩ rfl rfl rfl (Nat.le_of_ble_eq_true rfl) ⟨Nat.le_of_ble_eq_true rfl, Nat.le_of_ble_eq_true rfl⟩ ?_ rfl rfl
    clear hc29
    refine a_iload_n (pc := 84) F dX8_mannableNow_84 1 rfl ?_
    cases h
    exact a_iret (pc := 85) F dX8_mannableNow_85 ⟨_, rfl, rfl⟩
  clear h
  refine lp_run (P := fun (s : (Int32 × Int32 × Mem)) => WA X 0 0 8 [(0, .ref (ga X.G 162)), (1, .int s.1), (2, .int s.2.1)] [] s.2.2 (EQ X (some (.int rr)) mm)) ?_ _ _ hL3
  clear hL3
  rintro ⟨x4, x5, m6⟩ xo h hP3 hT3
  show WA X 0 0 8 [(0, .ref (ga X.G 162)), (1, .int x4), (2, .int x5)] [] m6 (EQ X (some (.int rr)) mm)
  rw [f_X8_mannableNow_L8] at h
  refine a_iload_n (pc := 8) F dX8_mannableNow_8 2 rfl ?_
  refine a_aload_n (pc := 9) F dX8_mannableNow_9 0 rfl ?_
  refine a_getr (k := 162) (r := 163) (pc := 10) F dX8_mannableNow_10 fl_RX8_7 kl_162 ks_162 rfl ?_
  refine a_bipush (v := 8) (pc := 13) F dX8_mannableNow_13 (by decide) ?_
  refine a_ialc (k := 163) (pc := 15) F dX8_mannableNow_15 kl_163 ks_163 rfl rfl ?_
  refine a_icmp_ge (tgt := 80) (pc := 16) F dX8_mannableNow_16 (by decide) (fun q7 => ?_) (fun q7 => ?_)
  · replace h := ite_t q7 h
    clear q7
    refine a_lv F [0, 1] rfl ?_
    cases hT3 _ (Option.some.inj h).symm
    exact hE3
  · replace h := ite_f q7 h
    clear q7
    refine a_aload_n (pc := 19) F dX8_mannableNow_19 0 rfl ?_
    refine a_iload_n (pc := 20) F dX8_mannableNow_20 2 rfl ?_
    replace h := bnd_some h
    obtain ⟨x9, hc8, h⟩ := h
    refine a_callV (pc := 21) (k := 162) (As := [.int x5]) (st := []) F dX8_mannableNow_21 (m_X8_isOpen hc8) cv_RX8_125 kl_162 ks_162 ⟨_, _, rfl⟩ rfl rfl rfl (Nat.le_of_ble_eq_true rfl) ⟨Nat.le_of_ble_eq_true rfl, Nat.le_of_ble_eq_true rfl⟩ ?_ rfl rfl
    clear hc8
    refine a_if_eq (tgt := 74) (pc := 24) F dX8_mannableNow_24 (by decide) (fun q10 => ?_) (fun q10 => ?_)
    · replace h := ite_t q10 h
      clear q10
      obtain ⟨x11, ex11⟩ : ∃ x11 : Int32, x11 = x5 + 1 := ⟨_, rfl⟩
      refine a_iinc (v := x11) (lv' := [(2, .int x11), (0, .ref (ga X.G 162)), (1, .int x4)]) (pc := 74) F dX8_mannableNow_74 2 rfl (by rw [ex11]; rfl) (by decide) rfl ?_
      replace h := nm_at ex11 h
      clear ex11
      refine a_goto (tgt := 8) (pc := 77) F dX8_mannableNow_77 (by decide) ?_
      refine a_lv F [1, 2, 0] rfl ?_
      exact hP3 _ (Option.some.inj h).symm
    · replace h := ite_f q10 h
      clear q10
      refine a_aload_n (pc := 27) F dX8_mannableNow_27 0 rfl ?_
      refine a_iload_n (pc := 28) F dX8_mannableNow_28 2 rfl ?_
      refine a_iconst (v := 5) (pc := 29) F dX8_mannableNow_29 (by decide) ?_
      replace h := bnd_some h
      obtain ⟨x13, hc12, h⟩ := h
      refine a_callV (pc := 30) (k := 162) (As := [.int x5, .int 5]) (st := []) F dX8_mannableNow_30 (m_X8_of hc12) cv_RX8_42 kl_162 ks_162 ⟨_, _, rfl⟩ rfl rfl rfl (Nat.le_of_ble_eq_true rfl) ⟨Nat.le_of_ble_eq_true rfl, Nat.le_of_ble_eq_true rfl⟩ ?_ rfl rfl
      clear hc12
      refine a_if_ne (tgt := 74) (pc := 33) F dX8_mannableNow_33 (by decide) (fun q14 => ?_) (fun q14 => ?_)
      · replace h := ite_f q14 h
        clear q14
        obtain ⟨x15, ex15⟩ : ∃ x15 : Int32, x15 = x5 + 1 := ⟨_, rfl⟩
        refine a_iinc (v := x15) (lv' := [(2, .int x15), (0, .ref (ga X.G 162)), (1, .int x4)]) (pc := 74) F dX8_mannableNow_74 2 rfl (by rw [ex15]; rfl) (by decide) rfl ?_
        replace h := nm_at ex15 h
        clear ex15
        refine a_goto (tgt := 8) (pc := 77) F dX8_mannableNow_77 (by decide) ?_
        refine a_lv F [1, 2, 0] rfl ?_
        exact hP3 _ (Option.some.inj h).symm
      · replace h := ite_t (Decidable.not_not.mp q14) h
        clear q14
        refine a_aload_n (pc := 36) F dX8_mannableNow_36 0 rfl ?_
        refine a_iload_n (pc := 37) F dX8_mannableNow_37 2 rfl ?_
        replace h := bnd2_some h
        obtain ⟨x17, m18, hc16, h⟩ := h
        refine a_callV (pc := 38) (k := 162) (As := [.int x5]) (st := []) F dX8_mannableNow_38 (m_X8_layCheapest hc16) cv_RX8_212 kl_162 ks_162 ⟨_, _, rfl⟩ rfl rfl rfl (Nat.le_of_ble_eq_true rfl) ⟨Nat.le_of_ble_eq_true rfl, Nat.le_of_ble_eq_true rfl⟩ ?_ rfl rfl
        clear hc16
        refine a_if_eq (tgt := 74) (pc := 41) F dX8_mannableNow_41 (by decide) (fun q19 => ?_) (fun q19 => ?_)
        · replace h := ite_t q19 h
          clear q19
          obtain ⟨x20, ex20⟩ : ∃ x20 : Int32, x20 = x5 + 1 := ⟨_, rfl⟩
          refine a_iinc (v := x20) (lv' := [(2, .int x20), (0, .ref (ga X.G 162)), (1, .int x4)]) (pc := 74) F dX8_mannableNow_74 2 rfl (by rw [ex20]; rfl) (by decide) rfl ?_
          replace h := nm_at ex20 h
          clear ex20
          refine a_goto (tgt := 8) (pc := 77) F dX8_mannableNow_77 (by decide) ?_
          refine a_lv F [1, 2, 0] rfl ?_
          exact hP3 _ (Option.some.inj h).symm
        · replace h := ite_f q19 h
          clear q19
          refine a_aload_n (pc := 44) F dX8_mannableNow_44 0 rfl ?_
          refine a_aload_n (pc := 45) F dX8_mannableNow_45 0 rfl ?_
          refine a_getr (k := 162) (r := 168) (pc := 46) F dX8_mannableNow_46 fl_RX8_25 kl_162 ks_162 rfl ?_
          refine a_iconst (v := 0) (pc := 49) F dX8_mannableNow_49 (by decide) ?_
          refine a_ialc (k := 168) (pc := 50) F dX8_mannableNow_50 kl_168 ks_168 rfl rfl ?_
          refine a_aload_n (pc := 51) F dX8_mannableNow_51 0 rfl ?_
          refine a_getr (k := 162) (r := 168) (pc := 52) F dX8_mannableNow_52 fl_RX8_25 kl_162 ks_162 rfl ?_
          refine a_iconst (v := 1) (pc := 55) F dX8_mannableNow_55 (by decide) ?_
          refine a_ialc (k := 168) (pc := 56) F dX8_mannableNow_56 kl_168 ks_168 rfl rfl ?_
          refine a_aload_n (pc := 57) F dX8_mannableNow_57 0 rfl ?_
          refine a_getr (k := 162) (r := 168) (pc := 58) F dX8_mannableNow_58 fl_RX8_25 kl_162 ks_162 rfl ?_
          refine a_iconst (v := 2) (pc := 61) F dX8_mannableNow_61 (by decide) ?_
          refine a_ialc (k := 168) (pc := 62) F dX8_mannableNow_62 kl_168 ks_168 rfl rfl ?_
          replace h := bnd_some h
          obtain ⟨m22, hc21, h⟩ := h
          refine a_callV (pc := 63) (k := 162) (As := [.int (m18.1 168 0), .int (m18.1 168 1), .int (m18.1 168 2)]) (st := []) F dX8_mannableNow_63 (m_X8_lay hc21) cv_RX8_112 kl_162 ks_162 ⟨_, _, rfl⟩ rfl rfl rfl (Nat.le_of_ble_eq_true rfl) ⟨Nat.le_of_ble_eq_true rfl, Nat.le_of_ble_eq_true rfl⟩ ?_ rfl rfl
          clear hc21
          refine a_aload_n (pc := 66) F dX8_mannableNow_66 0 rfl ?_
          refine a_iload_n (pc := 67) F dX8_mannableNow_67 2 rfl ?_
          replace h := bnd_some h
          obtain ⟨m24, hc23, h⟩ := h
          refine a_callV (pc := 68) (k := 162) (As := [.int x5]) (st := []) F dX8_mannableNow_68 (m_X8_assignTried hc23) cv_RX8_121 kl_162 ks_162 ⟨_, _, rfl⟩ rfl rfl rfl (Nat.le_of_ble_eq_true rfl) ⟨Nat.le_of_ble_eq_true rfl, Nat.le_of_ble_eq_true rfl⟩ ?_ rfl rfl
          clear hc23
          obtain ⟨x25, ex25⟩ : ∃ x25 : Int32, x25 = x4 + 1 := ⟨_, rfl⟩
          refine a_iinc (v := x25) (lv' := [(1, .int x25), (0, .ref (ga X.G 162)), (2, .int x5)]) (pc := 71) F dX8_mannableNow_71 1 rfl (by rw [ex25]; rfl) (by decide) rfl ?_
          replace h := nm_at ex25 h
          clear ex25
          obtain ⟨x26, ex26⟩ : ∃ x26 : Int32, x26 = x5 + 1 := ⟨_, rfl⟩
          refine a_iinc (v := x26) (lv' := [(2, .int x26), (1, .int x25), (0, .ref (ga X.G 162))]) (pc := 74) F dX8_mannableNow_74 2 rfl (by rw [ex26]; rfl) (by decide) rfl ?_
          replace h := nm_at ex26 h
          clear ex26
          refine a_goto (tgt := 8) (pc := 77) F dX8_mannableNow_77 (by decide) ?_
          refine a_lv F [2, 1, 0] rfl ?_
          exact hP3 _ (Option.some.inj h).symm
def f_X8_mannable (m0 : Mem) : Option (Int32 × Mem) :=
  nm (si m0 162 5 0) fun m1 => bnd2 (f_X8_mannableNow m1) fun x3 m4 => some (x3, m4)
set_option maxRecDepth 100000 in
set_option maxHeartbeats 4000000 in
theorem m_X8_mannable {m0 : Mem} {rr : Int32} {mm : Mem} (h : f_X8_mannable m0 = some (rr, mm)) : Con yX8_mannable cX8_mannable 1 (some Jvm.ClassFile.FieldType.int) 9 206 (fun G => [.ref (ga G 162)]) m0 (some (.int rr)) mm := by
  refine con_of (by decide) (fun G => Nat.le_of_ble_eq_true rfl) (fun X F => ?_)
  show WA X 0 0 0 [(0, .ref (ga X.G 162))] [] m0 (EQ X (some (.int rr)) mm)
  rw [f_X8_mannable] at h
  refine a_aload_n (pc := 0) F dX8_mannable_0 0 rfl ?_
  refine a_iconst (v := 0) (pc := 1) F dX8_mannable_1 (by decide) ?_
  refine a_puti (k := 162) (pc := 2) F dX8_mannable_2 fp_RX8_31 kl_162 ks_162 rfl ?_
  refine a_nmm fun m1 em1 => ?_
  replace h := nm_at em1 h
  clear em1
  refine a_aload_n (pc := 5) F dX8_mannable_5 0 rfl ?_
  replace h := bnd2_some h
  obtain ⟨x3, m4, hc2, h⟩ := h
  refine a_callV (pc := 6) (k := 162) (As := []) (st := []) F dX8_mannable_6 (m_X8_mannableNow hc2) cv_RX8_230 kl_162 ks_162 ⟨_, _, rfl⟩ rfl rfl rfl (Nat.le_of_ble_eq_true rfl) ⟨Nat.le_of_ble_eq_true rfl, Nat.le_of_ble_eq_true rfl⟩ ?_ rfl rfl
  clear hc2
  cases h
  exact a_iret (pc := 9) F dX8_mannable_9 ⟨_, rfl, rfl⟩
def f_X8_missingNow_L61 (p1 : Int32) (m0 : Mem) (x3 : Int32) (x11 : Int32) : (Int32 × Int32) → Option ((Int32 × Int32) ⊕ Int32)
  | (x16, x17) => (if 100 ≤ x17 then some (.inr x16) else bnd (f_X8_isPerson (x17 / 10) m0) fun x20 => bnd ((if x20 = 0 then some 0 else (if (x17 / 10) = x3 then some 0 else gIn (23 + (x17 / 10)) 373 <| nm (m0.1 163 (23 + (x17 / 10)).toNatClampNeg) fun x25 => nm ((x25 >>> (p1 &&& 31)) &&& 1) fun x26 => (if x26 = 1 then gIn (13 + (x17 / 10)) 373 <| nm (m0.1 163 (13 + (x17 / 10)).toNatClampNeg) fun x29 => (if (x29 &&& x11) = 0 then some 0 else some 1) else some 0)))) (fun (x31 : Int32) => bnd ((if x31 = 0 then some 0 else bnd (f_X8_isPerson (x17 - x17 / 10 * 10) m0) fun x35 => (if x35 = 0 then some 0 else (if (x17 - x17 / 10 * 10) = x3 then some 0 else (if (x17 - x17 / 10 * 10) = (x17 / 10) then some 0 else nm (23 + (x17 - x17 / 10 * 10)) fun x39 => gIn x39 373 <| nm (m0.1 163 x39.toNatClampNeg) fun x41 => nm ((x41 >>> (p1 &&& 31)) &&& 1) fun x42 => (if x42 = 1 then nm (13 + (x17 - x17 / 10 * 10)) fun x44 => gIn x44 373 <| nm (m0.1 163 x44.toNatClampNeg) fun x46 => gIn (13 + (x17 / 10)) 373 <| nm (m0.1 163 (13 + (x17 / 10)).toNatClampNeg) fun x48 => (if (x46 &&& x48) = 0 then some 0 else some 1) else some 0)))))) (fun (x50 : Int32) => (if x16 = 0 then (if x31 = 0 then (if x50 = 0 then nm (x17 + 1) fun x55 => some (.inl (0, x55)) else nm (13 + (x17 - x17 / 10 * 10)) fun x56 => gIn x56 373 <| nm (m0.1 163 x56.toNatClampNeg) fun x58 => (if (x58 &&& 1) = 1 then nm (x17 + 1) fun x61 => some (.inl (1, x61)) else nm (x17 + 1) fun x60 => some (.inl (0, x60)))) else gIn (13 + (x17 / 10)) 373 <| nm (m0.1 163 (13 + (x17 / 10)).toNatClampNeg) fun x63 => (if (x63 &&& 1) = 1 then nm (x17 + 1) fun x65 => some (.inl (1, x65)) else (if x50 = 0 then nm (x17 + 1) fun x67 => some (.inl (0, x67)) else nm (13 + (x17 - x17 / 10 * 10)) fun x68 => gIn x68 373 <| nm (m0.1 163 x68.toNatClampNeg) fun x70 => (if (x70 &&& 1) = 1 then nm (x17 + 1) fun x73 => some (.inl (1, x73)) else nm (x17 + 1) fun x72 => some (.inl (0, x72)))))) else nm (x17 + 1) fun x52 => some (.inl (1, x52))))))
def f_X8_missingNow_L4 (p1 : Int32) (m0 : Mem) : (Int32 × Int32) → Option ((Int32 × Int32) ⊕ Int32)
  | (x2, x3) => (if (m0.1 163 7) ≤ x3 then some (.inr x2) else gIn (23 + x3) 373 <| nm (m0.1 163 (23 + x3).toNatClampNeg) fun x6 => nm ((x6 >>> (p1 &&& 31)) &&& 1) fun x7 => (if x7 = 1 then gIn (13 + x3) 373 <| nm (m0.1 163 (13 + x3).toNatClampNeg) fun x11 => bnd ((if (x11 &&& 1) = 1 then some 1 else some 0)) (fun (x14 : Int32) => bnd (lp (f_X8_missingNow_L61 p1 m0 x3 x11) 1000000 (x14, 0)) (fun x74 => (if x74 = 0 then nm (x3 + 1) fun x76 => some (.inl (x2 ||| 0, x76)) else nm (x3 + 1) fun x77 => some (.inl (x2 ||| x11, x77))))) else nm (x3 + 1) fun x9 => some (.inl (x2, x9))))
def f_X8_missingNow (p1 : Int32) (m0 : Mem) : Option Int32 :=
  bnd (lp (f_X8_missingNow_L4 p1 m0) 1000000 (0, 0)) (fun x78 => nm (1022 &&& (x78 ^^^ (-1))) fun x79 => some x79)
set_option maxRecDepth 100000 in
set_option maxHeartbeats 4000000 in
theorem m_X8_missingNow {p1 : Int32} {m0 : Mem} {rr : Int32} (h : f_X8_missingNow p1 m0 = some rr) : Con yX8_missingNow cX8_missingNow 11 (some Jvm.ClassFile.FieldType.int) 2 43 (fun G => [.ref (ga G 162), .int p1]) m0 (some (.int rr)) m0 := by
  refine con_of (by decide) (fun G => Nat.le_of_ble_eq_true rfl) (fun X F => ?_)
  show WA X 0 0 0 [(0, .ref (ga X.G 162)), (1, .int p1)] [] m0 (EQ X (some (.int rr)) m0)
  rw [f_X8_missingNow] at h
  refine a_iconst (v := 0) (pc := 0) F dX8_missingNow_0 (by decide) ?_
  refine a_istore_n (lv' := [(2, .int 0), (0, .ref (ga X.G 162)), (1, .int p1)]) (pc := 1) F dX8_missingNow_1 (by decide) rfl ?_
  refine a_iconst (v := 0) (pc := 2) F dX8_missingNow_2 (by decide) ?_
  refine a_istore_n (lv' := [(3, .int 0), (2, .int 0), (0, .ref (ga X.G 162)), (1, .int p1)]) (pc := 3) F dX8_missingNow_3 (by decide) rfl ?_
  refine a_lv F [2, 3, 1, 0] rfl ?_
  replace h := bnd_some h
  obtain ⟨x78, hL1, h⟩ := h
  have hE1 : WA X 0 0 294 [(2, .int x78)] [] m0 (EQ X (some (.int rr)) m0) := by
    refine a_sipush (v := 1022) (pc := 294) F dX8_missingNow_294 (by decide) ?_
    refine a_iload_n (pc := 297) F dX8_missingNow_297 0 rfl ?_
    refine a_iconst (v := (-1)) (pc := 298) F dX8_missingNow_298 (by decide) ?_
    refine a_ixor (pc := 299) F dX8_missingNow_299 ?_
    refine a_iand (pc := 300) F dX8_missingNow_300 ?_
    refine a_nmi fun x79 ex79 => ?_
    replace h := nm_at ex79 h
    clear ex79
    cases h
    exact a_iret (pc := 301) F dX8_missingNow_301 ⟨_, rfl, rfl⟩
  clear h
  refine lp_run (P := fun (s : (Int32 × Int32)) => WA X 0 0 4 [(0, .ref (ga X.G 162)), (1, .int p1), (2, .int s.1), (3, .int s.2)] [] m0 (EQ X (some (.int rr)) m0)) ?_ _ _ hL1
  clear hL1
  rintro ⟨x2, x3⟩ xo h hP1 hT1
  show WA X 0 0 4 [(0, .ref (ga X.G 162)), (1, .int p1), (2, .int x2), (3, .int x3)] [] m0 (EQ X (some (.int rr)) m0)
  rw [f_X8_missingNow_L4] at h
  refine a_iload_n (pc := 4) F dX8_missingNow_4 3 rfl ?_
  refine a_aload_n (pc := 5) F dX8_missingNow_5 0 rfl ?_
  refine a_getr (k := 162) (r := 163) (pc := 6) F dX8_missingNow_6 fl_RX8_7 kl_162 ks_162 rfl ?_
  refine a_bipush (v := 7) (pc := 9) F dX8_missingNow_9 (by decide) ?_
  refine a_ialc (k := 163) (pc := 11) F dX8_missingNow_11 kl_163 ks_163 rfl rfl ?_
  refine a_icmp_ge (tgt := 294) (pc := 12) F dX8_missingNow_12 (by decide) (fun q4 => ?_) (fun q4 => ?_)
  · replace h := ite_t q4 h
    clear q4
    refine a_lv F [2] rfl ?_
    cases hT1 _ (Option.some.inj h).symm
    exact hE1
  · replace h := ite_f q4 h
    clear q4
    refine a_aload_n (pc := 15) F dX8_missingNow_15 0 rfl ?_
    refine a_getr (k := 162) (r := 163) (pc := 16) F dX8_missingNow_16 fl_RX8_7 kl_162 ks_162 rfl ?_
    refine a_bipush (v := 23) (pc := 19) F dX8_missingNow_19 (by decide) ?_
    refine a_iload_n (pc := 21) F dX8_missingNow_21 3 rfl ?_
    refine a_iadd (pc := 22) F dX8_missingNow_22 ?_
    replace h := gIn_some h
    obtain ⟨g5, h⟩ := h
    refine a_ial (k := 163) (pc := 23) F dX8_missingNow_23 kl_163 ks_163 g5 ?_
    refine a_nmi fun x6 ex6 => ?_
    replace h := nm_at ex6 h
    clear ex6
    refine a_iload_n (pc := 24) F dX8_missingNow_24 1 rfl ?_
    refine a_ishr (pc := 25) F dX8_missingNow_25 ?_
    refine a_iconst (v := 1) (pc := 26) F dX8_missingNow_26 (by decide) ?_
    refine a_iand (pc := 27) F dX8_missingNow_27 ?_
    refine a_nmi fun x7 ex7 => ?_
    replace h := nm_at ex7 h
    clear ex7
    refine a_iconst (v := 1) (pc := 28) F dX8_missingNow_28 (by decide) ?_
    refine a_icmp_ne (tgt := 288) (pc := 29) F dX8_missingNow_29 (by decide) (fun q8 => ?_) (fun q8 => ?_)
    · replace h := ite_f q8 h
      clear q8
      obtain ⟨x9, ex9⟩ : ∃ x9 : Int32, x9 = x3 + 1 := ⟨_, rfl⟩
      refine a_iinc (v := x9) (lv' := [(3, .int x9), (0, .ref (ga X.G 162)), (1, .int p1), (2, .int x2)]) (pc := 288) F dX8_missingNow_288 3 rfl (by rw [ex9]; rfl) (by decide) rfl ?_
      replace h := nm_at ex9 h
      clear ex9
      refine a_goto (tgt := 4) (pc := 291) F dX8_missingNow_291 (by decide) ?_
      refine a_lv F [1, 2, 3, 0] rfl ?_
      exact hP1 _ (Option.some.inj h).symm
    · replace h := ite_t (Decidable.not_not.mp q8) h
      clear q8
      refine a_aload_n (pc := 32) F dX8_missingNow_32 0 rfl ?_
      refine a_getr (k := 162) (r := 163) (pc := 33) F dX8_missingNow_33 fl_RX8_7 kl_162 ks_162 rfl ?_
      refine a_bipush (v := 13) (pc := 36) F dX8_missingNow_36 (by decide) ?_
      refine a_iload_n (pc := 38) F dX8_missingNow_38 3 rfl ?_
      refine a_iadd (pc := 39) F dX8_missingNow_39 ?_
      replace h := gIn_some h
      obtain ⟨g10, h⟩ := h
      refine a_ial (k := 163) (pc := 40) F dX8_missingNow_40 kl_163 ks_163 g10 ?_
      refine a_nmi fun x11 ex11 => ?_
      replace h := nm_at ex11 h
      clear ex11
      refine a_istore (lv' := [(4, .int x11), (0, .ref (ga X.G 162)), (1, .int p1), (2, .int x2), (3, .int x3)]) (pc := 41) F dX8_missingNow_41 (by decide) rfl ?_
      refine a_iload (pc := 43) F dX8_missingNow_43 0 rfl ?_
      refine a_iconst (v := 1) (pc := 45) F dX8_missingNow_45 (by decide) ?_
      refine a_iand (pc := 46) F dX8_missingNow_46 ?_
      refine a_iconst (v := 1) (pc := 47) F dX8_missingNow_47 (by decide) ?_
      replace h := bnd_some h
      obtain ⟨x14, hR12, h⟩ := h
      have hJ12 : WA X 0 0 56 [(0, .ref (ga X.G 162)), (1, .int p1), (2, .int x2), (3, .int x3), (4, .int x11)] [.int x14] m0 (EQ X (some (.int rr)) m0) := by
        refine a_istore (lv' := [(5, .int x14), (0, .ref (ga X.G 162)), (1, .int p1), (2, .int x2), (3, .int x3), (4, .int x11)]) (pc := 56) F dX8_missingNow_56 (by decide) rfl ?_
        refine a_iconst (v := 0) (pc := 58) F dX8_missingNow_58 (by decide) ?_
        refine a_istore (lv' := [(6, .int 0), (5, .int x14), (0, .ref (ga X.G 162)), (1, .int p1), (2, .int x2), (3, .int x3), (4, .int x11)]) (pc := 59) F dX8_missingNow_59 (by decide) rfl ?_
        refine a_lv F [2, 3, 4, 5, 6, 1, 0] rfl ?_
        replace h := bnd_some h
        obtain ⟨x74, hL15, h⟩ := h
        have hE15 : WA X 0 0 274 [(0, .ref (ga X.G 162)), (1, .int p1), (2, .int x2), (3, .int x3), (4, .int x11), (5, .int x74)] [] m0 (EQ X (some (.int rr)) m0) := by
          refine a_iload_n (pc := 274) F dX8_missingNow_274 2 rfl ?_
          refine a_iload (pc := 275) F dX8_missingNow_275 5 rfl ?_
          refine a_if_eq (tgt := 285) (pc := 277) F dX8_missingNow_277 (by decide) (fun q75 => ?_) (fun q75 => ?_)
          · replace h := ite_t q75 h
            clear q75
            refine a_iconst (v := 0) (pc := 285) F dX8_missingNow_285 (by decide) ?_
            refine a_ior (pc := 286) F dX8_missingNow_286 ?_
            refine a_istore_n (lv' := [(2, .int (x2 ||| 0)), (0, .ref (ga X.G 162)), (1, .int p1), (3, .int x3), (4, .int x11), (5, .int x74)]) (pc := 287) F dX8_missingNow_287 (by decide) rfl ?_
            obtain ⟨x76, ex76⟩ : ∃ x76 : Int32, x76 = x3 + 1 := ⟨_, rfl⟩
            refine a_iinc (v := x76) (lv' := [(3, .int x76), (2, .int (x2 ||| 0)), (0, .ref (ga X.G 162)), (1, .int p1), (4, .int x11), (5, .int x74)]) (pc := 288) F dX8_missingNow_288 3 rfl (by rw [ex76]; rfl) (by decide) rfl ?_
            replace h := nm_at ex76 h
            clear ex76
            refine a_goto (tgt := 4) (pc := 291) F dX8_missingNow_291 (by decide) ?_
            refine a_lv F [2, 3, 1, 0] rfl ?_
            exact hP1 _ (Option.some.inj h).symm
          · replace h := ite_f q75 h
            clear q75
            refine a_iload (pc := 280) F dX8_missingNow_280 4 rfl ?_
            refine a_goto (tgt := 286) (pc := 282) F dX8_missingNow_282 (by decide) ?_
            refine a_ior (pc := 286) F dX8_missingNow_286 ?_
            refine a_istore_n (lv' := [(2, .int (x2 ||| x11)), (0, .ref (ga X.G 162)), (1, .int p1), (3, .int x3), (4, .int x11), (5, .int x74)]) (pc := 287) F dX8_missingNow_287 (by decide) rfl ?_
            obtain ⟨x77, ex77⟩ : ∃ x77 : Int32, x77 = x3 + 1 := ⟨_, rfl⟩
            refine a_iinc (v := x77) (lv' := [(3, .int x77), (2, .int (x2 ||| x11)), (0, .ref (ga X.G 162)), (1, .int p1), (4, .int x11), (5, .int x74)]) (pc := 288) F dX8_missingNow_288 3 rfl (by rw [ex77]; rfl) (by decide) rfl ?_
            replace h := nm_at ex77 h
            clear ex77
            refine a_goto (tgt := 4) (pc := 291) F dX8_missingNow_291 (by decide) ?_
            refine a_lv F [2, 3, 1, 0] rfl ?_
            exact hP1 _ (Option.some.inj h).symm
        clear h
        refine lp_run (P := fun (s : (Int32 × Int32)) => WA X 0 0 61 [(0, .ref (ga X.G 162)), (1, .int p1), (2, .int x2), (3, .int x3), (4, .int x11), (5, .int s.1), (6, .int s.2)] [] m0 (EQ X (some (.int rr)) m0)) ?_ _ _ hL15
        clear hL15
        rintro ⟨x16, x17⟩ xo h hP15 hT15
        show WA X 0 0 61 [(0, .ref (ga X.G 162)), (1, .int p1), (2, .int x2), (3, .int x3), (4, .int x11), (5, .int x16), (6, .int x17)] [] m0 (EQ X (some (.int rr)) m0)
        rw [f_X8_missingNow_L61] at h
        refine a_iload (pc := 61) F dX8_missingNow_61 6 rfl ?_
        refine a_bipush (v := 100) (pc := 63) F dX8_missingNow_63 (by decide) ?_
        refine a_icmp_ge (tgt := 274) (pc := 65) F dX8_missingNow_65 (by decide) (fun q18 => ?_) (fun q18 => ?_)
        · replace h := ite_t q18 h
          clear q18
          refine a_lv F [0, 1, 2, 3, 4, 5] rfl ?_
          cases hT15 _ (Option.some.inj h).symm
          exact hE15
        · replace h := ite_f q18 h
          clear q18
          refine a_iload (pc := 68) F dX8_missingNow_68 6 rfl ?_
          refine a_bipush (v := 10) (pc := 70) F dX8_missingNow_70 (by decide) ?_
          refine a_idiv (pc := 72) F dX8_missingNow_72 (by decide) ?_
          refine a_istore (lv' := [(7, .int (x17 / 10)), (0, .ref (ga X.G 162)), (1, .int p1), (2, .int x2), (3, .int x3), (4, .int x11), (5, .int x16), (6, .int x17)]) (pc := 73) F dX8_missingNow_73 (by decide) rfl ?_
          refine a_iload (pc := 75) F dX8_missingNow_75 7 rfl ?_
          refine a_bipush (v := 10) (pc := 77) F dX8_missingNow_77 (by decide) ?_
          refine a_irem (pc := 79) F dX8_missingNow_79 (by decide) ?_
          refine a_istore (lv' := [(8, .int (x17 - x17 / 10 * 10)), (7, .int (x17 / 10)), (0, .ref (ga X.G 162)), (1, .int p1), (2, .int x2), (3, .int x3), (4, .int x11), (5, .int x16), (6, .int x17)]) (pc := 80) F dX8_missingNow_80 (by decide) rfl ?_
          refine a_aload_n (pc := 82) F dX8_missingNow_82 2 rfl ?_
          refine a_iload (pc := 83) F dX8_missingNow_83 1 rfl ?_
          replace h := bnd_some h
          obtain ⟨x20, hc19, h⟩ := h
          refine a_callV (pc := 85) (k := 162) (As := [.int (x17 / 10)]) (st := []) F dX8_missingNow_85 (m_X8_isPerson hc19) cv_RX8_82 kl_162 ks_162 ⟨_, _, rfl⟩ rfl rfl rfl (Nat.le_of_ble_eq_true rfl) ⟨Nat.le_of_ble_eq_true rfl, Nat.le_of_ble_eq_true rfl⟩ ?_ rfl rfl
          clear hc19
          replace h := bnd_some h
          obtain ⟨x31, hR21, h⟩ := h
          have hJ21 : WA X 0 0 136 [(0, .ref (ga X.G 162)), (1, .int p1), (2, .int x2), (3, .int x3), (4, .int x11), (5, .int x16), (6, .int x17), (7, .int (x17 / 10)), (8, .int (x17 - x17 / 10 * 10))] [.int x31] m0 (EQ X (some (.int rr)) m0) := by
            refine a_istore (lv' := [(9, .int x31), (0, .ref (ga X.G 162)), (1, .int p1), (2, .int x2), (3, .int x3), (4, .int x11), (5, .int x16), (6, .int x17), (7, .int (x17 / 10)), (8, .int (x17 - x17 / 10 * 10))]) (pc := 136) F dX8_missingNow_136 (by decide) rfl ?_
            refine a_iload (pc := 138) F dX8_missingNow_138 0 rfl ?_
            replace h := bnd_some h
            obtain ⟨x50, hR32, h⟩ := h
            have hJ32 : WA X 0 0 212 [(0, .ref (ga X.G 162)), (1, .int p1), (2, .int x2), (3, .int x3), (4, .int x11), (5, .int x16), (6, .int x17), (7, .int (x17 / 10)), (8, .int (x17 - x17 / 10 * 10)), (9, .int x31)] [.int x50] m0 (EQ X (some (.int rr)) m0) := by
              refine a_istore (lv' := [(10, .int x50), (0, .ref (ga X.G 162)), (1, .int p1), (2, .int x2), (3, .int x3), (4, .int x11), (5, .int x16), (6, .int x17), (7, .int (x17 / 10)), (8, .int (x17 - x17 / 10 * 10)), (9, .int x31)]) (pc := 212) F dX8_missingNow_212 (by decide) rfl ?_
              refine a_iload (pc := 214) F dX8_missingNow_214 6 rfl ?_
              refine a_if_ne (tgt := 261) (pc := 216) F dX8_missingNow_216 (by decide) (fun q51 => ?_) (fun q51 => ?_)
              · replace h := ite_f q51 h
                clear q51
                refine a_iconst (v := 1) (pc := 261) F dX8_missingNow_261 (by decide) ?_
                refine a_goto (tgt := 266) (pc := 262) F dX8_missingNow_262 (by decide) ?_
                refine a_istore (lv' := [(5, .int 1), (10, .int x50), (0, .ref (ga X.G 162)), (1, .int p1), (2, .int x2), (3, .int x3), (4, .int x11), (6, .int x17), (7, .int (x17 / 10)), (8, .int (x17 - x17 / 10 * 10)), (9, .int x31)]) (pc := 266) F dX8_missingNow_266 (by decide) rfl ?_
                obtain ⟨x52, ex52⟩ : ∃ x52 : Int32, x52 = x17 + 1 := ⟨_, rfl⟩
                refine a_iinc (v := x52) (lv' := [(6, .int x52), (5, .int 1), (10, .int x50), (0, .ref (ga X.G 162)), (1, .int p1), (2, .int x2), (3, .int x3), (4, .int x11), (7, .int (x17 / 10)), (8, .int (x17 - x17 / 10 * 10)), (9, .int x31)]) (pc := 268) F dX8_missingNow_268 7 rfl (by rw [ex52]; rfl) (by decide) rfl ?_
                replace h := nm_at ex52 h
                clear ex52
                refine a_goto (tgt := 61) (pc := 271) F dX8_missingNow_271 (by decide) ?_
                refine a_lv F [3, 4, 5, 6, 7, 1, 0] rfl ?_
                exact hP15 _ (Option.some.inj h).symm
              · replace h := ite_t (Decidable.not_not.mp q51) h
                clear q51
                refine a_iload (pc := 219) F dX8_missingNow_219 10 rfl ?_
                refine a_if_eq (tgt := 240) (pc := 221) F dX8_missingNow_221 (by decide) (fun q53 => ?_) (fun q53 => ?_)
                · replace h := ite_t q53 h
                  clear q53
                  refine a_iload (pc := 240) F dX8_missingNow_240 0 rfl ?_
                  refine a_if_eq (tgt := 265) (pc := 242) F dX8_missingNow_242 (by decide) (fun q54 => ?_) (fun q54 => ?_)
                  · replace h := ite_t q54 h
                    clear q54
                    refine a_iconst (v := 0) (pc := 265) F dX8_missingNow_265 (by decide) ?_
                    refine a_istore (lv' := [(5, .int 0), (10, .int x50), (0, .ref (ga X.G 162)), (1, .int p1), (2, .int x2), (3, .int x3), (4, .int x11), (6, .int x17), (7, .int (x17 / 10)), (8, .int (x17 - x17 / 10 * 10)), (9, .int x31)]) (pc := 266) F dX8_missingNow_266 (by decide) rfl ?_
                    obtain ⟨x55, ex55⟩ : ∃ x55 : Int32, x55 = x17 + 1 := ⟨_, rfl⟩
                    refine a_iinc (v := x55) (lv' := [(6, .int x55), (5, .int 0), (10, .int x50), (0, .ref (ga X.G 162)), (1, .int p1), (2, .int x2), (3, .int x3), (4, .int x11), (7, .int (x17 / 10)), (8, .int (x17 - x17 / 10 * 10)), (9, .int x31)]) (pc := 268) F dX8_missingNow_268 7 rfl (by rw [ex55]; rfl) (by decide) rfl ?_
                    replace h := nm_at ex55 h
                    clear ex55
                    refine a_goto (tgt := 61) (pc := 271) F dX8_missingNow_271 (by decide) ?_
                    refine a_lv F [3, 4, 5, 6, 7, 1, 0] rfl ?_
                    exact hP15 _ (Option.some.inj h).symm
                  · replace h := ite_f q54 h
                    clear q54
                    refine a_aload_n (pc := 245) F dX8_missingNow_245 1 rfl ?_
                    refine a_getr (k := 162) (r := 163) (pc := 246) F dX8_missingNow_246 fl_RX8_7 kl_162 ks_162 rfl ?_
                    refine a_bipush (v := 13) (pc := 249) F dX8_missingNow_249 (by decide) ?_
                    refine a_iload (pc := 251) F dX8_missingNow_251 9 rfl ?_
                    refine a_iadd (pc := 253) F dX8_missingNow_253 ?_
                    refine a_nmi fun x56 ex56 => ?_
                    replace h := nm_at ex56 h
                    clear ex56
                    replace h := gIn_some h
                    obtain ⟨g57, h⟩ := h
                    refine a_ial (k := 163) (pc := 254) F dX8_missingNow_254 kl_163 ks_163 g57 ?_
                    refine a_nmi fun x58 ex58 => ?_
                    replace h := nm_at ex58 h
                    clear ex58
                    refine a_iconst (v := 1) (pc := 255) F dX8_missingNow_255 (by decide) ?_
                    refine a_iand (pc := 256) F dX8_missingNow_256 ?_
                    refine a_iconst (v := 1) (pc := 257) F dX8_missingNow_257 (by decide) ?_
                    refine a_icmp_ne (tgt := 265) (pc := 258) F dX8_missingNow_258 (by decide) (fun q59 => ?_) (fun q59 => ?_)
                    · replace h := ite_f q59 h
                      clear q59
                      refine a_iconst (v := 0) (pc := 265) F dX8_missingNow_265 (by decide) ?_
                      refine a_istore (lv' := [(5, .int 0), (10, .int x50), (0, .ref (ga X.G 162)), (1, .int p1), (2, .int x2), (3, .int x3), (4, .int x11), (6, .int x17), (7, .int (x17 / 10)), (8, .int (x17 - x17 / 10 * 10)), (9, .int x31)]) (pc := 266) F dX8_missingNow_266 (by decide) rfl ?_
                      obtain ⟨x60, ex60⟩ : ∃ x60 : Int32, x60 = x17 + 1 := ⟨_, rfl⟩
                      refine a_iinc (v := x60) (lv' := [(6, .int x60), (5, .int 0), (10, .int x50), (0, .ref (ga X.G 162)), (1, .int p1), (2, .int x2), (3, .int x3), (4, .int x11), (7, .int (x17 / 10)), (8, .int (x17 - x17 / 10 * 10)), (9, .int x31)]) (pc := 268) F dX8_missingNow_268 7 rfl (by rw [ex60]; rfl) (by decide) rfl ?_
                      replace h := nm_at ex60 h
                      clear ex60
                      refine a_goto (tgt := 61) (pc := 271) F dX8_missingNow_271 (by decide) ?_
                      refine a_lv F [3, 4, 5, 6, 7, 1, 0] rfl ?_
                      exact hP15 _ (Option.some.inj h).symm
                    · replace h := ite_t (Decidable.not_not.mp q59) h
                      clear q59
                      refine a_iconst (v := 1) (pc := 261) F dX8_missingNow_261 (by decide) ?_
                      refine a_goto (tgt := 266) (pc := 262) F dX8_missingNow_262 (by decide) ?_
                      refine a_istore (lv' := [(5, .int 1), (10, .int x50), (0, .ref (ga X.G 162)), (1, .int p1), (2, .int x2), (3, .int x3), (4, .int x11), (6, .int x17), (7, .int (x17 / 10)), (8, .int (x17 - x17 / 10 * 10)), (9, .int x31)]) (pc := 266) F dX8_missingNow_266 (by decide) rfl ?_
                      obtain ⟨x61, ex61⟩ : ∃ x61 : Int32, x61 = x17 + 1 := ⟨_, rfl⟩
                      refine a_iinc (v := x61) (lv' := [(6, .int x61), (5, .int 1), (10, .int x50), (0, .ref (ga X.G 162)), (1, .int p1), (2, .int x2), (3, .int x3), (4, .int x11), (7, .int (x17 / 10)), (8, .int (x17 - x17 / 10 * 10)), (9, .int x31)]) (pc := 268) F dX8_missingNow_268 7 rfl (by rw [ex61]; rfl) (by decide) rfl ?_
                      replace h := nm_at ex61 h
                      clear ex61
                      refine a_goto (tgt := 61) (pc := 271) F dX8_missingNow_271 (by decide) ?_
                      refine a_lv F [3, 4, 5, 6, 7, 1, 0] rfl ?_
                      exact hP15 _ (Option.some.inj h).symm
                · replace h := ite_f q53 h
                  clear q53
                  refine a_aload_n (pc := 224) F dX8_missingNow_224 1 rfl ?_
                  refine a_getr (k := 162) (r := 163) (pc := 225) F dX8_missingNow_225 fl_RX8_7 kl_162 ks_162 rfl ?_
                  refine a_bipush (v := 13) (pc := 228) F dX8_missingNow_228 (by decide) ?_
                  refine a_iload (pc := 230) F dX8_missingNow_230 8 rfl ?_
                  refine a_iadd (pc := 232) F dX8_missingNow_232 ?_
                  replace h := gIn_some h
                  obtain ⟨g62, h⟩ := h
                  refine a_ial (k := 163) (pc := 233) F dX8_missingNow_233 kl_163 ks_163 g62 ?_
                  refine a_nmi fun x63 ex63 => ?_
                  replace h := nm_at ex63 h
                  clear ex63
                  refine a_iconst (v := 1) (pc := 234) F dX8_missingNow_234 (by decide) ?_
                  refine a_iand (pc := 235) F dX8_missingNow_235 ?_
                  refine a_iconst (v := 1) (pc := 236) F dX8_missingNow_236 (by decide) ?_
                  refine a_icmp_eq (tgt := 261) (pc := 237) F dX8_missingNow_237 (by decide) (fun q64 => ?_) (fun q64 => ?_)
                  · replace h := ite_t q64 h
                    clear q64
                    refine a_iconst (v := 1) (pc := 261) F dX8_missingNow_261 (by decide) ?_
                    refine a_goto (tgt := 266) (pc := 262) F dX8_missingNow_262 (by decide) ?_
                    refine a_istore (lv' := [(5, .int 1), (10, .int x50), (0, .ref (ga X.G 162)), (1, .int p1), (2, .int x2), (3, .int x3), (4, .int x11), (6, .int x17), (7, .int (x17 / 10)), (8, .int (x17 - x17 / 10 * 10)), (9, .int x31)]) (pc := 266) F dX8_missingNow_266 (by decide) rfl ?_
                    obtain ⟨x65, ex65⟩ : ∃ x65 : Int32, x65 = x17 + 1 := ⟨_, rfl⟩
                    refine a_iinc (v := x65) (lv' := [(6, .int x65), (5, .int 1), (10, .int x50), (0, .ref (ga X.G 162)), (1, .int p1), (2, .int x2), (3, .int x3), (4, .int x11), (7, .int (x17 / 10)), (8, .int (x17 - x17 / 10 * 10)), (9, .int x31)]) (pc := 268) F dX8_missingNow_268 7 rfl (by rw [ex65]; rfl) (by decide) rfl ?_
                    replace h := nm_at ex65 h
                    clear ex65
                    refine a_goto (tgt := 61) (pc := 271) F dX8_missingNow_271 (by decide) ?_
                    refine a_lv F [3, 4, 5, 6, 7, 1, 0] rfl ?_
                    exact hP15 _ (Option.some.inj h).symm
                  · replace h := ite_f q64 h
                    clear q64
                    refine a_iload (pc := 240) F dX8_missingNow_240 0 rfl ?_
                    refine a_if_eq (tgt := 265) (pc := 242) F dX8_missingNow_242 (by decide) (fun q66 => ?_) (fun q66 => ?_)
                    · replace h := ite_t q66 h
                      clear q66
                      refine a_iconst (v := 0) (pc := 265) F dX8_missingNow_265 (by decide) ?_
                      refine a_istore (lv' := [(5, .int 0), (10, .int x50), (0, .ref (ga X.G 162)), (1, .int p1), (2, .int x2), (3, .int x3), (4, .int x11), (6, .int x17), (7, .int (x17 / 10)), (8, .int (x17 - x17 / 10 * 10)), (9, .int x31)]) (pc := 266) F dX8_missingNow_266 (by decide) rfl ?_
                      obtain ⟨x67, ex67⟩ : ∃ x67 : Int32, x67 = x17 + 1 := ⟨_, rfl⟩
                      refine a_iinc (v := x67) (lv' := [(6, .int x67), (5, .int 0), (10, .int x50), (0, .ref (ga X.G 162)), (1, .int p1), (2, .int x2), (3, .int x3), (4, .int x11), (7, .int (x17 / 10)), (8, .int (x17 - x17 / 10 * 10)), (9, .int x31)]) (pc := 268) F dX8_missingNow_268 7 rfl (by rw [ex67]; rfl) (by decide) rfl ?_
                      replace h := nm_at ex67 h
                      clear ex67
                      refine a_goto (tgt := 61) (pc := 271) F dX8_missingNow_271 (by decide) ?_
                      refine a_lv F [3, 4, 5, 6, 7, 1, 0] rfl ?_
                      exact hP15 _ (Option.some.inj h).symm
                    · replace h := ite_f q66 h
                      clear q66
                      refine a_aload_n (pc := 245) F dX8_missingNow_245 1 rfl ?_
                      refine a_getr (k := 162) (r := 163) (pc := 246) F dX8_missingNow_246 fl_RX8_7 kl_162 ks_162 rfl ?_
                      refine a_bipush (v := 13) (pc := 249) F dX8_missingNow_249 (by decide) ?_
                      refine a_iload (pc := 251) F dX8_missingNow_251 9 rfl ?_
                      refine a_iadd (pc := 253) F dX8_missingNow_253 ?_
                      refine a_nmi fun x68 ex68 => ?_
                      replace h := nm_at ex68 h
                      clear ex68
                      replace h := gIn_some h
                      obtain ⟨g69, h⟩ := h
                      refine a_ial (k := 163) (pc := 254) F dX8_missingNow_254 kl_163 ks_163 g69 ?_
                      refine a_nmi fun x70 ex70 => ?_
                      replace h := nm_at ex70 h
                      clear ex70
                      refine a_iconst (v := 1) (pc := 255) F dX8_missingNow_255 (by decide) ?_
                      refine a_iand (pc := 256) F dX8_missingNow_256 ?_
                      refine a_iconst (v := 1) (pc := 257) F dX8_missingNow_257 (by decide) ?_
                      refine a_icmp_ne (tgt := 265) (pc := 258) F dX8_missingNow_258 (by decide) (fun q71 => ?_) (fun q71 => ?_)
                      · replace h := ite_f q71 h
                        clear q71
                        refine a_iconst (v := 0) (pc := 265) F dX8_missingNow_265 (by decide) ?_
                        refine a_istore (lv' := [(5, .int 0), (10, .int x50), (0, .ref (ga X.G 162)), (1, .int p1), (2, .int x2), (3, .int x3), (4, .int x11), (6, .int x17), (7, .int (x17 / 10)), (8, .int (x17 - x17 / 10 * 10)), (9, .int x31)]) (pc := 266) F dX8_missingNow_266 (by decide) rfl ?_
                        obtain ⟨x72, ex72⟩ : ∃ x72 : Int32, x72 = x17 + 1 := ⟨_, rfl⟩
                        refine a_iinc (v := x72) (lv' := [(6, .int x72), (5, .int 0), (10, .int x50), (0, .ref (ga X.G 162)), (1, .int p1), (2, .int x2), (3, .int x3), (4, .int x11), (7, .int (x17 / 10)), (8, .int (x17 - x17 / 10 * 10)), (9, .int x31)]) (pc := 268) F dX8_missingNow_268 7 rfl (by rw [ex72]; rfl) (by decide) rfl ?_
                        replace h := nm_at ex72 h
                        clear ex72
                        refine a_goto (tgt := 61) (pc := 271) F dX8_missingNow_271 (by decide) ?_
                        refine a_lv F [3, 4, 5, 6, 7, 1, 0] rfl ?_
                        exact hP15 _ (Option.some.inj h).symm
                      · replace h := ite_t (Decidable.not_not.mp q71) h
                        clear q71
                        refine a_iconst (v := 1) (pc := 261) F dX8_missingNow_261 (by decide) ?_
                        refine a_goto (tgt := 266) (pc := 262) F dX8_missingNow_262 (by decide) ?_
                        refine a_istore (lv' := [(5, .int 1), (10, .int x50), (0, .ref (ga X.G 162)), (1, .int p1), (2, .int x2), (3, .int x3), (4, .int x11), (6, .int x17), (7, .int (x17 / 10)), (8, .int (x17 - x17 / 10 * 10)), (9, .int x31)]) (pc := 266) F dX8_missingNow_266 (by decide) rfl ?_
                        obtain ⟨x73, ex73⟩ : ∃ x73 : Int32, x73 = x17 + 1 := ⟨_, rfl⟩
                        refine a_iinc (v := x73) (lv' := [(6, .int x73), (5, .int 1), (10, .int x50), (0, .ref (ga X.G 162)), (1, .int p1), (2, .int x2), (3, .int x3), (4, .int x11), (7, .int (x17 / 10)), (8, .int (x17 - x17 / 10 * 10)), (9, .int x31)]) (pc := 268) F dX8_missingNow_268 7 rfl (by rw [ex73]; rfl) (by decide) rfl ?_
                        replace h := nm_at ex73 h
                        clear ex73
                        refine a_goto (tgt := 61) (pc := 271) F dX8_missingNow_271 (by decide) ?_
                        refine a_lv F [3, 4, 5, 6, 7, 1, 0] rfl ?_
                        exact hP15 _ (Option.some.inj h).symm
            clear h
            have h := hR32
            clear hR32
            refine a_if_eq (tgt := 211) (pc := 140) F dX8_missingNow_140 (by decide) (fun q33 => ?_) (fun q33 => ?_)
            · replace h := ite_t q33 h
              clear q33
              refine a_iconst (v := 0) (pc := 211) F dX8_missingNow_211 (by decide) ?_
              refine a_lv F [1, 2, 3, 4, 5, 6, 7, 8, 9, 0] rfl ?_
              cases h
              exact hJ32
            · replace h := ite_f q33 h
              clear q33
              refine a_aload_n (pc := 143) F dX8_missingNow_143 1 rfl ?_
              refine a_iload (pc := 144) F dX8_missingNow_144 9 rfl ?_
              replace h := bnd_some h
              obtain ⟨x35, hc34, h⟩ := h
              refine a_callV (pc := 146) (k := 162) (As := [.int (x17 - x17 / 10 * 10)]) (st := []) F dX8_missingNow_146 (m_X8_isPerson hc34) cv_RX8_82 kl_162 ks_162 ⟨_, _, rfl⟩ rfl rfl rfl (Nat.le_of_ble_eq_true rfl) ⟨Nat.le_of_ble_eq_true rfl, Nat.le_of_ble_eq_true rfl⟩ ?_ rfl rfl
              clear hc34
              refine a_if_eq (tgt := 211) (pc := 149) F dX8_missingNow_149 (by decide) (fun q36 => ?_) (fun q36 => ?_)
              · replace h := ite_t q36 h
                clear q36
                refine a_iconst (v := 0) (pc := 211) F dX8_missingNow_211 (by decide) ?_
                refine a_lv F [1, 2, 3, 4, 5, 6, 7, 8, 9, 0] rfl ?_
                cases h
                exact hJ32
              · replace h := ite_f q36 h
                clear q36
                refine a_iload (pc := 152) F dX8_missingNow_152 9 rfl ?_
                refine a_iload_n (pc := 154) F dX8_missingNow_154 4 rfl ?_
                refine a_icmp_eq (tgt := 211) (pc := 155) F dX8_missingNow_155 (by decide) (fun q37 => ?_) (fun q37 => ?_)
                · replace h := ite_t q37 h
                  clear q37
                  refine a_iconst (v := 0) (pc := 211) F dX8_missingNow_211 (by decide) ?_
                  refine a_lv F [1, 2, 3, 4, 5, 6, 7, 8, 9, 0] rfl ?_
                  cases h
                  exact hJ32
                · replace h := ite_f q37 h
                  clear q37
                  refine a_iload (pc := 158) F dX8_missingNow_158 9 rfl ?_
                  refine a_iload (pc := 160) F dX8_missingNow_160 8 rfl ?_
                  refine a_icmp_eq (tgt := 211) (pc := 162) F dX8_missingNow_162 (by decide) (fun q38 => ?_) (fun q38 => ?_)
                  · replace h := ite_t q38 h
                    clear q38
                    refine a_iconst (v := 0) (pc := 211) F dX8_missingNow_211 (by decide) ?_
                    refine a_lv F [1, 2, 3, 4, 5, 6, 7, 8, 9, 0] rfl ?_
                    cases h
                    exact hJ32
                  · replace h := ite_f q38 h
                    clear q38
                    refine a_aload_n (pc := 165) F dX8_missingNow_165 1 rfl ?_
                    refine a_getr (k := 162) (r := 163) (pc := 166) F dX8_missingNow_166 fl_RX8_7 kl_162 ks_162 rfl ?_
                    refine a_bipush (v := 23) (pc := 169) F dX8_missingNow_169 (by decide) ?_
                    refine a_iload (pc := 171) F dX8_missingNow_171 9 rfl ?_
                    refine a_iadd (pc := 173) F dX8_missingNow_173 ?_
                    refine a_nmi fun x39 ex39 => ?_
                    replace h := nm_at ex39 h
                    clear ex39
                    replace h := gIn_some h
                    obtain ⟨g40, h⟩ := h
                    refine a_ial (k := 163) (pc := 174) F dX8_missingNow_174 kl_163 ks_163 g40 ?_
                    refine a_nmi fun x41 ex41 => ?_
                    replace h := nm_at ex41 h
                    clear ex41
                    refine a_iload_n (pc := 175) F dX8_missingNow_175 2 rfl ?_
                    refine a_ishr (pc := 176) F dX8_missingNow_176 ?_
                    refine a_iconst (v := 1) (pc := 177) F dX8_missingNow_177 (by decide) ?_
                    refine a_iand (pc := 178) F dX8_missingNow_178 ?_
                    refine a_nmi fun x42 ex42 => ?_
                    replace h := nm_at ex42 h
                    clear ex42
                    refine a_iconst (v := 1) (pc := 179) F dX8_missingNow_179 (by decide) ?_
                    refine a_icmp_ne (tgt := 211) (pc := 180) F dX8_missingNow_180 (by decide) (fun q43 => ?_) (fun q43 => ?_)
                    · replace h := ite_f q43 h
                      clear q43
                      refine a_iconst (v := 0) (pc := 211) F dX8_missingNow_211 (by decide) ?_
                      refine a_lv F [1, 2, 3, 4, 5, 6, 7, 8, 9, 0] rfl ?_
                      cases h
                      exact hJ32
                    · replace h := ite_t (Decidable.not_not.mp q43) h
                      clear q43
                      refine a_aload_n (pc := 183) F dX8_missingNow_183 1 rfl ?_
                      refine a_getr (k := 162) (r := 163) (pc := 184) F dX8_missingNow_184 fl_RX8_7 kl_162 ks_162 rfl ?_
                      refine a_bipush (v := 13) (pc := 187) F dX8_missingNow_187 (by decide) ?_
                      refine a_iload (pc := 189) F dX8_missingNow_189 9 rfl ?_
                      refine a_iadd (pc := 191) F dX8_missingNow_191 ?_
                      refine a_nmi fun x44 ex44 => ?_
                      replace h := nm_at ex44 h
                      clear ex44
                      replace h := gIn_some h
                      obtain ⟨g45, h⟩ := h
                      refine a_ial (k := 163) (pc := 192) F dX8_missingNow_192 kl_163 ks_163 g45 ?_
                      refine a_nmi fun x46 ex46 => ?_
                      replace h := nm_at ex46 h
                      clear ex46
                      refine a_aload_n (pc := 193) F dX8_missingNow_193 1 rfl ?_
                      refine a_getr (k := 162) (r := 163) (pc := 194) F dX8_missingNow_194 fl_RX8_7 kl_162 ks_162 rfl ?_
                      refine a_bipush (v := 13) (pc := 197) F dX8_missingNow_197 (by decide) ?_
                      refine a_iload (pc := 199) F dX8_missingNow_199 8 rfl ?_
                      refine a_iadd (pc := 201) F dX8_missingNow_201 ?_
                      replace h := gIn_some h
                      obtain ⟨g47, h⟩ := h
                      refine a_ial (k := 163) (pc := 202) F dX8_missingNow_202 kl_163 ks_163 g47 ?_
                      refine a_nmi fun x48 ex48 => ?_
                      replace h := nm_at ex48 h
                      clear ex48
                      refine a_iand (pc := 203) F dX8_missingNow_203 ?_
                      refine a_if_eq (tgt := 211) (pc := 204) F dX8_missingNow_204 (by decide) (fun q49 => ?_) (fun q49 => ?_)
                      · replace h := ite_t q49 h
                        clear q49
                        refine a_iconst (v := 0) (pc := 211) F dX8_missingNow_211 (by decide) ?_
                        refine a_lv F [1, 2, 3, 4, 5, 6, 7, 8, 9, 0] rfl ?_
                        cases h
                        exact hJ32
                      · replace h := ite_f q49 h
                        clear q49
                        refine a_iconst (v := 1) (pc := 207) F dX8_missingNow_207 (by decide) ?_
                        refine a_goto (tgt := 212) (pc := 208) F dX8_missingNow_208 (by decide) ?_
                        refine a_lv F [1, 2, 3, 4, 5, 6, 7, 8, 9, 0] rfl ?_
                        cases h
                        exact hJ32
          clear h
          have h := hR21
          clear hR21
          refine a_if_eq (tgt := 135) (pc := 88) F dX8_missingNow_88 (by decide) (fun q22 => ?_) (fun q22 => ?_)
          · replace h := ite_t q22 h
            clear q22
            refine a_iconst (v := 0) (pc := 135) F dX8_missingNow_135 (by decide) ?_
            refine a_lv F [2, 3, 4, 5, 6, 7, 8, 1, 0] rfl ?_
            cases h
            exact hJ21
          · replace h := ite_f q22 h
            clear q22
            refine a_iload (pc := 91) F dX8_missingNow_91 1 rfl ?_
            refine a_iload_n (pc := 93) F dX8_missingNow_93 5 rfl ?_
            refine a_icmp_eq (tgt := 135) (pc := 94) F dX8_missingNow_94 (by decide) (fun q23 => ?_) (fun q23 => ?_)
            · replace h := ite_t q23 h
              clear q23
              refine a_iconst (v := 0) (pc := 135) F dX8_missingNow_135 (by decide) ?_
              refine a_lv F [2, 3, 4, 5, 6, 7, 8, 1, 0] rfl ?_
              cases h
              exact hJ21
            · replace h := ite_f q23 h
              clear q23
              refine a_aload_n (pc := 97) F dX8_missingNow_97 2 rfl ?_
              refine a_getr (k := 162) (r := 163) (pc := 98) F dX8_missingNow_98 fl_RX8_7 kl_162 ks_162 rfl ?_
              refine a_bipush (v := 23) (pc := 101) F dX8_missingNow_101 (by decide) ?_
              refine a_iload (pc := 103) F dX8_missingNow_103 1 rfl ?_
              refine a_iadd (pc := 105) F dX8_missingNow_105 ?_
              replace h := gIn_some h
              obtain ⟨g24, h⟩ := h
              refine a_ial (k := 163) (pc := 106) F dX8_missingNow_106 kl_163 ks_163 g24 ?_
              refine a_nmi fun x25 ex25 => ?_
              replace h := nm_at ex25 h
              clear ex25
              refine a_iload_n (pc := 107) F dX8_missingNow_107 3 rfl ?_
              refine a_ishr (pc := 108) F dX8_missingNow_108 ?_
              refine a_iconst (v := 1) (pc := 109) F dX8_missingNow_109 (by decide) ?_
              refine a_iand (pc := 110) F dX8_missingNow_110 ?_
              refine a_nmi fun x26 ex26 => ?_
              replace h := nm_at ex26 h
              clear ex26
              refine a_iconst (v := 1) (pc := 111) F dX8_missingNow_111 (by decide) ?_
              refine a_icmp_ne (tgt := 135) (pc := 112) F dX8_missingNow_112 (by decide) (fun q27 => ?_) (fun q27 => ?_)
              · replace h := ite_f q27 h
                clear q27
                refine a_iconst (v := 0) (pc := 135) F dX8_missingNow_135 (by decide) ?_
                refine a_lv F [2, 3, 4, 5, 6, 7, 8, 1, 0] rfl ?_
                cases h
                exact hJ21
              · replace h := ite_t (Decidable.not_not.mp q27) h
                clear q27
                refine a_aload_n (pc := 115) F dX8_missingNow_115 2 rfl ?_
                refine a_getr (k := 162) (r := 163) (pc := 116) F dX8_missingNow_116 fl_RX8_7 kl_162 ks_162 rfl ?_
                refine a_bipush (v := 13) (pc := 119) F dX8_missingNow_119 (by decide) ?_
                refine a_iload (pc := 121) F dX8_missingNow_121 1 rfl ?_
                refine a_iadd (pc := 123) F dX8_missingNow_123 ?_
                replace h := gIn_some h
                obtain ⟨g28, h⟩ := h
                refine a_ial (k := 163) (pc := 124) F dX8_missingNow_124 kl_163 ks_163 g28 ?_
                refine a_nmi fun x29 ex29 => ?_
                replace h := nm_at ex29 h
                clear ex29
                refine a_iload (pc := 125) F dX8_missingNow_125 6 rfl ?_
                refine a_iand (pc := 127) F dX8_missingNow_127 ?_
                refine a_if_eq (tgt := 135) (pc := 128) F dX8_missingNow_128 (by decide) (fun q30 => ?_) (fun q30 => ?_)
                · replace h := ite_t q30 h
                  clear q30
                  refine a_iconst (v := 0) (pc := 135) F dX8_missingNow_135 (by decide) ?_
                  refine a_lv F [2, 3, 4, 5, 6, 7, 8, 1, 0] rfl ?_
                  cases h
                  exact hJ21
                · replace h := ite_f q30 h
                  clear q30
                  refine a_iconst (v := 1) (pc := 131) F dX8_missingNow_131 (by decide) ?_
                  refine a_goto (tgt := 136) (pc := 132) F dX8_missingNow_132 (by decide) ?_
                  refine a_lv F [2, 3, 4, 5, 6, 7, 8, 1, 0] rfl ?_
                  cases h
                  exact hJ21
      clear h
      have h := hR12
      clear hR12
      refine a_icmp_ne (tgt := 55) (pc := 48) F dX8_missingNow_48 (by decide) (fun q13 => ?_) (fun q13 => ?_)
      · replace h := ite_f q13 h
        clear q13
        refine a_iconst (v := 0) (pc := 55) F dX8_missingNow_55 (by decide) ?_
        refine a_lv F [1, 2, 3, 4, 0] rfl ?_
        cases h
        exact hJ12
      · replace h := ite_t (Decidable.not_not.mp q13) h
        clear q13
        refine a_iconst (v := 1) (pc := 51) F dX8_missingNow_51 (by decide) ?_
        refine a_goto (tgt := 56) (pc := 52) F dX8_missingNow_52 (by decide) ?_
        refine a_lv F [1, 2, 3, 4, 0] rfl ?_
        cases h
        exact hJ12
def f_X8_missing (p1 : Int32) (m0 : Mem) : Option (Int32 × Mem) :=
  bnd (f_X8_within p1 0 2 m0) fun x2 => bnd ((if x2 = 0 then some 1 else some 0)) (fun (x5 : Int32) => nm (si m0 162 5 x5) fun m6 => (if (m6.1 162 5) ≤ 0 then bnd (f_X8_missingNow p1 m6) fun x9 => some (x9, m6) else some (0, m6)))
set_option maxRecDepth 100000 in
set_option maxHeartbeats 4000000 in
theorem m_X8_missing {p1 : Int32} {m0 : Mem} {rr : Int32} {mm : Mem} (h : f_X8_missing p1 m0 = some (rr, mm)) : Con yX8_missing cX8_missing 2 (some Jvm.ClassFile.FieldType.int) 3 73 (fun G => [.ref (ga G 162), .int p1]) m0 (some (.int rr)) mm := by
  refine con_of (by decide) (fun G => Nat.le_of_ble_eq_true rfl) (fun X F => ?_)
  show WA X 0 0 0 [(0, .ref (ga X.G 162)), (1, .int p1)] [] m0 (EQ X (some (.int rr)) mm)
  rw [f_X8_missing] at h
  refine a_aload_n (pc := 0) F dX8_missing_0 0 rfl ?_
  refine a_iload_n (pc := 1) F dX8_missing_1 1 rfl ?_
  refine a_iconst (v := 0) (pc := 2) F dX8_missing_2 (by decide) ?_
  refine a_iconst (v := 2) (pc := 3) F dX8_missing_3 (by decide) ?_
  replace h := bnd_some h
  obtain ⟨x2, hc1, h⟩ := h
  refine a_callS (pc := 4) (As := [.int p1, .int 0, .int 2]) (st := [.ref (ga X.G 162)]) F dX8_missing_4 (m_X8_within hc1) cs_RX8_38 rfl rfl rfl (Nat.le_of_ble_eq_true rfl) ⟨Nat.le_of_ble_eq_true rfl, Nat.le_of_ble_eq_true rfl⟩ ?_ rfl rfl
  clear hc1
  replace h := bnd_some h
  obtain ⟨x5, hR3, h⟩ := h
  have hJ3 : WA X 0 0 15 [(0, .ref (ga X.G 162)), (1, .int p1)] [.int x5, .ref (ga X.G 162)] m0 (EQ X (some (.int rr)) mm) := by
    refine a_puti (k := 162) (pc := 15) F dX8_missing_15 fp_RX8_31 kl_162 ks_162 rfl ?_
    refine a_nmm fun m6 em6 => ?_
    replace h := nm_at em6 h
    clear em6
    refine a_aload_n (pc := 18) F dX8_missing_18 0 rfl ?_
    refine a_geti (k := 162) (pc := 19) F dX8_missing_19 fl_RX8_31 kl_162 ks_162 rfl ?_
    refine a_if_le (tgt := 29) (pc := 22) F dX8_missing_22 (by decide) (fun q7 => ?_) (fun q7 => ?_)
    · replace h := ite_t q7 h
      clear q7
      refine a_aload_n (pc := 29) F dX8_missing_29 0 rfl ?_
      refine a_iload_n (pc := 30) F dX8_missing_30 1 rfl ?_
      replace h := bnd_some h
      obtain ⟨x9, hc8, h⟩ := h
      refine a_callV (pc := 31) (k := 162) (As := [.int p1]) (st := []) F dX8_missing_31 (m_X8_missingNow hc8) cv_RX8_233 kl_162 ks_162 ⟨_, _, rfl⟩ rfl rfl rfl (Nat.le_of_ble_eq_true rfl) ⟨Nat.le_of_ble_eq_true rfl, Nat.le_of_ble_eq_true rfl⟩ ?_ rfl rfl
      clear hc8
      cases h
      exact a_iret (pc := 34) F dX8_missing_34 ⟨_, rfl, rfl⟩
    · replace h := ite_f q7 h
      clear q7
      refine a_iconst (v := 0) (pc := 25) F dX8_missing_25 (by decide) ?_
      refine a_goto (tgt := 34) (pc := 26) F dX8_missing_26 (by decide) ?_
      cases h
      exact a_iret (pc := 34) F dX8_missing_34 ⟨_, rfl, rfl⟩
  clear h
  have h := hR3
  clear hR3
  refine a_if_eq (tgt := 14) (pc := 7) F dX8_missing_7 (by decide) (fun q4 => ?_) (fun q4 => ?_)
  · replace h := ite_t q4 h
    clear q4
    refine a_iconst (v := 1) (pc := 14) F dX8_missing_14 (by decide) ?_
    cases h
    exact hJ3
  · replace h := ite_f q4 h
    clear q4
    refine a_iconst (v := 0) (pc := 10) F dX8_missing_10 (by decide) ?_
    refine a_goto (tgt := 15) (pc := 11) F dX8_missing_11 (by decide) ?_
    cases h
    exact hJ3
def f_X8_share (m0 : Mem) : Option UInt64 :=
  (if (m0.1 163 10) = 0 then some 0 else nm ((m0.1 163 10) - (m0.1 163 11)) fun x2 => nm (FP.i2d (x2 - (m0.1 163 12))) fun z3 => gDn (FP.ddiv z3 (FP.i2d (m0.1 163 10))) <| nm (FP.ddiv z3 (FP.i2d (m0.1 163 10))) fun z5 => some z5)
set_option maxRecDepth 100000 in
set_option maxHeartbeats 4000000 in
theorem m_X8_share {m0 : Mem} {rr : UInt64} (h : f_X8_share m0 = some rr) : Con yX8_share cX8_share 1 (some Jvm.ClassFile.FieldType.double) 0 0 (fun G => [.ref (ga G 162)]) m0 (some (.double rr)) m0 := by
  refine con_of (by decide) (fun G => Nat.le_of_ble_eq_true rfl) (fun X F => ?_)
  show WA X 0 0 0 [(0, .ref (ga X.G 162))] [] m0 (EQ X (some (.double rr)) m0)
  rw [f_X8_share] at h
  refine a_aload_n (pc := 0) F dX8_share_0 0 rfl ?_
  refine a_getr (k := 162) (r := 163) (pc := 1) F dX8_share_1 fl_RX8_7 kl_162 ks_162 rfl ?_
  refine a_bipush (v := 10) (pc := 4) F dX8_share_4 (by decide) ?_
  refine a_ialc (k := 163) (pc := 6) F dX8_share_6 kl_163 ks_163 rfl rfl ?_
  refine a_if_ne (tgt := 14) (pc := 7) F dX8_share_7 (by decide) (fun q1 => ?_) (fun q1 => ?_)
  · replace h := ite_f q1 h
    clear q1
    refine a_aload_n (pc := 14) F dX8_share_14 0 rfl ?_
    refine a_getr (k := 162) (r := 163) (pc := 15) F dX8_share_15 fl_RX8_7 kl_162 ks_162 rfl ?_
    refine a_bipush (v := 10) (pc := 18) F dX8_share_18 (by decide) ?_
    refine a_ialc (k := 163) (pc := 20) F dX8_share_20 kl_163 ks_163 rfl rfl ?_
    refine a_aload_n (pc := 21) F dX8_share_21 0 rfl ?_
    refine a_getr (k := 162) (r := 163) (pc := 22) F dX8_share_22 fl_RX8_7 kl_162 ks_162 rfl ?_
    refine a_bipush (v := 11) (pc := 25) F dX8_share_25 (by decide) ?_
    refine a_ialc (k := 163) (pc := 27) F dX8_share_27 kl_163 ks_163 rfl rfl ?_
    refine a_isub (pc := 28) F dX8_share_28 ?_
    refine a_nmi fun x2 ex2 => ?_
    replace h := nm_at ex2 h
    clear ex2
    refine a_aload_n (pc := 29) F dX8_share_29 0 rfl ?_
    refine a_getr (k := 162) (r := 163) (pc := 30) F dX8_share_30 fl_RX8_7 kl_162 ks_162 rfl ?_
    refine a_bipush (v := 12) (pc := 33) F dX8_share_33 (by decide) ?_
    refine a_ialc (k := 163) (pc := 35) F dX8_share_35 kl_163 ks_163 rfl rfl ?_
    refine a_isub (pc := 36) F dX8_share_36 ?_
    refine a_i2d (pc := 37) F dX8_share_37 ?_
    refine a_nmd fun z3 ez3 => ?_
    replace h := nm_at ez3 h
    clear ez3
    refine a_aload_n (pc := 38) F dX8_share_38 0 rfl ?_
    refine a_getr (k := 162) (r := 163) (pc := 39) F dX8_share_39 fl_RX8_7 kl_162 ks_162 rfl ?_
    refine a_bipush (v := 10) (pc := 42) F dX8_share_42 (by decide) ?_
    refine a_ialc (k := 163) (pc := 44) F dX8_share_44 kl_163 ks_163 rfl rfl ?_
    refine a_i2d (pc := 45) F dX8_share_45 ?_
    replace h := gDn_some h
    obtain ⟨g4, h⟩ := h
    refine a_ddiv (pc := 46) F dX8_share_46 g4 ?_
    refine a_nmd fun z5 ez5 => ?_
    replace h := nm_at ez5 h
    clear ez5
    cases h
    exact a_dret (pc := 47) F dX8_share_47 rfl
  · replace h := ite_t (Decidable.not_not.mp q1) h
    clear q1
    refine a_dconst0 (pc := 10) F dX8_share_10 ?_
    refine a_goto (tgt := 47) (pc := 11) F dX8_share_11 (by decide) ?_
    cases h
    exact a_dret (pc := 47) F dX8_share_47 rfl
def f_X8_doneShare (m0 : Mem) : Option (UInt64 × Mem) :=
  nm (si m0 162 5 0) fun m1 => bnd (f_X8_share m1) fun z3 => some (z3, m1)
set_option maxRecDepth 100000 in
set_option maxHeartbeats 4000000 in
theorem m_X8_doneShare {m0 : Mem} {rr : UInt64} {mm : Mem} (h : f_X8_doneShare m0 = some (rr, mm)) : Con yX8_doneShare cX8_doneShare 1 (some Jvm.ClassFile.FieldType.double) 1 20 (fun G => [.ref (ga G 162)]) m0 (some (.double rr)) mm := by
  refine con_of (by decide) (fun G => Nat.le_of_ble_eq_true rfl) (fun X F => ?_)
  show WA X 0 0 0 [(0, .ref (ga X.G 162))] [] m0 (EQ X (some (.double rr)) mm)
  rw [f_X8_doneShare] at h
  refine a_aload_n (pc := 0) F dX8_doneShare_0 0 rfl ?_
  refine a_iconst (v := 0) (pc := 1) F dX8_doneShare_1 (by decide) ?_
  refine a_puti (k := 162) (pc := 2) F dX8_doneShare_2 fp_RX8_31 kl_162 ks_162 rfl ?_
  refine a_nmm fun m1 em1 => ?_
  replace h := nm_at em1 h
  clear em1
  refine a_aload_n (pc := 5) F dX8_doneShare_5 0 rfl ?_
  replace h := bnd_some h
  obtain ⟨z3, hc2, h⟩ := h
  refine a_callV (pc := 6) (k := 162) (As := []) (st := []) F dX8_doneShare_6 (m_X8_share hc2) cv_RX8_236 kl_162 ks_162 ⟨_, _, rfl⟩ rfl rfl rfl (Nat.le_of_ble_eq_true rfl) ⟨Nat.le_of_ble_eq_true rfl, Nat.le_of_ble_eq_true rfl⟩ ?_ rfl rfl
  clear hc2
  cases h
  exact a_dret (pc := 9) F dX8_doneShare_9 rfl
def f_X8_mix (p1 : Int64) (m0 : Mem) : Option Mem :=
  nm ((31 : Int64) * (m0.2 162 16)) fun y1 => nm (slm m0 162 16 (y1 + p1)) fun m2 => some m2
set_option maxRecDepth 100000 in
set_option maxHeartbeats 4000000 in
theorem m_X8_mix {p1 : Int64} {m0 : Mem} {mm : Mem} (h : f_X8_mix p1 m0 = some mm) : Con yX8_mix cX8_mix 3 none 0 0 (fun G => [.ref (ga G 162), .long p1]) m0 none mm := by
  refine con_of (by decide) (fun G => Nat.le_of_ble_eq_true rfl) (fun X F => ?_)
  show WA X 0 0 0 [(0, .ref (ga X.G 162)), (1, .long p1)] [] m0 (EQ X none mm)
  rw [f_X8_mix] at h
  refine a_aload_n (pc := 0) F dX8_mix_0 0 rfl ?_
  refine a_ldc2l (v := 31) (pc := 1) F dX8_mix_1 cw_RX8_240 ?_
  refine a_aload_n (pc := 4) F dX8_mix_4 0 rfl ?_
  refine a_getl (k := 162) (pc := 5) F dX8_mix_5 fl_RX8_242 kl_162 ks_162 rfl ?_
  refine a_lmul (pc := 8) F dX8_mix_8 ?_
  refine a_nml fun y1 ey1 => ?_
  replace h := nm_at ey1 h
  clear ey1
  refine a_lload_n (pc := 9) F dX8_mix_9 1 rfl ?_
  refine a_ladd (pc := 10) F dX8_mix_10 ?_
  refine a_putl (k := 162) (pc := 11) F dX8_mix_11 fp_RX8_242 kl_162 ks_162 rfl ?_
  refine a_nmm fun m2 em2 => ?_
  replace h := nm_at em2 h
  clear em2
  cases h
  exact a_vret (pc := 14) F dX8_mix_14 rfl
def f_X8_mixHearing_L27 (p1 : Int32) : (Int32 × Mem) → Option ((Int32 × Mem) ⊕ Mem)
  | (x12, m13) => (if 5 ≤ x12 then some (.inr m13) else bnd2 (f_X8_cheapestNow p1 x12 m13) fun x16 m17 => bnd (f_X8_mix x16.toInt64 m17) fun m19 => nm (x12 + 1) fun x20 => some (.inl (x20, m19)))
def f_X8_mixHearing_L2 (p1 : Int32) : (Int32 × Mem) → Option ((Int32 × Mem) ⊕ Mem)
  | (x2, m3) => (if 12 ≤ x2 then some (.inr m3) else bnd (f_X8_hearingNow p1 x2 m3) fun x6 => bnd (f_X8_mix x6.toInt64 m3) fun m8 => nm (x2 + 1) fun x9 => some (.inl (x9, m8)))
def f_X8_mixHearing (p1 : Int32) (m0 : Mem) : Option Mem :=
  bnd (lp (f_X8_mixHearing_L2 p1) 1000000 (0, m0)) (fun m10 => bnd (lp (f_X8_mixHearing_L27 p1) 1000000 (0, m10)) (fun m21 => bnd (f_X8_vacatedThen p1 0 m21) fun x23 => bnd (f_X8_mix x23.toInt64 m21) fun m25 => some m25))
set_option maxRecDepth 100000 in
set_option maxHeartbeats 4000000 in
theorem m_X8_mixHearing {p1 : Int32} {m0 : Mem} {mm : Mem} (h : f_X8_mixHearing p1 m0 = some mm) : Con yX8_mixHearing cX8_mixHearing 3 none 9 206 (fun G => [.ref (ga G 162), .int p1]) m0 none mm := by
  refine con_of (by decide) (fun G => Nat.le_of_ble_eq_true rfl) (fun X F => ?_)
  show WA X 0 0 0 [(0, .ref (ga X.G 162)), (1, .int p1)] [] m0 (EQ X none mm)
  rw [f_X8_mixHearing] at h
  refine a_iconst (v := 0) (pc := 0) F dX8_mixHearing_0 (by decide) ?_
  refine a_istore_n (lv' := [(2, .int 0), (0, .ref (ga X.G 162)), (1, .int p1)]) (pc := 1) F dX8_mixHearing_1 (by decide) rfl ?_
  refine a_lv F [1, 2, 0] rfl ?_
  replace h := bnd_some h
  obtain ⟨m10, hL1, h⟩ := h
  have hE1 : WA X 0 0 25 [(0, .ref (ga X.G 162)), (1, .int p1)] [] m10 (EQ X none mm) := by
    refine a_iconst (v := 0) (pc := 25) F dX8_mixHearing_25 (by decide) ?_
    refine a_istore_n (lv' := [(2, .int 0), (0, .ref (ga X.G 162)), (1, .int p1)]) (pc := 26) F dX8_mixHearing_26 (by decide) rfl ?_
    refine a_lv F [1, 2, 0] rfl ?_
    replace h := bnd_some h
    obtain ⟨m21, hL11, h⟩ := h
    have hE11 : WA X 0 0 49 [(0, .ref (ga X.G 162)), (1, .int p1)] [] m21 (EQ X none mm) := by
      refine a_aload_n (pc := 49) F dX8_mixHearing_49 0 rfl ?_
      refine a_aload_n (pc := 50) F dX8_mixHearing_50 0 rfl ?_
      refine a_iload_n (pc := 51) F dX8_mixHearing_51 1 rfl ?_
      refine a_iconst (v := 0) (pc := 52) F dX8_mixHearing_52 (by decide) ?_
      replace h := bnd_some h
      obtain ⟨x23, hc22, h⟩ := h
      refine a_callV (pc := 53) (k := 162) (As := [.int p1, .int 0]) (st := [.ref (ga X.G 162)]) F dX8_mixHearing_53 (m_X8_vacatedThen hc22) cv_RX8_227 kl_162 ks_162 ⟨_, _, rfl⟩ rfl rfl rfl (Nat.le_of_ble_eq_true rfl) ⟨Nat.le_of_ble_eq_true rfl, Nat.le_of_ble_eq_true rfl⟩ ?_ rfl rfl
      clear hc22
      refine a_i2l (pc := 56) F dX8_mixHearing_56 ?_
      replace h := bnd_some h
      obtain ⟨m25, hc24, h⟩ := h
      refine a_callV (pc := 57) (k := 162) (As := [.long x23.toInt64]) (st := []) F dX8_mixHearing_57 (m_X8_mix hc24) cv_RX8_246 kl_162 ks_162 ⟨_, _, rfl⟩ rfl rfl rfl (Nat.le_of_ble_eq_true rfl) ⟨Nat.le_of_ble_eq_true rfl, Nat.le_of_ble_eq_true rfl⟩ ?_ rfl rfl
      clear hc24
      cases h
      exact a_vret (pc := 60) F dX8_mixHearing_60 rfl
    clear h
    refine lp_run (P := fun (s : (Int32 × Mem)) => WA X 0 0 27 [(0, .ref (ga X.G 162)), (1, .int p1), (2, .int s.1)] [] s.2 (EQ X none mm)) ?_ _ _ hL11
    clear hL11
    rintro ⟨x12, m13⟩ xo h hP11 hT11
    show WA X 0 0 27 [(0, .ref (ga X.G 162)), (1, .int p1), (2, .int x12)] [] m13 (EQ X none mm)
    rw [f_X8_mixHearing_L27] at h
    refine a_iload_n (pc := 27) F dX8_mixHearing_27 2 rfl ?_
    refine a_iconst (v := 5) (pc := 28) F dX8_mixHearing_28 (by decide) ?_
    refine a_icmp_ge (tgt := 49) (pc := 29) F dX8_mixHearing_29 (by decide) (fun q14 => ?_) (fun q14 => ?_)
    · replace h := ite_t q14 h
      clear q14
      refine a_lv F [0, 1] rfl ?_
      cases hT11 _ (Option.some.inj h).symm
      exact hE11
    · replace h := ite_f q14 h
      clear q14
      refine a_aload_n (pc := 32) F dX8_mixHearing_32 0 rfl ?_
      refine a_aload_n (pc := 33) F dX8_mixHearing_33 0 rfl ?_
      refine a_iload_n (pc := 34) F dX8_mixHearing_34 1 rfl ?_
      refine a_iload_n (pc := 35) F dX8_mixHearing_35 2 rfl ?_
      replace h := bnd2_some h
      obtain ⟨x16, m17, hc15, h⟩ := h
      refine a_callV (pc := 36) (k := 162) (As := [.int p1, .int x12]) (st := [.ref (ga X.G 162)]) F dX8_mixHearing_36 (m_X8_cheapestNow hc15) cv_RX8_215 kl_162 ks_162 ⟨_, _, rfl⟩ rfl rfl rfl (Nat.le_of_ble_eq_true rfl) ⟨Nat.le_of_ble_eq_true rfl, Nat.le_of_ble_eq_true rfl⟩ ?_ rfl rfl
      clear hc15
      refine a_i2l (pc := 39) F dX8_mixHearing_39 ?_
      replace h := bnd_some h
      obtain ⟨m19, hc18, h⟩ := h
      refine a_callV (pc := 40) (k := 162) (As := [.long x16.toInt64]) (st := []) F dX8_mixHearing_40 (m_X8_mix hc18) cv_RX8_246 kl_162 ks_162 ⟨_, _, rfl⟩ rfl rfl rfl (Nat.le_of_ble_eq_true rfl) ⟨Nat.le_of_ble_eq_true rfl, Nat.le_of_ble_eq_true rfl⟩ ?_ rfl rfl
      clear hc18
      obtain ⟨x20, ex20⟩ : ∃ x20 : Int32, x20 = x12 + 1 := ⟨_, rfl⟩
      refine a_iinc (v := x20) (lv' := [(2, .int x20), (0, .ref (ga X.G 162)), (1, .int p1)]) (pc := 43) F dX8_mixHearing_43 2 rfl (by rw [ex20]; rfl) (by decide) rfl ?_
      replace h := nm_at ex20 h
      clear ex20
      refine a_goto (tgt := 27) (pc := 46) F dX8_mixHearing_46 (by decide) ?_
      refine a_lv F [1, 2, 0] rfl ?_
      exact hP11 _ (Option.some.inj h).symm
  clear h
  refine lp_run (P := fun (s : (Int32 × Mem)) => WA X 0 0 2 [(0, .ref (ga X.G 162)), (1, .int p1), (2, .int s.1)] [] s.2 (EQ X none mm)) ?_ _ _ hL1
  clear hL1
  rintro ⟨x2, m3⟩ xo h hP1 hT1
  show WA X 0 0 2 [(0, .ref (ga X.G 162)), (1, .int p1), (2, .int x2)] [] m3 (EQ X none mm)
  rw [f_X8_mixHearing_L2] at h
  refine a_iload_n (pc := 2) F dX8_mixHearing_2 2 rfl ?_
  refine a_bipush (v := 12) (pc := 3) F dX8_mixHearing_3 (by decide) ?_
  refine a_icmp_ge (tgt := 25) (pc := 5) F dX8_mixHearing_5 (by decide) (fun q4 => ?_) (fun q4 => ?_)
  · replace h := ite_t q4 h
    clear q4
    refine a_lv F [0, 1] rfl ?_
    cases hT1 _ (Option.some.inj h).symm
    exact hE1
  · replace h := ite_f q4 h
    clear q4
    refine a_aload_n (pc := 8) F dX8_mixHearing_8 0 rfl ?_
    refine a_aload_n (pc := 9) F dX8_mixHearing_9 0 rfl ?_
    refine a_iload_n (pc := 10) F dX8_mixHearing_10 1 rfl ?_
    refine a_iload_n (pc := 11) F dX8_mixHearing_11 2 rfl ?_
    replace h := bnd_some h
    obtain ⟨x6, hc5, h⟩ := h
    refine a_callV (pc := 12) (k := 162) (As := [.int p1, .int x2]) (st := [.ref (ga X.G 162)]) F dX8_mixHearing_12 (m_X8_hearingNow hc5) cv_RX8_189 kl_162 ks_162 ⟨_, _, rfl⟩ rfl rfl rfl (Nat.le_of_ble_eq_true rfl) ⟨Nat.le_of_ble_eq_true rfl, Nat.le_of_ble_eq_true rfl⟩ ?_ rfl rfl
    clear hc5
    refine a_i2l (pc := 15) F dX8_mixHearing_15 ?_
    replace h := bnd_some h
    obtain ⟨m8, hc7, h⟩ := h
    refine a_callV (pc := 16) (k := 162) (As := [.long x6.toInt64]) (st := []) F dX8_mixHearing_16 (m_X8_mix hc7) cv_RX8_246 kl_162 ks_162 ⟨_, _, rfl⟩ rfl rfl rfl (Nat.le_of_ble_eq_true rfl) ⟨Nat.le_of_ble_eq_true rfl, Nat.le_of_ble_eq_true rfl⟩ ?_ rfl rfl
    clear hc7
    obtain ⟨x9, ex9⟩ : ∃ x9 : Int32, x9 = x2 + 1 := ⟨_, rfl⟩
    refine a_iinc (v := x9) (lv' := [(2, .int x9), (0, .ref (ga X.G 162)), (1, .int p1)]) (pc := 19) F dX8_mixHearing_19 2 rfl (by rw [ex9]; rfl) (by decide) rfl ?_
    replace h := nm_at ex9 h
    clear ex9
    refine a_goto (tgt := 2) (pc := 22) F dX8_mixHearing_22 (by decide) ?_
    refine a_lv F [1, 2, 0] rfl ?_
    exact hP1 _ (Option.some.inj h).symm
