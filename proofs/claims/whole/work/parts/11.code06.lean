def f_X1_trySeconds_L29 (p1 : Int32) (p2 : Int32) (x7 : Int32) : (Int32 × Mem) → Option ((Int32 × Mem) ⊕ Mem)
  | (x9, m10) => (if (m10.1 158 5) ≤ x9 then some (.inr m10) else bnd (f_X7_bitOf x9 m10) fun x13 => (if (x7 &&& x13) = 0 then nm (x9 + 1) fun x26 => some (.inl (x26, m10)) else (if p2 ≤ 2 then gIn p1 10 <| nm (m10.1 161 p1.toNatClampNeg) fun x17 => gIn x9 10 <| nm (m10.1 161 x9.toNatClampNeg) fun x19 => bnd (f_X1_offer (x17 + x19) 2 p1 x9 (-1) m10) fun m21 => nm (x9 + 1) fun x22 => some (.inl (x22, m21)) else bnd (f_X1_tryThirds p1 x9 m10) fun m24 => nm (x9 + 1) fun x25 => some (.inl (x25, m24)))))
def f_X1_trySeconds (p1 : Int32) (p2 : Int32) (m0 : Mem) : Option Mem :=
  bnd ((if p2 ≤ 2 then gIn p1 10 <| nm (m0.1 159 p1.toNatClampNeg) fun x4 => some (x4 &&& (m0.1 158 7)) else gIn p1 10 <| nm (m0.1 159 p1.toNatClampNeg) fun x6 => some x6)) (fun (x7 : Int32) => bnd (lp (f_X1_trySeconds_L29 p1 p2 x7) 1000000 (0, m0)) (fun m27 => some m27))
set_option maxRecDepth 100000 in
set_option maxHeartbeats 4000000 in
theorem m_X1_trySeconds {p1 : Int32} {p2 : Int32} {m0 : Mem} {mm : Mem} (h : f_X1_trySeconds p1 p2 m0 = some mm) : Con yX1_trySeconds cX1_trySeconds 5 none 3 74 (fun G => [.ref (ga G 158), .int p1, .int p2]) m0 none mm := by
  refine con_of (by decide) (fun G => Nat.le_of_ble_eq_true rfl) (fun X F => ?_)
  show WA X 0 0 0 [(0, .ref (ga X.G 158)), (1, .int p1), (2, .int p2)] [] m0 (EQ X none mm)
  rw [f_X1_trySeconds] at h
  refine a_iload_n (pc := 0) F dX1_trySeconds_0 2 rfl ?_
  refine a_iconst (v := 2) (pc := 1) F dX1_trySeconds_1 (by decide) ?_
  replace h := bnd_some h
  obtain ⟨x7, hR1, h⟩ := h
  have hJ1 : WA X 0 0 25 [(0, .ref (ga X.G 158)), (1, .int p1), (2, .int p2)] [.int x7] m0 (EQ X none mm) := by
    refine a_istore_n (lv' := [(3, .int x7), (0, .ref (ga X.G 158)), (1, .int p1), (2, .int p2)]) (pc := 25) F dX1_trySeconds_25 (by decide) rfl ?_
    refine a_iconst (v := 0) (pc := 26) F dX1_trySeconds_26 (by decide) ?_
    refine a_istore (lv' := [(4, .int 0), (3, .int x7), (0, .ref (ga X.G 158)), (1, .int p1), (2, .int p2)]) (pc := 27) F dX1_trySeconds_27 (by decide) rfl ?_
    refine a_lv F [2, 3, 4, 1, 0] rfl ?_
    replace h := bnd_some h
    obtain ⟨m27, hL8, h⟩ := h
    have hE8 : WA X 0 0 95 [] [] m27 (EQ X none mm) := by
      cases h
      exact a_vret (pc := 95) F dX1_trySeconds_95 rfl
    clear h
    refine lp_run (P := fun (s : (Int32 × Mem)) => WA X 0 0 29 [(0, .ref (ga X.G 158)), (1, .int p1), (2, .int p2), (3, .int x7), (4, .int s.1)] [] s.2 (EQ X none mm)) ?_ _ _ hL8
    clear hL8
    rintro ⟨x9, m10⟩ xo h hP8 hT8
    show WA X 0 0 29 [(0, .ref (ga X.G 158)), (1, .int p1), (2, .int p2), (3, .int x7), (4, .int x9)] [] m10 (EQ X none mm)
    rw [f_X1_trySeconds_L29] at h
    refine a_iload (pc := 29) F dX1_trySeconds_29 4 rfl ?_
    refine a_aload_n (pc := 31) F dX1_trySeconds_31 0 rfl ?_
    refine a_geti (k := 158) (pc := 32) F dX1_trySeconds_32 fl_RX1_66 kl_158 ks_158 rfl ?_
    refine a_icmp_ge (tgt := 95) (pc := 35) F dX1_trySeconds_35 (by decide) (fun q11 => ?_) (fun q11 => ?_)
    · replace h := ite_t q11 h
      clear q11
      refine a_lv F [] rfl ?_
      cases hT8 _ (Option.some.inj h).symm
      exact hE8
    · replace h := ite_f q11 h
      clear q11
      refine a_iload_n (pc := 38) F dX1_trySeconds_38 3 rfl ?_
      refine a_iload (pc := 39) F dX1_trySeconds_39 4 rfl ?_
      replace h := bnd_some h
      obtain ⟨x13, hc12, h⟩ := h
      refine a_callSN (pc := 41) (As := [.int x9]) (st := [.int x7]) F dX1_trySeconds_41 (m_X7_bitOf hc12) cn_RX1_69 rfl rfl rfl (Nat.le_of_ble_eq_true rfl) ⟨Nat.le_of_ble_eq_true rfl, Nat.le_of_ble_eq_true rfl⟩ ?_ rfl rfl
      clear hc12
      refine a_iand (pc := 44) F dX1_trySeconds_44 ?_
      refine a_if_ne (tgt := 51) (pc := 45) F dX1_trySeconds_45 (by decide) (fun q14 => ?_) (fun q14 => ?_)
      · replace h := ite_f q14 h
        clear q14
        refine a_iload_n (pc := 51) F dX1_trySeconds_51 2 rfl ?_
        refine a_iconst (v := 2) (pc := 52) F dX1_trySeconds_52 (by decide) ?_
        refine a_icmp_le (tgt := 66) (pc := 53) F dX1_trySeconds_53 (by decide) (fun q15 => ?_) (fun q15 => ?_)
        · replace h := ite_t q15 h
          clear q15
          refine a_aload_n (pc := 66) F dX1_trySeconds_66 0 rfl ?_
          refine a_aload_n (pc := 67) F dX1_trySeconds_67 0 rfl ?_
          refine a_getr (k := 158) (r := 161) (pc := 68) F dX1_trySeconds_68 fl_RX1_18 kl_158 ks_158 rfl ?_
          refine a_iload_n (pc := 71) F dX1_trySeconds_71 1 rfl ?_
          replace h := gIn_some h
          obtain ⟨g16, h⟩ := h
          refine a_ial (k := 161) (pc := 72) F dX1_trySeconds_72 kl_161 ks_161 g16 ?_
          refine a_nmi fun x17 ex17 => ?_
          replace h := nm_at ex17 h
          clear ex17
          refine a_aload_n (pc := 73) F dX1_trySeconds_73 0 rfl ?_
          refine a_getr (k := 158) (r := 161) (pc := 74) F dX1_trySeconds_74 fl_RX1_18 kl_158 ks_158 rfl ?_
          refine a_iload (pc := 77) F dX1_trySeconds_77 4 rfl ?_
          replace h := gIn_some h
          obtain ⟨g18, h⟩ := h
          refine a_ial (k := 161) (pc := 79) F dX1_trySeconds_79 kl_161 ks_161 g18 ?_
          refine a_nmi fun x19 ex19 => ?_
          replace h := nm_at ex19 h
          clear ex19
          refine a_iadd (pc := 80) F dX1_trySeconds_80 ?_
          refine a_iconst (v := 2) (pc := 81) F dX1_trySeconds_81 (by decide) ?_
          refine a_iload_n (pc := 82) F dX1_trySeconds_82 1 rfl ?_
          refine a_iload (pc := 83) F dX1_trySeconds_83 4 rfl ?_
          refine a_iconst (v := (-1)) (pc := 85) F dX1_trySeconds_85 (by decide) ?_
          replace h := bnd_some h
          obtain ⟨m21, hc20, h⟩ := h
          refine a_callV (pc := 86) (k := 158) (As := [.int (x17 + x19), .int 2, .int p1, .int x9, .int (-1)]) (st := []) F dX1_trySeconds_86 (m_X1_offer hc20) cv_RX1_77 kl_158 ks_158 ⟨_, _, rfl⟩ rfl rfl rfl (Nat.le_of_ble_eq_true rfl) ⟨Nat.le_of_ble_eq_true rfl, Nat.le_of_ble_eq_true rfl⟩ ?_ rfl rfl
          clear hc20
          obtain ⟨x22, ex22⟩ : ∃ x22 : Int32, x22 = x9 + 1 := ⟨_, rfl⟩
          refine a_iinc (v := x22) (lv' := [(4, .int x22), (0, .ref (ga X.G 158)), (1, .int p1), (2, .int p2), (3, .int x7)]) (pc := 89) F dX1_trySeconds_89 4 rfl (by rw [ex22]; rfl) (by decide) rfl ?_
          replace h := nm_at ex22 h
          clear ex22
          refine a_goto (tgt := 29) (pc := 92) F dX1_trySeconds_92 (by decide) ?_
          refine a_lv F [1, 2, 3, 4, 0] rfl ?_
          exact hP8 _ (Option.some.inj h).symm
        · replace h := ite_f q15 h
          clear q15
          refine a_aload_n (pc := 56) F dX1_trySeconds_56 0 rfl ?_
          refine a_iload_n (pc := 57) F dX1_trySeconds_57 1 rfl ?_
          refine a_iload (pc := 58) F dX1_trySeconds_58 4 rfl ?_
          replace h := bnd_some h
          obtain ⟨m24, hc23, h⟩ := h
          refine a_callV (pc := 60) (k := 158) (As := [.int p1, .int x9]) (st := []) F dX1_trySeconds_60 (m_X1_tryThirds hc23) cv_RX1_111 kl_158 ks_158 ⟨_, _, rfl⟩ rfl rfl rfl (Nat.le_of_ble_eq_true rfl) ⟨Nat.le_of_ble_eq_true rfl, Nat.le_of_ble_eq_true rfl⟩ ?_ rfl rfl
          clear hc23
          refine a_goto (tgt := 89) (pc := 63) F dX1_trySeconds_63 (by decide) ?_
          obtain ⟨x25, ex25⟩ : ∃ x25 : Int32, x25 = x9 + 1 := ⟨_, rfl⟩
          refine a_iinc (v := x25) (lv' := [(4, .int x25), (0, .ref (ga X.G 158)), (1, .int p1), (2, .int p2), (3, .int x7)]) (pc := 89) F dX1_trySeconds_89 4 rfl (by rw [ex25]; rfl) (by decide) rfl ?_
          replace h := nm_at ex25 h
          clear ex25
          refine a_goto (tgt := 29) (pc := 92) F dX1_trySeconds_92 (by decide) ?_
          refine a_lv F [1, 2, 3, 4, 0] rfl ?_
          exact hP8 _ (Option.some.inj h).symm
      · replace h := ite_t (Decidable.not_not.mp q14) h
        clear q14
        refine a_goto (tgt := 89) (pc := 48) F dX1_trySeconds_48 (by decide) ?_
        obtain ⟨x26, ex26⟩ : ∃ x26 : Int32, x26 = x9 + 1 := ⟨_, rfl⟩
        refine a_iinc (v := x26) (lv' := [(4, .int x26), (0, .ref (ga X.G 158)), (1, .int p1), (2, .int p2), (3, .int x7)]) (pc := 89) F dX1_trySeconds_89 4 rfl (by rw [ex26]; rfl) (by decide) rfl ?_
        replace h := nm_at ex26 h
        clear ex26
        refine a_goto (tgt := 29) (pc := 92) F dX1_trySeconds_92 (by decide) ?_
        refine a_lv F [1, 2, 3, 4, 0] rfl ?_
        exact hP8 _ (Option.some.inj h).symm
  clear h
  have h := hR1
  clear hR1
  refine a_icmp_le (tgt := 14) (pc := 2) F dX1_trySeconds_2 (by decide) (fun q2 => ?_) (fun q2 => ?_)
  · replace h := ite_t q2 h
    clear q2
    refine a_aload_n (pc := 14) F dX1_trySeconds_14 0 rfl ?_
    refine a_getr (k := 158) (r := 159) (pc := 15) F dX1_trySeconds_15 fl_RX1_9 kl_158 ks_158 rfl ?_
    refine a_iload_n (pc := 18) F dX1_trySeconds_18 1 rfl ?_
    replace h := gIn_some h
    obtain ⟨g3, h⟩ := h
    refine a_ial (k := 159) (pc := 19) F dX1_trySeconds_19 kl_159 ks_159 g3 ?_
    refine a_nmi fun x4 ex4 => ?_
    replace h := nm_at ex4 h
    clear ex4
    refine a_aload_n (pc := 20) F dX1_trySeconds_20 0 rfl ?_
    refine a_geti (k := 158) (pc := 21) F dX1_trySeconds_21 fl_RX1_63 kl_158 ks_158 rfl ?_
    refine a_iand (pc := 24) F dX1_trySeconds_24 ?_
    cases h
    exact hJ1
  · replace h := ite_f q2 h
    clear q2
    refine a_aload_n (pc := 5) F dX1_trySeconds_5 0 rfl ?_
    refine a_getr (k := 158) (r := 159) (pc := 6) F dX1_trySeconds_6 fl_RX1_9 kl_158 ks_158 rfl ?_
    refine a_iload_n (pc := 9) F dX1_trySeconds_9 1 rfl ?_
    replace h := gIn_some h
    obtain ⟨g5, h⟩ := h
    refine a_ial (k := 159) (pc := 10) F dX1_trySeconds_10 kl_159 ks_159 g5 ?_
    refine a_nmi fun x6 ex6 => ?_
    replace h := nm_at ex6 h
    clear ex6
    refine a_goto (tgt := 25) (pc := 11) F dX1_trySeconds_11 (by decide) ?_
    cases h
    exact hJ1
def f_X1_seek_L68 (x12 : Int32) (x18 : Int32) : (Int32 × Mem) → Option ((Int32 × Mem) ⊕ Mem)
  | (x20, m21) => (if (m21.1 158 5) ≤ x20 then some (.inr m21) else bnd (f_X7_bitOf x20 m21) fun x24 => (if (x18 &&& x24) = 0 then nm (x20 + 1) fun x35 => some (.inl (x35, m21)) else (if x12 ≤ 1 then gIn x20 10 <| nm (m21.1 160 x20.toNatClampNeg) fun x28 => bnd (f_X1_offer x28 1 x20 (-1) (-1) m21) fun m30 => nm (x20 + 1) fun x31 => some (.inl (x31, m30)) else bnd (f_X1_trySeconds x20 x12 m21) fun m33 => nm (x20 + 1) fun x34 => some (.inl (x34, m33)))))
def f_X1_seek_L37 : (Int32 × Mem) → Option ((Int32 × Mem) ⊕ Mem)
  | (x12, m13) => (if 3 < x12 then some (.inr m13) else bnd ((if x12 ≤ 1 then nm ((m13.1 158 6) &&& (m13.1 158 7)) fun x17 => some x17 else some (m13.1 158 6))) (fun (x18 : Int32) => bnd (lp (f_X1_seek_L68 x12 x18) 1000000 (0, m13)) (fun m36 => nm (x12 + 1) fun x37 => some (.inl (x37, m36)))))
def f_X1_seek (c : Nat) (p2 : Int32) (m0 : Mem) : Option Mem :=
  bnd (f_X1_keep (-1) (-1) (-1) (-1) (-1) m0) fun m2 => bnd (f_X3_has c p2 m2) fun x4 => (if x4 = 0 then some m2 else bnd (f_X2_isAhead c p2 m2) fun x7 => (if x7 = 0 then some m2 else bnd (f_X1_prepare c p2 m2) fun m10 => bnd (lp (f_X1_seek_L37) 1000000 (1, m10)) (fun m38 => some m38)))
set_option maxRecDepth 100000 in
set_option maxHeartbeats 4000000 in
theorem m_X1_seek {c : Nat} {p2 : Int32} (hc : isC c) {m0 : Mem} {mm : Mem} (h : f_X1_seek c p2 m0 = some mm) : Con yX1_seek cX1_seek 6 none 4 98 (fun G => [.ref (ga G 158), .ref (ga G c), .int p2]) m0 none mm := by
  refine con_of (by decide) (fun G => Nat.le_of_ble_eq_true rfl) (fun X F => ?_)
  show WA X 0 0 0 [(0, .ref (ga X.G 158)), (1, .ref (ga X.G c)), (2, .int p2)] [] m0 (EQ X none mm)
  rw [f_X1_seek] at h
  refine a_aload_n (pc := 0) F dX1_seek_0 0 rfl ?_
  refine a_iconst (v := (-1)) (pc := 1) F dX1_seek_1 (by decide) ?_
  refine a_iconst (v := (-1)) (pc := 2) F dX1_seek_2 (by decide) ?_
  refine a_iconst (v := (-1)) (pc := 3) F dX1_seek_3 (by decide) ?_
  refine a_iconst (v := (-1)) (pc := 4) F dX1_seek_4 (by decide) ?_
  refine a_iconst (v := (-1)) (pc := 5) F dX1_seek_5 (by decide) ?_
  replace h := bnd_some h
  obtain ⟨m2, hc1, h⟩ := h
  refine a_callV (pc := 6) (k := 158) (As := [.int (-1), .int (-1), .int (-1), .int (-1), .int (-1)]) (st := []) F dX1_seek_6 (m_X1_keep hc1) cv_RX1_37 kl_158 ks_158 ⟨_, _, rfl⟩ rfl rfl rfl (Nat.le_of_ble_eq_true rfl) ⟨Nat.le_of_ble_eq_true rfl, Nat.le_of_ble_eq_true rfl⟩ ?_ rfl rfl
  clear hc1
  refine a_aload_n (pc := 9) F dX1_seek_9 1 rfl ?_
  refine a_getr (k := c) (r := (c + 8)) (pc := 10) F dX1_seek_10 fl_RX1_41 (klC_0 hc) (ksC_0 hc) rfl ?_
  refine a_iload_n (pc := 13) F dX1_seek_13 2 rfl ?_
  replace h := bnd_some h
  obtain ⟨x4, hc3, h⟩ := h
  refine a_callV (pc := 14) (k := (c + 8)) (As := [.int p2]) (st := []) F dX1_seek_14 (m_X3_has hc hc3) cv_RX1_47 (klC_8 hc) (ksC_8 hc) ⟨_, _, rfl⟩ rfl rfl rfl (Nat.le_of_ble_eq_true rfl) ⟨Nat.le_of_ble_eq_true rfl, Nat.le_of_ble_eq_true rfl⟩ ?_ rfl rfl
  clear hc3
  refine a_if_eq (tgt := 28) (pc := 17) F dX1_seek_17 (by decide) (fun q5 => ?_) (fun q5 => ?_)
  · replace h := ite_t q5 h
    clear q5
    cases h
    exact a_vret (pc := 28) F dX1_seek_28 rfl
  · replace h := ite_f q5 h
    clear q5
    refine a_aload_n (pc := 20) F dX1_seek_20 1 rfl ?_
    refine a_iload_n (pc := 21) F dX1_seek_21 2 rfl ?_
    replace h := bnd_some h
    obtain ⟨x7, hc6, h⟩ := h
    refine a_callV (pc := 22) (k := c) (As := [.int p2]) (st := []) F dX1_seek_22 (m_X2_isAhead hc hc6) cv_RX1_53 (klC_0 hc) (ksC_0 hc) ⟨_, _, rfl⟩ rfl rfl rfl (Nat.le_of_ble_eq_true rfl) ⟨Nat.le_of_ble_eq_true rfl, Nat.le_of_ble_eq_true rfl⟩ ?_ rfl rfl
    clear hc6
    refine a_if_ne (tgt := 29) (pc := 25) F dX1_seek_25 (by decide) (fun q8 => ?_) (fun q8 => ?_)
    · replace h := ite_f q8 h
      clear q8
      refine a_aload_n (pc := 29) F dX1_seek_29 0 rfl ?_
      refine a_aload_n (pc := 30) F dX1_seek_30 1 rfl ?_
      refine a_iload_n (pc := 31) F dX1_seek_31 2 rfl ?_
      replace h := bnd_some h
      obtain ⟨m10, hc9, h⟩ := h
      refine a_callV (pc := 32) (k := 158) (As := [.ref (ga X.G c), .int p2]) (st := []) F dX1_seek_32 (m_X1_prepare hc hc9) cv_RX1_56 kl_158 ks_158 ⟨_, _, rfl⟩ rfl rfl rfl (Nat.le_of_ble_eq_true rfl) ⟨Nat.le_of_ble_eq_true rfl, Nat.le_of_ble_eq_true rfl⟩ ?_ rfl rfl
      clear hc9
      refine a_iconst (v := 1) (pc := 35) F dX1_seek_35 (by decide) ?_
      refine a_istore_n (lv' := [(3, .int 1), (0, .ref (ga X.G 158)), (1, .ref (ga X.G c)), (2, .int p2)]) (pc := 36) F dX1_seek_36 (by decide) rfl ?_
      refine a_lv F [1, 0] rfl ?_
      replace h := bnd_some h
      obtain ⟨m38, hL11, h⟩ := h
      have hE11 : WA X 0 0 134 [] [] m38 (EQ X none mm) := by
        cases h
        exact a_vret (pc := 134) F dX1_seek_134 rfl
      clear h
      refine lp_run (P := fun (s : (Int32 × Mem)) => WA X 0 0 37 [(0, .ref (ga X.G 158)), (3, .int s.1)] [] s.2 (EQ X none mm)) ?_ _ _ hL11
      clear hL11
      rintro ⟨x12, m13⟩ xo h hP11 hT11
      show WA X 0 0 37 [(0, .ref (ga X.G 158)), (3, .int x12)] [] m13 (EQ X none mm)
      rw [f_X1_seek_L37] at h
      refine a_iload_n (pc := 37) F dX1_seek_37 1 rfl ?_
      refine a_iconst (v := 3) (pc := 38) F dX1_seek_38 (by decide) ?_
      refine a_icmp_gt (tgt := 134) (pc := 39) F dX1_seek_39 (by decide) (fun q14 => ?_) (fun q14 => ?_)
      · replace h := ite_t q14 h
        clear q14
        refine a_lv F [] rfl ?_
        cases hT11 _ (Option.some.inj h).symm
        exact hE11
      · replace h := ite_f q14 h
        clear q14
        refine a_iload_n (pc := 42) F dX1_seek_42 1 rfl ?_
        refine a_iconst (v := 1) (pc := 43) F dX1_seek_43 (by decide) ?_
        replace h := bnd_some h
        obtain ⟨x18, hR15, h⟩ := h
        have hJ15 : WA X 0 0 63 [(0, .ref (ga X.G 158)), (3, .int x12)] [.int x18] m13 (EQ X none mm) := by
          refine a_istore (lv' := [(4, .int x18), (0, .ref (ga X.G 158)), (3, .int x12)]) (pc := 63) F dX1_seek_63 (by decide) rfl ?_
          refine a_iconst (v := 0) (pc := 65) F dX1_seek_65 (by decide) ?_
          refine a_istore (lv' := [(5, .int 0), (4, .int x18), (0, .ref (ga X.G 158)), (3, .int x12)]) (pc := 66) F dX1_seek_66 (by decide) rfl ?_
          refine a_lv F [2, 3, 1, 0] rfl ?_
          replace h := bnd_some h
          obtain ⟨m36, hL19, h⟩ := h
          have hE19 : WA X 0 0 128 [(0, .ref (ga X.G 158)), (3, .int x12)] [] m36 (EQ X none mm) := by
            obtain ⟨x37, ex37⟩ : ∃ x37 : Int32, x37 = x12 + 1 := ⟨_, rfl⟩
            refine a_iinc (v := x37) (lv' := [(3, .int x37), (0, .ref (ga X.G 158))]) (pc := 128) F dX1_seek_128 1 rfl (by rw [ex37]; rfl) (by decide) rfl ?_
            replace h := nm_at ex37 h
            clear ex37
            refine a_goto (tgt := 37) (pc := 131) F dX1_seek_131 (by decide) ?_
            refine a_lv F [1, 0] rfl ?_
            exact hP11 _ (Option.some.inj h).symm
          clear h
          refine lp_run (P := fun (s : (Int32 × Mem)) => WA X 0 0 68 [(0, .ref (ga X.G 158)), (3, .int x12), (4, .int x18), (5, .int s.1)] [] s.2 (EQ X none mm)) ?_ _ _ hL19
          clear hL19
          rintro ⟨x20, m21⟩ xo h hP19 hT19
          show WA X 0 0 68 [(0, .ref (ga X.G 158)), (3, .int x12), (4, .int x18), (5, .int x20)] [] m21 (EQ X none mm)
          rw [f_X1_seek_L68] at h
          refine a_iload (pc := 68) F dX1_seek_68 3 rfl ?_
          refine a_aload_n (pc := 70) F dX1_seek_70 0 rfl ?_
          refine a_geti (k := 158) (pc := 71) F dX1_seek_71 fl_RX1_66 kl_158 ks_158 rfl ?_
          refine a_icmp_ge (tgt := 128) (pc := 74) F dX1_seek_74 (by decide) (fun q22 => ?_) (fun q22 => ?_)
          · replace h := ite_t q22 h
            clear q22
            refine a_lv F [0, 1] rfl ?_
            cases hT19 _ (Option.some.inj h).symm
            exact hE19
          · replace h := ite_f q22 h
            clear q22
            refine a_iload (pc := 77) F dX1_seek_77 2 rfl ?_
            refine a_iload (pc := 79) F dX1_seek_79 3 rfl ?_
            replace h := bnd_some h
            obtain ⟨x24, hc23, h⟩ := h
            refine a_callSN (pc := 81) (As := [.int x20]) (st := [.int x18]) F dX1_seek_81 (m_X7_bitOf hc23) cn_RX1_69 rfl rfl rfl (Nat.le_of_ble_eq_true rfl) ⟨Nat.le_of_ble_eq_true rfl, Nat.le_of_ble_eq_true rfl⟩ ?_ rfl rfl
            clear hc23
            refine a_iand (pc := 84) F dX1_seek_84 ?_
            refine a_if_ne (tgt := 91) (pc := 85) F dX1_seek_85 (by decide) (fun q25 => ?_) (fun q25 => ?_)
            · replace h := ite_f q25 h
              clear q25
              refine a_iload_n (pc := 91) F dX1_seek_91 1 rfl ?_
              refine a_iconst (v := 1) (pc := 92) F dX1_seek_92 (by decide) ?_
              refine a_icmp_le (tgt := 106) (pc := 93) F dX1_seek_93 (by decide) (fun q26 => ?_) (fun q26 => ?_)
              · replace h := ite_t q26 h
                clear q26
                refine a_aload_n (pc := 106) F dX1_seek_106 0 rfl ?_
                refine a_aload_n (pc := 107) F dX1_seek_107 0 rfl ?_
                refine a_getr (k := 158) (r := 160) (pc := 108) F dX1_seek_108 fl_RX1_15 kl_158 ks_158 rfl ?_
                refine a_iload (pc := 111) F dX1_seek_111 3 rfl ?_
                replace h := gIn_some h
                obtain ⟨g27, h⟩ := h
                refine a_ial (k := 160) (pc := 113) F dX1_seek_113 kl_160 ks_160 g27 ?_
                refine a_nmi fun x28 ex28 => ?_
                replace h := nm_at ex28 h
                clear ex28
                refine a_iconst (v := 1) (pc := 114) F dX1_seek_114 (by decide) ?_
                refine a_iload (pc := 115) F dX1_seek_115 3 rfl ?_
                refine a_iconst (v := (-1)) (pc := 117) F dX1_seek_117 (by decide) ?_
                refine a_iconst (v := (-1)) (pc := 118) F dX1_seek_118 (by decide) ?_
                replace h := bnd_some h
                obtain ⟨m30, hc29, h⟩ := h
                refine a_callV (pc := 119) (k := 158) (As := [.int x28, .int 1, .int x20, .int (-1), .int (-1)]) (st := []) F dX1_seek_119 (m_X1_offer hc29) cv_RX1_77 kl_158 ks_158 ⟨_, _, rfl⟩ rfl rfl rfl (Nat.le_of_ble_eq_true rfl) ⟨Nat.le_of_ble_eq_true rfl, Nat.le_of_ble_eq_true rfl⟩ ?_ rfl rfl
                clear hc29
                obtain ⟨x31, ex31⟩ : ∃ x31 : Int32, x31 = x20 + 1 := ⟨_, rfl⟩
                refine a_iinc (v := x31) (lv' := [(5, .int x31), (0, .ref (ga X.G 158)), (3, .int x12), (4, .int x18)]) (pc := 122) F dX1_seek_122 3 rfl (by rw [ex31]; rfl) (by decide) rfl ?_
                replace h := nm_at ex31 h
                clear ex31
                refine a_goto (tgt := 68) (pc := 125) F dX1_seek_125 (by decide) ?_
                refine a_lv F [1, 2, 3, 0] rfl ?_
                exact hP19 _ (Option.some.inj h).symm
              · replace h := ite_f q26 h
                clear q26
                refine a_aload_n (pc := 96) F dX1_seek_96 0 rfl ?_
                refine a_iload (pc := 97) F dX1_seek_97 3 rfl ?_
                refine a_iload_n (pc := 99) F dX1_seek_99 1 rfl ?_
                replace h := bnd_some h
                obtain ⟨m33, hc32, h⟩ := h
                refine a_callV (pc := 100) (k := 158) (As := [.int x20, .int x12]) (st := []) F dX1_seek_100 (m_X1_trySeconds hc32) cv_RX1_73 kl_158 ks_158 ⟨_, _, rfl⟩ rfl rfl rfl (Nat.le_of_ble_eq_true rfl) ⟨Nat.le_of_ble_eq_true rfl, Nat.le_of_ble_eq_true rfl⟩ ?_ rfl rfl
                clear hc32
                refine a_goto (tgt := 122) (pc := 103) F dX1_seek_103 (by decide) ?_
                obtain ⟨x34, ex34⟩ : ∃ x34 : Int32, x34 = x20 + 1 := ⟨_, rfl⟩
                refine a_iinc (v := x34) (lv' := [(5, .int x34), (0, .ref (ga X.G 158)), (3, .int x12), (4, .int x18)]) (pc := 122) F dX1_seek_122 3 rfl (by rw [ex34]; rfl) (by decide) rfl ?_
                replace h := nm_at ex34 h
                clear ex34
                refine a_goto (tgt := 68) (pc := 125) F dX1_seek_125 (by decide) ?_
                refine a_lv F [1, 2, 3, 0] rfl ?_
                exact hP19 _ (Option.some.inj h).symm
            · replace h := ite_t (Decidable.not_not.mp q25) h
              clear q25
              refine a_goto (tgt := 122) (pc := 88) F dX1_seek_88 (by decide) ?_
              obtain ⟨x35, ex35⟩ : ∃ x35 : Int32, x35 = x20 + 1 := ⟨_, rfl⟩
              refine a_iinc (v := x35) (lv' := [(5, .int x35), (0, .ref (ga X.G 158)), (3, .int x12), (4, .int x18)]) (pc := 122) F dX1_seek_122 3 rfl (by rw [ex35]; rfl) (by decide) rfl ?_
              replace h := nm_at ex35 h
              clear ex35
              refine a_goto (tgt := 68) (pc := 125) F dX1_seek_125 (by decide) ?_
              refine a_lv F [1, 2, 3, 0] rfl ?_
              exact hP19 _ (Option.some.inj h).symm
        clear h
        have h := hR15
        clear hR15
        refine a_icmp_le (tgt := 54) (pc := 44) F dX1_seek_44 (by decide) (fun q16 => ?_) (fun q16 => ?_)
        · replace h := ite_t q16 h
          clear q16
          refine a_aload_n (pc := 54) F dX1_seek_54 0 rfl ?_
          refine a_geti (k := 158) (pc := 55) F dX1_seek_55 fl_RX1_60 kl_158 ks_158 rfl ?_
          refine a_aload_n (pc := 58) F dX1_seek_58 0 rfl ?_
          refine a_geti (k := 158) (pc := 59) F dX1_seek_59 fl_RX1_63 kl_158 ks_158 rfl ?_
          refine a_iand (pc := 62) F dX1_seek_62 ?_
          refine a_nmi fun x17 ex17 => ?_
          replace h := nm_at ex17 h
          clear ex17
          cases h
          exact hJ15
        · replace h := ite_f q16 h
          clear q16
          refine a_aload_n (pc := 47) F dX1_seek_47 0 rfl ?_
          refine a_geti (k := 158) (pc := 48) F dX1_seek_48 fl_RX1_60 kl_158 ks_158 rfl ?_
          refine a_goto (tgt := 63) (pc := 51) F dX1_seek_51 (by decide) ?_
          cases h
          exact hJ15
    · replace h := ite_t (Decidable.not_not.mp q8) h
      clear q8
      cases h
      exact a_vret (pc := 28) F dX1_seek_28 rfl
def f_X1_found (p1 : Int32) (m0 : Mem) : Option Int32 :=
  (if p1 = 0 then some (m0.1 158 0) else (if p1 = 1 then some (m0.1 158 1) else (if p1 = 2 then some (m0.1 158 2) else (if p1 = 3 then some (m0.1 158 3) else (if p1 = 4 then some (m0.1 158 4) else some (-1))))))
set_option maxRecDepth 100000 in
set_option maxHeartbeats 4000000 in
theorem m_X1_found {p1 : Int32} {m0 : Mem} {rr : Int32} (h : f_X1_found p1 m0 = some rr) : Con yX1_found cX1_found 2 (some Jvm.ClassFile.FieldType.int) 0 0 (fun G => [.ref (ga G 158), .int p1]) m0 (some (.int rr)) m0 := by
  refine con_of (by decide) (fun G => Nat.le_of_ble_eq_true rfl) (fun X F => ?_)
  show WA X 0 0 0 [(0, .ref (ga X.G 158)), (1, .int p1)] [] m0 (EQ X (some (.int rr)) m0)
  rw [f_X1_found] at h
  refine a_iload_n (pc := 0) F dX1_found_0 1 rfl ?_
  by_cases q1 : p1 = 0
  · replace h := ite_t q1 h
    refine a_swin (pc := 1) (tgt := 36) F dX1_found_1 (by rw [q1]; decide) (by rw [q1]; decide) (by rw [q1]; rfl) (by decide) ?_
    clear q1
    refine a_aload_n (pc := 36) F dX1_found_36 0 rfl ?_
    refine a_geti (k := 158) (pc := 37) F dX1_found_37 fl_RX1_21 kl_158 ks_158 rfl ?_
    cases h
    exact a_iret (pc := 40) F dX1_found_40 ⟨_, rfl, rfl⟩
  replace h := ite_f q1 h
  by_cases q2 : p1 = 1
  · replace h := ite_t q2 h
    refine a_swin (pc := 1) (tgt := 41) F dX1_found_1 (by rw [q2]; decide) (by rw [q2]; decide) (by rw [q2]; rfl) (by decide) ?_
    clear q2
    refine a_aload_n (pc := 41) F dX1_found_41 0 rfl ?_
    refine a_geti (k := 158) (pc := 42) F dX1_found_42 fl_RX1_25 kl_158 ks_158 rfl ?_
    cases h
    exact a_iret (pc := 45) F dX1_found_45 ⟨_, rfl, rfl⟩
  replace h := ite_f q2 h
  by_cases q3 : p1 = 2
  · replace h := ite_t q3 h
    refine a_swin (pc := 1) (tgt := 46) F dX1_found_1 (by rw [q3]; decide) (by rw [q3]; decide) (by rw [q3]; rfl) (by decide) ?_
    clear q3
    refine a_aload_n (pc := 46) F dX1_found_46 0 rfl ?_
    refine a_geti (k := 158) (pc := 47) F dX1_found_47 fl_RX1_28 kl_158 ks_158 rfl ?_
    cases h
    exact a_iret (pc := 50) F dX1_found_50 ⟨_, rfl, rfl⟩
  replace h := ite_f q3 h
  by_cases q4 : p1 = 3
  · replace h := ite_t q4 h
    refine a_swin (pc := 1) (tgt := 51) F dX1_found_1 (by rw [q4]; decide) (by rw [q4]; decide) (by rw [q4]; rfl) (by decide) ?_
    clear q4
    refine a_aload_n (pc := 51) F dX1_found_51 0 rfl ?_
    refine a_geti (k := 158) (pc := 52) F dX1_found_52 fl_RX1_31 kl_158 ks_158 rfl ?_
    cases h
    exact a_iret (pc := 55) F dX1_found_55 ⟨_, rfl, rfl⟩
  replace h := ite_f q4 h
  by_cases q5 : p1 = 4
  · replace h := ite_t q5 h
    refine a_swin (pc := 1) (tgt := 56) F dX1_found_1 (by rw [q5]; decide) (by rw [q5]; decide) (by rw [q5]; rfl) (by decide) ?_
    clear q5
    refine a_aload_n (pc := 56) F dX1_found_56 0 rfl ?_
    refine a_geti (k := 158) (pc := 57) F dX1_found_57 fl_RX1_34 kl_158 ks_158 rfl ?_
    cases h
    exact a_iret (pc := 60) F dX1_found_60 ⟨_, rfl, rfl⟩
  replace h := ite_f q5 h
  refine a_swout (pc := 1) (tgt := 61) F dX1_found_1 (by have nq1 := lv_neT (a := 0) q1 (by decide); have nq2 := lv_neT (a := 1) q2 (by decide); have nq3 := lv_neT (a := 2) q3 (by decide); have nq4 := lv_neT (a := 3) q4 (by decide); have nq5 := lv_neT (a := 4) q5 (by decide); omega) (by decide) ?_
  clear q1
  clear q2
  clear q3
  clear q4
  clear q5
  refine a_iconst (v := (-1)) (pc := 61) F dX1_found_61 (by decide) ?_
  cases h
  exact a_iret (pc := 62) F dX1_found_62 ⟨_, rfl, rfl⟩
def f_X7_cheapest (p1 : Int32) (p2 : Int32) (m0 : Mem) : Option (Int32 × Mem) :=
  bnd (f_X3_has 1 p1 m0) fun x2 => (if x2 = 0 then none else bnd (f_X7_within p2 0 4 m0) fun x5 => (if x5 = 0 then none else bnd (f_X1_seek 1 p1 m0) fun m8 => bnd (f_X1_found p2 m8) fun x10 => some (x10, m8)))
set_option maxRecDepth 100000 in
set_option maxHeartbeats 4000000 in
theorem m_X7_cheapest {p1 : Int32} {p2 : Int32} {m0 : Mem} {rr : Int32} {mm : Mem} (h : f_X7_cheapest p1 p2 m0 = some (rr, mm)) : Con yX7_cheapest cX7_cheapest 3 (some Jvm.ClassFile.FieldType.int) 5 123 (fun G => [.ref (ga G 0), .int p1, .int p2]) m0 (some (.int rr)) mm := by
  refine con_of (by decide) (fun G => Nat.le_of_ble_eq_true rfl) (fun X F => ?_)
  show WA X 0 0 0 [(0, .ref (ga X.G 0)), (1, .int p1), (2, .int p2)] [] m0 (EQ X (some (.int rr)) mm)
  rw [f_X7_cheapest] at h
  refine a_aload_n (pc := 0) F dX7_cheapest_0 0 rfl ?_
  refine a_getr (k := 0) (r := 1) (pc := 1) F dX7_cheapest_1 fl_RX7_10 kl_0 ks_0 rfl ?_
  refine a_getr (k := 1) (r := (1 + 8)) (pc := 4) F dX7_cheapest_4 fl_RX7_89 (klC_0 isC_1) (ksC_0 isC_1) rfl ?_
  refine a_iload_n (pc := 7) F dX7_cheapest_7 1 rfl ?_
  replace h := bnd_some h
  obtain ⟨x2, hc1, h⟩ := h
  refine a_callV (pc := 8) (k := (1 + 8)) (As := [.int p1]) (st := []) F dX7_cheapest_8 (m_X3_has isC_1 hc1) cv_RX7_133 (klC_8 isC_1) (ksC_8 isC_1) ⟨_, _, rfl⟩ rfl rfl rfl (Nat.le_of_ble_eq_true rfl) ⟨Nat.le_of_ble_eq_true rfl, Nat.le_of_ble_eq_true rfl⟩ ?_ rfl rfl
  clear hc1
  refine a_if_ne (tgt := 24) (pc := 11) F dX7_cheapest_11 (by decide) (fun q3 => ?_) (fun q3 => ?_)
  · replace h := ite_f q3 h
    clear q3
    refine a_iload_n (pc := 24) F dX7_cheapest_24 2 rfl ?_
    refine a_iconst (v := 0) (pc := 25) F dX7_cheapest_25 (by decide) ?_
    refine a_iconst (v := 4) (pc := 26) F dX7_cheapest_26 (by decide) ?_
    replace h := bnd_some h
    obtain ⟨x5, hc4, h⟩ := h
    refine a_callS (pc := 27) (As := [.int p2, .int 0, .int 4]) (st := []) F dX7_cheapest_27 (m_X7_within hc4) cs_RX7_47 rfl rfl rfl (Nat.le_of_ble_eq_true rfl) ⟨Nat.le_of_ble_eq_true rfl, Nat.le_of_ble_eq_true rfl⟩ ?_ rfl rfl
    clear hc4
    refine a_if_ne (tgt := 43) (pc := 30) F dX7_cheapest_30 (by decide) (fun q6 => ?_) (fun q6 => ?_)
    · replace h := ite_f q6 h
      clear q6
      refine a_aload_n (pc := 43) F dX7_cheapest_43 0 rfl ?_
      refine a_getr (k := 0) (r := 158) (pc := 44) F dX7_cheapest_44 fl_RX7_43 kl_0 ks_0 rfl ?_
      refine a_aload_n (pc := 47) F dX7_cheapest_47 0 rfl ?_
      refine a_getr (k := 0) (r := 1) (pc := 48) F dX7_cheapest_48 fl_RX7_10 kl_0 ks_0 rfl ?_
      refine a_iload_n (pc := 51) F dX7_cheapest_51 1 rfl ?_
      replace h := bnd_some h
      obtain ⟨m8, hc7, h⟩ := h
      refine a_callV (pc := 52) (k := 158) (As := [.ref (ga X.G 1), .int p1]) (st := []) F dX7_cheapest_52 (m_X1_seek isC_1 hc7) cv_RX7_250 kl_158 ks_158 ⟨_, _, rfl⟩ rfl rfl rfl (Nat.le_of_ble_eq_true rfl) ⟨Nat.le_of_ble_eq_true rfl, Nat.le_of_ble_eq_true rfl⟩ ?_ rfl rfl
      clear hc7
      refine a_aload_n (pc := 55) F dX7_cheapest_55 0 rfl ?_
      refine a_getr (k := 0) (r := 158) (pc := 56) F dX7_cheapest_56 fl_RX7_43 kl_0 ks_0 rfl ?_
      refine a_iload_n (pc := 59) F dX7_cheapest_59 2 rfl ?_
      replace h := bnd_some h
      obtain ⟨x10, hc9, h⟩ := h
      refine a_callV (pc := 60) (k := 158) (As := [.int p2]) (st := []) F dX7_cheapest_60 (m_X1_found hc9) cv_RX7_254 kl_158 ks_158 ⟨_, _, rfl⟩ rfl rfl rfl (Nat.le_of_ble_eq_true rfl) ⟨Nat.le_of_ble_eq_true rfl, Nat.le_of_ble_eq_true rfl⟩ ?_ rfl rfl
      clear hc9
      cases h
      exact a_iret (pc := 63) F dX7_cheapest_63 ⟨_, rfl, rfl⟩
    · replace h := ite_t (Decidable.not_not.mp q6) h
      clear q6
      cases h
  · replace h := ite_t (Decidable.not_not.mp q3) h
    clear q3
    cases h
def f_X7_imagineLater_L13 (p1 : Int32) : (Int32 × Mem) → Option ((Int32 × Mem) ⊕ Mem)
  | (x4, m5) => (if p1 ≤ x4 then some (.inr m5) else bnd2 (f_X2_passMinute 20 m5) fun x8 m9 => nm (x4 + 1) fun x10 => some (.inl (x10, m9)))
def f_X7_imagineLater (p1 : Int32) (m0 : Mem) : Option Mem :=
  bnd (f_X2_copyFrom 20 1 m0) fun m2 => bnd (lp (f_X7_imagineLater_L13 p1) 1000000 (0, m2)) (fun m11 => some m11)
set_option maxRecDepth 100000 in
set_option maxHeartbeats 4000000 in
theorem m_X7_imagineLater {p1 : Int32} {m0 : Mem} {mm : Mem} (h : f_X7_imagineLater p1 m0 = some mm) : Con yX7_imagineLater cX7_imagineLater 3 none 5 118 (fun G => [.ref (ga G 0), .int p1]) m0 none mm := by
  refine con_of (by decide) (fun G => Nat.le_of_ble_eq_true rfl) (fun X F => ?_)
  show WA X 0 0 0 [(0, .ref (ga X.G 0)), (1, .int p1)] [] m0 (EQ X none mm)
  rw [f_X7_imagineLater] at h
  refine a_aload_n (pc := 0) F dX7_imagineLater_0 0 rfl ?_
  refine a_getr (k := 0) (r := 20) (pc := 1) F dX7_imagineLater_1 fl_RX7_16 kl_0 ks_0 rfl ?_
  refine a_aload_n (pc := 4) F dX7_imagineLater_4 0 rfl ?_
  refine a_getr (k := 0) (r := 1) (pc := 5) F dX7_imagineLater_5 fl_RX7_10 kl_0 ks_0 rfl ?_
  replace h := bnd_some h
  obtain ⟨m2, hc1, h⟩ := h
  refine a_callV (pc := 8) (k := 20) (As := [.ref (ga X.G 1)]) (st := []) F dX7_imagineLater_8 (m_X2_copyFrom isC_20 isC_1 hc1) cv_RX7_266 (klC_0 isC_20) (ksC_0 isC_20) ⟨_, _, rfl⟩ rfl rfl rfl (Nat.le_of_ble_eq_true rfl) ⟨Nat.le_of_ble_eq_true rfl, Nat.le_of_ble_eq_true rfl⟩ ?_ rfl rfl
  clear hc1
  refine a_iconst (v := 0) (pc := 11) F dX7_imagineLater_11 (by decide) ?_
  refine a_istore_n (lv' := [(2, .int 0), (0, .ref (ga X.G 0)), (1, .int p1)]) (pc := 12) F dX7_imagineLater_12 (by decide) rfl ?_
  refine a_lv F [1, 2, 0] rfl ?_
  replace h := bnd_some h
  obtain ⟨m11, hL3, h⟩ := h
  have hE3 : WA X 0 0 32 [] [] m11 (EQ X none mm) := by
    cases h
    exact a_vret (pc := 32) F dX7_imagineLater_32 rfl
  clear h
  refine lp_run (P := fun (s : (Int32 × Mem)) => WA X 0 0 13 [(0, .ref (ga X.G 0)), (1, .int p1), (2, .int s.1)] [] s.2 (EQ X none mm)) ?_ _ _ hL3
  clear hL3
  rintro ⟨x4, m5⟩ xo h hP3 hT3
  show WA X 0 0 13 [(0, .ref (ga X.G 0)), (1, .int p1), (2, .int x4)] [] m5 (EQ X none mm)
  rw [f_X7_imagineLater_L13] at h
  refine a_iload_n (pc := 13) F dX7_imagineLater_13 2 rfl ?_
  refine a_iload_n (pc := 14) F dX7_imagineLater_14 1 rfl ?_
  refine a_icmp_ge (tgt := 32) (pc := 15) F dX7_imagineLater_15 (by decide) (fun q6 => ?_) (fun q6 => ?_)
  · replace h := ite_t q6 h
    clear q6
    refine a_lv F [] rfl ?_
    cases hT3 _ (Option.some.inj h).symm
    exact hE3
  · replace h := ite_f q6 h
    clear q6
    refine a_aload_n (pc := 18) F dX7_imagineLater_18 0 rfl ?_
    refine a_getr (k := 0) (r := 20) (pc := 19) F dX7_imagineLater_19 fl_RX7_16 kl_0 ks_0 rfl ?_
    replace h := bnd2_some h
    obtain ⟨x8, m9, hc7, h⟩ := h
    refine a_callV (pc := 22) (k := 20) (As := []) (st := []) F dX7_imagineLater_22 (m_X2_passMinute isC_20 hc7) cv_RX7_193 (klC_0 isC_20) (ksC_0 isC_20) ⟨_, _, rfl⟩ rfl rfl rfl (Nat.le_of_ble_eq_true rfl) ⟨Nat.le_of_ble_eq_true rfl, Nat.le_of_ble_eq_true rfl⟩ ?_ rfl rfl
    clear hc7
    refine a_pop (pc := 25) F dX7_imagineLater_25 rfl ?_
    obtain ⟨x10, ex10⟩ : ∃ x10 : Int32, x10 = x4 + 1 := ⟨_, rfl⟩
    refine a_iinc (v := x10) (lv' := [(2, .int x10), (0, .ref (ga X.G 0)), (1, .int p1)]) (pc := 26) F dX7_imagineLater_26 2 rfl (by rw [ex10]; rfl) (by decide) rfl ?_
    replace h := nm_at ex10 h
    clear ex10
    refine a_goto (tgt := 13) (pc := 29) F dX7_imagineLater_29 (by decide) ?_
    refine a_lv F [1, 2, 0] rfl ?_
    exact hP3 _ (Option.some.inj h).symm
def f_X7_tiredIn (p1 : Int32) (p2 : Int32) (m0 : Mem) : Option (Int32 × Mem) :=
  bnd (f_X6_has 1 p1 m0) fun x2 => (if x2 = 0 then none else bnd (f_X7_within p2 0 500 m0) fun x5 => (if x5 = 0 then none else bnd (f_X7_imagineLater p2 m0) fun m8 => gIn p1 10 <| nm (m8.1 (20 + 5) p1.toNatClampNeg) fun x10 => some (x10, m8)))
set_option maxRecDepth 100000 in
set_option maxHeartbeats 4000000 in
theorem m_X7_tiredIn {p1 : Int32} {p2 : Int32} {m0 : Mem} {rr : Int32} {mm : Mem} (h : f_X7_tiredIn p1 p2 m0 = some (rr, mm)) : Con yX7_tiredIn cX7_tiredIn 3 (some Jvm.ClassFile.FieldType.int) 6 140 (fun G => [.ref (ga G 0), .int p1, .int p2]) m0 (some (.int rr)) mm := by
  refine con_of (by decide) (fun G => Nat.le_of_ble_eq_true rfl) (fun X F => ?_)
  show WA X 0 0 0 [(0, .ref (ga X.G 0)), (1, .int p1), (2, .int p2)] [] m0 (EQ X (some (.int rr)) mm)
  rw [f_X7_tiredIn] at h
  refine a_aload_n (pc := 0) F dX7_tiredIn_0 0 rfl ?_
  refine a_getr (k := 0) (r := 1) (pc := 1) F dX7_tiredIn_1 fl_RX7_10 kl_0 ks_0 rfl ?_
  refine a_getr (k := 1) (r := (1 + 1)) (pc := 4) F dX7_tiredIn_4 fl_RX7_64 (klC_0 isC_1) (ksC_0 isC_1) rfl ?_
  refine a_iload_n (pc := 7) F dX7_tiredIn_7 1 rfl ?_
  replace h := bnd_some h
  obtain ⟨x2, hc1, h⟩ := h
  refine a_callV (pc := 8) (k := (1 + 1)) (As := [.int p1]) (st := []) F dX7_tiredIn_8 (m_X6_has isC_1 hc1) cv_RX7_105 (klC_1 isC_1) (ksC_1 isC_1) ⟨_, _, rfl⟩ rfl rfl rfl (Nat.le_of_ble_eq_true rfl) ⟨Nat.le_of_ble_eq_true rfl, Nat.le_of_ble_eq_true rfl⟩ ?_ rfl rfl
  clear hc1
  refine a_if_ne (tgt := 24) (pc := 11) F dX7_tiredIn_11 (by decide) (fun q3 => ?_) (fun q3 => ?_)
  · replace h := ite_f q3 h
    clear q3
    refine a_iload_n (pc := 24) F dX7_tiredIn_24 2 rfl ?_
    refine a_iconst (v := 0) (pc := 25) F dX7_tiredIn_25 (by decide) ?_
    refine a_sipush (v := 500) (pc := 26) F dX7_tiredIn_26 (by decide) ?_
    replace h := bnd_some h
    obtain ⟨x5, hc4, h⟩ := h
    refine a_callS (pc := 29) (As := [.int p2, .int 0, .int 500]) (st := []) F dX7_tiredIn_29 (m_X7_within hc4) cs_RX7_47 rfl rfl rfl (Nat.le_of_ble_eq_true rfl) ⟨Nat.le_of_ble_eq_true rfl, Nat.le_of_ble_eq_true rfl⟩ ?_ rfl rfl
    clear hc4
    refine a_if_ne (tgt := 45) (pc := 32) F dX7_tiredIn_32 (by decide) (fun q6 => ?_) (fun q6 => ?_)
    · replace h := ite_f q6 h
      clear q6
      refine a_aload_n (pc := 45) F dX7_tiredIn_45 0 rfl ?_
      refine a_iload_n (pc := 46) F dX7_tiredIn_46 2 rfl ?_
      replace h := bnd_some h
      obtain ⟨m8, hc7, h⟩ := h
      refine a_callV (pc := 47) (k := 0) (As := [.int p2]) (st := []) F dX7_tiredIn_47 (m_X7_imagineLater hc7) cv_RX7_257 kl_0 ks_0 ⟨_, _, rfl⟩ rfl rfl rfl (Nat.le_of_ble_eq_true rfl) ⟨Nat.le_of_ble_eq_true rfl, Nat.le_of_ble_eq_true rfl⟩ ?_ rfl rfl
      clear hc7
      refine a_aload_n (pc := 50) F dX7_tiredIn_50 0 rfl ?_
      refine a_getr (k := 0) (r := 20) (pc := 51) F dX7_tiredIn_51 fl_RX7_16 kl_0 ks_0 rfl ?_
      refine a_getr (k := 20) (r := (20 + 1)) (pc := 54) F dX7_tiredIn_54 fl_RX7_64 (klC_0 isC_20) (ksC_0 isC_20) rfl ?_
      refine a_getr (k := (20 + 1)) (r := (20 + 5)) (pc := 57) F dX7_tiredIn_57 fl_RX7_260 (klC_1 isC_20) (ksC_1 isC_20) rfl ?_
      refine a_iload_n (pc := 60) F dX7_tiredIn_60 1 rfl ?_
      replace h := gIn_some h
      obtain ⟨g9, h⟩ := h
      refine a_ial (k := (20 + 5)) (pc := 61) F dX7_tiredIn_61 (klC_5 isC_20) (ksC_5 isC_20) g9 ?_
      refine a_nmi fun x10 ex10 => ?_
      replace h := nm_at ex10 h
      clear ex10
      cases h
      exact a_iret (pc := 62) F dX7_tiredIn_62 ⟨_, rfl, rfl⟩
    · replace h := ite_t (Decidable.not_not.mp q6) h
      clear q6
      cases h
  · replace h := ite_t (Decidable.not_not.mp q3) h
    clear q3
    cases h
def f_X2_payIfVacated (c : Nat) (p1 : Int32) (p2 : Int32) (m0 : Mem) : Option Int32 :=
  gIn p1 30 <| nm (m0.1 (c + 11) p1.toNatClampNeg) fun x2 => bnd (f_X3_isListed c p1 m0) fun x4 => (if x4 = 0 then some (-1) else (if 0 < ((x2 - (m0.1 c 3)) - p2) then bnd (f_X2_payByNotice c ((x2 - (m0.1 c 3)) - p2) m0) fun x8 => bnd (f_X2_chainPay c p1 x8 m0) fun x10 => some x10 else some (-1)))
set_option maxRecDepth 100000 in
set_option maxHeartbeats 4000000 in
theorem m_X2_payIfVacated {c : Nat} {p1 : Int32} {p2 : Int32} (hc : isC c) {m0 : Mem} {rr : Int32} (h : f_X2_payIfVacated c p1 p2 m0 = some rr) : Con yX2_payIfVacated cX2_payIfVacated 4 (some Jvm.ClassFile.FieldType.int) 3 71 (fun G => [.ref (ga G c), .int p1, .int p2]) m0 (some (.int rr)) m0 := by
  refine con_of (by decide) (fun G => Nat.le_of_ble_eq_true rfl) (fun X F => ?_)
  show WA X 0 0 0 [(0, .ref (ga X.G c)), (1, .int p1), (2, .int p2)] [] m0 (EQ X (some (.int rr)) m0)
  rw [f_X2_payIfVacated] at h
  refine a_aload_n (pc := 0) F dX2_payIfVacated_0 0 rfl ?_
  refine a_getr (k := c) (r := (c + 8)) (pc := 1) F dX2_payIfVacated_1 fl_RX2_21 (klC_0 hc) (ksC_0 hc) rfl ?_
  refine a_getr (k := (c + 8)) (r := (c + 11)) (pc := 4) F dX2_payIfVacated_4 fl_RX2_63 (klC_8 hc) (ksC_8 hc) rfl ?_
  refine a_iload_n (pc := 7) F dX2_payIfVacated_7 1 rfl ?_
  replace h := gIn_some h
  obtain ⟨g1, h⟩ := h
  refine a_ial (k := (c + 11)) (pc := 8) F dX2_payIfVacated_8 (klC_11 hc) (ksC_11 hc) g1 ?_
  refine a_nmi fun x2 ex2 => ?_
  replace h := nm_at ex2 h
  clear ex2
  refine a_aload_n (pc := 9) F dX2_payIfVacated_9 0 rfl ?_
  refine a_geti (k := c) (pc := 10) F dX2_payIfVacated_10 fl_RX2_50 (klC_0 hc) (ksC_0 hc) rfl ?_
  refine a_isub (pc := 13) F dX2_payIfVacated_13 ?_
  refine a_iload_n (pc := 14) F dX2_payIfVacated_14 2 rfl ?_
  refine a_isub (pc := 15) F dX2_payIfVacated_15 ?_
  refine a_istore_n (lv' := [(3, .int ((x2 - (m0.1 c 3)) - p2)), (0, .ref (ga X.G c)), (1, .int p1), (2, .int p2)]) (pc := 16) F dX2_payIfVacated_16 (by decide) rfl ?_
  refine a_aload_n (pc := 17) F dX2_payIfVacated_17 1 rfl ?_
  refine a_getr (k := c) (r := (c + 8)) (pc := 18) F dX2_payIfVacated_18 fl_RX2_21 (klC_0 hc) (ksC_0 hc) rfl ?_
  refine a_iload_n (pc := 21) F dX2_payIfVacated_21 2 rfl ?_
  replace h := bnd_some h
  obtain ⟨x4, hc3, h⟩ := h
  refine a_callV (pc := 22) (k := (c + 8)) (As := [.int p1]) (st := []) F dX2_payIfVacated_22 (m_X3_isListed hc hc3) cv_RX2_66 (klC_8 hc) (ksC_8 hc) ⟨_, _, rfl⟩ rfl rfl rfl (Nat.le_of_ble_eq_true rfl) ⟨Nat.le_of_ble_eq_true rfl, Nat.le_of_ble_eq_true rfl⟩ ?_ rfl rfl
  clear hc3
  refine a_if_eq (tgt := 32) (pc := 25) F dX2_payIfVacated_25 (by decide) (fun q5 => ?_) (fun q5 => ?_)
  · replace h := ite_t q5 h
    clear q5
    refine a_iconst (v := (-1)) (pc := 32) F dX2_payIfVacated_32 (by decide) ?_
    cases h
    exact a_iret (pc := 33) F dX2_payIfVacated_33 ⟨_, rfl, rfl⟩
  · replace h := ite_f q5 h
    clear q5
    refine a_iload_n (pc := 28) F dX2_payIfVacated_28 0 rfl ?_
    refine a_if_gt (tgt := 34) (pc := 29) F dX2_payIfVacated_29 (by decide) (fun q6 => ?_) (fun q6 => ?_)
    · replace h := ite_t q6 h
      clear q6
      refine a_aload_n (pc := 34) F dX2_payIfVacated_34 1 rfl ?_
      refine a_iload_n (pc := 35) F dX2_payIfVacated_35 2 rfl ?_
      refine a_aload_n (pc := 36) F dX2_payIfVacated_36 1 rfl ?_
      refine a_iload_n (pc := 37) F dX2_payIfVacated_37 0 rfl ?_
      replace h := bnd_some h
      obtain ⟨x8, hc7, h⟩ := h
      refine a_callV (pc := 38) (k := c) (As := [.int ((x2 - (m0.1 c 3)) - p2)]) (st := [.int p1, .ref (ga X.G c)]) F dX2_payIfVacated_38 (m_X2_payByNotice hc hc7) cv_RX2_117 (klC_0 hc) (ksC_0 hc) ⟨_, _, rfl⟩ rfl rfl rfl (Nat.le_of_ble_eq_true rfl) ⟨Nat.le_of_ble_eq_true rfl, Nat.le_of_ble_eq_true rfl⟩ ?_ rfl rfl
      clear hc7
      replace h := bnd_some h
      obtain ⟨x10, hc9, h⟩ := h
      refine a_callV (pc := 41) (k := c) (As := [.int p1, .int x8]) (st := []) F dX2_payIfVacated_41 (m_X2_chainPay hc hc9) cv_RX2_120 (klC_0 hc) (ksC_0 hc) ⟨_, _, rfl⟩ rfl rfl rfl (Nat.le_of_ble_eq_true rfl) ⟨Nat.le_of_ble_eq_true rfl, Nat.le_of_ble_eq_true rfl⟩ ?_ rfl rfl
      clear hc9
      cases h
      exact a_iret (pc := 44) F dX2_payIfVacated_44 ⟨_, rfl, rfl⟩
    · replace h := ite_f q6 h
      clear q6
      refine a_iconst (v := (-1)) (pc := 32) F dX2_payIfVacated_32 (by decide) ?_
      cases h
      exact a_iret (pc := 33) F dX2_payIfVacated_33 ⟨_, rfl, rfl⟩
def f_X7_ifVacated (p1 : Int32) (p2 : Int32) (m0 : Mem) : Option Int32 :=
  bnd (f_X3_has 1 p1 m0) fun x2 => (if x2 = 0 then none else bnd (f_X7_within p2 0 2000 m0) fun x5 => (if x5 = 0 then none else bnd (f_X2_payIfVacated 1 p1 p2 m0) fun x8 => some x8))
set_option maxRecDepth 100000 in
set_option maxHeartbeats 4000000 in
theorem m_X7_ifVacated {p1 : Int32} {p2 : Int32} {m0 : Mem} {rr : Int32} (h : f_X7_ifVacated p1 p2 m0 = some rr) : Con yX7_ifVacated cX7_ifVacated 3 (some Jvm.ClassFile.FieldType.int) 4 94 (fun G => [.ref (ga G 0), .int p1, .int p2]) m0 (some (.int rr)) m0 := by
  refine con_of (by decide) (fun G => Nat.le_of_ble_eq_true rfl) (fun X F => ?_)
  show WA X 0 0 0 [(0, .ref (ga X.G 0)), (1, .int p1), (2, .int p2)] [] m0 (EQ X (some (.int rr)) m0)
  rw [f_X7_ifVacated] at h
  refine a_aload_n (pc := 0) F dX7_ifVacated_0 0 rfl ?_
  refine a_getr (k := 0) (r := 1) (pc := 1) F dX7_ifVacated_1 fl_RX7_10 kl_0 ks_0 rfl ?_
  refine a_getr (k := 1) (r := (1 + 8)) (pc := 4) F dX7_ifVacated_4 fl_RX7_89 (klC_0 isC_1) (ksC_0 isC_1) rfl ?_
  refine a_iload_n (pc := 7) F dX7_ifVacated_7 1 rfl ?_
  replace h := bnd_some h
  obtain ⟨x2, hc1, h⟩ := h
  refine a_callV (pc := 8) (k := (1 + 8)) (As := [.int p1]) (st := []) F dX7_ifVacated_8 (m_X3_has isC_1 hc1) cv_RX7_133 (klC_8 isC_1) (ksC_8 isC_1) ⟨_, _, rfl⟩ rfl rfl rfl (Nat.le_of_ble_eq_true rfl) ⟨Nat.le_of_ble_eq_true rfl, Nat.le_of_ble_eq_true rfl⟩ ?_ rfl rfl
  clear hc1
  refine a_if_ne (tgt := 24) (pc := 11) F dX7_ifVacated_11 (by decide) (fun q3 => ?_) (fun q3 => ?_)
  · replace h := ite_f q3 h
    clear q3
    refine a_iload_n (pc := 24) F dX7_ifVacated_24 2 rfl ?_
    refine a_iconst (v := 0) (pc := 25) F dX7_ifVacated_25 (by decide) ?_
    refine a_sipush (v := 2000) (pc := 26) F dX7_ifVacated_26 (by decide) ?_
    replace h := bnd_some h
    obtain ⟨x5, hc4, h⟩ := h
    refine a_callS (pc := 29) (As := [.int p2, .int 0, .int 2000]) (st := []) F dX7_ifVacated_29 (m_X7_within hc4) cs_RX7_47 rfl rfl rfl (Nat.le_of_ble_eq_true rfl) ⟨Nat.le_of_ble_eq_true rfl, Nat.le_of_ble_eq_true rfl⟩ ?_ rfl rfl
    clear hc4
    refine a_if_ne (tgt := 45) (pc := 32) F dX7_ifVacated_32 (by decide) (fun q6 => ?_) (fun q6 => ?_)
    · replace h := ite_f q6 h
      clear q6
      refine a_aload_n (pc := 45) F dX7_ifVacated_45 0 rfl ?_
      refine a_getr (k := 0) (r := 1) (pc := 46) F dX7_ifVacated_46 fl_RX7_10 kl_0 ks_0 rfl ?_
      refine a_iload_n (pc := 49) F dX7_ifVacated_49 1 rfl ?_
      refine a_iload_n (pc := 50) F dX7_ifVacated_50 2 rfl ?_
      replace h := bnd_some h
      obtain ⟨x8, hc7, h⟩ := h
      refine a_callV (pc := 51) (k := 1) (As := [.int p1, .int p2]) (st := []) F dX7_ifVacated_51 (m_X2_payIfVacated isC_1 hc7) cv_RX7_263 (klC_0 isC_1) (ksC_0 isC_1) ⟨_, _, rfl⟩ rfl rfl rfl (Nat.le_of_ble_eq_true rfl) ⟨Nat.le_of_ble_eq_true rfl, Nat.le_of_ble_eq_true rfl⟩ ?_ rfl rfl
      clear hc7
      cases h
      exact a_iret (pc := 54) F dX7_ifVacated_54 ⟨_, rfl, rfl⟩
    · replace h := ite_t (Decidable.not_not.mp q6) h
      clear q6
      cases h
  · replace h := ite_t (Decidable.not_not.mp q3) h
    clear q3
    cases h
def f_X7_mannable_L15 : (Int32 × Int32 × Mem) → Option ((Int32 × Int32 × Mem) ⊕ (Int32 × Mem))
  | (x4, x5, m6) => (if (m6.1 (20 + 8) 0) ≤ x5 then some (.inr (x4, m6)) else bnd (f_X2_isAhead 20 x5 m6) fun x9 => (if x9 = 0 then nm (x5 + 1) fun x11 => some (.inl (x4, x11, m6)) else gIn x5 30 <| nm (m6.1 (20 + 14) x5.toNatClampNeg) fun x13 => (if x13 = 0 then bnd (f_X1_seek 20 x5 m6) fun m17 => (if (m17.1 158 1) ≤ 0 then nm (x5 + 1) fun x19 => some (.inl (x4, x19, m17)) else bnd (f_X3_giveChain 20 x5 (m17.1 158 2) (m17.1 158 3) (m17.1 158 4) m17) fun m21 => nm (x4 + 1) fun x22 => nm (x5 + 1) fun x23 => some (.inl (x22, x23, m21))) else nm (x5 + 1) fun x15 => some (.inl (x4, x15, m6)))))
def f_X7_mannable (m0 : Mem) : Option (Int32 × Mem) :=
  bnd (f_X2_copyFrom 20 1 m0) fun m2 => bnd (lp (f_X7_mannable_L15) 1000000 (0, 0, m2)) (fun (x24, m25) => some (x24, m25))
set_option maxRecDepth 100000 in
set_option maxHeartbeats 4000000 in
theorem m_X7_mannable {m0 : Mem} {rr : Int32} {mm : Mem} (h : f_X7_mannable m0 = some (rr, mm)) : Con yX7_mannable cX7_mannable 3 (some Jvm.ClassFile.FieldType.int) 5 123 (fun G => [.ref (ga G 0)]) m0 (some (.int rr)) mm := by
  refine con_of (by decide) (fun G => Nat.le_of_ble_eq_true rfl) (fun X F => ?_)
  show WA X 0 0 0 [(0, .ref (ga X.G 0))] [] m0 (EQ X (some (.int rr)) mm)
  rw [f_X7_mannable] at h
  refine a_aload_n (pc := 0) F dX7_mannable_0 0 rfl ?_
  refine a_getr (k := 0) (r := 20) (pc := 1) F dX7_mannable_1 fl_RX7_16 kl_0 ks_0 rfl ?_
  refine a_aload_n (pc := 4) F dX7_mannable_4 0 rfl ?_
  refine a_getr (k := 0) (r := 1) (pc := 5) F dX7_mannable_5 fl_RX7_10 kl_0 ks_0 rfl ?_
  replace h := bnd_some h
  obtain ⟨m2, hc1, h⟩ := h
  refine a_callV (pc := 8) (k := 20) (As := [.ref (ga X.G 1)]) (st := []) F dX7_mannable_8 (m_X2_copyFrom isC_20 isC_1 hc1) cv_RX7_266 (klC_0 isC_20) (ksC_0 isC_20) ⟨_, _, rfl⟩ rfl rfl rfl (Nat.le_of_ble_eq_true rfl) ⟨Nat.le_of_ble_eq_true rfl, Nat.le_of_ble_eq_true rfl⟩ ?_ rfl rfl
  clear hc1
  refine a_iconst (v := 0) (pc := 11) F dX7_mannable_11 (by decide) ?_
  refine a_istore_n (lv' := [(1, .int 0), (0, .ref (ga X.G 0))]) (pc := 12) F dX7_mannable_12 (by decide) rfl ?_
  refine a_iconst (v := 0) (pc := 13) F dX7_mannable_13 (by decide) ?_
  refine a_istore_n (lv' := [(2, .int 0), (1, .int 0), (0, .ref (ga X.G 0))]) (pc := 14) F dX7_mannable_14 (by decide) rfl ?_
  refine a_lv F [2, 1, 0] rfl ?_
  replace h := bnd_some h
  obtain ⟨⟨x24, m25⟩, hL3, h⟩ := h
  have hE3 : WA X 0 0 118 [(1, .int x24)] [] m25 (EQ X (some (.int rr)) mm) := by
    refine a_iload_n (pc := 118) F dX7_mannable_118 0 rfl ?_
    cases h
    exact a_iret (pc := 119) F dX7_mannable_119 ⟨_, rfl, rfl⟩
  clear h
  refine lp_run (P := fun (s : (Int32 × Int32 × Mem)) => WA X 0 0 15 [(0, .ref (ga X.G 0)), (1, .int s.1), (2, .int s.2.1)] [] s.2.2 (EQ X (some (.int rr)) mm)) ?_ _ _ hL3
  clear hL3
  rintro ⟨x4, x5, m6⟩ xo h hP3 hT3
  show WA X 0 0 15 [(0, .ref (ga X.G 0)), (1, .int x4), (2, .int x5)] [] m6 (EQ X (some (.int rr)) mm)
  rw [f_X7_mannable_L15] at h
  refine a_iload_n (pc := 15) F dX7_mannable_15 2 rfl ?_
  refine a_aload_n (pc := 16) F dX7_mannable_16 0 rfl ?_
  refine a_getr (k := 0) (r := 20) (pc := 17) F dX7_mannable_17 fl_RX7_16 kl_0 ks_0 rfl ?_
  refine a_getr (k := 20) (r := (20 + 8)) (pc := 20) F dX7_mannable_20 fl_RX7_89 (klC_0 isC_20) (ksC_0 isC_20) rfl ?_
  refine a_geti (k := (20 + 8)) (pc := 23) F dX7_mannable_23 fl_RX7_93 (klC_8 isC_20) (ksC_8 isC_20) rfl ?_
  refine a_icmp_ge (tgt := 118) (pc := 26) F dX7_mannable_26 (by decide) (fun q7 => ?_) (fun q7 => ?_)
  · replace h := ite_t q7 h
    clear q7
    refine a_lv F [1] rfl ?_
    cases hT3 _ (Option.some.inj h).symm
    exact hE3
  · replace h := ite_f q7 h
    clear q7
    refine a_aload_n (pc := 29) F dX7_mannable_29 0 rfl ?_
    refine a_getr (k := 0) (r := 20) (pc := 30) F dX7_mannable_30 fl_RX7_16 kl_0 ks_0 rfl ?_
    refine a_iload_n (pc := 33) F dX7_mannable_33 2 rfl ?_
    replace h := bnd_some h
    obtain ⟨x9, hc8, h⟩ := h
    refine a_callV (pc := 34) (k := 20) (As := [.int x5]) (st := []) F dX7_mannable_34 (m_X2_isAhead isC_20 hc8) cv_RX7_159 (klC_0 isC_20) (ksC_0 isC_20) ⟨_, _, rfl⟩ rfl rfl rfl (Nat.le_of_ble_eq_true rfl) ⟨Nat.le_of_ble_eq_true rfl, Nat.le_of_ble_eq_true rfl⟩ ?_ rfl rfl
    clear hc8
    refine a_if_eq (tgt := 112) (pc := 37) F dX7_mannable_37 (by decide) (fun q10 => ?_) (fun q10 => ?_)
    · replace h := ite_t q10 h
      clear q10
      obtain ⟨x11, ex11⟩ : ∃ x11 : Int32, x11 = x5 + 1 := ⟨_, rfl⟩
      refine a_iinc (v := x11) (lv' := [(2, .int x11), (0, .ref (ga X.G 0)), (1, .int x4)]) (pc := 112) F dX7_mannable_112 2 rfl (by rw [ex11]; rfl) (by decide) rfl ?_
      replace h := nm_at ex11 h
      clear ex11
      refine a_goto (tgt := 15) (pc := 115) F dX7_mannable_115 (by decide) ?_
      refine a_lv F [1, 2, 0] rfl ?_
      exact hP3 _ (Option.some.inj h).symm
    · replace h := ite_f q10 h
      clear q10
      refine a_aload_n (pc := 40) F dX7_mannable_40 0 rfl ?_
      refine a_getr (k := 0) (r := 20) (pc := 41) F dX7_mannable_41 fl_RX7_16 kl_0 ks_0 rfl ?_
      refine a_getr (k := 20) (r := (20 + 8)) (pc := 44) F dX7_mannable_44 fl_RX7_89 (klC_0 isC_20) (ksC_0 isC_20) rfl ?_
      refine a_getr (k := (20 + 8)) (r := (20 + 14)) (pc := 47) F dX7_mannable_47 fl_RX7_164 (klC_8 isC_20) (ksC_8 isC_20) rfl ?_
      refine a_iload_n (pc := 50) F dX7_mannable_50 2 rfl ?_
      replace h := gIn_some h
      obtain ⟨g12, h⟩ := h
      refine a_ial (k := (20 + 14)) (pc := 51) F dX7_mannable_51 (klC_14 isC_20) (ksC_14 isC_20) g12 ?_
      refine a_nmi fun x13 ex13 => ?_
      replace h := nm_at ex13 h
      clear ex13
      refine a_if_ne (tgt := 112) (pc := 52) F dX7_mannable_52 (by decide) (fun q14 => ?_) (fun q14 => ?_)
      · replace h := ite_f q14 h
        clear q14
        obtain ⟨x15, ex15⟩ : ∃ x15 : Int32, x15 = x5 + 1 := ⟨_, rfl⟩
        refine a_iinc (v := x15) (lv' := [(2, .int x15), (0, .ref (ga X.G 0)), (1, .int x4)]) (pc := 112) F dX7_mannable_112 2 rfl (by rw [ex15]; rfl) (by decide) rfl ?_
        replace h := nm_at ex15 h
        clear ex15
        refine a_goto (tgt := 15) (pc := 115) F dX7_mannable_115 (by decide) ?_
        refine a_lv F [1, 2, 0] rfl ?_
        exact hP3 _ (Option.some.inj h).symm
      · replace h := ite_t (Decidable.not_not.mp q14) h
        clear q14
        refine a_aload_n (pc := 55) F dX7_mannable_55 0 rfl ?_
        refine a_getr (k := 0) (r := 158) (pc := 56) F dX7_mannable_56 fl_RX7_43 kl_0 ks_0 rfl ?_
        refine a_aload_n (pc := 59) F dX7_mannable_59 0 rfl ?_
        refine a_getr (k := 0) (r := 20) (pc := 60) F dX7_mannable_60 fl_RX7_16 kl_0 ks_0 rfl ?_
        refine a_iload_n (pc := 63) F dX7_mannable_63 2 rfl ?_
        replace h := bnd_some h
        obtain ⟨m17, hc16, h⟩ := h
        refine a_callV (pc := 64) (k := 158) (As := [.ref (ga X.G 20), .int x5]) (st := []) F dX7_mannable_64 (m_X1_seek isC_20 hc16) cv_RX7_250 kl_158 ks_158 ⟨_, _, rfl⟩ rfl rfl rfl (Nat.le_of_ble_eq_true rfl) ⟨Nat.le_of_ble_eq_true rfl, Nat.le_of_ble_eq_true rfl⟩ ?_ rfl rfl
        clear hc16
        refine a_aload_n (pc := 67) F dX7_mannable_67 0 rfl ?_
        refine a_getr (k := 0) (r := 158) (pc := 68) F dX7_mannable_68 fl_RX7_43 kl_0 ks_0 rfl ?_
        refine a_geti (k := 158) (pc := 71) F dX7_mannable_71 fl_RX7_269 kl_158 ks_158 rfl ?_
        refine a_if_le (tgt := 112) (pc := 74) F dX7_mannable_74 (by decide) (fun q18 => ?_) (fun q18 => ?_)
        · replace h := ite_t q18 h
          clear q18
          obtain ⟨x19, ex19⟩ : ∃ x19 : Int32, x19 = x5 + 1 := ⟨_, rfl⟩
          refine a_iinc (v := x19) (lv' := [(2, .int x19), (0, .ref (ga X.G 0)), (1, .int x4)]) (pc := 112) F dX7_mannable_112 2 rfl (by rw [ex19]; rfl) (by decide) rfl ?_
          replace h := nm_at ex19 h
          clear ex19
          refine a_goto (tgt := 15) (pc := 115) F dX7_mannable_115 (by decide) ?_
          refine a_lv F [1, 2, 0] rfl ?_
          exact hP3 _ (Option.some.inj h).symm
        · replace h := ite_f q18 h
          clear q18
          refine a_aload_n (pc := 77) F dX7_mannable_77 0 rfl ?_
          refine a_getr (k := 0) (r := 20) (pc := 78) F dX7_mannable_78 fl_RX7_16 kl_0 ks_0 rfl ?_
          refine a_getr (k := 20) (r := (20 + 8)) (pc := 81) F dX7_mannable_81 fl_RX7_89 (klC_0 isC_20) (ksC_0 isC_20) rfl ?_
          refine a_iload_n (pc := 84) F dX7_mannable_84 2 rfl ?_
          refine a_aload_n (pc := 85) F dX7_mannable_85 0 rfl ?_
          refine a_getr (k := 0) (r := 158) (pc := 86) F dX7_mannable_86 fl_RX7_43 kl_0 ks_0 rfl ?_
          refine a_geti (k := 158) (pc := 89) F dX7_mannable_89 fl_RX7_271 kl_158 ks_158 rfl ?_
          refine a_aload_n (pc := 92) F dX7_mannable_92 0 rfl ?_
          refine a_getr (k := 0) (r := 158) (pc := 93) F dX7_mannable_93 fl_RX7_43 kl_0 ks_0 rfl ?_
          refine a_geti (k := 158) (pc := 96) F dX7_mannable_96 fl_RX7_274 kl_158 ks_158 rfl ?_
          refine a_aload_n (pc := 99) F dX7_mannable_99 0 rfl ?_
          refine a_getr (k := 0) (r := 158) (pc := 100) F dX7_mannable_100 fl_RX7_43 kl_0 ks_0 rfl ?_
          refine a_geti (k := 158) (pc := 103) F dX7_mannable_103 fl_RX7_277 kl_158 ks_158 rfl ?_
          replace h := bnd_some h
          obtain ⟨m21, hc20, h⟩ := h
          refine a_callV (pc := 106) (k := (20 + 8)) (As := [.int x5, .int (m17.1 158 2), .int (m17.1 158 3), .int (m17.1 158 4)]) (st := []) F dX7_mannable_106 (m_X3_giveChain isC_20 hc20) cv_RX7_149 (klC_8 isC_20) (ksC_8 isC_20) ⟨_, _, rfl⟩ rfl rfl rfl (Nat.le_of_ble_eq_true rfl) ⟨Nat.le_of_ble_eq_true rfl, Nat.le_of_ble_eq_true rfl⟩ ?_ rfl rfl
          clear hc20
          obtain ⟨x22, ex22⟩ : ∃ x22 : Int32, x22 = x4 + 1 := ⟨_, rfl⟩
          refine a_iinc (v := x22) (lv' := [(1, .int x22), (0, .ref (ga X.G 0)), (2, .int x5)]) (pc := 109) F dX7_mannable_109 1 rfl (by rw [ex22]; rfl) (by decide) rfl ?_
          replace h := nm_at ex22 h
          clear ex22
          obtain ⟨x23, ex23⟩ : ∃ x23 : Int32, x23 = x5 + 1 := ⟨_, rfl⟩
          refine a_iinc (v := x23) (lv' := [(2, .int x23), (1, .int x22), (0, .ref (ga X.G 0))]) (pc := 112) F dX7_mannable_112 2 rfl (by rw [ex23]; rfl) (by decide) rfl ?_
          replace h := nm_at ex23 h
          clear ex23
          refine a_goto (tgt := 15) (pc := 115) F dX7_mannable_115 (by decide) ?_
          refine a_lv F [2, 1, 0] rfl ?_
          exact hP3 _ (Option.some.inj h).symm
def f_X6_widened_L5 (c : Nat) (p1 : Int32) (p2 : Int32) (m0 : Mem) : (Int32 × Int32) → Option ((Int32 × Int32) ⊕ Int32)
  | (x2, x3) => (if (m0.1 (c + 1) 0) ≤ x3 then some (.inr x2) else gIn x3 10 <| nm (m0.1 (c + 3) x3.toNatClampNeg) fun x6 => nm ((x6 >>> (p2 &&& 31)) &&& 1) fun x7 => (if x7 = 0 then nm (x3 + 1) fun x9 => some (.inl (x2, x9)) else gIn x3 10 <| nm (m0.1 (c + 2) x3.toNatClampNeg) fun x11 => (if (x11 &&& p1) = 0 then nm (x3 + 1) fun x13 => some (.inl (x2, x13)) else gIn x3 10 <| nm (m0.1 (c + 2) x3.toNatClampNeg) fun x15 => nm (x3 + 1) fun x16 => some (.inl (x2 ||| x15, x16)))))
def f_X6_widened (c : Nat) (p1 : Int32) (p2 : Int32) (m0 : Mem) : Option Int32 :=
  bnd (lp (f_X6_widened_L5 c p1 p2 m0) 1000000 (p1, 0)) (fun x17 => some x17)
set_option maxRecDepth 100000 in
set_option maxHeartbeats 4000000 in
theorem m_X6_widened {c : Nat} {p1 : Int32} {p2 : Int32} (hc : isC c) {m0 : Mem} {rr : Int32} (h : f_X6_widened c p1 p2 m0 = some rr) : Con yX6_widened cX6_widened 5 (some Jvm.ClassFile.FieldType.int) 0 0 (fun G => [.ref (ga G (c + 1)), .int p1, .int p2]) m0 (some (.int rr)) m0 := by
  refine con_of (by decide) (fun G => Nat.le_of_ble_eq_true rfl) (fun X F => ?_)
  show WA X 0 0 0 [(0, .ref (ga X.G (c + 1))), (1, .int p1), (2, .int p2)] [] m0 (EQ X (some (.int rr)) m0)
  rw [f_X6_widened] at h
  refine a_iload_n (pc := 0) F dX6_widened_0 1 rfl ?_
  refine a_istore_n (lv' := [(3, .int p1), (0, .ref (ga X.G (c + 1))), (1, .int p1), (2, .int p2)]) (pc := 1) F dX6_widened_1 (by decide) rfl ?_
  refine a_iconst (v := 0) (pc := 2) F dX6_widened_2 (by decide) ?_
  refine a_istore (lv' := [(4, .int 0), (3, .int p1), (0, .ref (ga X.G (c + 1))), (1, .int p1), (2, .int p2)]) (pc := 3) F dX6_widened_3 (by decide) rfl ?_
  refine a_lv F [2, 3, 4, 1, 0] rfl ?_
  replace h := bnd_some h
  obtain ⟨x17, hL1, h⟩ := h
  have hE1 : WA X 0 0 56 [(3, .int x17)] [] m0 (EQ X (some (.int rr)) m0) := by
    refine a_iload_n (pc := 56) F dX6_widened_56 0 rfl ?_
    cases h
    exact a_iret (pc := 57) F dX6_widened_57 ⟨_, rfl, rfl⟩
  clear h
  refine lp_run (P := fun (s : (Int32 × Int32)) => WA X 0 0 5 [(0, .ref (ga X.G (c + 1))), (1, .int p1), (2, .int p2), (3, .int s.1), (4, .int s.2)] [] m0 (EQ X (some (.int rr)) m0)) ?_ _ _ hL1
  clear hL1
  rintro ⟨x2, x3⟩ xo h hP1 hT1
  show WA X 0 0 5 [(0, .ref (ga X.G (c + 1))), (1, .int p1), (2, .int p2), (3, .int x2), (4, .int x3)] [] m0 (EQ X (some (.int rr)) m0)
  rw [f_X6_widened_L5] at h
  refine a_iload (pc := 5) F dX6_widened_5 4 rfl ?_
  refine a_aload_n (pc := 7) F dX6_widened_7 0 rfl ?_
  refine a_geti (k := (c + 1)) (pc := 8) F dX6_widened_8 fl_RX6_30 (klC_1 hc) (ksC_1 hc) rfl ?_
  refine a_icmp_ge (tgt := 56) (pc := 11) F dX6_widened_11 (by decide) (fun q4 => ?_) (fun q4 => ?_)
  · replace h := ite_t q4 h
    clear q4
    refine a_lv F [3] rfl ?_
    cases hT1 _ (Option.some.inj h).symm
    exact hE1
  · replace h := ite_f q4 h
    clear q4
    refine a_aload_n (pc := 14) F dX6_widened_14 0 rfl ?_
    refine a_getr (k := (c + 1)) (r := (c + 3)) (pc := 15) F dX6_widened_15 fl_RX6_15 (klC_1 hc) (ksC_1 hc) rfl ?_
    refine a_iload (pc := 18) F dX6_widened_18 4 rfl ?_
    replace h := gIn_some h
    obtain ⟨g5, h⟩ := h
    refine a_ial (k := (c + 3)) (pc := 20) F dX6_widened_20 (klC_3 hc) (ksC_3 hc) g5 ?_
    refine a_nmi fun x6 ex6 => ?_
    replace h := nm_at ex6 h
    clear ex6
    refine a_iload_n (pc := 21) F dX6_widened_21 2 rfl ?_
    refine a_ishr (pc := 22) F dX6_widened_22 ?_
    refine a_iconst (v := 1) (pc := 23) F dX6_widened_23 (by decide) ?_
    refine a_iand (pc := 24) F dX6_widened_24 ?_
    refine a_nmi fun x7 ex7 => ?_
    replace h := nm_at ex7 h
    clear ex7
    refine a_if_eq (tgt := 50) (pc := 25) F dX6_widened_25 (by decide) (fun q8 => ?_) (fun q8 => ?_)
    · replace h := ite_t q8 h
      clear q8
      obtain ⟨x9, ex9⟩ : ∃ x9 : Int32, x9 = x3 + 1 := ⟨_, rfl⟩
      refine a_iinc (v := x9) (lv' := [(4, .int x9), (0, .ref (ga X.G (c + 1))), (1, .int p1), (2, .int p2), (3, .int x2)]) (pc := 50) F dX6_widened_50 4 rfl (by rw [ex9]; rfl) (by decide) rfl ?_
      replace h := nm_at ex9 h
      clear ex9
      refine a_goto (tgt := 5) (pc := 53) F dX6_widened_53 (by decide) ?_
      refine a_lv F [1, 2, 3, 4, 0] rfl ?_
      exact hP1 _ (Option.some.inj h).symm
    · replace h := ite_f q8 h
      clear q8
      refine a_aload_n (pc := 28) F dX6_widened_28 0 rfl ?_
      refine a_getr (k := (c + 1)) (r := (c + 2)) (pc := 29) F dX6_widened_29 fl_RX6_9 (klC_1 hc) (ksC_1 hc) rfl ?_
      refine a_iload (pc := 32) F dX6_widened_32 4 rfl ?_
      replace h := gIn_some h
      obtain ⟨g10, h⟩ := h
      refine a_ial (k := (c + 2)) (pc := 34) F dX6_widened_34 (klC_2 hc) (ksC_2 hc) g10 ?_
      refine a_nmi fun x11 ex11 => ?_
      replace h := nm_at ex11 h
      clear ex11
      refine a_iload_n (pc := 35) F dX6_widened_35 1 rfl ?_
      refine a_iand (pc := 36) F dX6_widened_36 ?_
      refine a_if_eq (tgt := 50) (pc := 37) F dX6_widened_37 (by decide) (fun q12 => ?_) (fun q12 => ?_)
      · replace h := ite_t q12 h
        clear q12
        obtain ⟨x13, ex13⟩ : ∃ x13 : Int32, x13 = x3 + 1 := ⟨_, rfl⟩
        refine a_iinc (v := x13) (lv' := [(4, .int x13), (0, .ref (ga X.G (c + 1))), (1, .int p1), (2, .int p2), (3, .int x2)]) (pc := 50) F dX6_widened_50 4 rfl (by rw [ex13]; rfl) (by decide) rfl ?_
        replace h := nm_at ex13 h
        clear ex13
        refine a_goto (tgt := 5) (pc := 53) F dX6_widened_53 (by decide) ?_
        refine a_lv F [1, 2, 3, 4, 0] rfl ?_
        exact hP1 _ (Option.some.inj h).symm
      · replace h := ite_f q12 h
        clear q12
        refine a_iload_n (pc := 40) F dX6_widened_40 3 rfl ?_
        refine a_aload_n (pc := 41) F dX6_widened_41 0 rfl ?_
        refine a_getr (k := (c + 1)) (r := (c + 2)) (pc := 42) F dX6_widened_42 fl_RX6_9 (klC_1 hc) (ksC_1 hc) rfl ?_
        refine a_iload (pc := 45) F dX6_widened_45 4 rfl ?_
        replace h := gIn_some h
        obtain ⟨g14, h⟩ := h
        refine a_ial (k := (c + 2)) (pc := 47) F dX6_widened_47 (klC_2 hc) (ksC_2 hc) g14 ?_
        refine a_nmi fun x15 ex15 => ?_
        replace h := nm_at ex15 h
        clear ex15
        refine a_ior (pc := 48) F dX6_widened_48 ?_
        refine a_istore_n (lv' := [(3, .int (x2 ||| x15)), (0, .ref (ga X.G (c + 1))), (1, .int p1), (2, .int p2), (4, .int x3)]) (pc := 49) F dX6_widened_49 (by decide) rfl ?_
        obtain ⟨x16, ex16⟩ : ∃ x16 : Int32, x16 = x3 + 1 := ⟨_, rfl⟩
        refine a_iinc (v := x16) (lv' := [(4, .int x16), (3, .int (x2 ||| x15)), (0, .ref (ga X.G (c + 1))), (1, .int p1), (2, .int p2)]) (pc := 50) F dX6_widened_50 4 rfl (by rw [ex16]; rfl) (by decide) rfl ?_
        replace h := nm_at ex16 h
        clear ex16
        refine a_goto (tgt := 5) (pc := 53) F dX6_widened_53 (by decide) ?_
        refine a_lv F [2, 3, 4, 1, 0] rfl ?_
        exact hP1 _ (Option.some.inj h).symm
def f_X6_languagesWithoutChain_L4 (c : Nat) (p1 : Int32) (m0 : Mem) : (Int32 × Int32) → Option ((Int32 × Int32) ⊕ Int32)
  | (x2, x3) => (if 3 ≤ x3 then some (.inr x2) else bnd (f_X6_widened c x2 p1 m0) fun x6 => nm (x3 + 1) fun x7 => some (.inl (x6, x7)))
def f_X6_languagesWithoutChain (c : Nat) (p1 : Int32) (m0 : Mem) : Option Int32 :=
  bnd (lp (f_X6_languagesWithoutChain_L4 c p1 m0) 1000000 (1, 0)) (fun x8 => some (1022 &&& (x8 ^^^ (-1))))
set_option maxRecDepth 100000 in
set_option maxHeartbeats 4000000 in
theorem m_X6_languagesWithoutChain {c : Nat} {p1 : Int32} (hc : isC c) {m0 : Mem} {rr : Int32} (h : f_X6_languagesWithoutChain c p1 m0 = some rr) : Con yX6_languagesWithoutChain cX6_languagesWithoutChain 4 (some Jvm.ClassFile.FieldType.int) 1 24 (fun G => [.ref (ga G (c + 1)), .int p1]) m0 (some (.int rr)) m0 := by
  refine con_of (by decide) (fun G => Nat.le_of_ble_eq_true rfl) (fun X F => ?_)
  show WA X 0 0 0 [(0, .ref (ga X.G (c + 1))), (1, .int p1)] [] m0 (EQ X (some (.int rr)) m0)
  rw [f_X6_languagesWithoutChain] at h
  refine a_iconst (v := 1) (pc := 0) F dX6_languagesWithoutChain_0 (by decide) ?_
  refine a_istore_n (lv' := [(2, .int 1), (0, .ref (ga X.G (c + 1))), (1, .int p1)]) (pc := 1) F dX6_languagesWithoutChain_1 (by decide) rfl ?_
  refine a_iconst (v := 0) (pc := 2) F dX6_languagesWithoutChain_2 (by decide) ?_
  refine a_istore_n (lv' := [(3, .int 0), (2, .int 1), (0, .ref (ga X.G (c + 1))), (1, .int p1)]) (pc := 3) F dX6_languagesWithoutChain_3 (by decide) rfl ?_
  refine a_lv F [2, 3, 1, 0] rfl ?_
  replace h := bnd_some h
  obtain ⟨x8, hL1, h⟩ := h
  have hE1 : WA X 0 0 22 [(2, .int x8)] [] m0 (EQ X (some (.int rr)) m0) := by
    refine a_sipush (v := 1022) (pc := 22) F dX6_languagesWithoutChain_22 (by decide) ?_
    refine a_iload_n (pc := 25) F dX6_languagesWithoutChain_25 0 rfl ?_
    refine a_iconst (v := (-1)) (pc := 26) F dX6_languagesWithoutChain_26 (by decide) ?_
    refine a_ixor (pc := 27) F dX6_languagesWithoutChain_27 ?_
    refine a_iand (pc := 28) F dX6_languagesWithoutChain_28 ?_
    cases h
    exact a_iret (pc := 29) F dX6_languagesWithoutChain_29 ⟨_, rfl, rfl⟩
  clear h
  refine lp_run (P := fun (s : (Int32 × Int32)) => WA X 0 0 4 [(0, .ref (ga X.G (c + 1))), (1, .int p1), (2, .int s.1), (3, .int s.2)] [] m0 (EQ X (some (.int rr)) m0)) ?_ _ _ hL1
  clear hL1
  rintro ⟨x2, x3⟩ xo h hP1 hT1
  show WA X 0 0 4 [(0, .ref (ga X.G (c + 1))), (1, .int p1), (2, .int x2), (3, .int x3)] [] m0 (EQ X (some (.int rr)) m0)
  rw [f_X6_languagesWithoutChain_L4] at h
  refine a_iload_n (pc := 4) F dX6_languagesWithoutChain_4 3 rfl ?_
  refine a_iconst (v := 3) (pc := 5) F dX6_languagesWithoutChain_5 (by decide) ?_
  refine a_icmp_ge (tgt := 22) (pc := 6) F dX6_languagesWithoutChain_6 (by decide) (fun q4 => ?_) (fun q4 => ?_)
  · replace h := ite_t q4 h
    clear q4
    refine a_lv F [2] rfl ?_
    cases hT1 _ (Option.some.inj h).symm
    exact hE1
  · replace h := ite_f q4 h
    clear q4
    refine a_aload_n (pc := 9) F dX6_languagesWithoutChain_9 0 rfl ?_
    refine a_iload_n (pc := 10) F dX6_languagesWithoutChain_10 2 rfl ?_
    refine a_iload_n (pc := 11) F dX6_languagesWithoutChain_11 1 rfl ?_
    replace h := bnd_some h
    obtain ⟨x6, hc5, h⟩ := h
    refine a_callV (pc := 12) (k := (c + 1)) (As := [.int x2, .int p1]) (st := []) F dX6_languagesWithoutChain_12 (m_X6_widened hc hc5) cv_RX6_64 (klC_1 hc) (ksC_1 hc) ⟨_, _, rfl⟩ rfl rfl rfl (Nat.le_of_ble_eq_true rfl) ⟨Nat.le_of_ble_eq_true rfl, Nat.le_of_ble_eq_true rfl⟩ ?_ rfl rfl
    clear hc5
    refine a_istore_n (lv' := [(2, .int x6), (0, .ref (ga X.G (c + 1))), (1, .int p1), (3, .int x3)]) (pc := 15) F dX6_languagesWithoutChain_15 (by decide) rfl ?_
    obtain ⟨x7, ex7⟩ : ∃ x7 : Int32, x7 = x3 + 1 := ⟨_, rfl⟩
    refine a_iinc (v := x7) (lv' := [(3, .int x7), (2, .int x6), (0, .ref (ga X.G (c + 1))), (1, .int p1)]) (pc := 16) F dX6_languagesWithoutChain_16 3 rfl (by rw [ex7]; rfl) (by decide) rfl ?_
    replace h := nm_at ex7 h
    clear ex7
    refine a_goto (tgt := 4) (pc := 19) F dX6_languagesWithoutChain_19 (by decide) ?_
    refine a_lv F [2, 3, 1, 0] rfl ?_
    exact hP1 _ (Option.some.inj h).symm
def f_X7_missing (p1 : Int32) (m0 : Mem) : Option Int32 :=
  bnd (f_X7_within p1 0 2 m0) fun x2 => (if x2 = 0 then none else bnd (f_X6_languagesWithoutChain 1 p1 m0) fun x5 => some x5)
set_option maxRecDepth 100000 in
set_option maxHeartbeats 4000000 in
theorem m_X7_missing {p1 : Int32} {m0 : Mem} {rr : Int32} (h : f_X7_missing p1 m0 = some rr) : Con yX7_missing cX7_missing 2 (some Jvm.ClassFile.FieldType.int) 2 47 (fun G => [.ref (ga G 0), .int p1]) m0 (some (.int rr)) m0 := by
  refine con_of (by decide) (fun G => Nat.le_of_ble_eq_true rfl) (fun X F => ?_)
  show WA X 0 0 0 [(0, .ref (ga X.G 0)), (1, .int p1)] [] m0 (EQ X (some (.int rr)) m0)
  rw [f_X7_missing] at h
  refine a_iload_n (pc := 0) F dX7_missing_0 1 rfl ?_
  refine a_iconst (v := 0) (pc := 1) F dX7_missing_1 (by decide) ?_
  refine a_iconst (v := 2) (pc := 2) F dX7_missing_2 (by decide) ?_
  replace h := bnd_some h
  obtain ⟨x2, hc1, h⟩ := h
  refine a_callS (pc := 3) (As := [.int p1, .int 0, .int 2]) (st := []) F dX7_missing_3 (m_X7_within hc1) cs_RX7_47 rfl rfl rfl (Nat.le_of_ble_eq_true rfl) ⟨Nat.le_of_ble_eq_true rfl, Nat.le_of_ble_eq_true rfl⟩ ?_ rfl rfl
  clear hc1
  refine a_if_ne (tgt := 20) (pc := 6) F dX7_missing_6 (by decide) (fun q3 => ?_) (fun q3 => ?_)
  · replace h := ite_f q3 h
    clear q3
    refine a_aload_n (pc := 20) F dX7_missing_20 0 rfl ?_
    refine a_getr (k := 0) (r := 1) (pc := 21) F dX7_missing_21 fl_RX7_10 kl_0 ks_0 rfl ?_
    refine a_getr (k := 1) (r := (1 + 1)) (pc := 24) F dX7_missing_24 fl_RX7_64 (klC_0 isC_1) (ksC_0 isC_1) rfl ?_
    refine a_iload_n (pc := 27) F dX7_missing_27 1 rfl ?_
    replace h := bnd_some h
    obtain ⟨x5, hc4, h⟩ := h
    refine a_callV (pc := 28) (k := (1 + 1)) (As := [.int p1]) (st := []) F dX7_missing_28 (m_X6_languagesWithoutChain isC_1 hc4) cv_RX7_282 (klC_1 isC_1) (ksC_1 isC_1) ⟨_, _, rfl⟩ rfl rfl rfl (Nat.le_of_ble_eq_true rfl) ⟨Nat.le_of_ble_eq_true rfl, Nat.le_of_ble_eq_true rfl⟩ ?_ rfl rfl
    clear hc4
    cases h
    exact a_iret (pc := 31) F dX7_missing_31 ⟨_, rfl, rfl⟩
  · replace h := ite_t (Decidable.not_not.mp q3) h
    clear q3
    cases h
def f_X7_doneShare (m0 : Mem) : Option UInt64 :=
  (if (m0.1 1 4) = 0 then some 0 else nm ((m0.1 1 4) - (m0.1 1 5)) fun x2 => nm (FP.i2d (x2 - (m0.1 1 6))) fun z3 => gDn (FP.ddiv z3 (FP.i2d (m0.1 1 4))) <| nm (FP.ddiv z3 (FP.i2d (m0.1 1 4))) fun z5 => some z5)
set_option maxRecDepth 100000 in
set_option maxHeartbeats 4000000 in
theorem m_X7_doneShare {m0 : Mem} {rr : UInt64} (h : f_X7_doneShare m0 = some rr) : Con yX7_doneShare cX7_doneShare 1 (some Jvm.ClassFile.FieldType.double) 0 0 (fun G => [.ref (ga G 0)]) m0 (some (.double rr)) m0 := by
  refine con_of (by decide) (fun G => Nat.le_of_ble_eq_true rfl) (fun X F => ?_)
  show WA X 0 0 0 [(0, .ref (ga X.G 0))] [] m0 (EQ X (some (.double rr)) m0)
  rw [f_X7_doneShare] at h
  refine a_aload_n (pc := 0) F dX7_doneShare_0 0 rfl ?_
  refine a_getr (k := 0) (r := 1) (pc := 1) F dX7_doneShare_1 fl_RX7_10 kl_0 ks_0 rfl ?_
  refine a_geti (k := 1) (pc := 4) F dX7_doneShare_4 fl_RX7_285 (klC_0 isC_1) (ksC_0 isC_1) rfl ?_
  refine a_if_ne (tgt := 12) (pc := 7) F dX7_doneShare_7 (by decide) (fun q1 => ?_) (fun q1 => ?_)
  · replace h := ite_f q1 h
    clear q1
    refine a_aload_n (pc := 12) F dX7_doneShare_12 0 rfl ?_
    refine a_getr (k := 0) (r := 1) (pc := 13) F dX7_doneShare_13 fl_RX7_10 kl_0 ks_0 rfl ?_
    refine a_geti (k := 1) (pc := 16) F dX7_doneShare_16 fl_RX7_285 (klC_0 isC_1) (ksC_0 isC_1) rfl ?_
    refine a_aload_n (pc := 19) F dX7_doneShare_19 0 rfl ?_
    refine a_getr (k := 0) (r := 1) (pc := 20) F dX7_doneShare_20 fl_RX7_10 kl_0 ks_0 rfl ?_
    refine a_geti (k := 1) (pc := 23) F dX7_doneShare_23 fl_RX7_288 (klC_0 isC_1) (ksC_0 isC_1) rfl ?_
    refine a_isub (pc := 26) F dX7_doneShare_26 ?_
    refine a_nmi fun x2 ex2 => ?_
    replace h := nm_at ex2 h
    clear ex2
    refine a_aload_n (pc := 27) F dX7_doneShare_27 0 rfl ?_
    refine a_getr (k := 0) (r := 1) (pc := 28) F dX7_doneShare_28 fl_RX7_10 kl_0 ks_0 rfl ?_
    refine a_geti (k := 1) (pc := 31) F dX7_doneShare_31 fl_RX7_291 (klC_0 isC_1) (ksC_0 isC_1) rfl ?_
    refine a_isub (pc := 34) F dX7_doneShare_34 ?_
    refine a_i2d (pc := 35) F dX7_doneShare_35 ?_
    refine a_nmd fun z3 ez3 => ?_
    replace h := nm_at ez3 h
    clear ez3
    refine a_aload_n (pc := 36) F dX7_doneShare_36 0 rfl ?_
    refine a_getr (k := 0) (r := 1) (pc := 37) F dX7_doneShare_37 fl_RX7_10 kl_0 ks_0 rfl ?_
    refine a_geti (k := 1) (pc := 40) F dX7_doneShare_40 fl_RX7_285 (klC_0 isC_1) (ksC_0 isC_1) rfl ?_
    refine a_i2d (pc := 43) F dX7_doneShare_43 ?_
    replace h := gDn_some h
    obtain ⟨g4, h⟩ := h
    refine a_ddiv (pc := 44) F dX7_doneShare_44 g4 ?_
    refine a_nmd fun z5 ez5 => ?_
    replace h := nm_at ez5 h
    clear ez5
    cases h
    exact a_dret (pc := 45) F dX7_doneShare_45 rfl
  · replace h := ite_t (Decidable.not_not.mp q1) h
    clear q1
    refine a_dconst0 (pc := 10) F dX7_doneShare_10 ?_
    cases h
    exact a_dret (pc := 11) F dX7_doneShare_11 rfl
def f_X7_mix (p1 : Int64) (p2 : Int64) (m0 : Mem) : Option Int64 :=
  nm (((31 : Int64) * p1) + p2) fun y1 => some y1
set_option maxRecDepth 100000 in
set_option maxHeartbeats 4000000 in
theorem m_X7_mix {p1 : Int64} {p2 : Int64} {m0 : Mem} {rr : Int64} (h : f_X7_mix p1 p2 m0 = some rr) : Con yX7_mix cX7_mix 4 (some Jvm.ClassFile.FieldType.long) 0 0 (fun G => [.long p1, .long p2]) m0 (some (.long rr)) m0 := by
  refine con_of (by decide) (fun G => Nat.le_of_ble_eq_true rfl) (fun X F => ?_)
  show WA X 0 0 0 [(0, .long p1), (2, .long p2)] [] m0 (EQ X (some (.long rr)) m0)
  rw [f_X7_mix] at h
  refine a_ldc2l (v := 31) (pc := 0) F dX7_mix_0 cw_RX7_329 ?_
  refine a_lload_n (pc := 3) F dX7_mix_3 0 rfl ?_
  refine a_lmul (pc := 4) F dX7_mix_4 ?_
  refine a_lload_n (pc := 5) F dX7_mix_5 1 rfl ?_
  refine a_ladd (pc := 6) F dX7_mix_6 ?_
  refine a_nml fun y1 ey1 => ?_
  replace h := nm_at ey1 h
  clear ey1
  cases h
  exact a_lret (pc := 7) F dX7_mix_7 rfl
def f_X7_mixInterpreters_L23 (m0 : Mem) (x3 : Int32) : (Int64 × Int32) → Option ((Int64 × Int32) ⊕ Int64)
  | (y6, x7) => (if 7 < x7 then some (.inr y6) else bnd (f_X2_ofInterpreter 1 x3 x7 m0) fun x10 => bnd (f_X7_mix y6 x10.toInt64 m0) fun y12 => nm (x7 + 1) fun x13 => some (.inl (y12, x13)))
def f_X7_mixInterpreters_L5 (m0 : Mem) : (Int64 × Int32) → Option ((Int64 × Int32) ⊕ Int64)
  | (y2, x3) => (if (m0.1 (1 + 1) 0) ≤ x3 then some (.inr y2) else bnd (lp (f_X7_mixInterpreters_L23 m0 x3) 1000000 (y2, 0)) (fun y14 => gIn x3 10 <| nm (m0.1 (20 + 5) x3.toNatClampNeg) fun x16 => bnd (f_X7_mix y14 x16.toInt64 m0) fun y18 => nm (x3 + 1) fun x19 => some (.inl (y18, x19))))
def f_X7_mixInterpreters (p1 : Int64) (m0 : Mem) : Option Int64 :=
  bnd (lp (f_X7_mixInterpreters_L5 m0) 1000000 (p1, 0)) (fun y20 => some y20)
set_option maxRecDepth 100000 in
set_option maxHeartbeats 4000000 in
theorem m_X7_mixInterpreters {p1 : Int64} {m0 : Mem} {rr : Int64} (h : f_X7_mixInterpreters p1 m0 = some rr) : Con yX7_mixInterpreters cX7_mixInterpreters 7 (some Jvm.ClassFile.FieldType.long) 4 87 (fun G => [.ref (ga G 0), .long p1]) m0 (some (.long rr)) m0 := by
  refine con_of (by decide) (fun G => Nat.le_of_ble_eq_true rfl) (fun X F => ?_)
  show WA X 0 0 0 [(0, .ref (ga X.G 0)), (1, .long p1)] [] m0 (EQ X (some (.long rr)) m0)
  rw [f_X7_mixInterpreters] at h
  refine a_lload_n (pc := 0) F dX7_mixInterpreters_0 1 rfl ?_
  refine a_lstore_n (lv' := [(3, .long p1), (0, .ref (ga X.G 0)), (1, .long p1)]) (pc := 1) F dX7_mixInterpreters_1 (by decide) rfl ?_
  refine a_iconst (v := 0) (pc := 2) F dX7_mixInterpreters_2 (by decide) ?_
  refine a_istore (lv' := [(5, .int 0), (3, .long p1), (0, .ref (ga X.G 0)), (1, .long p1)]) (pc := 3) F dX7_mixInterpreters_3 (by decide) rfl ?_
  refine a_lv F [2, 1, 0] rfl ?_
  replace h := bnd_some h
  obtain ⟨y20, hL1, h⟩ := h
  have hE1 : WA X 0 0 78 [(3, .long y20)] [] m0 (EQ X (some (.long rr)) m0) := by
    refine a_lload_n (pc := 78) F dX7_mixInterpreters_78 0 rfl ?_
    cases h
    exact a_lret (pc := 79) F dX7_mixInterpreters_79 rfl
  clear h
  refine lp_run (P := fun (s : (Int64 × Int32)) => WA X 0 0 5 [(0, .ref (ga X.G 0)), (3, .long s.1), (5, .int s.2)] [] m0 (EQ X (some (.long rr)) m0)) ?_ _ _ hL1
  clear hL1
  rintro ⟨y2, x3⟩ xo h hP1 hT1
  show WA X 0 0 5 [(0, .ref (ga X.G 0)), (3, .long y2), (5, .int x3)] [] m0 (EQ X (some (.long rr)) m0)
  rw [f_X7_mixInterpreters_L5] at h
  refine a_iload (pc := 5) F dX7_mixInterpreters_5 2 rfl ?_
  refine a_aload_n (pc := 7) F dX7_mixInterpreters_7 0 rfl ?_
  refine a_getr (k := 0) (r := 1) (pc := 8) F dX7_mixInterpreters_8 fl_RX7_10 kl_0 ks_0 rfl ?_
  refine a_getr (k := 1) (r := (1 + 1)) (pc := 11) F dX7_mixInterpreters_11 fl_RX7_64 (klC_0 isC_1) (ksC_0 isC_1) rfl ?_
  refine a_geti (k := (1 + 1)) (pc := 14) F dX7_mixInterpreters_14 fl_RX7_68 (klC_1 isC_1) (ksC_1 isC_1) rfl ?_
  refine a_icmp_ge (tgt := 78) (pc := 17) F dX7_mixInterpreters_17 (by decide) (fun q4 => ?_) (fun q4 => ?_)
  · replace h := ite_t q4 h
    clear q4
    refine a_lv F [1] rfl ?_
    cases hT1 _ (Option.some.inj h).symm
    exact hE1
  · replace h := ite_f q4 h
    clear q4
    refine a_iconst (v := 0) (pc := 20) F dX7_mixInterpreters_20 (by decide) ?_
    refine a_istore (lv' := [(6, .int 0), (0, .ref (ga X.G 0)), (3, .long y2), (5, .int x3)]) (pc := 21) F dX7_mixInterpreters_21 (by decide) rfl ?_
    refine a_lv F [1, 2, 3, 0] rfl ?_
    replace h := bnd_some h
    obtain ⟨y14, hL5, h⟩ := h
    have hE5 : WA X 0 0 53 [(0, .ref (ga X.G 0)), (3, .long y14), (5, .int x3)] [] m0 (EQ X (some (.long rr)) m0) := by
      refine a_lload_n (pc := 53) F dX7_mixInterpreters_53 1 rfl ?_
      refine a_aload_n (pc := 54) F dX7_mixInterpreters_54 0 rfl ?_
      refine a_getr (k := 0) (r := 20) (pc := 55) F dX7_mixInterpreters_55 fl_RX7_16 kl_0 ks_0 rfl ?_
      refine a_getr (k := 20) (r := (20 + 1)) (pc := 58) F dX7_mixInterpreters_58 fl_RX7_64 (klC_0 isC_20) (ksC_0 isC_20) rfl ?_
      refine a_getr (k := (20 + 1)) (r := (20 + 5)) (pc := 61) F dX7_mixInterpreters_61 fl_RX7_260 (klC_1 isC_20) (ksC_1 isC_20) rfl ?_
      refine a_iload (pc := 64) F dX7_mixInterpreters_64 2 rfl ?_
      replace h := gIn_some h
      obtain ⟨g15, h⟩ := h
      refine a_ial (k := (20 + 5)) (pc := 66) F dX7_mixInterpreters_66 (klC_5 isC_20) (ksC_5 isC_20) g15 ?_
      refine a_nmi fun x16 ex16 => ?_
      replace h := nm_at ex16 h
      clear ex16
      refine a_i2l (pc := 67) F dX7_mixInterpreters_67 ?_
      replace h := bnd_some h
      obtain ⟨y18, hc17, h⟩ := h
      refine a_callS (pc := 68) (As := [.long y14, .long x16.toInt64]) (st := []) F dX7_mixInterpreters_68 (m_X7_mix hc17) cs_RX7_298 rfl rfl rfl (Nat.le_of_ble_eq_true rfl) ⟨Nat.le_of_ble_eq_true rfl, Nat.le_of_ble_eq_true rfl⟩ ?_ rfl rfl
      clear hc17
      refine a_lstore_n (lv' := [(3, .long y18), (0, .ref (ga X.G 0)), (5, .int x3)]) (pc := 71) F dX7_mixInterpreters_71 (by decide) rfl ?_
      obtain ⟨x19, ex19⟩ : ∃ x19 : Int32, x19 = x3 + 1 := ⟨_, rfl⟩
      refine a_iinc (v := x19) (lv' := [(5, .int x19), (3, .long y18), (0, .ref (ga X.G 0))]) (pc := 72) F dX7_mixInterpreters_72 2 rfl (by rw [ex19]; rfl) (by decide) rfl ?_
      replace h := nm_at ex19 h
      clear ex19
      refine a_goto (tgt := 5) (pc := 75) F dX7_mixInterpreters_75 (by decide) ?_
      refine a_lv F [2, 1, 0] rfl ?_
      exact hP1 _ (Option.some.inj h).symm
    clear h
    refine lp_run (P := fun (s : (Int64 × Int32)) => WA X 0 0 23 [(0, .ref (ga X.G 0)), (3, .long s.1), (5, .int x3), (6, .int s.2)] [] m0 (EQ X (some (.long rr)) m0)) ?_ _ _ hL5
    clear hL5
    rintro ⟨y6, x7⟩ xo h hP5 hT5
    show WA X 0 0 23 [(0, .ref (ga X.G 0)), (3, .long y6), (5, .int x3), (6, .int x7)] [] m0 (EQ X (some (.long rr)) m0)
    rw [f_X7_mixInterpreters_L23] at h
    refine a_iload (pc := 23) F dX7_mixInterpreters_23 3 rfl ?_
    refine a_bipush (v := 7) (pc := 25) F dX7_mixInterpreters_25 (by decide) ?_
    refine a_icmp_gt (tgt := 53) (pc := 27) F dX7_mixInterpreters_27 (by decide) (fun q8 => ?_) (fun q8 => ?_)
    · replace h := ite_t q8 h
      clear q8
      refine a_lv F [0, 1, 2] rfl ?_
      cases hT5 _ (Option.some.inj h).symm
      exact hE5
    · replace h := ite_f q8 h
      clear q8
      refine a_lload_n (pc := 30) F dX7_mixInterpreters_30 1 rfl ?_
      refine a_aload_n (pc := 31) F dX7_mixInterpreters_31 0 rfl ?_
      refine a_getr (k := 0) (r := 1) (pc := 32) F dX7_mixInterpreters_32 fl_RX7_10 kl_0 ks_0 rfl ?_
      refine a_iload (pc := 35) F dX7_mixInterpreters_35 2 rfl ?_
      refine a_iload (pc := 37) F dX7_mixInterpreters_37 3 rfl ?_
      replace h := bnd_some h
      obtain ⟨x10, hc9, h⟩ := h
      refine a_callV (pc := 39) (k := 1) (As := [.int x3, .int x7]) (st := [.long y6]) F dX7_mixInterpreters_39 (m_X2_ofInterpreter isC_1 hc9) cv_RX7_235 (klC_0 isC_1) (ksC_0 isC_1) ⟨_, _, rfl⟩ rfl rfl rfl (Nat.le_of_ble_eq_true rfl) ⟨Nat.le_of_ble_eq_true rfl, Nat.le_of_ble_eq_true rfl⟩ ?_ rfl rfl
      clear hc9
      refine a_i2l (pc := 42) F dX7_mixInterpreters_42 ?_
      replace h := bnd_some h
      obtain ⟨y12, hc11, h⟩ := h
      refine a_callS (pc := 43) (As := [.long y6, .long x10.toInt64]) (st := []) F dX7_mixInterpreters_43 (m_X7_mix hc11) cs_RX7_298 rfl rfl rfl (Nat.le_of_ble_eq_true rfl) ⟨Nat.le_of_ble_eq_true rfl, Nat.le_of_ble_eq_true rfl⟩ ?_ rfl rfl
      clear hc11
      refine a_lstore_n (lv' := [(3, .long y12), (0, .ref (ga X.G 0)), (5, .int x3), (6, .int x7)]) (pc := 46) F dX7_mixInterpreters_46 (by decide) rfl ?_
      obtain ⟨x13, ex13⟩ : ∃ x13 : Int32, x13 = x7 + 1 := ⟨_, rfl⟩
      refine a_iinc (v := x13) (lv' := [(6, .int x13), (3, .long y12), (0, .ref (ga X.G 0)), (5, .int x3)]) (pc := 47) F dX7_mixInterpreters_47 3 rfl (by rw [ex13]; rfl) (by decide) rfl ?_
      replace h := nm_at ex13 h
      clear ex13
      refine a_goto (tgt := 23) (pc := 50) F dX7_mixInterpreters_50 (by decide) ?_
      refine a_lv F [2, 1, 3, 0] rfl ?_
      exact hP5 _ (Option.some.inj h).symm
def f_X7_mixHearings_L69 (m17 : Mem) : (Int64 × Int32) → Option ((Int64 × Int32) ⊕ Int64)
  | (y19, x20) => (if 4 < x20 then some (.inr y19) else bnd (f_X1_found x20 m17) fun x23 => bnd (f_X7_mix y19 x23.toInt64 m17) fun y25 => nm (x20 + 1) fun x26 => some (.inl (y25, x26)))
def f_X7_mixHearings_L23 (x3 : Int32) (m4 : Mem) : (Int64 × Int32) → Option ((Int64 × Int32) ⊕ Int64)
  | (y7, x8) => (if 11 < x8 then some (.inr y7) else bnd (f_X2_ofHearing 1 x3 x8 m4) fun x11 => bnd (f_X7_mix y7 x11.toInt64 m4) fun y13 => nm (x8 + 1) fun x14 => some (.inl (y13, x14)))
def f_X7_mixHearings_L5 : (Int64 × Int32 × Mem) → Option ((Int64 × Int32 × Mem) ⊕ (Int64 × Mem))
  | (y2, x3, m4) => (if (m4.1 (1 + 8) 0) ≤ x3 then some (.inr (y2, m4)) else bnd (lp (f_X7_mixHearings_L23 x3 m4) 1000000 (y2, 0)) (fun y15 => bnd (f_X1_seek 1 x3 m4) fun m17 => bnd (lp (f_X7_mixHearings_L69 m17) 1000000 (y15, 0)) (fun y27 => bnd (f_X2_payIfVacated 1 x3 0 m17) fun x29 => bnd (f_X7_mix y27 x29.toInt64 m17) fun y31 => nm (x3 + 1) fun x32 => some (.inl (y31, x32, m17)))))
def f_X7_mixHearings (p1 : Int64) (m0 : Mem) : Option (Int64 × Mem) :=
  bnd (lp (f_X7_mixHearings_L5) 1000000 (p1, 0, m0)) (fun (y33, m34) => some (y33, m34))
set_option maxRecDepth 100000 in
set_option maxHeartbeats 4000000 in
theorem m_X7_mixHearings {p1 : Int64} {m0 : Mem} {rr : Int64} {mm : Mem} (h : f_X7_mixHearings p1 m0 = some (rr, mm)) : Con yX7_mixHearings cX7_mixHearings 7 (some Jvm.ClassFile.FieldType.long) 5 123 (fun G => [.ref (ga G 0), .long p1]) m0 (some (.long rr)) mm := by
  refine con_of (by decide) (fun G => Nat.le_of_ble_eq_true rfl) (fun X F => ?_)
  show WA X 0 0 0 [(0, .ref (ga X.G 0)), (1, .long p1)] [] m0 (EQ X (some (.long rr)) mm)
  rw [f_X7_mixHearings] at h
  refine a_lload_n (pc := 0) F dX7_mixHearings_0 1 rfl ?_
  refine a_lstore_n (lv' := [(3, .long p1), (0, .ref (ga X.G 0)), (1, .long p1)]) (pc := 1) F dX7_mixHearings_1 (by decide) rfl ?_
  refine a_iconst (v := 0) (pc := 2) F dX7_mixHearings_2 (by decide) ?_
  refine a_istore (lv' := [(5, .int 0), (3, .long p1), (0, .ref (ga X.G 0)), (1, .long p1)]) (pc := 3) F dX7_mixHearings_3 (by decide) rfl ?_
  refine a_lv F [2, 1, 0] rfl ?_
  replace h := bnd_some h
  obtain ⟨⟨y33, m34⟩, hL1, h⟩ := h
  have hE1 : WA X 0 0 118 [(3, .long y33)] [] m34 (EQ X (some (.long rr)) mm) := by
    refine a_lload_n (pc := 118) F dX7_mixHearings_118 0 rfl ?_
    cases h
    exact a_lret (pc := 119) F dX7_mixHearings_119 rfl
  clear h
  refine lp_run (P := fun (s : (Int64 × Int32 × Mem)) => WA X 0 0 5 [(0, .ref (ga X.G 0)), (3, .long s.1), (5, .int s.2.1)] [] s.2.2 (EQ X (some (.long rr)) mm)) ?_ _ _ hL1
  clear hL1
  rintro ⟨y2, x3, m4⟩ xo h hP1 hT1
  show WA X 0 0 5 [(0, .ref (ga X.G 0)), (3, .long y2), (5, .int x3)] [] m4 (EQ X (some (.long rr)) mm)
  rw [f_X7_mixHearings_L5] at h
  refine a_iload (pc := 5) F dX7_mixHearings_5 2 rfl ?_
  refine a_aload_n (pc := 7) F dX7_mixHearings_7 0 rfl ?_
  refine a_getr (k := 0) (r := 1) (pc := 8) F dX7_mixHearings_8 fl_RX7_10 kl_0 ks_0 rfl ?_
  refine a_getr (k := 1) (r := (1 + 8)) (pc := 11) F dX7_mixHearings_11 fl_RX7_89 (klC_0 isC_1) (ksC_0 isC_1) rfl ?_
  refine a_geti (k := (1 + 8)) (pc := 14) F dX7_mixHearings_14 fl_RX7_93 (klC_8 isC_1) (ksC_8 isC_1) rfl ?_
  refine a_icmp_ge (tgt := 118) (pc := 17) F dX7_mixHearings_17 (by decide) (fun q5 => ?_) (fun q5 => ?_)
  · replace h := ite_t q5 h
    clear q5
    refine a_lv F [1] rfl ?_
    cases hT1 _ (Option.some.inj h).symm
    exact hE1
  · replace h := ite_f q5 h
    clear q5
    refine a_iconst (v := 0) (pc := 20) F dX7_mixHearings_20 (by decide) ?_
    refine a_istore (lv' := [(6, .int 0), (0, .ref (ga X.G 0)), (3, .long y2), (5, .int x3)]) (pc := 21) F dX7_mixHearings_21 (by decide) rfl ?_
    refine a_lv F [1, 2, 3, 0] rfl ?_
    replace h := bnd_some h
    obtain ⟨y15, hL6, h⟩ := h
    have hE6 : WA X 0 0 53 [(0, .ref (ga X.G 0)), (3, .long y15), (5, .int x3)] [] m4 (EQ X (some (.long rr)) mm) := by
      refine a_aload_n (pc := 53) F dX7_mixHearings_53 0 rfl ?_
      refine a_getr (k := 0) (r := 158) (pc := 54) F dX7_mixHearings_54 fl_RX7_43 kl_0 ks_0 rfl ?_
      refine a_aload_n (pc := 57) F dX7_mixHearings_57 0 rfl ?_
      refine a_getr (k := 0) (r := 1) (pc := 58) F dX7_mixHearings_58 fl_RX7_10 kl_0 ks_0 rfl ?_
      refine a_iload (pc := 61) F dX7_mixHearings_61 2 rfl ?_
      replace h := bnd_some h
      obtain ⟨m17, hc16, h⟩ := h
      refine a_callV (pc := 63) (k := 158) (As := [.ref (ga X.G 1), .int x3]) (st := []) F dX7_mixHearings_63 (m_X1_seek isC_1 hc16) cv_RX7_250 kl_158 ks_158 ⟨_, _, rfl⟩ rfl rfl rfl (Nat.le_of_ble_eq_true rfl) ⟨Nat.le_of_ble_eq_true rfl, Nat.le_of_ble_eq_true rfl⟩ ?_ rfl rfl
      clear hc16
      refine a_iconst (v := 0) (pc := 66) F dX7_mixHearings_66 (by decide) ?_
      refine a_istore (lv' := [(6, .int 0), (0, .ref (ga X.G 0)), (3, .long y15), (5, .int x3)]) (pc := 67) F dX7_mixHearings_67 (by decide) rfl ?_
      refine a_lv F [1, 2, 3, 0] rfl ?_
      replace h := bnd_some h
      obtain ⟨y27, hL18, h⟩ := h
      have hE18 : WA X 0 0 96 [(0, .ref (ga X.G 0)), (3, .long y27), (5, .int x3)] [] m17 (EQ X (some (.long rr)) mm) := by
        refine a_lload_n (pc := 96) F dX7_mixHearings_96 1 rfl ?_
        refine a_aload_n (pc := 97) F dX7_mixHearings_97 0 rfl ?_
        refine a_getr (k := 0) (r := 1) (pc := 98) F dX7_mixHearings_98 fl_RX7_10 kl_0 ks_0 rfl ?_
        refine a_iload (pc := 101) F dX7_mixHearings_101 2 rfl ?_
        refine a_iconst (v := 0) (pc := 103) F dX7_mixHearings_103 (by decide) ?_
        replace h := bnd_some h
        obtain ⟨x29, hc28, h⟩ := h
        refine a_callV (pc := 104) (k := 1) (As := [.int x3, .int 0]) (st := [.long y27]) F dX7_mixHearings_104 (m_X2_payIfVacated isC_1 hc28) cv_RX7_263 (klC_0 isC_1) (ksC_0 isC_1) ⟨_, _, rfl⟩ rfl rfl rfl (Nat.le_of_ble_eq_true rfl) ⟨Nat.le_of_ble_eq_true rfl, Nat.le_of_ble_eq_true rfl⟩ ?_ rfl rfl
        clear hc28
        refine a_i2l (pc := 107) F dX7_mixHearings_107 ?_
        replace h := bnd_some h
        obtain ⟨y31, hc30, h⟩ := h
        refine a_callS (pc := 108) (As := [.long y27, .long x29.toInt64]) (st := []) F dX7_mixHearings_108 (m_X7_mix hc30) cs_RX7_298 rfl rfl rfl (Nat.le_of_ble_eq_true rfl) ⟨Nat.le_of_ble_eq_true rfl, Nat.le_of_ble_eq_true rfl⟩ ?_ rfl rfl
        clear hc30
        refine a_lstore_n (lv' := [(3, .long y31), (0, .ref (ga X.G 0)), (5, .int x3)]) (pc := 111) F dX7_mixHearings_111 (by decide) rfl ?_
        obtain ⟨x32, ex32⟩ : ∃ x32 : Int32, x32 = x3 + 1 := ⟨_, rfl⟩
        refine a_iinc (v := x32) (lv' := [(5, .int x32), (3, .long y31), (0, .ref (ga X.G 0))]) (pc := 112) F dX7_mixHearings_112 2 rfl (by rw [ex32]; rfl) (by decide) rfl ?_
        replace h := nm_at ex32 h
        clear ex32
        refine a_goto (tgt := 5) (pc := 115) F dX7_mixHearings_115 (by decide) ?_
        refine a_lv F [2, 1, 0] rfl ?_
        exact hP1 _ (Option.some.inj h).symm
      clear h
      refine lp_run (P := fun (s : (Int64 × Int32)) => WA X 0 0 69 [(0, .ref (ga X.G 0)), (3, .long s.1), (5, .int x3), (6, .int s.2)] [] m17 (EQ X (some (.long rr)) mm)) ?_ _ _ hL18
      clear hL18
      rintro ⟨y19, x20⟩ xo h hP18 hT18
      show WA X 0 0 69 [(0, .ref (ga X.G 0)), (3, .long y19), (5, .int x3), (6, .int x20)] [] m17 (EQ X (some (.long rr)) mm)
      rw [f_X7_mixHearings_L69] at h
      refine a_iload (pc := 69) F dX7_mixHearings_69 3 rfl ?_
      refine a_iconst (v := 4) (pc := 71) F dX7_mixHearings_71 (by decide) ?_
      refine a_icmp_gt (tgt := 96) (pc := 72) F dX7_mixHearings_72 (by decide) (fun q21 => ?_) (fun q21 => ?_)
      · replace h := ite_t q21 h
        clear q21
        refine a_lv F [0, 1, 2] rfl ?_
        cases hT18 _ (Option.some.inj h).symm
        exact hE18
      · replace h := ite_f q21 h
        clear q21
        refine a_lload_n (pc := 75) F dX7_mixHearings_75 1 rfl ?_
        refine a_aload_n (pc := 76) F dX7_mixHearings_76 0 rfl ?_
        refine a_getr (k := 0) (r := 158) (pc := 77) F dX7_mixHearings_77 fl_RX7_43 kl_0 ks_0 rfl ?_
        refine a_iload (pc := 80) F dX7_mixHearings_80 3 rfl ?_
        replace h := bnd_some h
        obtain ⟨x23, hc22, h⟩ := h
        refine a_callV (pc := 82) (k := 158) (As := [.int x20]) (st := [.long y19]) F dX7_mixHearings_82 (m_X1_found hc22) cv_RX7_254 kl_158 ks_158 ⟨_, _, rfl⟩ rfl rfl rfl (Nat.le_of_ble_eq_true rfl) ⟨Nat.le_of_ble_eq_true rfl, Nat.le_of_ble_eq_true rfl⟩ ?_ rfl rfl
        clear hc22
        refine a_i2l (pc := 85) F dX7_mixHearings_85 ?_
        replace h := bnd_some h
        obtain ⟨y25, hc24, h⟩ := h
        refine a_callS (pc := 86) (As := [.long y19, .long x23.toInt64]) (st := []) F dX7_mixHearings_86 (m_X7_mix hc24) cs_RX7_298 rfl rfl rfl (Nat.le_of_ble_eq_true rfl) ⟨Nat.le_of_ble_eq_true rfl, Nat.le_of_ble_eq_true rfl⟩ ?_ rfl rfl
        clear hc24
        refine a_lstore_n (lv' := [(3, .long y25), (0, .ref (ga X.G 0)), (5, .int x3), (6, .int x20)]) (pc := 89) F dX7_mixHearings_89 (by decide) rfl ?_
        obtain ⟨x26, ex26⟩ : ∃ x26 : Int32, x26 = x20 + 1 := ⟨_, rfl⟩
        refine a_iinc (v := x26) (lv' := [(6, .int x26), (3, .long y25), (0, .ref (ga X.G 0)), (5, .int x3)]) (pc := 90) F dX7_mixHearings_90 3 rfl (by rw [ex26]; rfl) (by decide) rfl ?_
        replace h := nm_at ex26 h
        clear ex26
        refine a_goto (tgt := 69) (pc := 93) F dX7_mixHearings_93 (by decide) ?_
        refine a_lv F [2, 1, 3, 0] rfl ?_
        exact hP18 _ (Option.some.inj h).symm
    clear h
    refine lp_run (P := fun (s : (Int64 × Int32)) => WA X 0 0 23 [(0, .ref (ga X.G 0)), (3, .long s.1), (5, .int x3), (6, .int s.2)] [] m4 (EQ X (some (.long rr)) mm)) ?_ _ _ hL6
    clear hL6
    rintro ⟨y7, x8⟩ xo h hP6 hT6
    show WA X 0 0 23 [(0, .ref (ga X.G 0)), (3, .long y7), (5, .int x3), (6, .int x8)] [] m4 (EQ X (some (.long rr)) mm)
    rw [f_X7_mixHearings_L23] at h
    refine a_iload (pc := 23) F dX7_mixHearings_23 3 rfl ?_
    refine a_bipush (v := 11) (pc := 25) F dX7_mixHearings_25 (by decide) ?_
    refine a_icmp_gt (tgt := 53) (pc := 27) F dX7_mixHearings_27 (by decide) (fun q9 => ?_) (fun q9 => ?_)
    · replace h := ite_t q9 h
      clear q9
      refine a_lv F [0, 1, 2] rfl ?_
      cases hT6 _ (Option.some.inj h).symm
      exact hE6
    · replace h := ite_f q9 h
      clear q9
      refine a_lload_n (pc := 30) F dX7_mixHearings_30 1 rfl ?_
      refine a_aload_n (pc := 31) F dX7_mixHearings_31 0 rfl ?_
      refine a_getr (k := 0) (r := 1) (pc := 32) F dX7_mixHearings_32 fl_RX7_10 kl_0 ks_0 rfl ?_
      refine a_iload (pc := 35) F dX7_mixHearings_35 2 rfl ?_
      refine a_iload (pc := 37) F dX7_mixHearings_37 3 rfl ?_
      replace h := bnd_some h
      obtain ⟨x11, hc10, h⟩ := h
      refine a_callV (pc := 39) (k := 1) (As := [.int x3, .int x8]) (st := [.long y7]) F dX7_mixHearings_39 (m_X2_ofHearing isC_1 hc10) cv_RX7_240 (klC_0 isC_1) (ksC_0 isC_1) ⟨_, _, rfl⟩ rfl rfl rfl (Nat.le_of_ble_eq_true rfl) ⟨Nat.le_of_ble_eq_true rfl, Nat.le_of_ble_eq_true rfl⟩ ?_ rfl rfl
      clear hc10
      refine a_i2l (pc := 42) F dX7_mixHearings_42 ?_
      replace h := bnd_some h
      obtain ⟨y13, hc12, h⟩ := h
      refine a_callS (pc := 43) (As := [.long y7, .long x11.toInt64]) (st := []) F dX7_mixHearings_43 (m_X7_mix hc12) cs_RX7_298 rfl rfl rfl (Nat.le_of_ble_eq_true rfl) ⟨Nat.le_of_ble_eq_true rfl, Nat.le_of_ble_eq_true rfl⟩ ?_ rfl rfl
      clear hc12
      refine a_lstore_n (lv' := [(3, .long y13), (0, .ref (ga X.G 0)), (5, .int x3), (6, .int x8)]) (pc := 46) F dX7_mixHearings_46 (by decide) rfl ?_
      obtain ⟨x14, ex14⟩ : ∃ x14 : Int32, x14 = x8 + 1 := ⟨_, rfl⟩
      refine a_iinc (v := x14) (lv' := [(6, .int x14), (3, .long y13), (0, .ref (ga X.G 0)), (5, .int x3)]) (pc := 47) F dX7_mixHearings_47 3 rfl (by rw [ex14]; rfl) (by decide) rfl ?_
      replace h := nm_at ex14 h
      clear ex14
      refine a_goto (tgt := 23) (pc := 50) F dX7_mixHearings_50 (by decide) ?_
      refine a_lv F [2, 1, 3, 0] rfl ?_
      exact hP6 _ (Option.some.inj h).symm
