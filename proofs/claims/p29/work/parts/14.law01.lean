def f_L_cell (L : Nat) (xs : Nat → Int32) (p2 : Int32) : Option Int32 :=
  (if (nI L) ≤ p2 then some (944331445 * (p2 + 113)) else gIn p2 L <| nm (xs p2.toNatClampNeg) fun x3 => some x3)
set_option maxRecDepth 100000 in
set_option maxHeartbeats 4000000 in
theorem m_L_cell {L : Nat} {xs : Nat → Int32} {p2 rr : Int32} (h : f_L_cell L xs p2 = some rr) : ConC yL_cell cL_cell 2 (some Jvm.ClassFile.FieldType.int) 0 0 L xs p2 rr := by
  refine conc_of (by decide) (Nat.le_of_ble_eq_true rfl) (fun X b m0 F S => ?_)
  rw [f_L_cell] at h
  refine a_iload_n (pc := 0) F dL_cell_0 1 rfl ?_
  refine a_aload_n (pc := 1) F dL_cell_1 0 rfl ?_
  refine l_slen (pc := 2) F S dL_cell_2 ?_
  refine a_icmp_ge (tgt := 12) (pc := 3) F dL_cell_3 (by decide) (fun q1 => ?_) (fun q1 => ?_)
  · replace h := ite_t q1 h
    clear q1
    refine a_ldc (v := 944331445) (pc := 12) F dL_cell_12 cw_RL_7 ?_
    refine a_iload_n (pc := 14) F dL_cell_14 1 rfl ?_
    refine a_bipush (v := 113) (pc := 15) F dL_cell_15 (by decide) ?_
    refine a_iadd (pc := 17) F dL_cell_17 ?_
    refine a_imul (pc := 18) F dL_cell_18 ?_
    cases h
    exact a_iret (pc := 19) F dL_cell_19 ⟨_, rfl, rfl⟩
  · replace h := ite_f q1 h
    clear q1
    refine a_aload_n (pc := 6) F dL_cell_6 0 rfl ?_
    refine a_iload_n (pc := 7) F dL_cell_7 1 rfl ?_
    replace h := gIn_some h
    obtain ⟨g2, h⟩ := h
    refine l_sld (pc := 8) F S dL_cell_8 g2 ?_
    refine a_nmi fun x3 ex3 => ?_
    replace h := nm_at ex3 h
    clear ex3
    refine a_goto (tgt := 19) (pc := 9) F dL_cell_9 (by decide) ?_
    cases h
    exact a_iret (pc := 19) F dL_cell_19 ⟨_, rfl, rfl⟩
def f_L_body (L : Nat) (xs : Nat → Int32) : (Int32 × Mem) → Option ((Int32 × Mem) ⊕ Mem)
  | (i0, m0) => (if 48 ≤ i0 then some (.inr m0) else bnd (f_L_cell L xs (2 * i0)) fun x3 => bnd (f_L_cell L xs ((2 * i0) + 1)) fun x5 => bnd2 (f_L_act x3 x5 m0) fun x7 m8 => (if x7 = 0 then none else bnd (f_L_agree m8) fun x11 => (if x11 = 0 then none else nm (i0 + 1) fun x13 => some (.inl (x13, m8)))))
set_option maxRecDepth 100000 in
set_option maxHeartbeats 40000000 in
theorem law_step {X : Cx} {b L : Nat} {xs : Nat → Int32} {rt : Option FieldType} (F : Fm X cL_law RL rt 7 194 7) (S : LSc X b L xs) {ce sl : Nat} (hro : RO X ce sl) {i0 : Int32} {m0 : Mem} {o : (Int32 × Mem) ⊕ Mem} {Q : State → Prop} (h : f_L_body L xs (i0, m0) = some o)
    (hP : ∀ (i : Int32) (m : Mem), o = .inl (i, m) → WA X ce sl 74 [(0, .ref b), (1, .ref (ga X.G 0)), (2, .ref (ga X.G 162)), (3, .ref (ga X.G 163)), (4, .ref (ga X.G 164)), (5, .ref (ga X.G 165)), (6, .int i)] [] m Q) (hE : ∀ (m : Mem), o = .inr m → WA X ce sl 133 [] [] m Q) : WA X ce sl 74 [(0, .ref b), (1, .ref (ga X.G 0)), (2, .ref (ga X.G 162)), (3, .ref (ga X.G 163)), (4, .ref (ga X.G 164)), (5, .ref (ga X.G 165)), (6, .int i0)] [] m0 Q := by
  rw [f_L_body] at h
  refine a_iload (pc := 74) F dL_law_74 6 rfl ?_
  refine a_bipush (v := 48) (pc := 76) F dL_law_76 (by decide) ?_
  refine a_icmp_ge (tgt := 133) (pc := 78) F dL_law_78 (by decide) (fun q1 => ?_) (fun q1 => ?_)
  · replace h := ite_t q1 h
    clear q1
    refine a_lv F [] rfl ?_
    exact hE _ (Option.some.inj h).symm
  · replace h := ite_f q1 h
    clear q1
    refine a_aload_n (pc := 81) F dL_law_81 1 rfl ?_
    refine a_aload_n (pc := 82) F dL_law_82 0 rfl ?_
    refine a_iconst (v := 2) (pc := 83) F dL_law_83 (by decide) ?_
    refine a_iload (pc := 84) F dL_law_84 6 rfl ?_
    refine a_imul (pc := 86) F dL_law_86 ?_
    replace h := bnd_some h
    obtain ⟨x3, hc2, h⟩ := h
    refine l_callC (pc := 87) (st := [.ref (ga X.G 0)]) F S hro dL_law_87 (m_L_cell hc2) cs_RL_95 rfl (Nat.le_of_ble_eq_true rfl) ⟨Nat.le_of_ble_eq_true rfl, Nat.le_of_ble_eq_true rfl⟩ ?_
    clear hc2
    refine a_aload_n (pc := 90) F dL_law_90 0 rfl ?_
    refine a_iconst (v := 2) (pc := 91) F dL_law_91 (by decide) ?_
    refine a_iload (pc := 92) F dL_law_92 6 rfl ?_
    refine a_imul (pc := 94) F dL_law_94 ?_
    refine a_iconst (v := 1) (pc := 95) F dL_law_95 (by decide) ?_
    refine a_iadd (pc := 96) F dL_law_96 ?_
    replace h := bnd_some h
    obtain ⟨x5, hc4, h⟩ := h
    refine l_callC (pc := 97) (st := [.int x3, .ref (ga X.G 0)]) F S hro dL_law_97 (m_L_cell hc4) cs_RL_95 rfl (Nat.le_of_ble_eq_true rfl) ⟨Nat.le_of_ble_eq_true rfl, Nat.le_of_ble_eq_true rfl⟩ ?_
    clear hc4
    refine a_aload_n (pc := 100) F dL_law_100 2 rfl ?_
    refine a_aload_n (pc := 101) F dL_law_101 3 rfl ?_
    refine a_aload (pc := 102) F dL_law_102 4 rfl ?_
    refine a_aload (pc := 104) F dL_law_104 5 rfl ?_
    replace h := bnd2_some h
    obtain ⟨x7, m8, hc6, h⟩ := h
    refine l_callS (pc := 106) (As := [.ref (ga X.G 0), .int x3, .int x5, .ref (ga X.G 162), .ref (ga X.G 163), .ref (ga X.G 164), .ref (ga X.G 165)]) (st := []) F hro dL_law_106 (m_L_act hc6) cs_RL_99 rfl rfl rfl (Nat.le_of_ble_eq_true rfl) ⟨Nat.le_of_ble_eq_true rfl, Nat.le_of_ble_eq_true rfl⟩ ?_
    clear hc6
    refine a_if_eq (tgt := 125) (pc := 109) F dL_law_109 (by decide) (fun q9 => ?_) (fun q9 => ?_)
    · replace h := ite_t q9 h
      clear q9
      refine a_iconst (v := 0) (pc := 125) F dL_law_125 (by decide) ?_
      cases h
    · replace h := ite_f q9 h
      clear q9
      refine a_aload_n (pc := 112) F dL_law_112 1 rfl ?_
      refine a_aload_n (pc := 113) F dL_law_113 2 rfl ?_
      refine a_aload_n (pc := 114) F dL_law_114 3 rfl ?_
      refine a_aload (pc := 115) F dL_law_115 4 rfl ?_
      refine a_aload (pc := 117) F dL_law_117 5 rfl ?_
      replace h := bnd_some h
      obtain ⟨x11, hc10, h⟩ := h
      refine l_callS (pc := 119) (As := [.ref (ga X.G 0), .ref (ga X.G 162), .ref (ga X.G 163), .ref (ga X.G 164), .ref (ga X.G 165)]) (st := []) F hro dL_law_119 (m_L_agree hc10) cs_RL_102 rfl rfl rfl (Nat.le_of_ble_eq_true rfl) ⟨Nat.le_of_ble_eq_true rfl, Nat.le_of_ble_eq_true rfl⟩ ?_
      clear hc10
      refine a_if_ne (tgt := 127) (pc := 122) F dL_law_122 (by decide) (fun q12 => ?_) (fun q12 => ?_)
      · replace h := ite_f q12 h
        clear q12
        obtain ⟨x13, ex13⟩ : ∃ x13 : Int32, x13 = i0 + 1 := ⟨_, rfl⟩
        refine a_iinc (v := x13) (lv' := [(6, .int x13), (0, .ref b), (1, .ref (ga X.G 0)), (2, .ref (ga X.G 162)), (3, .ref (ga X.G 163)), (4, .ref (ga X.G 164)), (5, .ref (ga X.G 165))]) (pc := 127) F dL_law_127 6 rfl (by rw [ex13]; rfl) (by decide) rfl ?_
        replace h := nm_at ex13 h
        clear ex13
        refine a_goto (tgt := 74) (pc := 130) F dL_law_130 (by decide) ?_
        refine a_lv F [1, 2, 3, 4, 5, 6, 0] rfl ?_
        exact hP _ _ (Option.some.inj h).symm
      · replace h := ite_t (Decidable.not_not.mp q12) h
        clear q12
        refine a_iconst (v := 0) (pc := 125) F dL_law_125 (by decide) ?_
        cases h
