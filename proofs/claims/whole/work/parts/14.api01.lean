theorem sl_243 : (RX7, 243, "what is not 0 to 12") ∈ strL := List.mem_of_getElem? (i := 0) rfl
theorem sl_59 : (RX7, 59, "languages, certificates or rate out of range") ∈ strL := List.mem_of_getElem? (i := 1) rfl
theorem sl_76 : (RX7, 76, "there are 10 interpreters") ∈ strL := List.mem_of_getElem? (i := 2) rfl
theorem sl_87 : (RX7, 87, "kind, language, in or length out of range") ∈ strL := List.mem_of_getElem? (i := 3) rfl
theorem sl_96 : (RX7, 96, "there are 30 hearings") ∈ strL := List.mem_of_getElem? (i := 4) rfl
theorem sl_111 : (RX7, 111, "no such interpreter") ∈ strL := List.mem_of_getElem? (i := 5) rfl
theorem sl_114 : (RX7, 114, "certificates out of range") ∈ strL := List.mem_of_getElem? (i := 6) rfl
theorem sl_123 : (RX7, 123, "no such setting") ∈ strL := List.mem_of_getElem? (i := 7) rfl
theorem sl_128 : (RX7, 128, "value out of range") ∈ strL := List.mem_of_getElem? (i := 8) rfl
theorem sl_137 : (RX7, 137, "no such hearing or interpreter") ∈ strL := List.mem_of_getElem? (i := 9) rfl
theorem sl_142 : (RX7, 142, "a number behind NONE, or twice the same") ∈ strL := List.mem_of_getElem? (i := 10) rfl
theorem sl_147 : (RX7, 147, "there is a reason against this chain") ∈ strL := List.mem_of_getElem? (i := 11) rfl
theorem sl_157 : (RX7, 157, "no such hearing") ∈ strL := List.mem_of_getElem? (i := 12) rfl
theorem sl_162 : (RX7, 162, "the hearing is not listed, or has started") ∈ strL := List.mem_of_getElem? (i := 13) rfl
theorem sl_167 : (RX7, 167, "no such hearing, place or interpreter") ∈ strL := List.mem_of_getElem? (i := 14) rfl
theorem sl_173 : (RX7, 173, "the interpreter is in the chain") ∈ strL := List.mem_of_getElem? (i := 15) rfl
theorem sl_178 : (RX7, 178, "the new chain could not be assigned") ∈ strL := List.mem_of_getElem? (i := 16) rfl
theorem sl_189 : (RX7, 189, "minutes out of range") ∈ strL := List.mem_of_getElem? (i := 17) rfl
theorem sl_191 : (RX7, 191, "the minute would be above 20000") ∈ strL := List.mem_of_getElem? (i := 18) rfl
theorem sl_197 : (RX7, 197, "code is not 33 to 126") ∈ strL := List.mem_of_getElem? (i := 19) rfl
theorem sl_202 : (RX7, 202, "the buffer has 60 characters") ∈ strL := List.mem_of_getElem? (i := 20) rfl
theorem sl_216 : (RX7, 216, "the buffer is not a complete list of hearings") ∈ strL := List.mem_of_getElem? (i := 21) rfl
theorem sl_221 : (RX7, 221, "there would be more than 30 hearings") ∈ strL := List.mem_of_getElem? (i := 22) rfl
theorem sl_228 : (RX7, 228, "there is no saved state") ∈ strL := List.mem_of_getElem? (i := 23) rfl
theorem sl_233 : (RX7, 233, "what is not 0 to 7") ∈ strL := List.mem_of_getElem? (i := 24) rfl
theorem sl_238 : (RX7, 238, "what is not 0 to 11") ∈ strL := List.mem_of_getElem? (i := 25) rfl
theorem sl_248 : (RX7, 248, "what is not 0 to 4") ∈ strL := List.mem_of_getElem? (i := 26) rfl
theorem sl_280 : (RX7, 280, "kind out of range") ∈ strL := List.mem_of_getElem? (i := 27) rfl
def e_X7_addInterpreter (p1 : Int32) (p2 : Int32) (p3 : Int32) (m0 : Mem) : Option ((Int32 × Mem) ⊕ (Nat × Mem)) :=
  bnd (f_X7_within p1 1 1023 m0) fun x2 => jn ((if x2 = 0 then some (.inl m0) else bnd (f_J6_bitCount_0f7a4 p1 m0) fun x6 => (if x6 < 2 then some (.inl m0) else bnd (f_X7_within p2 0 7 m0) fun x9 => (if x9 = 0 then some (.inl m0) else bnd (f_X7_within p3 1 100 m0) fun x12 => (if x12 = 0 then some (.inl m0) else (if (m0.1 (1 + 1) 0) < 10 then bnd (f_X4_save 1 m0) fun m16 => bnd2 (f_X6_hire 1 p1 p2 p3 m16) fun x18 m19 => some (.inr (.inl (x18, m19))) else some (.inr (.inr (2, m0))))))))) (fun (m20 : Mem) => some (.inr (1, m20)))
set_option maxRecDepth 100000 in
set_option maxHeartbeats 4000000 in
theorem mx_X7_addInterpreter {p1 : Int32} {p2 : Int32} {p3 : Int32} {m0 : Mem} {oo : (Int32 × Mem) ⊕ (Nat × Mem)} (h : e_X7_addInterpreter p1 p2 p3 m0 = some oo) : ConX yX7_addInterpreter cX7_addInterpreter 4 (some Jvm.ClassFile.FieldType.int) 6 104 (fun G => [.ref (ga G 0), .int p1, .int p2, .int p3]) m0 (ocI oo) := by
  refine conx_of (by decide) (fun G => Nat.le_of_ble_eq_true rfl) (fun X F FX => ?_)
  show WA X 0 0 0 [(0, .ref (ga X.G 0)), (1, .int p1), (2, .int p2), (3, .int p3)] [] m0 (EQX X (ocI oo))
  rw [e_X7_addInterpreter] at h
  refine a_iload_n (pc := 0) F dX7_addInterpreter_0 1 rfl ?_
  refine a_iconst (v := 1) (pc := 1) F dX7_addInterpreter_1 (by decide) ?_
  refine a_sipush (v := 1023) (pc := 2) F dX7_addInterpreter_2 (by decide) ?_
  replace h := bnd_some h
  obtain ⟨x2, hc1, h⟩ := h
  refine a_callS (pc := 5) (As := [.int p1, .int 1, .int 1023]) (st := []) F dX7_addInterpreter_5 (m_X7_within hc1) cs_RX7_47 rfl rfl rfl (Nat.le_of_ble_eq_true rfl) ⟨Nat.le_of_ble_eq_true rfl, Nat.le_of_ble_eq_true rfl⟩ ?_ rfl rfl
  clear hc1
  replace h := jn_some h
  obtain ⟨o3, hR3, hK3, hB3⟩ := h
  have hJ3 : ∀ (m20 : Mem), o3 = .inl m20 → WA X 0 0 39 [] [] m20 (EQX X (ocI oo)) := by
    intro m20 eo
    have h := hK3 _ eo
    clear hK3 eo
    cases h
    exact x_throw (pc := 39) F FX tw_1 sl_59 dX7_addInterpreter_39 dX7_addInterpreter_42 dX7_addInterpreter_43 dX7_addInterpreter_45 dX7_addInterpreter_48 (by decide) (Nat.le_of_ble_eq_true rfl) rfl
  clear hK3
  have h := hR3
  clear hR3
  refine a_if_eq (tgt := 39) (pc := 8) F dX7_addInterpreter_8 (by decide) (fun q4 => ?_) (fun q4 => ?_)
  · replace h := ite_t q4 h
    clear q4
    refine a_lv F [] rfl ?_
    exact hJ3 _ (Option.some.inj h).symm
  · replace h := ite_f q4 h
    clear q4
    refine a_iload_n (pc := 11) F dX7_addInterpreter_11 1 rfl ?_
    replace h := bnd_some h
    obtain ⟨x6, hc5, h⟩ := h
    refine a_callS (pc := 12) (As := [.int p1]) (st := []) F dX7_addInterpreter_12 (m_J6_bitCount_0f7a4 hc5) cs_RX7_51 rfl rfl rfl (Nat.le_of_ble_eq_true rfl) ⟨Nat.le_of_ble_eq_true rfl, Nat.le_of_ble_eq_true rfl⟩ ?_ rfl rfl
    clear hc5
    refine a_iconst (v := 2) (pc := 15) F dX7_addInterpreter_15 (by decide) ?_
    refine a_icmp_lt (tgt := 39) (pc := 16) F dX7_addInterpreter_16 (by decide) (fun q7 => ?_) (fun q7 => ?_)
    · replace h := ite_t q7 h
      clear q7
      refine a_lv F [] rfl ?_
      exact hJ3 _ (Option.some.inj h).symm
    · replace h := ite_f q7 h
      clear q7
      refine a_iload_n (pc := 19) F dX7_addInterpreter_19 2 rfl ?_
      refine a_iconst (v := 0) (pc := 20) F dX7_addInterpreter_20 (by decide) ?_
      refine a_bipush (v := 7) (pc := 21) F dX7_addInterpreter_21 (by decide) ?_
      replace h := bnd_some h
      obtain ⟨x9, hc8, h⟩ := h
      refine a_callS (pc := 23) (As := [.int p2, .int 0, .int 7]) (st := []) F dX7_addInterpreter_23 (m_X7_within hc8) cs_RX7_47 rfl rfl rfl (Nat.le_of_ble_eq_true rfl) ⟨Nat.le_of_ble_eq_true rfl, Nat.le_of_ble_eq_true rfl⟩ ?_ rfl rfl
      clear hc8
      refine a_if_eq (tgt := 39) (pc := 26) F dX7_addInterpreter_26 (by decide) (fun q10 => ?_) (fun q10 => ?_)
      · replace h := ite_t q10 h
        clear q10
        refine a_lv F [] rfl ?_
        exact hJ3 _ (Option.some.inj h).symm
      · replace h := ite_f q10 h
        clear q10
        refine a_iload_n (pc := 29) F dX7_addInterpreter_29 3 rfl ?_
        refine a_iconst (v := 1) (pc := 30) F dX7_addInterpreter_30 (by decide) ?_
        refine a_bipush (v := 100) (pc := 31) F dX7_addInterpreter_31 (by decide) ?_
        replace h := bnd_some h
        obtain ⟨x12, hc11, h⟩ := h
        refine a_callS (pc := 33) (As := [.int p3, .int 1, .int 100]) (st := []) F dX7_addInterpreter_33 (m_X7_within hc11) cs_RX7_47 rfl rfl rfl (Nat.le_of_ble_eq_true rfl) ⟨Nat.le_of_ble_eq_true rfl, Nat.le_of_ble_eq_true rfl⟩ ?_ rfl rfl
        clear hc11
        refine a_if_ne (tgt := 49) (pc := 36) F dX7_addInterpreter_36 (by decide) (fun q13 => ?_) (fun q13 => ?_)
        · replace h := ite_f q13 h
          clear q13
          refine a_aload_n (pc := 49) F dX7_addInterpreter_49 0 rfl ?_
          refine a_getr (k := 0) (r := 1) (pc := 50) F dX7_addInterpreter_50 fl_RX7_10 kl_0 ks_0 rfl ?_
          refine a_getr (k := 1) (r := (1 + 1)) (pc := 53) F dX7_addInterpreter_53 fl_RX7_64 (klC_0 isC_1) (ksC_0 isC_1) rfl ?_
          refine a_geti (k := (1 + 1)) (pc := 56) F dX7_addInterpreter_56 fl_RX7_68 (klC_1 isC_1) (ksC_1 isC_1) rfl ?_
          refine a_bipush (v := 10) (pc := 59) F dX7_addInterpreter_59 (by decide) ?_
          refine a_icmp_lt (tgt := 74) (pc := 61) F dX7_addInterpreter_61 (by decide) (fun q14 => ?_) (fun q14 => ?_)
          · replace h := ite_t q14 h
            clear q14
            refine a_aload_n (pc := 74) F dX7_addInterpreter_74 0 rfl ?_
            refine a_getr (k := 0) (r := 39) (pc := 75) F dX7_addInterpreter_75 fl_RX7_22 kl_0 ks_0 rfl ?_
            refine a_aload_n (pc := 78) F dX7_addInterpreter_78 0 rfl ?_
            refine a_getr (k := 0) (r := 1) (pc := 79) F dX7_addInterpreter_79 fl_RX7_10 kl_0 ks_0 rfl ?_
            replace h := bnd_some h
            obtain ⟨m16, hc15, h⟩ := h
            refine a_callV (pc := 82) (k := 39) (As := [.ref (ga X.G 1)]) (st := []) F dX7_addInterpreter_82 (m_X4_save isC_1 hc15) cv_RX7_79 kl_39 ks_39 ⟨_, _, rfl⟩ rfl rfl rfl (Nat.le_of_ble_eq_true rfl) ⟨Nat.le_of_ble_eq_true rfl, Nat.le_of_ble_eq_true rfl⟩ ?_ rfl rfl
            clear hc15
            refine a_aload_n (pc := 85) F dX7_addInterpreter_85 0 rfl ?_
            refine a_getr (k := 0) (r := 1) (pc := 86) F dX7_addInterpreter_86 fl_RX7_10 kl_0 ks_0 rfl ?_
            refine a_getr (k := 1) (r := (1 + 1)) (pc := 89) F dX7_addInterpreter_89 fl_RX7_64 (klC_0 isC_1) (ksC_0 isC_1) rfl ?_
            refine a_iload_n (pc := 92) F dX7_addInterpreter_92 1 rfl ?_
            refine a_iload_n (pc := 93) F dX7_addInterpreter_93 2 rfl ?_
            refine a_iload_n (pc := 94) F dX7_addInterpreter_94 3 rfl ?_
            replace h := bnd2_some h
            obtain ⟨x18, m19, hc17, h⟩ := h
            refine a_callV (pc := 95) (k := (1 + 1)) (As := [.int p1, .int p2, .int p3]) (st := []) F dX7_addInterpreter_95 (m_X6_hire isC_1 hc17) cv_RX7_83 (klC_1 isC_1) (ksC_1 isC_1) ⟨_, _, rfl⟩ rfl rfl rfl (Nat.le_of_ble_eq_true rfl) ⟨Nat.le_of_ble_eq_true rfl, Nat.le_of_ble_eq_true rfl⟩ ?_ rfl rfl
            clear hc17
            replace h := hB3 _ (Option.some.inj h).symm
            cases h
            exact x_iret (pc := 98) F dX7_addInterpreter_98 ⟨_, rfl, rfl⟩ rfl
          · replace h := ite_f q14 h
            clear q14
            replace h := hB3 _ (Option.some.inj h).symm
            cases h
            exact x_throw (pc := 64) F FX tw_2 sl_76 dX7_addInterpreter_64 dX7_addInterpreter_67 dX7_addInterpreter_68 dX7_addInterpreter_70 dX7_addInterpreter_73 (by decide) (Nat.le_of_ble_eq_true rfl) rfl
        · replace h := ite_t (Decidable.not_not.mp q13) h
          clear q13
          refine a_lv F [] rfl ?_
          exact hJ3 _ (Option.some.inj h).symm
def e_X7_addHearing (p1 : Int32) (p2 : Int32) (p3 : Int32) (p4 : Int32) (m0 : Mem) : Option ((Int32 × Mem) ⊕ (Nat × Mem)) :=
  bnd (f_X7_within p1 0 2 m0) fun x2 => jn ((if x2 = 0 then some (.inl m0) else bnd (f_X7_within p2 1 9 m0) fun x6 => (if x6 = 0 then some (.inl m0) else bnd (f_X7_within p3 1 2000 m0) fun x9 => (if x9 = 0 then some (.inl m0) else bnd (f_X7_within p4 10 240 m0) fun x12 => (if x12 = 0 then some (.inl m0) else (if (m0.1 (1 + 8) 0) < 30 then bnd (f_X4_save 1 m0) fun m16 => bnd2 (f_X3_enter 1 p1 p2 ((m16.1 1 3) + p3) p4 m16) fun x18 m19 => some (.inr (.inl (x18, m19))) else some (.inr (.inr (2, m0))))))))) (fun (m20 : Mem) => some (.inr (1, m20)))
set_option maxRecDepth 100000 in
set_option maxHeartbeats 4000000 in
theorem mx_X7_addHearing {p1 : Int32} {p2 : Int32} {p3 : Int32} {p4 : Int32} {m0 : Mem} {oo : (Int32 × Mem) ⊕ (Nat × Mem)} (h : e_X7_addHearing p1 p2 p3 p4 m0 = some oo) : ConX yX7_addHearing cX7_addHearing 5 (some Jvm.ClassFile.FieldType.int) 6 104 (fun G => [.ref (ga G 0), .int p1, .int p2, .int p3, .int p4]) m0 (ocI oo) := by
  refine conx_of (by decide) (fun G => Nat.le_of_ble_eq_true rfl) (fun X F FX => ?_)
  show WA X 0 0 0 [(0, .ref (ga X.G 0)), (1, .int p1), (2, .int p2), (3, .int p3), (4, .int p4)] [] m0 (EQX X (ocI oo))
  rw [e_X7_addHearing] at h
  refine a_iload_n (pc := 0) F dX7_addHearing_0 1 rfl ?_
  refine a_iconst (v := 0) (pc := 1) F dX7_addHearing_1 (by decide) ?_
  refine a_iconst (v := 2) (pc := 2) F dX7_addHearing_2 (by decide) ?_
  replace h := bnd_some h
  obtain ⟨x2, hc1, h⟩ := h
  refine a_callS (pc := 3) (As := [.int p1, .int 0, .int 2]) (st := []) F dX7_addHearing_3 (m_X7_within hc1) cs_RX7_47 rfl rfl rfl (Nat.le_of_ble_eq_true rfl) ⟨Nat.le_of_ble_eq_true rfl, Nat.le_of_ble_eq_true rfl⟩ ?_ rfl rfl
  clear hc1
  replace h := jn_some h
  obtain ⟨o3, hR3, hK3, hB3⟩ := h
  have hJ3 : ∀ (m20 : Mem), o3 = .inl m20 → WA X 0 0 43 [] [] m20 (EQX X (ocI oo)) := by
    intro m20 eo
    have h := hK3 _ eo
    clear hK3 eo
    cases h
    exact x_throw (pc := 43) F FX tw_1 sl_87 dX7_addHearing_43 dX7_addHearing_46 dX7_addHearing_47 dX7_addHearing_49 dX7_addHearing_52 (by decide) (Nat.le_of_ble_eq_true rfl) rfl
  clear hK3
  have h := hR3
  clear hR3
  refine a_if_eq (tgt := 43) (pc := 6) F dX7_addHearing_6 (by decide) (fun q4 => ?_) (fun q4 => ?_)
  · replace h := ite_t q4 h
    clear q4
    refine a_lv F [] rfl ?_
    exact hJ3 _ (Option.some.inj h).symm
  · replace h := ite_f q4 h
    clear q4
    refine a_iload_n (pc := 9) F dX7_addHearing_9 2 rfl ?_
    refine a_iconst (v := 1) (pc := 10) F dX7_addHearing_10 (by decide) ?_
    refine a_bipush (v := 9) (pc := 11) F dX7_addHearing_11 (by decide) ?_
    replace h := bnd_some h
    obtain ⟨x6, hc5, h⟩ := h
    refine a_callS (pc := 13) (As := [.int p2, .int 1, .int 9]) (st := []) F dX7_addHearing_13 (m_X7_within hc5) cs_RX7_47 rfl rfl rfl (Nat.le_of_ble_eq_true rfl) ⟨Nat.le_of_ble_eq_true rfl, Nat.le_of_ble_eq_true rfl⟩ ?_ rfl rfl
    clear hc5
    refine a_if_eq (tgt := 43) (pc := 16) F dX7_addHearing_16 (by decide) (fun q7 => ?_) (fun q7 => ?_)
    · replace h := ite_t q7 h
      clear q7
      refine a_lv F [] rfl ?_
      exact hJ3 _ (Option.some.inj h).symm
    · replace h := ite_f q7 h
      clear q7
      refine a_iload_n (pc := 19) F dX7_addHearing_19 3 rfl ?_
      refine a_iconst (v := 1) (pc := 20) F dX7_addHearing_20 (by decide) ?_
      refine a_sipush (v := 2000) (pc := 21) F dX7_addHearing_21 (by decide) ?_
      replace h := bnd_some h
      obtain ⟨x9, hc8, h⟩ := h
      refine a_callS (pc := 24) (As := [.int p3, .int 1, .int 2000]) (st := []) F dX7_addHearing_24 (m_X7_within hc8) cs_RX7_47 rfl rfl rfl (Nat.le_of_ble_eq_true rfl) ⟨Nat.le_of_ble_eq_true rfl, Nat.le_of_ble_eq_true rfl⟩ ?_ rfl rfl
      clear hc8
      refine a_if_eq (tgt := 43) (pc := 27) F dX7_addHearing_27 (by decide) (fun q10 => ?_) (fun q10 => ?_)
      · replace h := ite_t q10 h
        clear q10
        refine a_lv F [] rfl ?_
        exact hJ3 _ (Option.some.inj h).symm
      · replace h := ite_f q10 h
        clear q10
        refine a_iload (pc := 30) F dX7_addHearing_30 4 rfl ?_
        refine a_bipush (v := 10) (pc := 32) F dX7_addHearing_32 (by decide) ?_
        refine a_sipush (v := 240) (pc := 34) F dX7_addHearing_34 (by decide) ?_
        replace h := bnd_some h
        obtain ⟨x12, hc11, h⟩ := h
        refine a_callS (pc := 37) (As := [.int p4, .int 10, .int 240]) (st := []) F dX7_addHearing_37 (m_X7_within hc11) cs_RX7_47 rfl rfl rfl (Nat.le_of_ble_eq_true rfl) ⟨Nat.le_of_ble_eq_true rfl, Nat.le_of_ble_eq_true rfl⟩ ?_ rfl rfl
        clear hc11
        refine a_if_ne (tgt := 53) (pc := 40) F dX7_addHearing_40 (by decide) (fun q13 => ?_) (fun q13 => ?_)
        · replace h := ite_f q13 h
          clear q13
          refine a_aload_n (pc := 53) F dX7_addHearing_53 0 rfl ?_
          refine a_getr (k := 0) (r := 1) (pc := 54) F dX7_addHearing_54 fl_RX7_10 kl_0 ks_0 rfl ?_
          refine a_getr (k := 1) (r := (1 + 8)) (pc := 57) F dX7_addHearing_57 fl_RX7_89 (klC_0 isC_1) (ksC_0 isC_1) rfl ?_
          refine a_geti (k := (1 + 8)) (pc := 60) F dX7_addHearing_60 fl_RX7_93 (klC_8 isC_1) (ksC_8 isC_1) rfl ?_
          refine a_bipush (v := 30) (pc := 63) F dX7_addHearing_63 (by decide) ?_
          refine a_icmp_lt (tgt := 78) (pc := 65) F dX7_addHearing_65 (by decide) (fun q14 => ?_) (fun q14 => ?_)
          · replace h := ite_t q14 h
            clear q14
            refine a_aload_n (pc := 78) F dX7_addHearing_78 0 rfl ?_
            refine a_getr (k := 0) (r := 39) (pc := 79) F dX7_addHearing_79 fl_RX7_22 kl_0 ks_0 rfl ?_
            refine a_aload_n (pc := 82) F dX7_addHearing_82 0 rfl ?_
            refine a_getr (k := 0) (r := 1) (pc := 83) F dX7_addHearing_83 fl_RX7_10 kl_0 ks_0 rfl ?_
            replace h := bnd_some h
            obtain ⟨m16, hc15, h⟩ := h
            refine a_callV (pc := 86) (k := 39) (As := [.ref (ga X.G 1)]) (st := []) F dX7_addHearing_86 (m_X4_save isC_1 hc15) cv_RX7_79 kl_39 ks_39 ⟨_, _, rfl⟩ rfl rfl rfl (Nat.le_of_ble_eq_true rfl) ⟨Nat.le_of_ble_eq_true rfl, Nat.le_of_ble_eq_true rfl⟩ ?_ rfl rfl
            clear hc15
            refine a_aload_n (pc := 89) F dX7_addHearing_89 0 rfl ?_
            refine a_getr (k := 0) (r := 1) (pc := 90) F dX7_addHearing_90 fl_RX7_10 kl_0 ks_0 rfl ?_
            refine a_getr (k := 1) (r := (1 + 8)) (pc := 93) F dX7_addHearing_93 fl_RX7_89 (klC_0 isC_1) (ksC_0 isC_1) rfl ?_
            refine a_iload_n (pc := 96) F dX7_addHearing_96 1 rfl ?_
            refine a_iload_n (pc := 97) F dX7_addHearing_97 2 rfl ?_
            refine a_aload_n (pc := 98) F dX7_addHearing_98 0 rfl ?_
            refine a_getr (k := 0) (r := 1) (pc := 99) F dX7_addHearing_99 fl_RX7_10 kl_0 ks_0 rfl ?_
            refine a_geti (k := 1) (pc := 102) F dX7_addHearing_102 fl_RX7_98 (klC_0 isC_1) (ksC_0 isC_1) rfl ?_
            refine a_iload_n (pc := 105) F dX7_addHearing_105 3 rfl ?_
            refine a_iadd (pc := 106) F dX7_addHearing_106 ?_
            refine a_iload (pc := 107) F dX7_addHearing_107 4 rfl ?_
            replace h := bnd2_some h
            obtain ⟨x18, m19, hc17, h⟩ := h
            refine a_callV (pc := 109) (k := (1 + 8)) (As := [.int p1, .int p2, .int ((m16.1 1 3) + p3), .int p4]) (st := []) F dX7_addHearing_109 (m_X3_enter isC_1 hc17) cv_RX7_101 (klC_8 isC_1) (ksC_8 isC_1) ⟨_, _, rfl⟩ rfl rfl rfl (Nat.le_of_ble_eq_true rfl) ⟨Nat.le_of_ble_eq_true rfl, Nat.le_of_ble_eq_true rfl⟩ ?_ rfl rfl
            clear hc17
            replace h := hB3 _ (Option.some.inj h).symm
            cases h
            exact x_iret (pc := 112) F dX7_addHearing_112 ⟨_, rfl, rfl⟩ rfl
          · replace h := ite_f q14 h
            clear q14
            replace h := hB3 _ (Option.some.inj h).symm
            cases h
            exact x_throw (pc := 68) F FX tw_2 sl_96 dX7_addHearing_68 dX7_addHearing_71 dX7_addHearing_72 dX7_addHearing_74 dX7_addHearing_77 (by decide) (Nat.le_of_ble_eq_true rfl) rfl
        · replace h := ite_t (Decidable.not_not.mp q13) h
          clear q13
          refine a_lv F [] rfl ?_
          exact hJ3 _ (Option.some.inj h).symm
def e_X7_certify (p1 : Int32) (p2 : Int32) (m0 : Mem) : Option ((Int32 × Mem) ⊕ (Nat × Mem)) :=
  bnd (f_X6_has 1 p1 m0) fun x2 => (if x2 = 0 then some (.inr (3, m0)) else bnd (f_X7_within p2 0 7 m0) fun x5 => (if x5 = 0 then some (.inr (1, m0)) else bnd (f_X4_save 1 m0) fun m8 => gIn p1 10 <| nm (m8.1 (1 + 3) p1.toNatClampNeg) fun x10 => gIn p1 10 <| nm (si m8 (1 + 3) p1.toNatClampNeg p2) fun m12 => some (.inl (x10, m12))))
set_option maxRecDepth 100000 in
set_option maxHeartbeats 4000000 in
theorem mx_X7_certify {p1 : Int32} {p2 : Int32} {m0 : Mem} {oo : (Int32 × Mem) ⊕ (Nat × Mem)} (h : e_X7_certify p1 p2 m0 = some oo) : ConX yX7_certify cX7_certify 4 (some Jvm.ClassFile.FieldType.int) 6 104 (fun G => [.ref (ga G 0), .int p1, .int p2]) m0 (ocI oo) := by
  refine conx_of (by decide) (fun G => Nat.le_of_ble_eq_true rfl) (fun X F FX => ?_)
  show WA X 0 0 0 [(0, .ref (ga X.G 0)), (1, .int p1), (2, .int p2)] [] m0 (EQX X (ocI oo))
  rw [e_X7_certify] at h
  refine a_aload_n (pc := 0) F dX7_certify_0 0 rfl ?_
  refine a_getr (k := 0) (r := 1) (pc := 1) F dX7_certify_1 fl_RX7_10 kl_0 ks_0 rfl ?_
  refine a_getr (k := 1) (r := (1 + 1)) (pc := 4) F dX7_certify_4 fl_RX7_64 (klC_0 isC_1) (ksC_0 isC_1) rfl ?_
  refine a_iload_n (pc := 7) F dX7_certify_7 1 rfl ?_
  replace h := bnd_some h
  obtain ⟨x2, hc1, h⟩ := h
  refine a_callV (pc := 8) (k := (1 + 1)) (As := [.int p1]) (st := []) F dX7_certify_8 (m_X6_has isC_1 hc1) cv_RX7_105 (klC_1 isC_1) (ksC_1 isC_1) ⟨_, _, rfl⟩ rfl rfl rfl (Nat.le_of_ble_eq_true rfl) ⟨Nat.le_of_ble_eq_true rfl, Nat.le_of_ble_eq_true rfl⟩ ?_ rfl rfl
  clear hc1
  refine a_if_ne (tgt := 24) (pc := 11) F dX7_certify_11 (by decide) (fun q3 => ?_) (fun q3 => ?_)
  · replace h := ite_f q3 h
    clear q3
    refine a_iload_n (pc := 24) F dX7_certify_24 2 rfl ?_
    refine a_iconst (v := 0) (pc := 25) F dX7_certify_25 (by decide) ?_
    refine a_bipush (v := 7) (pc := 26) F dX7_certify_26 (by decide) ?_
    replace h := bnd_some h
    obtain ⟨x5, hc4, h⟩ := h
    refine a_callS (pc := 28) (As := [.int p2, .int 0, .int 7]) (st := []) F dX7_certify_28 (m_X7_within hc4) cs_RX7_47 rfl rfl rfl (Nat.le_of_ble_eq_true rfl) ⟨Nat.le_of_ble_eq_true rfl, Nat.le_of_ble_eq_true rfl⟩ ?_ rfl rfl
    clear hc4
    refine a_if_ne (tgt := 44) (pc := 31) F dX7_certify_31 (by decide) (fun q6 => ?_) (fun q6 => ?_)
    · replace h := ite_f q6 h
      clear q6
      refine a_aload_n (pc := 44) F dX7_certify_44 0 rfl ?_
      refine a_getr (k := 0) (r := 39) (pc := 45) F dX7_certify_45 fl_RX7_22 kl_0 ks_0 rfl ?_
      refine a_aload_n (pc := 48) F dX7_certify_48 0 rfl ?_
      refine a_getr (k := 0) (r := 1) (pc := 49) F dX7_certify_49 fl_RX7_10 kl_0 ks_0 rfl ?_
      replace h := bnd_some h
      obtain ⟨m8, hc7, h⟩ := h
      refine a_callV (pc := 52) (k := 39) (As := [.ref (ga X.G 1)]) (st := []) F dX7_certify_52 (m_X4_save isC_1 hc7) cv_RX7_79 kl_39 ks_39 ⟨_, _, rfl⟩ rfl rfl rfl (Nat.le_of_ble_eq_true rfl) ⟨Nat.le_of_ble_eq_true rfl, Nat.le_of_ble_eq_true rfl⟩ ?_ rfl rfl
      clear hc7
      refine a_aload_n (pc := 55) F dX7_certify_55 0 rfl ?_
      refine a_getr (k := 0) (r := 1) (pc := 56) F dX7_certify_56 fl_RX7_10 kl_0 ks_0 rfl ?_
      refine a_getr (k := 1) (r := (1 + 1)) (pc := 59) F dX7_certify_59 fl_RX7_64 (klC_0 isC_1) (ksC_0 isC_1) rfl ?_
      refine a_getr (k := (1 + 1)) (r := (1 + 3)) (pc := 62) F dX7_certify_62 fl_RX7_116 (klC_1 isC_1) (ksC_1 isC_1) rfl ?_
      refine a_iload_n (pc := 65) F dX7_certify_65 1 rfl ?_
      replace h := gIn_some h
      obtain ⟨g9, h⟩ := h
      refine a_ial (k := (1 + 3)) (pc := 66) F dX7_certify_66 (klC_3 isC_1) (ksC_3 isC_1) g9 ?_
      refine a_nmi fun x10 ex10 => ?_
      replace h := nm_at ex10 h
      clear ex10
      refine a_istore_n (lv' := [(3, .int x10), (0, .ref (ga X.G 0)), (1, .int p1), (2, .int p2)]) (pc := 67) F dX7_certify_67 (by decide) rfl ?_
      refine a_aload_n (pc := 68) F dX7_certify_68 1 rfl ?_
      refine a_getr (k := 0) (r := 1) (pc := 69) F dX7_certify_69 fl_RX7_10 kl_0 ks_0 rfl ?_
      refine a_getr (k := 1) (r := (1 + 1)) (pc := 72) F dX7_certify_72 fl_RX7_64 (klC_0 isC_1) (ksC_0 isC_1) rfl ?_
      refine a_getr (k := (1 + 1)) (r := (1 + 3)) (pc := 75) F dX7_certify_75 fl_RX7_116 (klC_1 isC_1) (ksC_1 isC_1) rfl ?_
      refine a_iload_n (pc := 78) F dX7_certify_78 2 rfl ?_
      refine a_iload_n (pc := 79) F dX7_certify_79 3 rfl ?_
      replace h := gIn_some h
      obtain ⟨g11, h⟩ := h
      refine a_ias (k := (1 + 3)) (pc := 80) F dX7_certify_80 (klC_3 isC_1) (ksC_3 isC_1) g11 ?_
      refine a_nmm fun m12 em12 => ?_
      replace h := nm_at em12 h
      clear em12
      refine a_iload_n (pc := 81) F dX7_certify_81 0 rfl ?_
      cases h
      exact x_iret (pc := 82) F dX7_certify_82 ⟨_, rfl, rfl⟩ rfl
    · replace h := ite_t (Decidable.not_not.mp q6) h
      clear q6
      cases h
      exact x_throw (pc := 34) F FX tw_1 sl_114 dX7_certify_34 dX7_certify_37 dX7_certify_38 dX7_certify_40 dX7_certify_43 (by decide) (Nat.le_of_ble_eq_true rfl) rfl
  · replace h := ite_t (Decidable.not_not.mp q3) h
    clear q3
    cases h
    exact x_throw (pc := 14) F FX tw_3 sl_111 dX7_certify_14 dX7_certify_17 dX7_certify_18 dX7_certify_20 dX7_certify_23 (by decide) (Nat.le_of_ble_eq_true rfl) rfl
def e_X7_set (p1 : Int32) (p2 : Int32) (m0 : Mem) : Option ((Int32 × Mem) ⊕ (Nat × Mem)) :=
  bnd (f_X7_isSetting p1 m0) fun x2 => (if x2 = 0 then some (.inr (3, m0)) else gIn p1 7 <| bnd (f_X7_within p2 0 (fs2 p1.toNatClampNeg) m0) fun x6 => (if x6 = 0 then some (.inr (1, m0)) else bnd (f_X4_save 1 m0) fun m9 => gIn p1 7 <| nm (m9.1 (1 + 18) p1.toNatClampNeg) fun x11 => gIn p1 7 <| nm (si m9 (1 + 18) p1.toNatClampNeg p2) fun m13 => some (.inl (x11, m13))))
set_option maxRecDepth 100000 in
set_option maxHeartbeats 4000000 in
theorem mx_X7_set {p1 : Int32} {p2 : Int32} {m0 : Mem} {oo : (Int32 × Mem) ⊕ (Nat × Mem)} (h : e_X7_set p1 p2 m0 = some oo) : ConX yX7_set cX7_set 4 (some Jvm.ClassFile.FieldType.int) 6 104 (fun G => [.ref (ga G 0), .int p1, .int p2]) m0 (ocI oo) := by
  refine conx_of (by decide) (fun G => Nat.le_of_ble_eq_true rfl) (fun X F FX => ?_)
  show WA X 0 0 0 [(0, .ref (ga X.G 0)), (1, .int p1), (2, .int p2)] [] m0 (EQX X (ocI oo))
  rw [e_X7_set] at h
  refine a_iload_n (pc := 0) F dX7_set_0 1 rfl ?_
  replace h := bnd_some h
  obtain ⟨x2, hc1, h⟩ := h
  refine a_callS (pc := 1) (As := [.int p1]) (st := []) F dX7_set_1 (m_X7_isSetting hc1) cs_RX7_120 rfl rfl rfl (Nat.le_of_ble_eq_true rfl) ⟨Nat.le_of_ble_eq_true rfl, Nat.le_of_ble_eq_true rfl⟩ ?_ rfl rfl
  clear hc1
  refine a_if_ne (tgt := 17) (pc := 4) F dX7_set_4 (by decide) (fun q3 => ?_) (fun q3 => ?_)
  · replace h := ite_f q3 h
    clear q3
    refine a_iload_n (pc := 17) F dX7_set_17 2 rfl ?_
    refine a_iconst (v := 0) (pc := 18) F dX7_set_18 (by decide) ?_
    refine a_gets2 (pc := 19) F dX7_set_19 cw_RX7_125 ?_
    refine a_iload_n (pc := 22) F dX7_set_22 1 rfl ?_
    replace h := gIn_some h
    obtain ⟨g4, h⟩ := h
    refine a_ial2 (pc := 23) F dX7_set_23 g4 ?_
    replace h := bnd_some h
    obtain ⟨x6, hc5, h⟩ := h
    refine a_callS (pc := 24) (As := [.int p2, .int 0, .int (fs2 p1.toNatClampNeg)]) (st := []) F dX7_set_24 (m_X7_within hc5) cs_RX7_47 rfl rfl rfl (Nat.le_of_ble_eq_true rfl) ⟨Nat.le_of_ble_eq_true rfl, Nat.le_of_ble_eq_true rfl⟩ ?_ rfl rfl
    clear hc5
    refine a_if_ne (tgt := 40) (pc := 27) F dX7_set_27 (by decide) (fun q7 => ?_) (fun q7 => ?_)
    · replace h := ite_f q7 h
      clear q7
      refine a_aload_n (pc := 40) F dX7_set_40 0 rfl ?_
      refine a_getr (k := 0) (r := 39) (pc := 41) F dX7_set_41 fl_RX7_22 kl_0 ks_0 rfl ?_
      refine a_aload_n (pc := 44) F dX7_set_44 0 rfl ?_
      refine a_getr (k := 0) (r := 1) (pc := 45) F dX7_set_45 fl_RX7_10 kl_0 ks_0 rfl ?_
      replace h := bnd_some h
      obtain ⟨m9, hc8, h⟩ := h
      refine a_callV (pc := 48) (k := 39) (As := [.ref (ga X.G 1)]) (st := []) F dX7_set_48 (m_X4_save isC_1 hc8) cv_RX7_79 kl_39 ks_39 ⟨_, _, rfl⟩ rfl rfl rfl (Nat.le_of_ble_eq_true rfl) ⟨Nat.le_of_ble_eq_true rfl, Nat.le_of_ble_eq_true rfl⟩ ?_ rfl rfl
      clear hc8
      refine a_aload_n (pc := 51) F dX7_set_51 0 rfl ?_
      refine a_getr (k := 0) (r := 1) (pc := 52) F dX7_set_52 fl_RX7_10 kl_0 ks_0 rfl ?_
      refine a_getr (k := 1) (r := (1 + 18)) (pc := 55) F dX7_set_55 fl_RX7_130 (klC_0 isC_1) (ksC_0 isC_1) rfl ?_
      refine a_iload_n (pc := 58) F dX7_set_58 1 rfl ?_
      replace h := gIn_some h
      obtain ⟨g10, h⟩ := h
      refine a_ial (k := (1 + 18)) (pc := 59) F dX7_set_59 (klC_18 isC_1) (ksC_18 isC_1) g10 ?_
      refine a_nmi fun x11 ex11 => ?_
      replace h := nm_at ex11 h
      clear ex11
      refine a_istore_n (lv' := [(3, .int x11), (0, .ref (ga X.G 0)), (1, .int p1), (2, .int p2)]) (pc := 60) F dX7_set_60 (by decide) rfl ?_
      refine a_aload_n (pc := 61) F dX7_set_61 1 rfl ?_
      refine a_getr (k := 0) (r := 1) (pc := 62) F dX7_set_62 fl_RX7_10 kl_0 ks_0 rfl ?_
      refine a_getr (k := 1) (r := (1 + 18)) (pc := 65) F dX7_set_65 fl_RX7_130 (klC_0 isC_1) (ksC_0 isC_1) rfl ?_
      refine a_iload_n (pc := 68) F dX7_set_68 2 rfl ?_
      refine a_iload_n (pc := 69) F dX7_set_69 3 rfl ?_
      replace h := gIn_some h
      obtain ⟨g12, h⟩ := h
      refine a_ias (k := (1 + 18)) (pc := 70) F dX7_set_70 (klC_18 isC_1) (ksC_18 isC_1) g12 ?_
      refine a_nmm fun m13 em13 => ?_
      replace h := nm_at em13 h
      clear em13
      refine a_iload_n (pc := 71) F dX7_set_71 0 rfl ?_
      cases h
      exact x_iret (pc := 72) F dX7_set_72 ⟨_, rfl, rfl⟩ rfl
    · replace h := ite_t (Decidable.not_not.mp q7) h
      clear q7
      cases h
      exact x_throw (pc := 30) F FX tw_1 sl_128 dX7_set_30 dX7_set_33 dX7_set_34 dX7_set_36 dX7_set_39 (by decide) (Nat.le_of_ble_eq_true rfl) rfl
  · replace h := ite_t (Decidable.not_not.mp q3) h
    clear q3
    cases h
    exact x_throw (pc := 7) F FX tw_3 sl_123 dX7_set_7 dX7_set_10 dX7_set_11 dX7_set_13 dX7_set_16 (by decide) (Nat.le_of_ble_eq_true rfl) rfl
def e_X7_assign (p1 : Int32) (p2 : Int32) (p3 : Int32) (p4 : Int32) (m0 : Mem) : Option ((Int32 × Mem) ⊕ (Nat × Mem)) :=
  bnd (f_X3_has 1 p1 m0) fun x2 => jn ((if x2 = 0 then some (.inl m0) else bnd (f_X7_nameInterpreters p2 p3 p4 m0) fun x6 => (if x6 = 0 then some (.inl m0) else bnd (f_X7_areRowOfDifferent p2 p3 p4 m0) fun x9 => (if x9 = 0 then some (.inr (.inr (1, m0))) else bnd (f_X2_reasonAgainst 1 p1 p2 p3 p4 m0) fun x12 => (if x12 = 0 then bnd (f_X4_save 1 m0) fun m15 => bnd (f_X3_giveChain 1 p1 p2 p3 p4 m15) fun m17 => bnd (f_X2_chainPay 1 p1 2 m17) fun x19 => some (.inr (.inl (x19, m17))) else some (.inr (.inr (2, m0)))))))) (fun (m20 : Mem) => some (.inr (3, m20)))
set_option maxRecDepth 100000 in
set_option maxHeartbeats 4000000 in
theorem mx_X7_assign {p1 : Int32} {p2 : Int32} {p3 : Int32} {p4 : Int32} {m0 : Mem} {oo : (Int32 × Mem) ⊕ (Nat × Mem)} (h : e_X7_assign p1 p2 p3 p4 m0 = some oo) : ConX yX7_assign cX7_assign 5 (some Jvm.ClassFile.FieldType.int) 6 104 (fun G => [.ref (ga G 0), .int p1, .int p2, .int p3, .int p4]) m0 (ocI oo) := by
  refine conx_of (by decide) (fun G => Nat.le_of_ble_eq_true rfl) (fun X F FX => ?_)
  show WA X 0 0 0 [(0, .ref (ga X.G 0)), (1, .int p1), (2, .int p2), (3, .int p3), (4, .int p4)] [] m0 (EQX X (ocI oo))
  rw [e_X7_assign] at h
  refine a_aload_n (pc := 0) F dX7_assign_0 0 rfl ?_
  refine a_getr (k := 0) (r := 1) (pc := 1) F dX7_assign_1 fl_RX7_10 kl_0 ks_0 rfl ?_
  refine a_getr (k := 1) (r := (1 + 8)) (pc := 4) F dX7_assign_4 fl_RX7_89 (klC_0 isC_1) (ksC_0 isC_1) rfl ?_
  refine a_iload_n (pc := 7) F dX7_assign_7 1 rfl ?_
  replace h := bnd_some h
  obtain ⟨x2, hc1, h⟩ := h
  refine a_callV (pc := 8) (k := (1 + 8)) (As := [.int p1]) (st := []) F dX7_assign_8 (m_X3_has isC_1 hc1) cv_RX7_133 (klC_8 isC_1) (ksC_8 isC_1) ⟨_, _, rfl⟩ rfl rfl rfl (Nat.le_of_ble_eq_true rfl) ⟨Nat.le_of_ble_eq_true rfl, Nat.le_of_ble_eq_true rfl⟩ ?_ rfl rfl
  clear hc1
  replace h := jn_some h
  obtain ⟨o3, hR3, hK3, hB3⟩ := h
  have hJ3 : ∀ (m20 : Mem), o3 = .inl m20 → WA X 0 0 25 [] [] m20 (EQX X (ocI oo)) := by
    intro m20 eo
    have h := hK3 _ eo
    clear hK3 eo
    cases h
    exact x_throw (pc := 25) F FX tw_3 sl_137 dX7_assign_25 dX7_assign_28 dX7_assign_29 dX7_assign_31 dX7_assign_34 (by decide) (Nat.le_of_ble_eq_true rfl) rfl
  clear hK3
  have h := hR3
  clear hR3
  refine a_if_eq (tgt := 25) (pc := 11) F dX7_assign_11 (by decide) (fun q4 => ?_) (fun q4 => ?_)
  · replace h := ite_t q4 h
    clear q4
    refine a_lv F [] rfl ?_
    exact hJ3 _ (Option.some.inj h).symm
  · replace h := ite_f q4 h
    clear q4
    refine a_aload_n (pc := 14) F dX7_assign_14 0 rfl ?_
    refine a_iload_n (pc := 15) F dX7_assign_15 2 rfl ?_
    refine a_iload_n (pc := 16) F dX7_assign_16 3 rfl ?_
    refine a_iload (pc := 17) F dX7_assign_17 4 rfl ?_
    replace h := bnd_some h
    obtain ⟨x6, hc5, h⟩ := h
    refine a_callV (pc := 19) (k := 0) (As := [.int p2, .int p3, .int p4]) (st := []) F dX7_assign_19 (m_X7_nameInterpreters hc5) cv_RX7_134 kl_0 ks_0 ⟨_, _, rfl⟩ rfl rfl rfl (Nat.le_of_ble_eq_true rfl) ⟨Nat.le_of_ble_eq_true rfl, Nat.le_of_ble_eq_true rfl⟩ ?_ rfl rfl
    clear hc5
    refine a_if_ne (tgt := 35) (pc := 22) F dX7_assign_22 (by decide) (fun q7 => ?_) (fun q7 => ?_)
    · replace h := ite_f q7 h
      clear q7
      refine a_iload_n (pc := 35) F dX7_assign_35 2 rfl ?_
      refine a_iload_n (pc := 36) F dX7_assign_36 3 rfl ?_
      refine a_iload (pc := 37) F dX7_assign_37 4 rfl ?_
      replace h := bnd_some h
      obtain ⟨x9, hc8, h⟩ := h
      refine a_callS (pc := 39) (As := [.int p2, .int p3, .int p4]) (st := []) F dX7_assign_39 (m_X7_areRowOfDifferent hc8) cs_RX7_139 rfl rfl rfl (Nat.le_of_ble_eq_true rfl) ⟨Nat.le_of_ble_eq_true rfl, Nat.le_of_ble_eq_true rfl⟩ ?_ rfl rfl
      clear hc8
      refine a_if_ne (tgt := 55) (pc := 42) F dX7_assign_42 (by decide) (fun q10 => ?_) (fun q10 => ?_)
      · replace h := ite_f q10 h
        clear q10
        refine a_aload_n (pc := 55) F dX7_assign_55 0 rfl ?_
        refine a_getr (k := 0) (r := 1) (pc := 56) F dX7_assign_56 fl_RX7_10 kl_0 ks_0 rfl ?_
        refine a_iload_n (pc := 59) F dX7_assign_59 1 rfl ?_
        refine a_iload_n (pc := 60) F dX7_assign_60 2 rfl ?_
        refine a_iload_n (pc := 61) F dX7_assign_61 3 rfl ?_
        refine a_iload (pc := 62) F dX7_assign_62 4 rfl ?_
        replace h := bnd_some h
        obtain ⟨x12, hc11, h⟩ := h
        refine a_callV (pc := 64) (k := 1) (As := [.int p1, .int p2, .int p3, .int p4]) (st := []) F dX7_assign_64 (m_X2_reasonAgainst isC_1 hc11) cv_RX7_144 (klC_0 isC_1) (ksC_0 isC_1) ⟨_, _, rfl⟩ rfl rfl rfl (Nat.le_of_ble_eq_true rfl) ⟨Nat.le_of_ble_eq_true rfl, Nat.le_of_ble_eq_true rfl⟩ ?_ rfl rfl
        clear hc11
        refine a_if_eq (tgt := 80) (pc := 67) F dX7_assign_67 (by decide) (fun q13 => ?_) (fun q13 => ?_)
        · replace h := ite_t q13 h
          clear q13
          refine a_aload_n (pc := 80) F dX7_assign_80 0 rfl ?_
          refine a_getr (k := 0) (r := 39) (pc := 81) F dX7_assign_81 fl_RX7_22 kl_0 ks_0 rfl ?_
          refine a_aload_n (pc := 84) F dX7_assign_84 0 rfl ?_
          refine a_getr (k := 0) (r := 1) (pc := 85) F dX7_assign_85 fl_RX7_10 kl_0 ks_0 rfl ?_
          replace h := bnd_some h
          obtain ⟨m15, hc14, h⟩ := h
          refine a_callV (pc := 88) (k := 39) (As := [.ref (ga X.G 1)]) (st := []) F dX7_assign_88 (m_X4_save isC_1 hc14) cv_RX7_79 kl_39 ks_39 ⟨_, _, rfl⟩ rfl rfl rfl (Nat.le_of_ble_eq_true rfl) ⟨Nat.le_of_ble_eq_true rfl, Nat.le_of_ble_eq_true rfl⟩ ?_ rfl rfl
          clear hc14
          refine a_aload_n (pc := 91) F dX7_assign_91 0 rfl ?_
          refine a_getr (k := 0) (r := 1) (pc := 92) F dX7_assign_92 fl_RX7_10 kl_0 ks_0 rfl ?_
          refine a_getr (k := 1) (r := (1 + 8)) (pc := 95) F dX7_assign_95 fl_RX7_89 (klC_0 isC_1) (ksC_0 isC_1) rfl ?_
          refine a_iload_n (pc := 98) F dX7_assign_98 1 rfl ?_
          refine a_iload_n (pc := 99) F dX7_assign_99 2 rfl ?_
          refine a_iload_n (pc := 100) F dX7_assign_100 3 rfl ?_
          refine a_iload (pc := 101) F dX7_assign_101 4 rfl ?_
          replace h := bnd_some h
          obtain ⟨m17, hc16, h⟩ := h
          refine a_callV (pc := 103) (k := (1 + 8)) (As := [.int p1, .int p2, .int p3, .int p4]) (st := []) F dX7_assign_103 (m_X3_giveChain isC_1 hc16) cv_RX7_149 (klC_8 isC_1) (ksC_8 isC_1) ⟨_, _, rfl⟩ rfl rfl rfl (Nat.le_of_ble_eq_true rfl) ⟨Nat.le_of_ble_eq_true rfl, Nat.le_of_ble_eq_true rfl⟩ ?_ rfl rfl
          clear hc16
          refine a_aload_n (pc := 106) F dX7_assign_106 0 rfl ?_
          refine a_getr (k := 0) (r := 1) (pc := 107) F dX7_assign_107 fl_RX7_10 kl_0 ks_0 rfl ?_
          refine a_iload_n (pc := 110) F dX7_assign_110 1 rfl ?_
          refine a_iconst (v := 2) (pc := 111) F dX7_assign_111 (by decide) ?_
          replace h := bnd_some h
          obtain ⟨x19, hc18, h⟩ := h
          refine a_callV (pc := 112) (k := 1) (As := [.int p1, .int 2]) (st := []) F dX7_assign_112 (m_X2_chainPay isC_1 hc18) cv_RX7_153 (klC_0 isC_1) (ksC_0 isC_1) ⟨_, _, rfl⟩ rfl rfl rfl (Nat.le_of_ble_eq_true rfl) ⟨Nat.le_of_ble_eq_true rfl, Nat.le_of_ble_eq_true rfl⟩ ?_ rfl rfl
          clear hc18
          replace h := hB3 _ (Option.some.inj h).symm
          cases h
          exact x_iret (pc := 115) F dX7_assign_115 ⟨_, rfl, rfl⟩ rfl
        · replace h := ite_f q13 h
          clear q13
          replace h := hB3 _ (Option.some.inj h).symm
          cases h
          exact x_throw (pc := 70) F FX tw_2 sl_147 dX7_assign_70 dX7_assign_73 dX7_assign_74 dX7_assign_76 dX7_assign_79 (by decide) (Nat.le_of_ble_eq_true rfl) rfl
      · replace h := ite_t (Decidable.not_not.mp q10) h
        clear q10
        replace h := hB3 _ (Option.some.inj h).symm
        cases h
        exact x_throw (pc := 45) F FX tw_1 sl_142 dX7_assign_45 dX7_assign_48 dX7_assign_49 dX7_assign_51 dX7_assign_54 (by decide) (Nat.le_of_ble_eq_true rfl) rfl
    · replace h := ite_t (Decidable.not_not.mp q7) h
      clear q7
      refine a_lv F [] rfl ?_
      exact hJ3 _ (Option.some.inj h).symm
def e_X7_release (p1 : Int32) (m0 : Mem) : Option ((Int32 × Mem) ⊕ (Nat × Mem)) :=
  bnd (f_X3_has 1 p1 m0) fun x2 => (if x2 = 0 then some (.inr (3, m0)) else bnd (f_X2_isAhead 1 p1 m0) fun x5 => (if x5 = 0 then some (.inr (2, m0)) else bnd (f_X4_save 1 m0) fun m8 => gIn p1 30 <| nm (m8.1 (1 + 14) p1.toNatClampNeg) fun x10 => bnd (f_X3_giveChain 1 p1 (-1) (-1) (-1) m8) fun m12 => some (.inl (x10, m12))))
set_option maxRecDepth 100000 in
set_option maxHeartbeats 4000000 in
theorem mx_X7_release {p1 : Int32} {m0 : Mem} {oo : (Int32 × Mem) ⊕ (Nat × Mem)} (h : e_X7_release p1 m0 = some oo) : ConX yX7_release cX7_release 3 (some Jvm.ClassFile.FieldType.int) 6 104 (fun G => [.ref (ga G 0), .int p1]) m0 (ocI oo) := by
  refine conx_of (by decide) (fun G => Nat.le_of_ble_eq_true rfl) (fun X F FX => ?_)
  show WA X 0 0 0 [(0, .ref (ga X.G 0)), (1, .int p1)] [] m0 (EQX X (ocI oo))
  rw [e_X7_release] at h
  refine a_aload_n (pc := 0) F dX7_release_0 0 rfl ?_
  refine a_getr (k := 0) (r := 1) (pc := 1) F dX7_release_1 fl_RX7_10 kl_0 ks_0 rfl ?_
  refine a_getr (k := 1) (r := (1 + 8)) (pc := 4) F dX7_release_4 fl_RX7_89 (klC_0 isC_1) (ksC_0 isC_1) rfl ?_
  refine a_iload_n (pc := 7) F dX7_release_7 1 rfl ?_
  replace h := bnd_some h
  obtain ⟨x2, hc1, h⟩ := h
  refine a_callV (pc := 8) (k := (1 + 8)) (As := [.int p1]) (st := []) F dX7_release_8 (m_X3_has isC_1 hc1) cv_RX7_133 (klC_8 isC_1) (ksC_8 isC_1) ⟨_, _, rfl⟩ rfl rfl rfl (Nat.le_of_ble_eq_true rfl) ⟨Nat.le_of_ble_eq_true rfl, Nat.le_of_ble_eq_true rfl⟩ ?_ rfl rfl
  clear hc1
  refine a_if_ne (tgt := 24) (pc := 11) F dX7_release_11 (by decide) (fun q3 => ?_) (fun q3 => ?_)
  · replace h := ite_f q3 h
    clear q3
    refine a_aload_n (pc := 24) F dX7_release_24 0 rfl ?_
    refine a_getr (k := 0) (r := 1) (pc := 25) F dX7_release_25 fl_RX7_10 kl_0 ks_0 rfl ?_
    refine a_iload_n (pc := 28) F dX7_release_28 1 rfl ?_
    replace h := bnd_some h
    obtain ⟨x5, hc4, h⟩ := h
    refine a_callV (pc := 29) (k := 1) (As := [.int p1]) (st := []) F dX7_release_29 (m_X2_isAhead isC_1 hc4) cv_RX7_159 (klC_0 isC_1) (ksC_0 isC_1) ⟨_, _, rfl⟩ rfl rfl rfl (Nat.le_of_ble_eq_true rfl) ⟨Nat.le_of_ble_eq_true rfl, Nat.le_of_ble_eq_true rfl⟩ ?_ rfl rfl
    clear hc4
    refine a_if_ne (tgt := 45) (pc := 32) F dX7_release_32 (by decide) (fun q6 => ?_) (fun q6 => ?_)
    · replace h := ite_f q6 h
      clear q6
      refine a_aload_n (pc := 45) F dX7_release_45 0 rfl ?_
      refine a_getr (k := 0) (r := 39) (pc := 46) F dX7_release_46 fl_RX7_22 kl_0 ks_0 rfl ?_
      refine a_aload_n (pc := 49) F dX7_release_49 0 rfl ?_
      refine a_getr (k := 0) (r := 1) (pc := 50) F dX7_release_50 fl_RX7_10 kl_0 ks_0 rfl ?_
      replace h := bnd_some h
      obtain ⟨m8, hc7, h⟩ := h
      refine a_callV (pc := 53) (k := 39) (As := [.ref (ga X.G 1)]) (st := []) F dX7_release_53 (m_X4_save isC_1 hc7) cv_RX7_79 kl_39 ks_39 ⟨_, _, rfl⟩ rfl rfl rfl (Nat.le_of_ble_eq_true rfl) ⟨Nat.le_of_ble_eq_true rfl, Nat.le_of_ble_eq_true rfl⟩ ?_ rfl rfl
      clear hc7
      refine a_aload_n (pc := 56) F dX7_release_56 0 rfl ?_
      refine a_getr (k := 0) (r := 1) (pc := 57) F dX7_release_57 fl_RX7_10 kl_0 ks_0 rfl ?_
      refine a_getr (k := 1) (r := (1 + 8)) (pc := 60) F dX7_release_60 fl_RX7_89 (klC_0 isC_1) (ksC_0 isC_1) rfl ?_
      refine a_getr (k := (1 + 8)) (r := (1 + 14)) (pc := 63) F dX7_release_63 fl_RX7_164 (klC_8 isC_1) (ksC_8 isC_1) rfl ?_
      refine a_iload_n (pc := 66) F dX7_release_66 1 rfl ?_
      replace h := gIn_some h
      obtain ⟨g9, h⟩ := h
      refine a_ial (k := (1 + 14)) (pc := 67) F dX7_release_67 (klC_14 isC_1) (ksC_14 isC_1) g9 ?_
      refine a_nmi fun x10 ex10 => ?_
      replace h := nm_at ex10 h
      clear ex10
      refine a_istore_n (lv' := [(2, .int x10), (0, .ref (ga X.G 0)), (1, .int p1)]) (pc := 68) F dX7_release_68 (by decide) rfl ?_
      refine a_aload_n (pc := 69) F dX7_release_69 1 rfl ?_
      refine a_getr (k := 0) (r := 1) (pc := 70) F dX7_release_70 fl_RX7_10 kl_0 ks_0 rfl ?_
      refine a_getr (k := 1) (r := (1 + 8)) (pc := 73) F dX7_release_73 fl_RX7_89 (klC_0 isC_1) (ksC_0 isC_1) rfl ?_
      refine a_iload_n (pc := 76) F dX7_release_76 2 rfl ?_
      refine a_iconst (v := (-1)) (pc := 77) F dX7_release_77 (by decide) ?_
      refine a_iconst (v := (-1)) (pc := 78) F dX7_release_78 (by decide) ?_
      refine a_iconst (v := (-1)) (pc := 79) F dX7_release_79 (by decide) ?_
      replace h := bnd_some h
      obtain ⟨m12, hc11, h⟩ := h
      refine a_callV (pc := 80) (k := (1 + 8)) (As := [.int p1, .int (-1), .int (-1), .int (-1)]) (st := []) F dX7_release_80 (m_X3_giveChain isC_1 hc11) cv_RX7_149 (klC_8 isC_1) (ksC_8 isC_1) ⟨_, _, rfl⟩ rfl rfl rfl (Nat.le_of_ble_eq_true rfl) ⟨Nat.le_of_ble_eq_true rfl, Nat.le_of_ble_eq_true rfl⟩ ?_ rfl rfl
      clear hc11
      refine a_iload_n (pc := 83) F dX7_release_83 0 rfl ?_
      cases h
      exact x_iret (pc := 84) F dX7_release_84 ⟨_, rfl, rfl⟩ rfl
    · replace h := ite_t (Decidable.not_not.mp q6) h
      clear q6
      cases h
      exact x_throw (pc := 35) F FX tw_2 sl_162 dX7_release_35 dX7_release_38 dX7_release_39 dX7_release_41 dX7_release_44 (by decide) (Nat.le_of_ble_eq_true rfl) rfl
  · replace h := ite_t (Decidable.not_not.mp q3) h
    clear q3
    cases h
    exact x_throw (pc := 14) F FX tw_3 sl_157 dX7_release_14 dX7_release_17 dX7_release_18 dX7_release_20 dX7_release_23 (by decide) (Nat.le_of_ble_eq_true rfl) rfl
def e_X7_swap (p1 : Int32) (p2 : Int32) (p3 : Int32) (m0 : Mem) : Option ((Int32 × Mem) ⊕ (Nat × Mem)) :=
  bnd (f_X3_has 1 p1 m0) fun x2 => jn ((if x2 = 0 then some (.inl m0) else gIn p1 30 <| nm (m0.1 (1 + 14) p1.toNatClampNeg) fun x6 => bnd (f_X7_within p2 0 (x6 - 1) m0) fun x8 => (if x8 = 0 then some (.inl m0) else bnd (f_X6_has 1 p3 m0) fun x11 => (if x11 = 0 then some (.inl m0) else bnd (f_X3_holds 1 p1 p3 m0) fun x14 => jn ((if x14 = 0 then (if p2 = 0 then some (.inl p3) else bnd (f_X3_member 1 p1 0 m0) fun x19 => some (.inl x19)) else some (.inr (.inr (.inr (1, m0)))))) (fun (x20 : Int32) => bnd ((if p2 = 1 then some p3 else bnd (f_X3_member 1 p1 1 m0) fun x24 => some x24)) (fun (x25 : Int32) => bnd ((if p2 = 2 then some p3 else bnd (f_X3_member 1 p1 2 m0) fun x29 => some x29)) (fun (x30 : Int32) => bnd (f_X2_reasonAgainst 1 p1 x20 x25 x30 m0) fun x32 => (if x32 = 0 then bnd (f_X4_save 1 m0) fun m35 => bnd (f_X3_member 1 p1 p2 m35) fun x37 => bnd (f_X3_giveChain 1 p1 x20 x25 x30 m35) fun m39 => some (.inr (.inl (x37, m39))) else some (.inr (.inr (2, m0))))))))))) (fun (m40 : Mem) => some (.inr (3, m40)))
set_option maxRecDepth 100000 in
set_option maxHeartbeats 4000000 in
theorem mx_X7_swap {p1 : Int32} {p2 : Int32} {p3 : Int32} {m0 : Mem} {oo : (Int32 × Mem) ⊕ (Nat × Mem)} (h : e_X7_swap p1 p2 p3 m0 = some oo) : ConX yX7_swap cX7_swap 8 (some Jvm.ClassFile.FieldType.int) 6 104 (fun G => [.ref (ga G 0), .int p1, .int p2, .int p3]) m0 (ocI oo) := by
  refine conx_of (by decide) (fun G => Nat.le_of_ble_eq_true rfl) (fun X F FX => ?_)
  show WA X 0 0 0 [(0, .ref (ga X.G 0)), (1, .int p1), (2, .int p2), (3, .int p3)] [] m0 (EQX X (ocI oo))
  rw [e_X7_swap] at h
  refine a_aload_n (pc := 0) F dX7_swap_0 0 rfl ?_
  refine a_getr (k := 0) (r := 1) (pc := 1) F dX7_swap_1 fl_RX7_10 kl_0 ks_0 rfl ?_
  refine a_getr (k := 1) (r := (1 + 8)) (pc := 4) F dX7_swap_4 fl_RX7_89 (klC_0 isC_1) (ksC_0 isC_1) rfl ?_
  refine a_iload_n (pc := 7) F dX7_swap_7 1 rfl ?_
  replace h := bnd_some h
  obtain ⟨x2, hc1, h⟩ := h
  refine a_callV (pc := 8) (k := (1 + 8)) (As := [.int p1]) (st := []) F dX7_swap_8 (m_X3_has isC_1 hc1) cv_RX7_133 (klC_8 isC_1) (ksC_8 isC_1) ⟨_, _, rfl⟩ rfl rfl rfl (Nat.le_of_ble_eq_true rfl) ⟨Nat.le_of_ble_eq_true rfl, Nat.le_of_ble_eq_true rfl⟩ ?_ rfl rfl
  clear hc1
  replace h := jn_some h
  obtain ⟨o3, hR3, hK3, hB3⟩ := h
  have hJ3 : ∀ (m40 : Mem), o3 = .inl m40 → WA X 0 0 50 [] [] m40 (EQX X (ocI oo)) := by
    intro m40 eo
    have h := hK3 _ eo
    clear hK3 eo
    cases h
    exact x_throw (pc := 50) F FX tw_3 sl_167 dX7_swap_50 dX7_swap_53 dX7_swap_54 dX7_swap_56 dX7_swap_59 (by decide) (Nat.le_of_ble_eq_true rfl) rfl
  clear hK3
  have h := hR3
  clear hR3
  refine a_if_eq (tgt := 50) (pc := 11) F dX7_swap_11 (by decide) (fun q4 => ?_) (fun q4 => ?_)
  · replace h := ite_t q4 h
    clear q4
    refine a_lv F [] rfl ?_
    exact hJ3 _ (Option.some.inj h).symm
  · replace h := ite_f q4 h
    clear q4
    refine a_iload_n (pc := 14) F dX7_swap_14 2 rfl ?_
    refine a_iconst (v := 0) (pc := 15) F dX7_swap_15 (by decide) ?_
    refine a_aload_n (pc := 16) F dX7_swap_16 0 rfl ?_
    refine a_getr (k := 0) (r := 1) (pc := 17) F dX7_swap_17 fl_RX7_10 kl_0 ks_0 rfl ?_
    refine a_getr (k := 1) (r := (1 + 8)) (pc := 20) F dX7_swap_20 fl_RX7_89 (klC_0 isC_1) (ksC_0 isC_1) rfl ?_
    refine a_getr (k := (1 + 8)) (r := (1 + 14)) (pc := 23) F dX7_swap_23 fl_RX7_164 (klC_8 isC_1) (ksC_8 isC_1) rfl ?_
    refine a_iload_n (pc := 26) F dX7_swap_26 1 rfl ?_
    replace h := gIn_some h
    obtain ⟨g5, h⟩ := h
    refine a_ial (k := (1 + 14)) (pc := 27) F dX7_swap_27 (klC_14 isC_1) (ksC_14 isC_1) g5 ?_
    refine a_nmi fun x6 ex6 => ?_
    replace h := nm_at ex6 h
    clear ex6
    refine a_iconst (v := 1) (pc := 28) F dX7_swap_28 (by decide) ?_
    refine a_isub (pc := 29) F dX7_swap_29 ?_
    replace h := bnd_some h
    obtain ⟨x8, hc7, h⟩ := h
    refine a_callS (pc := 30) (As := [.int p2, .int 0, .int (x6 - 1)]) (st := []) F dX7_swap_30 (m_X7_within hc7) cs_RX7_47 rfl rfl rfl (Nat.le_of_ble_eq_true rfl) ⟨Nat.le_of_ble_eq_true rfl, Nat.le_of_ble_eq_true rfl⟩ ?_ rfl rfl
    clear hc7
    refine a_if_eq (tgt := 50) (pc := 33) F dX7_swap_33 (by decide) (fun q9 => ?_) (fun q9 => ?_)
    · replace h := ite_t q9 h
      clear q9
      refine a_lv F [] rfl ?_
      exact hJ3 _ (Option.some.inj h).symm
    · replace h := ite_f q9 h
      clear q9
      refine a_aload_n (pc := 36) F dX7_swap_36 0 rfl ?_
      refine a_getr (k := 0) (r := 1) (pc := 37) F dX7_swap_37 fl_RX7_10 kl_0 ks_0 rfl ?_
      refine a_getr (k := 1) (r := (1 + 1)) (pc := 40) F dX7_swap_40 fl_RX7_64 (klC_0 isC_1) (ksC_0 isC_1) rfl ?_
      refine a_iload_n (pc := 43) F dX7_swap_43 3 rfl ?_
      replace h := bnd_some h
      obtain ⟨x11, hc10, h⟩ := h
      refine a_callV (pc := 44) (k := (1 + 1)) (As := [.int p3]) (st := []) F dX7_swap_44 (m_X6_has isC_1 hc10) cv_RX7_105 (klC_1 isC_1) (ksC_1 isC_1) ⟨_, _, rfl⟩ rfl rfl rfl (Nat.le_of_ble_eq_true rfl) ⟨Nat.le_of_ble_eq_true rfl, Nat.le_of_ble_eq_true rfl⟩ ?_ rfl rfl
      clear hc10
      refine a_if_ne (tgt := 60) (pc := 47) F dX7_swap_47 (by decide) (fun q12 => ?_) (fun q12 => ?_)
      · replace h := ite_f q12 h
        clear q12
        refine a_aload_n (pc := 60) F dX7_swap_60 0 rfl ?_
        refine a_getr (k := 0) (r := 1) (pc := 61) F dX7_swap_61 fl_RX7_10 kl_0 ks_0 rfl ?_
        refine a_getr (k := 1) (r := (1 + 8)) (pc := 64) F dX7_swap_64 fl_RX7_89 (klC_0 isC_1) (ksC_0 isC_1) rfl ?_
        refine a_iload_n (pc := 67) F dX7_swap_67 1 rfl ?_
        refine a_iload_n (pc := 68) F dX7_swap_68 3 rfl ?_
        replace h := bnd_some h
        obtain ⟨x14, hc13, h⟩ := h
        refine a_callV (pc := 69) (k := (1 + 8)) (As := [.int p1, .int p3]) (st := []) F dX7_swap_69 (m_X3_holds isC_1 hc13) cv_RX7_169 (klC_8 isC_1) (ksC_8 isC_1) ⟨_, _, rfl⟩ rfl rfl rfl (Nat.le_of_ble_eq_true rfl) ⟨Nat.le_of_ble_eq_true rfl, Nat.le_of_ble_eq_true rfl⟩ ?_ rfl rfl
        clear hc13
        replace h := jn_some h
        obtain ⟨o15, hR15, hK15, hB15⟩ := h
        have hJ15 : ∀ (x20 : Int32), o15 = .inl x20 → WA X 0 0 105 [(0, .ref (ga X.G 0)), (1, .int p1), (2, .int p2), (3, .int p3)] [.int x20] m0 (EQX X (ocI oo)) := by
          intro x20 eo
          have h := hK15 _ eo
          clear hK15 eo
          refine a_istore (lv' := [(4, .int x20), (0, .ref (ga X.G 0)), (1, .int p1), (2, .int p2), (3, .int p3)]) (pc := 105) F dX7_swap_105 (by decide) rfl ?_
          refine a_iload_n (pc := 107) F dX7_swap_107 3 rfl ?_
          refine a_iconst (v := 1) (pc := 108) F dX7_swap_108 (by decide) ?_
          replace h := bnd_some h
          obtain ⟨x25, hR21, h⟩ := h
          have hJ21 : WA X 0 0 128 [(0, .ref (ga X.G 0)), (1, .int p1), (2, .int p2), (3, .int p3), (4, .int x20)] [.int x25] m0 (EQX X (ocI oo)) := by
            refine a_istore (lv' := [(5, .int x25), (0, .ref (ga X.G 0)), (1, .int p1), (2, .int p2), (3, .int p3), (4, .int x20)]) (pc := 128) F dX7_swap_128 (by decide) rfl ?_
            refine a_iload_n (pc := 130) F dX7_swap_130 3 rfl ?_
            refine a_iconst (v := 2) (pc := 131) F dX7_swap_131 (by decide) ?_
            replace h := bnd_some h
            obtain ⟨x30, hR26, h⟩ := h
            have hJ26 : WA X 0 0 151 [(0, .ref (ga X.G 0)), (1, .int p1), (2, .int p2), (4, .int x20), (5, .int x25)] [.int x30] m0 (EQX X (ocI oo)) := by
              refine a_istore (lv' := [(6, .int x30), (0, .ref (ga X.G 0)), (1, .int p1), (2, .int p2), (4, .int x20), (5, .int x25)]) (pc := 151) F dX7_swap_151 (by decide) rfl ?_
              refine a_aload_n (pc := 153) F dX7_swap_153 1 rfl ?_
              refine a_getr (k := 0) (r := 1) (pc := 154) F dX7_swap_154 fl_RX7_10 kl_0 ks_0 rfl ?_
              refine a_iload_n (pc := 157) F dX7_swap_157 2 rfl ?_
              refine a_iload (pc := 158) F dX7_swap_158 4 rfl ?_
              refine a_iload (pc := 160) F dX7_swap_160 5 rfl ?_
              refine a_iload (pc := 162) F dX7_swap_162 0 rfl ?_
              replace h := bnd_some h
              obtain ⟨x32, hc31, h⟩ := h
              refine a_callV (pc := 164) (k := 1) (As := [.int p1, .int x20, .int x25, .int x30]) (st := []) F dX7_swap_164 (m_X2_reasonAgainst isC_1 hc31) cv_RX7_144 (klC_0 isC_1) (ksC_0 isC_1) ⟨_, _, rfl⟩ rfl rfl rfl (Nat.le_of_ble_eq_true rfl) ⟨Nat.le_of_ble_eq_true rfl, Nat.le_of_ble_eq_true rfl⟩ ?_ rfl rfl
              clear hc31
              refine a_if_eq (tgt := 180) (pc := 167) F dX7_swap_167 (by decide) (fun q33 => ?_) (fun q33 => ?_)
              · replace h := ite_t q33 h
                clear q33
                refine a_aload_n (pc := 180) F dX7_swap_180 1 rfl ?_
                refine a_getr (k := 0) (r := 39) (pc := 181) F dX7_swap_181 fl_RX7_22 kl_0 ks_0 rfl ?_
                refine a_aload_n (pc := 184) F dX7_swap_184 1 rfl ?_
                refine a_getr (k := 0) (r := 1) (pc := 185) F dX7_swap_185 fl_RX7_10 kl_0 ks_0 rfl ?_
                replace h := bnd_some h
                obtain ⟨m35, hc34, h⟩ := h
                refine a_callV (pc := 188) (k := 39) (As := [.ref (ga X.G 1)]) (st := []) F dX7_swap_188 (m_X4_save isC_1 hc34) cv_RX7_79 kl_39 ks_39 ⟨_, _, rfl⟩ rfl rfl rfl (Nat.le_of_ble_eq_true rfl) ⟨Nat.le_of_ble_eq_true rfl, Nat.le_of_ble_eq_true rfl⟩ ?_ rfl rfl
                clear hc34
                refine a_aload_n (pc := 191) F dX7_swap_191 1 rfl ?_
                refine a_getr (k := 0) (r := 1) (pc := 192) F dX7_swap_192 fl_RX7_10 kl_0 ks_0 rfl ?_
                refine a_getr (k := 1) (r := (1 + 8)) (pc := 195) F dX7_swap_195 fl_RX7_89 (klC_0 isC_1) (ksC_0 isC_1) rfl ?_
                refine a_iload_n (pc := 198) F dX7_swap_198 2 rfl ?_
                refine a_iload_n (pc := 199) F dX7_swap_199 3 rfl ?_
                replace h := bnd_some h
                obtain ⟨x37, hc36, h⟩ := h
                refine a_callV (pc := 200) (k := (1 + 8)) (As := [.int p1, .int p2]) (st := []) F dX7_swap_200 (m_X3_member isC_1 hc36) cv_RX7_175 (klC_8 isC_1) (ksC_8 isC_1) ⟨_, _, rfl⟩ rfl rfl rfl (Nat.le_of_ble_eq_true rfl) ⟨Nat.le_of_ble_eq_true rfl, Nat.le_of_ble_eq_true rfl⟩ ?_ rfl rfl
                clear hc36
                refine a_istore (lv' := [(7, .int x37), (6, .int x30), (0, .ref (ga X.G 0)), (1, .int p1), (2, .int p2), (4, .int x20), (5, .int x25)]) (pc := 203) F dX7_swap_203 (by decide) rfl ?_
                refine a_aload_n (pc := 205) F dX7_swap_205 2 rfl ?_
                refine a_getr (k := 0) (r := 1) (pc := 206) F dX7_swap_206 fl_RX7_10 kl_0 ks_0 rfl ?_
                refine a_getr (k := 1) (r := (1 + 8)) (pc := 209) F dX7_swap_209 fl_RX7_89 (klC_0 isC_1) (ksC_0 isC_1) rfl ?_
                refine a_iload_n (pc := 212) F dX7_swap_212 3 rfl ?_
                refine a_iload (pc := 213) F dX7_swap_213 5 rfl ?_
                refine a_iload (pc := 215) F dX7_swap_215 6 rfl ?_
                refine a_iload (pc := 217) F dX7_swap_217 1 rfl ?_
                replace h := bnd_some h
                obtain ⟨m39, hc38, h⟩ := h
                refine a_callV (pc := 219) (k := (1 + 8)) (As := [.int p1, .int x20, .int x25, .int x30]) (st := []) F dX7_swap_219 (m_X3_giveChain isC_1 hc38) cv_RX7_149 (klC_8 isC_1) (ksC_8 isC_1) ⟨_, _, rfl⟩ rfl rfl rfl (Nat.le_of_ble_eq_true rfl) ⟨Nat.le_of_ble_eq_true rfl, Nat.le_of_ble_eq_true rfl⟩ ?_ rfl rfl
                clear hc38
                refine a_iload (pc := 222) F dX7_swap_222 0 rfl ?_
                replace h := hB3 _ (Option.some.inj h).symm
                cases h
                exact x_iret (pc := 224) F dX7_swap_224 ⟨_, rfl, rfl⟩ rfl
              · replace h := ite_f q33 h
                clear q33
                replace h := hB3 _ (Option.some.inj h).symm
                cases h
                exact x_throw (pc := 170) F FX tw_2 sl_178 dX7_swap_170 dX7_swap_173 dX7_swap_174 dX7_swap_176 dX7_swap_179 (by decide) (Nat.le_of_ble_eq_true rfl) rfl
            clear h
            have h := hR26
            clear hR26
            refine a_icmp_ne (tgt := 139) (pc := 132) F dX7_swap_132 (by decide) (fun q27 => ?_) (fun q27 => ?_)
            · replace h := ite_f q27 h
              clear q27
              refine a_aload_n (pc := 139) F dX7_swap_139 1 rfl ?_
              refine a_getr (k := 0) (r := 1) (pc := 140) F dX7_swap_140 fl_RX7_10 kl_0 ks_0 rfl ?_
              refine a_getr (k := 1) (r := (1 + 8)) (pc := 143) F dX7_swap_143 fl_RX7_89 (klC_0 isC_1) (ksC_0 isC_1) rfl ?_
              refine a_iload_n (pc := 146) F dX7_swap_146 2 rfl ?_
              refine a_iconst (v := 2) (pc := 147) F dX7_swap_147 (by decide) ?_
              replace h := bnd_some h
              obtain ⟨x29, hc28, h⟩ := h
              refine a_callV (pc := 148) (k := (1 + 8)) (As := [.int p1, .int 2]) (st := []) F dX7_swap_148 (m_X3_member isC_1 hc28) cv_RX7_175 (klC_8 isC_1) (ksC_8 isC_1) ⟨_, _, rfl⟩ rfl rfl rfl (Nat.le_of_ble_eq_true rfl) ⟨Nat.le_of_ble_eq_true rfl, Nat.le_of_ble_eq_true rfl⟩ ?_ rfl rfl
              clear hc28
              refine a_lv F [1, 2, 3, 5, 0] rfl ?_
              cases h
              exact hJ26
            · replace h := ite_t (Decidable.not_not.mp q27) h
              clear q27
              refine a_iload_n (pc := 135) F dX7_swap_135 4 rfl ?_
              refine a_goto (tgt := 151) (pc := 136) F dX7_swap_136 (by decide) ?_
              refine a_lv F [1, 2, 3, 5, 0] rfl ?_
              cases h
              exact hJ26
          clear h
          have h := hR21
          clear hR21
          refine a_icmp_ne (tgt := 116) (pc := 109) F dX7_swap_109 (by decide) (fun q22 => ?_) (fun q22 => ?_)
          · replace h := ite_f q22 h
            clear q22
            refine a_aload_n (pc := 116) F dX7_swap_116 1 rfl ?_
            refine a_getr (k := 0) (r := 1) (pc := 117) F dX7_swap_117 fl_RX7_10 kl_0 ks_0 rfl ?_
            refine a_getr (k := 1) (r := (1 + 8)) (pc := 120) F dX7_swap_120 fl_RX7_89 (klC_0 isC_1) (ksC_0 isC_1) rfl ?_
            refine a_iload_n (pc := 123) F dX7_swap_123 2 rfl ?_
            refine a_iconst (v := 1) (pc := 124) F dX7_swap_124 (by decide) ?_
            replace h := bnd_some h
            obtain ⟨x24, hc23, h⟩ := h
            refine a_callV (pc := 125) (k := (1 + 8)) (As := [.int p1, .int 1]) (st := []) F dX7_swap_125 (m_X3_member isC_1 hc23) cv_RX7_175 (klC_8 isC_1) (ksC_8 isC_1) ⟨_, _, rfl⟩ rfl rfl rfl (Nat.le_of_ble_eq_true rfl) ⟨Nat.le_of_ble_eq_true rfl, Nat.le_of_ble_eq_true rfl⟩ ?_ rfl rfl
            clear hc23
            refine a_lv F [1, 2, 3, 4, 0] rfl ?_
            cases h
            exact hJ21
          · replace h := ite_t (Decidable.not_not.mp q22) h
            clear q22
            refine a_iload_n (pc := 112) F dX7_swap_112 4 rfl ?_
            refine a_goto (tgt := 128) (pc := 113) F dX7_swap_113 (by decide) ?_
            refine a_lv F [1, 2, 3, 4, 0] rfl ?_
            cases h
            exact hJ21
        clear hK15
        have h := hR15
        clear hR15
        refine a_if_eq (tgt := 85) (pc := 72) F dX7_swap_72 (by decide) (fun q16 => ?_) (fun q16 => ?_)
        · replace h := ite_t q16 h
          clear q16
          refine a_iload_n (pc := 85) F dX7_swap_85 2 rfl ?_
          refine a_if_ne (tgt := 93) (pc := 86) F dX7_swap_86 (by decide) (fun q17 => ?_) (fun q17 => ?_)
          · replace h := ite_f q17 h
            clear q17
            refine a_aload_n (pc := 93) F dX7_swap_93 0 rfl ?_
            refine a_getr (k := 0) (r := 1) (pc := 94) F dX7_swap_94 fl_RX7_10 kl_0 ks_0 rfl ?_
            refine a_getr (k := 1) (r := (1 + 8)) (pc := 97) F dX7_swap_97 fl_RX7_89 (klC_0 isC_1) (ksC_0 isC_1) rfl ?_
            refine a_iload_n (pc := 100) F dX7_swap_100 1 rfl ?_
            refine a_iconst (v := 0) (pc := 101) F dX7_swap_101 (by decide) ?_
            replace h := bnd_some h
            obtain ⟨x19, hc18, h⟩ := h
            refine a_callV (pc := 102) (k := (1 + 8)) (As := [.int p1, .int 0]) (st := []) F dX7_swap_102 (m_X3_member isC_1 hc18) cv_RX7_175 (klC_8 isC_1) (ksC_8 isC_1) ⟨_, _, rfl⟩ rfl rfl rfl (Nat.le_of_ble_eq_true rfl) ⟨Nat.le_of_ble_eq_true rfl, Nat.le_of_ble_eq_true rfl⟩ ?_ rfl rfl
            clear hc18
            exact hJ15 _ (Option.some.inj h).symm
          · replace h := ite_t (Decidable.not_not.mp q17) h
            clear q17
            refine a_iload_n (pc := 89) F dX7_swap_89 3 rfl ?_
            refine a_goto (tgt := 105) (pc := 90) F dX7_swap_90 (by decide) ?_
            exact hJ15 _ (Option.some.inj h).symm
        · replace h := ite_f q16 h
          clear q16
          replace h := hB15 _ (Option.some.inj h).symm
          replace h := hB3 _ (Option.some.inj h).symm
          cases h
          exact x_throw (pc := 75) F FX tw_1 sl_173 dX7_swap_75 dX7_swap_78 dX7_swap_79 dX7_swap_81 dX7_swap_84 (by decide) (Nat.le_of_ble_eq_true rfl) rfl
      · replace h := ite_t (Decidable.not_not.mp q12) h
        clear q12
        refine a_lv F [] rfl ?_
        exact hJ3 _ (Option.some.inj h).symm
def e_X7_vacate (p1 : Int32) (m0 : Mem) : Option ((Int32 × Mem) ⊕ (Nat × Mem)) :=
  bnd (f_X3_has 1 p1 m0) fun x2 => (if x2 = 0 then some (.inr (3, m0)) else bnd (f_X2_isAhead 1 p1 m0) fun x5 => (if x5 = 0 then some (.inr (2, m0)) else bnd (f_X4_save 1 m0) fun m8 => gIn p1 30 <| nm (m8.1 (1 + 11) p1.toNatClampNeg) fun x10 => bnd (f_X2_payByNotice 1 (x10 - (m8.1 1 3)) m8) fun x12 => bnd2 (f_X2_close 1 p1 3 x12 m8) fun x14 m15 => some (.inl (x14, m15))))
set_option maxRecDepth 100000 in
set_option maxHeartbeats 4000000 in
theorem mx_X7_vacate {p1 : Int32} {m0 : Mem} {oo : (Int32 × Mem) ⊕ (Nat × Mem)} (h : e_X7_vacate p1 m0 = some oo) : ConX yX7_vacate cX7_vacate 2 (some Jvm.ClassFile.FieldType.int) 6 104 (fun G => [.ref (ga G 0), .int p1]) m0 (ocI oo) := by
  refine conx_of (by decide) (fun G => Nat.le_of_ble_eq_true rfl) (fun X F FX => ?_)
  show WA X 0 0 0 [(0, .ref (ga X.G 0)), (1, .int p1)] [] m0 (EQX X (ocI oo))
  rw [e_X7_vacate] at h
  refine a_aload_n (pc := 0) F dX7_vacate_0 0 rfl ?_
  refine a_getr (k := 0) (r := 1) (pc := 1) F dX7_vacate_1 fl_RX7_10 kl_0 ks_0 rfl ?_
  refine a_getr (k := 1) (r := (1 + 8)) (pc := 4) F dX7_vacate_4 fl_RX7_89 (klC_0 isC_1) (ksC_0 isC_1) rfl ?_
  refine a_iload_n (pc := 7) F dX7_vacate_7 1 rfl ?_
  replace h := bnd_some h
  obtain ⟨x2, hc1, h⟩ := h
  refine a_callV (pc := 8) (k := (1 + 8)) (As := [.int p1]) (st := []) F dX7_vacate_8 (m_X3_has isC_1 hc1) cv_RX7_133 (klC_8 isC_1) (ksC_8 isC_1) ⟨_, _, rfl⟩ rfl rfl rfl (Nat.le_of_ble_eq_true rfl) ⟨Nat.le_of_ble_eq_true rfl, Nat.le_of_ble_eq_true rfl⟩ ?_ rfl rfl
  clear hc1
  refine a_if_ne (tgt := 24) (pc := 11) F dX7_vacate_11 (by decide) (fun q3 => ?_) (fun q3 => ?_)
  · replace h := ite_f q3 h
    clear q3
    refine a_aload_n (pc := 24) F dX7_vacate_24 0 rfl ?_
    refine a_getr (k := 0) (r := 1) (pc := 25) F dX7_vacate_25 fl_RX7_10 kl_0 ks_0 rfl ?_
    refine a_iload_n (pc := 28) F dX7_vacate_28 1 rfl ?_
    replace h := bnd_some h
    obtain ⟨x5, hc4, h⟩ := h
    refine a_callV (pc := 29) (k := 1) (As := [.int p1]) (st := []) F dX7_vacate_29 (m_X2_isAhead isC_1 hc4) cv_RX7_159 (klC_0 isC_1) (ksC_0 isC_1) ⟨_, _, rfl⟩ rfl rfl rfl (Nat.le_of_ble_eq_true rfl) ⟨Nat.le_of_ble_eq_true rfl, Nat.le_of_ble_eq_true rfl⟩ ?_ rfl rfl
    clear hc4
    refine a_if_ne (tgt := 45) (pc := 32) F dX7_vacate_32 (by decide) (fun q6 => ?_) (fun q6 => ?_)
    · replace h := ite_f q6 h
      clear q6
      refine a_aload_n (pc := 45) F dX7_vacate_45 0 rfl ?_
      refine a_getr (k := 0) (r := 39) (pc := 46) F dX7_vacate_46 fl_RX7_22 kl_0 ks_0 rfl ?_
      refine a_aload_n (pc := 49) F dX7_vacate_49 0 rfl ?_
      refine a_getr (k := 0) (r := 1) (pc := 50) F dX7_vacate_50 fl_RX7_10 kl_0 ks_0 rfl ?_
      replace h := bnd_some h
      obtain ⟨m8, hc7, h⟩ := h
      refine a_callV (pc := 53) (k := 39) (As := [.ref (ga X.G 1)]) (st := []) F dX7_vacate_53 (m_X4_save isC_1 hc7) cv_RX7_79 kl_39 ks_39 ⟨_, _, rfl⟩ rfl rfl rfl (Nat.le_of_ble_eq_true rfl) ⟨Nat.le_of_ble_eq_true rfl, Nat.le_of_ble_eq_true rfl⟩ ?_ rfl rfl
      clear hc7
      refine a_aload_n (pc := 56) F dX7_vacate_56 0 rfl ?_
      refine a_getr (k := 0) (r := 1) (pc := 57) F dX7_vacate_57 fl_RX7_10 kl_0 ks_0 rfl ?_
      refine a_iload_n (pc := 60) F dX7_vacate_60 1 rfl ?_
      refine a_iconst (v := 3) (pc := 61) F dX7_vacate_61 (by decide) ?_
      refine a_aload_n (pc := 62) F dX7_vacate_62 0 rfl ?_
      refine a_getr (k := 0) (r := 1) (pc := 63) F dX7_vacate_63 fl_RX7_10 kl_0 ks_0 rfl ?_
      refine a_aload_n (pc := 66) F dX7_vacate_66 0 rfl ?_
      refine a_getr (k := 0) (r := 1) (pc := 67) F dX7_vacate_67 fl_RX7_10 kl_0 ks_0 rfl ?_
      refine a_getr (k := 1) (r := (1 + 8)) (pc := 70) F dX7_vacate_70 fl_RX7_89 (klC_0 isC_1) (ksC_0 isC_1) rfl ?_
      refine a_getr (k := (1 + 8)) (r := (1 + 11)) (pc := 73) F dX7_vacate_73 fl_RX7_180 (klC_8 isC_1) (ksC_8 isC_1) rfl ?_
      refine a_iload_n (pc := 76) F dX7_vacate_76 1 rfl ?_
      replace h := gIn_some h
      obtain ⟨g9, h⟩ := h
      refine a_ial (k := (1 + 11)) (pc := 77) F dX7_vacate_77 (klC_11 isC_1) (ksC_11 isC_1) g9 ?_
      refine a_nmi fun x10 ex10 => ?_
      replace h := nm_at ex10 h
      clear ex10
      refine a_aload_n (pc := 78) F dX7_vacate_78 0 rfl ?_
      refine a_getr (k := 0) (r := 1) (pc := 79) F dX7_vacate_79 fl_RX7_10 kl_0 ks_0 rfl ?_
      refine a_geti (k := 1) (pc := 82) F dX7_vacate_82 fl_RX7_98 (klC_0 isC_1) (ksC_0 isC_1) rfl ?_
      refine a_isub (pc := 85) F dX7_vacate_85 ?_
      replace h := bnd_some h
      obtain ⟨x12, hc11, h⟩ := h
      refine a_callV (pc := 86) (k := 1) (As := [.int (x10 - (m8.1 1 3))]) (st := [.int 3, .int p1, .ref (ga X.G 1)]) F dX7_vacate_86 (m_X2_payByNotice isC_1 hc11) cv_RX7_183 (klC_0 isC_1) (ksC_0 isC_1) ⟨_, _, rfl⟩ rfl rfl rfl (Nat.le_of_ble_eq_true rfl) ⟨Nat.le_of_ble_eq_true rfl, Nat.le_of_ble_eq_true rfl⟩ ?_ rfl rfl
      clear hc11
      replace h := bnd2_some h
      obtain ⟨x14, m15, hc13, h⟩ := h
      refine a_callV (pc := 89) (k := 1) (As := [.int p1, .int 3, .int x12]) (st := []) F dX7_vacate_89 (m_X2_close isC_1 hc13) cv_RX7_186 (klC_0 isC_1) (ksC_0 isC_1) ⟨_, _, rfl⟩ rfl rfl rfl (Nat.le_of_ble_eq_true rfl) ⟨Nat.le_of_ble_eq_true rfl, Nat.le_of_ble_eq_true rfl⟩ ?_ rfl rfl
      clear hc13
      cases h
      exact x_iret (pc := 92) F dX7_vacate_92 ⟨_, rfl, rfl⟩ rfl
    · replace h := ite_t (Decidable.not_not.mp q6) h
      clear q6
      cases h
      exact x_throw (pc := 35) F FX tw_2 sl_162 dX7_vacate_35 dX7_vacate_38 dX7_vacate_39 dX7_vacate_41 dX7_vacate_44 (by decide) (Nat.le_of_ble_eq_true rfl) rfl
  · replace h := ite_t (Decidable.not_not.mp q3) h
    clear q3
    cases h
    exact x_throw (pc := 14) F FX tw_3 sl_157 dX7_vacate_14 dX7_vacate_17 dX7_vacate_18 dX7_vacate_20 dX7_vacate_23 (by decide) (Nat.le_of_ble_eq_true rfl) rfl
def e_X7_pass_L61 (p1 : Int32) : (Int32 × Int32 × Mem) → Option ((Int32 × Int32 × Mem) ⊕ (Int32 × Mem))
  | (x8, x9, m10) => (if p1 ≤ x9 then some (.inr (x8, m10)) else bnd2 (f_X2_passMinute 1 m10) fun x13 m14 => nm (x9 + 1) fun x15 => some (.inl (x8 + x13, x15, m14)))
def e_X7_pass (p1 : Int32) (m0 : Mem) : Option ((Int32 × Mem) ⊕ (Nat × Mem)) :=
  bnd (f_X7_within p1 1 500 m0) fun x2 => (if x2 = 0 then some (.inr (1, m0)) else (if ((m0.1 1 3) + p1) ≤ 20000 then bnd (f_X4_save 1 m0) fun m6 => bnd (lp (e_X7_pass_L61 p1) 1000000 (0, 0, m6)) (fun (x16, m17) => some (.inl (x16, m17))) else some (.inr (2, m0))))
set_option maxRecDepth 100000 in
set_option maxHeartbeats 4000000 in
theorem mx_X7_pass {p1 : Int32} {m0 : Mem} {oo : (Int32 × Mem) ⊕ (Nat × Mem)} (h : e_X7_pass p1 m0 = some oo) : ConX yX7_pass cX7_pass 4 (some Jvm.ClassFile.FieldType.int) 6 118 (fun G => [.ref (ga G 0), .int p1]) m0 (ocI oo) := by
  refine conx_of (by decide) (fun G => Nat.le_of_ble_eq_true rfl) (fun X F FX => ?_)
  show WA X 0 0 0 [(0, .ref (ga X.G 0)), (1, .int p1)] [] m0 (EQX X (ocI oo))
  rw [e_X7_pass] at h
  refine a_iload_n (pc := 0) F dX7_pass_0 1 rfl ?_
  refine a_iconst (v := 1) (pc := 1) F dX7_pass_1 (by decide) ?_
  refine a_sipush (v := 500) (pc := 2) F dX7_pass_2 (by decide) ?_
  replace h := bnd_some h
  obtain ⟨x2, hc1, h⟩ := h
  refine a_callS (pc := 5) (As := [.int p1, .int 1, .int 500]) (st := []) F dX7_pass_5 (m_X7_within hc1) cs_RX7_47 rfl rfl rfl (Nat.le_of_ble_eq_true rfl) ⟨Nat.le_of_ble_eq_true rfl, Nat.le_of_ble_eq_true rfl⟩ ?_ rfl rfl
  clear hc1
  refine a_if_ne (tgt := 21) (pc := 8) F dX7_pass_8 (by decide) (fun q3 => ?_) (fun q3 => ?_)
  · replace h := ite_f q3 h
    clear q3
    refine a_aload_n (pc := 21) F dX7_pass_21 0 rfl ?_
    refine a_getr (k := 0) (r := 1) (pc := 22) F dX7_pass_22 fl_RX7_10 kl_0 ks_0 rfl ?_
    refine a_geti (k := 1) (pc := 25) F dX7_pass_25 fl_RX7_98 (klC_0 isC_1) (ksC_0 isC_1) rfl ?_
    refine a_iload_n (pc := 28) F dX7_pass_28 1 rfl ?_
    refine a_iadd (pc := 29) F dX7_pass_29 ?_
    refine a_sipush (v := 20000) (pc := 30) F dX7_pass_30 (by decide) ?_
    refine a_icmp_le (tgt := 46) (pc := 33) F dX7_pass_33 (by decide) (fun q4 => ?_) (fun q4 => ?_)
    · replace h := ite_t q4 h
      clear q4
      refine a_aload_n (pc := 46) F dX7_pass_46 0 rfl ?_
      refine a_getr (k := 0) (r := 39) (pc := 47) F dX7_pass_47 fl_RX7_22 kl_0 ks_0 rfl ?_
      refine a_aload_n (pc := 50) F dX7_pass_50 0 rfl ?_
      refine a_getr (k := 0) (r := 1) (pc := 51) F dX7_pass_51 fl_RX7_10 kl_0 ks_0 rfl ?_
      replace h := bnd_some h
      obtain ⟨m6, hc5, h⟩ := h
      refine a_callV (pc := 54) (k := 39) (As := [.ref (ga X.G 1)]) (st := []) F dX7_pass_54 (m_X4_save isC_1 hc5) cv_RX7_79 kl_39 ks_39 ⟨_, _, rfl⟩ rfl rfl rfl (Nat.le_of_ble_eq_true rfl) ⟨Nat.le_of_ble_eq_true rfl, Nat.le_of_ble_eq_true rfl⟩ ?_ rfl rfl
      clear hc5
      refine a_iconst (v := 0) (pc := 57) F dX7_pass_57 (by decide) ?_
      refine a_istore_n (lv' := [(2, .int 0), (0, .ref (ga X.G 0)), (1, .int p1)]) (pc := 58) F dX7_pass_58 (by decide) rfl ?_
      refine a_iconst (v := 0) (pc := 59) F dX7_pass_59 (by decide) ?_
      refine a_istore_n (lv' := [(3, .int 0), (2, .int 0), (0, .ref (ga X.G 0)), (1, .int p1)]) (pc := 60) F dX7_pass_60 (by decide) rfl ?_
      refine a_lv F [2, 3, 1, 0] rfl ?_
      replace h := bnd_some h
      obtain ⟨⟨x16, m17⟩, hL7, h⟩ := h
      have hE7 : WA X 0 0 82 [(2, .int x16)] [] m17 (EQX X (ocI oo)) := by
        refine a_iload_n (pc := 82) F dX7_pass_82 0 rfl ?_
        cases h
        exact x_iret (pc := 83) F dX7_pass_83 ⟨_, rfl, rfl⟩ rfl
      clear h
      refine lp_run (P := fun (s : (Int32 × Int32 × Mem)) => WA X 0 0 61 [(0, .ref (ga X.G 0)), (1, .int p1), (2, .int s.1), (3, .int s.2.1)] [] s.2.2 (EQX X (ocI oo))) ?_ _ _ hL7
      clear hL7
      rintro ⟨x8, x9, m10⟩ xo h hP7 hT7
      show WA X 0 0 61 [(0, .ref (ga X.G 0)), (1, .int p1), (2, .int x8), (3, .int x9)] [] m10 (EQX X (ocI oo))
      rw [e_X7_pass_L61] at h
      refine a_iload_n (pc := 61) F dX7_pass_61 3 rfl ?_
      refine a_iload_n (pc := 62) F dX7_pass_62 1 rfl ?_
      refine a_icmp_ge (tgt := 82) (pc := 63) F dX7_pass_63 (by decide) (fun q11 => ?_) (fun q11 => ?_)
      · replace h := ite_t q11 h
        clear q11
        refine a_lv F [2] rfl ?_
        cases hT7 _ (Option.some.inj h).symm
        exact hE7
      · replace h := ite_f q11 h
        clear q11
        refine a_iload_n (pc := 66) F dX7_pass_66 2 rfl ?_
        refine a_aload_n (pc := 67) F dX7_pass_67 0 rfl ?_
        refine a_getr (k := 0) (r := 1) (pc := 68) F dX7_pass_68 fl_RX7_10 kl_0 ks_0 rfl ?_
        replace h := bnd2_some h
        obtain ⟨x13, m14, hc12, h⟩ := h
        refine a_callV (pc := 71) (k := 1) (As := []) (st := [.int x8]) F dX7_pass_71 (m_X2_passMinute isC_1 hc12) cv_RX7_193 (klC_0 isC_1) (ksC_0 isC_1) ⟨_, _, rfl⟩ rfl rfl rfl (Nat.le_of_ble_eq_true rfl) ⟨Nat.le_of_ble_eq_true rfl, Nat.le_of_ble_eq_true rfl⟩ ?_ rfl rfl
        clear hc12
        refine a_iadd (pc := 74) F dX7_pass_74 ?_
        refine a_istore_n (lv' := [(2, .int (x8 + x13)), (0, .ref (ga X.G 0)), (1, .int p1), (3, .int x9)]) (pc := 75) F dX7_pass_75 (by decide) rfl ?_
        obtain ⟨x15, ex15⟩ : ∃ x15 : Int32, x15 = x9 + 1 := ⟨_, rfl⟩
        refine a_iinc (v := x15) (lv' := [(3, .int x15), (2, .int (x8 + x13)), (0, .ref (ga X.G 0)), (1, .int p1)]) (pc := 76) F dX7_pass_76 3 rfl (by rw [ex15]; rfl) (by decide) rfl ?_
        replace h := nm_at ex15 h
        clear ex15
        refine a_goto (tgt := 61) (pc := 79) F dX7_pass_79 (by decide) ?_
        refine a_lv F [2, 3, 1, 0] rfl ?_
        exact hP7 _ (Option.some.inj h).symm
    · replace h := ite_f q4 h
      clear q4
      cases h
      exact x_throw (pc := 36) F FX tw_2 sl_191 dX7_pass_36 dX7_pass_39 dX7_pass_40 dX7_pass_42 dX7_pass_45 (by decide) (Nat.le_of_ble_eq_true rfl) rfl
  · replace h := ite_t (Decidable.not_not.mp q3) h
    clear q3
    cases h
    exact x_throw (pc := 11) F FX tw_1 sl_189 dX7_pass_11 dX7_pass_14 dX7_pass_15 dX7_pass_17 dX7_pass_20 (by decide) (Nat.le_of_ble_eq_true rfl) rfl
def e_X7_append (p1 : Int32) (m0 : Mem) : Option ((Int32 × Mem) ⊕ (Nat × Mem)) :=
  bnd (f_X7_within p1 33 126 m0) fun x2 => (if x2 = 0 then some (.inr (1, m0)) else (if (m0.1 155 0) < 60 then bnd (f_X0_put p1 m0) fun m6 => some (.inl (m6.1 155 0, m6)) else some (.inr (2, m0))))
set_option maxRecDepth 100000 in
set_option maxHeartbeats 4000000 in
theorem mx_X7_append {p1 : Int32} {m0 : Mem} {oo : (Int32 × Mem) ⊕ (Nat × Mem)} (h : e_X7_append p1 m0 = some oo) : ConX yX7_append cX7_append 2 (some Jvm.ClassFile.FieldType.int) 6 82 (fun G => [.ref (ga G 0), .int p1]) m0 (ocI oo) := by
  refine conx_of (by decide) (fun G => Nat.le_of_ble_eq_true rfl) (fun X F FX => ?_)
  show WA X 0 0 0 [(0, .ref (ga X.G 0)), (1, .int p1)] [] m0 (EQX X (ocI oo))
  rw [e_X7_append] at h
  refine a_iload_n (pc := 0) F dX7_append_0 1 rfl ?_
  refine a_bipush (v := 33) (pc := 1) F dX7_append_1 (by decide) ?_
  refine a_bipush (v := 126) (pc := 3) F dX7_append_3 (by decide) ?_
  replace h := bnd_some h
  obtain ⟨x2, hc1, h⟩ := h
  refine a_callS (pc := 5) (As := [.int p1, .int 33, .int 126]) (st := []) F dX7_append_5 (m_X7_within hc1) cs_RX7_47 rfl rfl rfl (Nat.le_of_ble_eq_true rfl) ⟨Nat.le_of_ble_eq_true rfl, Nat.le_of_ble_eq_true rfl⟩ ?_ rfl rfl
  clear hc1
  refine a_if_ne (tgt := 21) (pc := 8) F dX7_append_8 (by decide) (fun q3 => ?_) (fun q3 => ?_)
  · replace h := ite_f q3 h
    clear q3
    refine a_aload_n (pc := 21) F dX7_append_21 0 rfl ?_
    refine a_getr (k := 0) (r := 155) (pc := 22) F dX7_append_22 fl_RX7_29 kl_0 ks_0 rfl ?_
    refine a_geti (k := 155) (pc := 25) F dX7_append_25 fl_RX7_199 kl_155 ks_155 rfl ?_
    refine a_bipush (v := 60) (pc := 28) F dX7_append_28 (by decide) ?_
    refine a_icmp_lt (tgt := 43) (pc := 30) F dX7_append_30 (by decide) (fun q4 => ?_) (fun q4 => ?_)
    · replace h := ite_t q4 h
      clear q4
      refine a_aload_n (pc := 43) F dX7_append_43 0 rfl ?_
      refine a_getr (k := 0) (r := 155) (pc := 44) F dX7_append_44 fl_RX7_29 kl_0 ks_0 rfl ?_
      refine a_iload_n (pc := 47) F dX7_append_47 1 rfl ?_
      replace h := bnd_some h
      obtain ⟨m6, hc5, h⟩ := h
      refine a_callV (pc := 48) (k := 155) (As := [.int p1]) (st := []) F dX7_append_48 (m_X0_put hc5) cv_RX7_204 kl_155 ks_155 ⟨_, _, rfl⟩ rfl rfl rfl (Nat.le_of_ble_eq_true rfl) ⟨Nat.le_of_ble_eq_true rfl, Nat.le_of_ble_eq_true rfl⟩ ?_ rfl rfl
      clear hc5
      refine a_aload_n (pc := 51) F dX7_append_51 0 rfl ?_
      refine a_getr (k := 0) (r := 155) (pc := 52) F dX7_append_52 fl_RX7_29 kl_0 ks_0 rfl ?_
      refine a_geti (k := 155) (pc := 55) F dX7_append_55 fl_RX7_199 kl_155 ks_155 rfl ?_
      cases h
      exact x_iret (pc := 58) F dX7_append_58 ⟨_, rfl, rfl⟩ rfl
    · replace h := ite_f q4 h
      clear q4
      cases h
      exact x_throw (pc := 33) F FX tw_2 sl_202 dX7_append_33 dX7_append_36 dX7_append_37 dX7_append_39 dX7_append_42 (by decide) (Nat.le_of_ble_eq_true rfl) rfl
  · replace h := ite_t (Decidable.not_not.mp q3) h
    clear q3
    cases h
    exact x_throw (pc := 11) F FX tw_1 sl_197 dX7_append_11 dX7_append_14 dX7_append_15 dX7_append_17 dX7_append_20 (by decide) (Nat.le_of_ble_eq_true rfl) rfl
def e_X7_addList (m0 : Mem) : Option ((Int32 × Mem) ⊕ (Nat × Mem)) :=
  bnd2 (f_X5_read m0) fun x2 m3 => jn ((if x2 < (m3.1 155 0) then some (.inl m3) else bnd (f_X5_isComplete m3) fun x7 => (if x7 = 0 then some (.inl m3) else nm ((m3.1 (1 + 8) 0) + (m3.1 157 0)) fun x9 => (if x9 ≤ 30 then bnd (f_X4_save 1 m3) fun m12 => bnd (f_X5_enterAll 1 m12) fun m14 => nm (si m14 155 0 0) fun m15 => some (.inr (.inl (m15.1 (1 + 8) 0, m15))) else some (.inr (.inr (2, m3))))))) (fun (m16 : Mem) => some (.inr (1, m16)))
set_option maxRecDepth 100000 in
set_option maxHeartbeats 4000000 in
theorem mx_X7_addList {m0 : Mem} {oo : (Int32 × Mem) ⊕ (Nat × Mem)} (h : e_X7_addList m0 = some oo) : ConX yX7_addList cX7_addList 1 (some Jvm.ClassFile.FieldType.int) 6 134 (fun G => [.ref (ga G 0)]) m0 (ocI oo) := by
  refine conx_of (by decide) (fun G => Nat.le_of_ble_eq_true rfl) (fun X F FX => ?_)
  show WA X 0 0 0 [(0, .ref (ga X.G 0))] [] m0 (EQX X (ocI oo))
  rw [e_X7_addList] at h
  refine a_aload_n (pc := 0) F dX7_addList_0 0 rfl ?_
  refine a_getr (k := 0) (r := 157) (pc := 1) F dX7_addList_1 fl_RX7_36 kl_0 ks_0 rfl ?_
  refine a_aload_n (pc := 4) F dX7_addList_4 0 rfl ?_
  refine a_getr (k := 0) (r := 155) (pc := 5) F dX7_addList_5 fl_RX7_29 kl_0 ks_0 rfl ?_
  replace h := bnd2_some h
  obtain ⟨x2, m3, hc1, h⟩ := h
  refine a_callV (pc := 8) (k := 157) (As := [.ref (ga X.G 155)]) (st := []) F dX7_addList_8 (m_X5_read hc1) cv_RX7_208 kl_157 ks_157 ⟨_, _, rfl⟩ rfl rfl rfl (Nat.le_of_ble_eq_true rfl) ⟨Nat.le_of_ble_eq_true rfl, Nat.le_of_ble_eq_true rfl⟩ ?_ rfl rfl
  clear hc1
  refine a_aload_n (pc := 11) F dX7_addList_11 0 rfl ?_
  refine a_getr (k := 0) (r := 155) (pc := 12) F dX7_addList_12 fl_RX7_29 kl_0 ks_0 rfl ?_
  refine a_geti (k := 155) (pc := 15) F dX7_addList_15 fl_RX7_199 kl_155 ks_155 rfl ?_
  replace h := jn_some h
  obtain ⟨o4, hR4, hK4, hB4⟩ := h
  have hJ4 : ∀ (m16 : Mem), o4 = .inl m16 → WA X 0 0 31 [] [] m16 (EQX X (ocI oo)) := by
    intro m16 eo
    have h := hK4 _ eo
    clear hK4 eo
    cases h
    exact x_throw (pc := 31) F FX tw_1 sl_216 dX7_addList_31 dX7_addList_34 dX7_addList_35 dX7_addList_37 dX7_addList_40 (by decide) (Nat.le_of_ble_eq_true rfl) rfl
  clear hK4
  have h := hR4
  clear hR4
  refine a_icmp_lt (tgt := 31) (pc := 18) F dX7_addList_18 (by decide) (fun q5 => ?_) (fun q5 => ?_)
  · replace h := ite_t q5 h
    clear q5
    refine a_lv F [] rfl ?_
    exact hJ4 _ (Option.some.inj h).symm
  · replace h := ite_f q5 h
    clear q5
    refine a_aload_n (pc := 21) F dX7_addList_21 0 rfl ?_
    refine a_getr (k := 0) (r := 157) (pc := 22) F dX7_addList_22 fl_RX7_36 kl_0 ks_0 rfl ?_
    replace h := bnd_some h
    obtain ⟨x7, hc6, h⟩ := h
    refine a_callV (pc := 25) (k := 157) (As := []) (st := []) F dX7_addList_25 (m_X5_isComplete hc6) cv_RX7_212 kl_157 ks_157 ⟨_, _, rfl⟩ rfl rfl rfl (Nat.le_of_ble_eq_true rfl) ⟨Nat.le_of_ble_eq_true rfl, Nat.le_of_ble_eq_true rfl⟩ ?_ rfl rfl
    clear hc6
    refine a_if_ne (tgt := 41) (pc := 28) F dX7_addList_28 (by decide) (fun q8 => ?_) (fun q8 => ?_)
    · replace h := ite_f q8 h
      clear q8
      refine a_aload_n (pc := 41) F dX7_addList_41 0 rfl ?_
      refine a_getr (k := 0) (r := 1) (pc := 42) F dX7_addList_42 fl_RX7_10 kl_0 ks_0 rfl ?_
      refine a_getr (k := 1) (r := (1 + 8)) (pc := 45) F dX7_addList_45 fl_RX7_89 (klC_0 isC_1) (ksC_0 isC_1) rfl ?_
      refine a_geti (k := (1 + 8)) (pc := 48) F dX7_addList_48 fl_RX7_93 (klC_8 isC_1) (ksC_8 isC_1) rfl ?_
      refine a_aload_n (pc := 51) F dX7_addList_51 0 rfl ?_
      refine a_getr (k := 0) (r := 157) (pc := 52) F dX7_addList_52 fl_RX7_36 kl_0 ks_0 rfl ?_
      refine a_geti (k := 157) (pc := 55) F dX7_addList_55 fl_RX7_218 kl_157 ks_157 rfl ?_
      refine a_iadd (pc := 58) F dX7_addList_58 ?_
      refine a_nmi fun x9 ex9 => ?_
      replace h := nm_at ex9 h
      clear ex9
      refine a_bipush (v := 30) (pc := 59) F dX7_addList_59 (by decide) ?_
      refine a_icmp_le (tgt := 74) (pc := 61) F dX7_addList_61 (by decide) (fun q10 => ?_) (fun q10 => ?_)
      · replace h := ite_t q10 h
        clear q10
        refine a_aload_n (pc := 74) F dX7_addList_74 0 rfl ?_
        refine a_getr (k := 0) (r := 39) (pc := 75) F dX7_addList_75 fl_RX7_22 kl_0 ks_0 rfl ?_
        refine a_aload_n (pc := 78) F dX7_addList_78 0 rfl ?_
        refine a_getr (k := 0) (r := 1) (pc := 79) F dX7_addList_79 fl_RX7_10 kl_0 ks_0 rfl ?_
        replace h := bnd_some h
        obtain ⟨m12, hc11, h⟩ := h
        refine a_callV (pc := 82) (k := 39) (As := [.ref (ga X.G 1)]) (st := []) F dX7_addList_82 (m_X4_save isC_1 hc11) cv_RX7_79 kl_39 ks_39 ⟨_, _, rfl⟩ rfl rfl rfl (Nat.le_of_ble_eq_true rfl) ⟨Nat.le_of_ble_eq_true rfl, Nat.le_of_ble_eq_true rfl⟩ ?_ rfl rfl
        clear hc11
        refine a_aload_n (pc := 85) F dX7_addList_85 0 rfl ?_
        refine a_getr (k := 0) (r := 157) (pc := 86) F dX7_addList_86 fl_RX7_36 kl_0 ks_0 rfl ?_
        refine a_aload_n (pc := 89) F dX7_addList_89 0 rfl ?_
        refine a_getr (k := 0) (r := 155) (pc := 90) F dX7_addList_90 fl_RX7_29 kl_0 ks_0 rfl ?_
        refine a_aload_n (pc := 93) F dX7_addList_93 0 rfl ?_
        refine a_getr (k := 0) (r := 1) (pc := 94) F dX7_addList_94 fl_RX7_10 kl_0 ks_0 rfl ?_
        replace h := bnd_some h
        obtain ⟨m14, hc13, h⟩ := h
        refine a_callV (pc := 97) (k := 157) (As := [.ref (ga X.G 155), .ref (ga X.G 1)]) (st := []) F dX7_addList_97 (m_X5_enterAll isC_1 hc13) cv_RX7_223 kl_157 ks_157 ⟨_, _, rfl⟩ rfl rfl rfl (Nat.le_of_ble_eq_true rfl) ⟨Nat.le_of_ble_eq_true rfl, Nat.le_of_ble_eq_true rfl⟩ ?_ rfl rfl
        clear hc13
        refine a_aload_n (pc := 100) F dX7_addList_100 0 rfl ?_
        refine a_getr (k := 0) (r := 155) (pc := 101) F dX7_addList_101 fl_RX7_29 kl_0 ks_0 rfl ?_
        refine a_iconst (v := 0) (pc := 104) F dX7_addList_104 (by decide) ?_
        refine a_puti (k := 155) (pc := 105) F dX7_addList_105 fp_RX7_199 kl_155 ks_155 rfl ?_
        refine a_nmm fun m15 em15 => ?_
        replace h := nm_at em15 h
        clear em15
        refine a_aload_n (pc := 108) F dX7_addList_108 0 rfl ?_
        refine a_getr (k := 0) (r := 1) (pc := 109) F dX7_addList_109 fl_RX7_10 kl_0 ks_0 rfl ?_
        refine a_getr (k := 1) (r := (1 + 8)) (pc := 112) F dX7_addList_112 fl_RX7_89 (klC_0 isC_1) (ksC_0 isC_1) rfl ?_
        refine a_geti (k := (1 + 8)) (pc := 115) F dX7_addList_115 fl_RX7_93 (klC_8 isC_1) (ksC_8 isC_1) rfl ?_
        replace h := hB4 _ (Option.some.inj h).symm
        cases h
        exact x_iret (pc := 118) F dX7_addList_118 ⟨_, rfl, rfl⟩ rfl
      · replace h := ite_f q10 h
        clear q10
        replace h := hB4 _ (Option.some.inj h).symm
        cases h
        exact x_throw (pc := 64) F FX tw_2 sl_221 dX7_addList_64 dX7_addList_67 dX7_addList_68 dX7_addList_70 dX7_addList_73 (by decide) (Nat.le_of_ble_eq_true rfl) rfl
    · replace h := ite_t (Decidable.not_not.mp q8) h
      clear q8
      refine a_lv F [] rfl ?_
      exact hJ4 _ (Option.some.inj h).symm
def e_X7_undo (m0 : Mem) : Option ((Int32 × Mem) ⊕ (Nat × Mem)) :=
  (if (m0.1 39 0) = 0 then some (.inr (2, m0)) else bnd (f_X4_restore 1 m0) fun m3 => some (.inl (m3.1 39 0, m3)))
set_option maxRecDepth 100000 in
set_option maxHeartbeats 4000000 in
theorem mx_X7_undo {m0 : Mem} {oo : (Int32 × Mem) ⊕ (Nat × Mem)} (h : e_X7_undo m0 = some oo) : ConX yX7_undo cX7_undo 1 (some Jvm.ClassFile.FieldType.int) 6 104 (fun G => [.ref (ga G 0)]) m0 (ocI oo) := by
  refine conx_of (by decide) (fun G => Nat.le_of_ble_eq_true rfl) (fun X F FX => ?_)
  show WA X 0 0 0 [(0, .ref (ga X.G 0))] [] m0 (EQX X (ocI oo))
  rw [e_X7_undo] at h
  refine a_aload_n (pc := 0) F dX7_undo_0 0 rfl ?_
  refine a_getr (k := 0) (r := 39) (pc := 1) F dX7_undo_1 fl_RX7_22 kl_0 ks_0 rfl ?_
  refine a_geti (k := 39) (pc := 4) F dX7_undo_4 fl_RX7_227 kl_39 ks_39 rfl ?_
  refine a_if_ne (tgt := 20) (pc := 7) F dX7_undo_7 (by decide) (fun q1 => ?_) (fun q1 => ?_)
  · replace h := ite_f q1 h
    clear q1
    refine a_aload_n (pc := 20) F dX7_undo_20 0 rfl ?_
    refine a_getr (k := 0) (r := 39) (pc := 21) F dX7_undo_21 fl_RX7_22 kl_0 ks_0 rfl ?_
    refine a_aload_n (pc := 24) F dX7_undo_24 0 rfl ?_
    refine a_getr (k := 0) (r := 1) (pc := 25) F dX7_undo_25 fl_RX7_10 kl_0 ks_0 rfl ?_
    replace h := bnd_some h
    obtain ⟨m3, hc2, h⟩ := h
    refine a_callV (pc := 28) (k := 39) (As := [.ref (ga X.G 1)]) (st := []) F dX7_undo_28 (m_X4_restore isC_1 hc2) cv_RX7_230 kl_39 ks_39 ⟨_, _, rfl⟩ rfl rfl rfl (Nat.le_of_ble_eq_true rfl) ⟨Nat.le_of_ble_eq_true rfl, Nat.le_of_ble_eq_true rfl⟩ ?_ rfl rfl
    clear hc2
    refine a_aload_n (pc := 31) F dX7_undo_31 0 rfl ?_
    refine a_getr (k := 0) (r := 39) (pc := 32) F dX7_undo_32 fl_RX7_22 kl_0 ks_0 rfl ?_
    refine a_geti (k := 39) (pc := 35) F dX7_undo_35 fl_RX7_227 kl_39 ks_39 rfl ?_
    cases h
    exact x_iret (pc := 38) F dX7_undo_38 ⟨_, rfl, rfl⟩ rfl
  · replace h := ite_t (Decidable.not_not.mp q1) h
    clear q1
    cases h
    exact x_throw (pc := 10) F FX tw_2 sl_228 dX7_undo_10 dX7_undo_13 dX7_undo_14 dX7_undo_16 dX7_undo_19 (by decide) (Nat.le_of_ble_eq_true rfl) rfl
def e_X7_interpreter (p1 : Int32) (p2 : Int32) (m0 : Mem) : Option ((Int32 × Mem) ⊕ (Nat × Mem)) :=
  bnd (f_X6_has 1 p1 m0) fun x2 => (if x2 = 0 then some (.inr (3, m0)) else bnd (f_X7_within p2 0 7 m0) fun x5 => (if x5 = 0 then some (.inr (1, m0)) else bnd (f_X2_ofInterpreter 1 p1 p2 m0) fun x8 => some (.inl (x8, m0))))
set_option maxRecDepth 100000 in
set_option maxHeartbeats 4000000 in
theorem mx_X7_interpreter {p1 : Int32} {p2 : Int32} {m0 : Mem} {oo : (Int32 × Mem) ⊕ (Nat × Mem)} (h : e_X7_interpreter p1 p2 m0 = some oo) : ConX yX7_interpreter cX7_interpreter 3 (some Jvm.ClassFile.FieldType.int) 6 87 (fun G => [.ref (ga G 0), .int p1, .int p2]) m0 (ocI oo) := by
  refine conx_of (by decide) (fun G => Nat.le_of_ble_eq_true rfl) (fun X F FX => ?_)
  show WA X 0 0 0 [(0, .ref (ga X.G 0)), (1, .int p1), (2, .int p2)] [] m0 (EQX X (ocI oo))
  rw [e_X7_interpreter] at h
  refine a_aload_n (pc := 0) F dX7_interpreter_0 0 rfl ?_
  refine a_getr (k := 0) (r := 1) (pc := 1) F dX7_interpreter_1 fl_RX7_10 kl_0 ks_0 rfl ?_
  refine a_getr (k := 1) (r := (1 + 1)) (pc := 4) F dX7_interpreter_4 fl_RX7_64 (klC_0 isC_1) (ksC_0 isC_1) rfl ?_
  refine a_iload_n (pc := 7) F dX7_interpreter_7 1 rfl ?_
  replace h := bnd_some h
  obtain ⟨x2, hc1, h⟩ := h
  refine a_callV (pc := 8) (k := (1 + 1)) (As := [.int p1]) (st := []) F dX7_interpreter_8 (m_X6_has isC_1 hc1) cv_RX7_105 (klC_1 isC_1) (ksC_1 isC_1) ⟨_, _, rfl⟩ rfl rfl rfl (Nat.le_of_ble_eq_true rfl) ⟨Nat.le_of_ble_eq_true rfl, Nat.le_of_ble_eq_true rfl⟩ ?_ rfl rfl
  clear hc1
  refine a_if_ne (tgt := 24) (pc := 11) F dX7_interpreter_11 (by decide) (fun q3 => ?_) (fun q3 => ?_)
  · replace h := ite_f q3 h
    clear q3
    refine a_iload_n (pc := 24) F dX7_interpreter_24 2 rfl ?_
    refine a_iconst (v := 0) (pc := 25) F dX7_interpreter_25 (by decide) ?_
    refine a_bipush (v := 7) (pc := 26) F dX7_interpreter_26 (by decide) ?_
    replace h := bnd_some h
    obtain ⟨x5, hc4, h⟩ := h
    refine a_callS (pc := 28) (As := [.int p2, .int 0, .int 7]) (st := []) F dX7_interpreter_28 (m_X7_within hc4) cs_RX7_47 rfl rfl rfl (Nat.le_of_ble_eq_true rfl) ⟨Nat.le_of_ble_eq_true rfl, Nat.le_of_ble_eq_true rfl⟩ ?_ rfl rfl
    clear hc4
    refine a_if_ne (tgt := 44) (pc := 31) F dX7_interpreter_31 (by decide) (fun q6 => ?_) (fun q6 => ?_)
    · replace h := ite_f q6 h
      clear q6
      refine a_aload_n (pc := 44) F dX7_interpreter_44 0 rfl ?_
      refine a_getr (k := 0) (r := 1) (pc := 45) F dX7_interpreter_45 fl_RX7_10 kl_0 ks_0 rfl ?_
      refine a_iload_n (pc := 48) F dX7_interpreter_48 1 rfl ?_
      refine a_iload_n (pc := 49) F dX7_interpreter_49 2 rfl ?_
      replace h := bnd_some h
      obtain ⟨x8, hc7, h⟩ := h
      refine a_callV (pc := 50) (k := 1) (As := [.int p1, .int p2]) (st := []) F dX7_interpreter_50 (m_X2_ofInterpreter isC_1 hc7) cv_RX7_235 (klC_0 isC_1) (ksC_0 isC_1) ⟨_, _, rfl⟩ rfl rfl rfl (Nat.le_of_ble_eq_true rfl) ⟨Nat.le_of_ble_eq_true rfl, Nat.le_of_ble_eq_true rfl⟩ ?_ rfl rfl
      clear hc7
      cases h
      exact x_iret (pc := 53) F dX7_interpreter_53 ⟨_, rfl, rfl⟩ rfl
    · replace h := ite_t (Decidable.not_not.mp q6) h
      clear q6
      cases h
      exact x_throw (pc := 34) F FX tw_1 sl_233 dX7_interpreter_34 dX7_interpreter_37 dX7_interpreter_38 dX7_interpreter_40 dX7_interpreter_43 (by decide) (Nat.le_of_ble_eq_true rfl) rfl
  · replace h := ite_t (Decidable.not_not.mp q3) h
    clear q3
    cases h
    exact x_throw (pc := 14) F FX tw_3 sl_111 dX7_interpreter_14 dX7_interpreter_17 dX7_interpreter_18 dX7_interpreter_20 dX7_interpreter_23 (by decide) (Nat.le_of_ble_eq_true rfl) rfl
def e_X7_hearing (p1 : Int32) (p2 : Int32) (m0 : Mem) : Option ((Int32 × Mem) ⊕ (Nat × Mem)) :=
  bnd (f_X3_has 1 p1 m0) fun x2 => (if x2 = 0 then some (.inr (3, m0)) else bnd (f_X7_within p2 0 11 m0) fun x5 => (if x5 = 0 then some (.inr (1, m0)) else bnd (f_X2_ofHearing 1 p1 p2 m0) fun x8 => some (.inl (x8, m0))))
set_option maxRecDepth 100000 in
set_option maxHeartbeats 4000000 in
theorem mx_X7_hearing {p1 : Int32} {p2 : Int32} {m0 : Mem} {oo : (Int32 × Mem) ⊕ (Nat × Mem)} (h : e_X7_hearing p1 p2 m0 = some oo) : ConX yX7_hearing cX7_hearing 3 (some Jvm.ClassFile.FieldType.int) 6 93 (fun G => [.ref (ga G 0), .int p1, .int p2]) m0 (ocI oo) := by
  refine conx_of (by decide) (fun G => Nat.le_of_ble_eq_true rfl) (fun X F FX => ?_)
  show WA X 0 0 0 [(0, .ref (ga X.G 0)), (1, .int p1), (2, .int p2)] [] m0 (EQX X (ocI oo))
  rw [e_X7_hearing] at h
  refine a_aload_n (pc := 0) F dX7_hearing_0 0 rfl ?_
  refine a_getr (k := 0) (r := 1) (pc := 1) F dX7_hearing_1 fl_RX7_10 kl_0 ks_0 rfl ?_
  refine a_getr (k := 1) (r := (1 + 8)) (pc := 4) F dX7_hearing_4 fl_RX7_89 (klC_0 isC_1) (ksC_0 isC_1) rfl ?_
  refine a_iload_n (pc := 7) F dX7_hearing_7 1 rfl ?_
  replace h := bnd_some h
  obtain ⟨x2, hc1, h⟩ := h
  refine a_callV (pc := 8) (k := (1 + 8)) (As := [.int p1]) (st := []) F dX7_hearing_8 (m_X3_has isC_1 hc1) cv_RX7_133 (klC_8 isC_1) (ksC_8 isC_1) ⟨_, _, rfl⟩ rfl rfl rfl (Nat.le_of_ble_eq_true rfl) ⟨Nat.le_of_ble_eq_true rfl, Nat.le_of_ble_eq_true rfl⟩ ?_ rfl rfl
  clear hc1
  refine a_if_ne (tgt := 24) (pc := 11) F dX7_hearing_11 (by decide) (fun q3 => ?_) (fun q3 => ?_)
  · replace h := ite_f q3 h
    clear q3
    refine a_iload_n (pc := 24) F dX7_hearing_24 2 rfl ?_
    refine a_iconst (v := 0) (pc := 25) F dX7_hearing_25 (by decide) ?_
    refine a_bipush (v := 11) (pc := 26) F dX7_hearing_26 (by decide) ?_
    replace h := bnd_some h
    obtain ⟨x5, hc4, h⟩ := h
    refine a_callS (pc := 28) (As := [.int p2, .int 0, .int 11]) (st := []) F dX7_hearing_28 (m_X7_within hc4) cs_RX7_47 rfl rfl rfl (Nat.le_of_ble_eq_true rfl) ⟨Nat.le_of_ble_eq_true rfl, Nat.le_of_ble_eq_true rfl⟩ ?_ rfl rfl
    clear hc4
    refine a_if_ne (tgt := 44) (pc := 31) F dX7_hearing_31 (by decide) (fun q6 => ?_) (fun q6 => ?_)
    · replace h := ite_f q6 h
      clear q6
      refine a_aload_n (pc := 44) F dX7_hearing_44 0 rfl ?_
      refine a_getr (k := 0) (r := 1) (pc := 45) F dX7_hearing_45 fl_RX7_10 kl_0 ks_0 rfl ?_
      refine a_iload_n (pc := 48) F dX7_hearing_48 1 rfl ?_
      refine a_iload_n (pc := 49) F dX7_hearing_49 2 rfl ?_
      replace h := bnd_some h
      obtain ⟨x8, hc7, h⟩ := h
      refine a_callV (pc := 50) (k := 1) (As := [.int p1, .int p2]) (st := []) F dX7_hearing_50 (m_X2_ofHearing isC_1 hc7) cv_RX7_240 (klC_0 isC_1) (ksC_0 isC_1) ⟨_, _, rfl⟩ rfl rfl rfl (Nat.le_of_ble_eq_true rfl) ⟨Nat.le_of_ble_eq_true rfl, Nat.le_of_ble_eq_true rfl⟩ ?_ rfl rfl
      clear hc7
      cases h
      exact x_iret (pc := 53) F dX7_hearing_53 ⟨_, rfl, rfl⟩ rfl
    · replace h := ite_t (Decidable.not_not.mp q6) h
      clear q6
      cases h
      exact x_throw (pc := 34) F FX tw_1 sl_238 dX7_hearing_34 dX7_hearing_37 dX7_hearing_38 dX7_hearing_40 dX7_hearing_43 (by decide) (Nat.le_of_ble_eq_true rfl) rfl
  · replace h := ite_t (Decidable.not_not.mp q3) h
    clear q3
    cases h
    exact x_throw (pc := 14) F FX tw_3 sl_157 dX7_hearing_14 dX7_hearing_17 dX7_hearing_18 dX7_hearing_20 dX7_hearing_23 (by decide) (Nat.le_of_ble_eq_true rfl) rfl
def e_X7_count (p1 : Int32) (m0 : Mem) : Option ((Int32 × Mem) ⊕ (Nat × Mem)) :=
  bnd (f_X7_within p1 0 12 m0) fun x2 => (if x2 = 0 then some (.inr (1, m0)) else (if p1 = 12 then some (.inl (m0.1 39 0, m0)) else bnd (f_X2_numberOf 1 p1 m0) fun x6 => some (.inl (x6, m0))))
set_option maxRecDepth 100000 in
set_option maxHeartbeats 4000000 in
theorem mx_X7_count {p1 : Int32} {m0 : Mem} {oo : (Int32 × Mem) ⊕ (Nat × Mem)} (h : e_X7_count p1 m0 = some oo) : ConX yX7_count cX7_count 2 (some Jvm.ClassFile.FieldType.int) 6 85 (fun G => [.ref (ga G 0), .int p1]) m0 (ocI oo) := by
  refine conx_of (by decide) (fun G => Nat.le_of_ble_eq_true rfl) (fun X F FX => ?_)
  show WA X 0 0 0 [(0, .ref (ga X.G 0)), (1, .int p1)] [] m0 (EQX X (ocI oo))
  rw [e_X7_count] at h
  refine a_iload_n (pc := 0) F dX7_count_0 1 rfl ?_
  refine a_iconst (v := 0) (pc := 1) F dX7_count_1 (by decide) ?_
  refine a_bipush (v := 12) (pc := 2) F dX7_count_2 (by decide) ?_
  replace h := bnd_some h
  obtain ⟨x2, hc1, h⟩ := h
  refine a_callS (pc := 4) (As := [.int p1, .int 0, .int 12]) (st := []) F dX7_count_4 (m_X7_within hc1) cs_RX7_47 rfl rfl rfl (Nat.le_of_ble_eq_true rfl) ⟨Nat.le_of_ble_eq_true rfl, Nat.le_of_ble_eq_true rfl⟩ ?_ rfl rfl
  clear hc1
  refine a_if_ne (tgt := 20) (pc := 7) F dX7_count_7 (by decide) (fun q3 => ?_) (fun q3 => ?_)
  · replace h := ite_f q3 h
    clear q3
    refine a_iload_n (pc := 20) F dX7_count_20 1 rfl ?_
    refine a_bipush (v := 12) (pc := 21) F dX7_count_21 (by decide) ?_
    refine a_icmp_ne (tgt := 36) (pc := 23) F dX7_count_23 (by decide) (fun q4 => ?_) (fun q4 => ?_)
    · replace h := ite_f q4 h
      clear q4
      refine a_aload_n (pc := 36) F dX7_count_36 0 rfl ?_
      refine a_getr (k := 0) (r := 1) (pc := 37) F dX7_count_37 fl_RX7_10 kl_0 ks_0 rfl ?_
      refine a_iload_n (pc := 40) F dX7_count_40 1 rfl ?_
      replace h := bnd_some h
      obtain ⟨x6, hc5, h⟩ := h
      refine a_callV (pc := 41) (k := 1) (As := [.int p1]) (st := []) F dX7_count_41 (m_X2_numberOf isC_1 hc5) cv_RX7_245 (klC_0 isC_1) (ksC_0 isC_1) ⟨_, _, rfl⟩ rfl rfl rfl (Nat.le_of_ble_eq_true rfl) ⟨Nat.le_of_ble_eq_true rfl, Nat.le_of_ble_eq_true rfl⟩ ?_ rfl rfl
      clear hc5
      cases h
      exact x_iret (pc := 44) F dX7_count_44 ⟨_, rfl, rfl⟩ rfl
    · replace h := ite_t (Decidable.not_not.mp q4) h
      clear q4
      refine a_aload_n (pc := 26) F dX7_count_26 0 rfl ?_
      refine a_getr (k := 0) (r := 39) (pc := 27) F dX7_count_27 fl_RX7_22 kl_0 ks_0 rfl ?_
      refine a_geti (k := 39) (pc := 30) F dX7_count_30 fl_RX7_227 kl_39 ks_39 rfl ?_
      refine a_goto (tgt := 44) (pc := 33) F dX7_count_33 (by decide) ?_
      cases h
      exact x_iret (pc := 44) F dX7_count_44 ⟨_, rfl, rfl⟩ rfl
  · replace h := ite_t (Decidable.not_not.mp q3) h
    clear q3
    cases h
    exact x_throw (pc := 10) F FX tw_1 sl_243 dX7_count_10 dX7_count_13 dX7_count_14 dX7_count_16 dX7_count_19 (by decide) (Nat.le_of_ble_eq_true rfl) rfl
