def f_X8_digest_L78 (x24 : Int32) : (Int32 × Mem) → Option ((Int32 × Mem) ⊕ Mem)
  | (x28, m29) => (if 8 ≤ x28 then some (.inr m29) else bnd (f_X8_personNow x24 x28 m29) fun x32 => bnd (f_X8_mix x32.toInt64 m29) fun m34 => nm (x28 + 1) fun x35 => some (.inl (x35, m34)))
def f_X8_digest_L197 : (Int32 × Mem) → Option ((Int32 × Mem) ⊕ Mem)
  | (x76, m77) => (if (m77.1 162 3) ≤ x76 then some (.inr m77) else gIn x76 60 <| nm (m77.1 165 x76.toNatClampNeg) fun x80 => bnd (f_X8_mix x80.toInt64 m77) fun m82 => nm (x76 + 1) fun x83 => some (.inl (x83, m82)))
def f_X8_digest_L154 : (Int32 × Mem) → Option ((Int32 × Mem) ⊕ Mem)
  | (x58, m59) => (if 3 ≤ x58 then some (.inr m59) else bnd (f_X8_missingNow x58 m59) fun x62 => bnd (f_X8_mix x62.toInt64 m59) fun m64 => nm (x58 + 1) fun x65 => some (.inl (x65, m64)))
def f_X8_digest_L121 : (Int32 × Mem) → Option ((Int32 × Mem) ⊕ Mem)
  | (x45, m46) => (if (m46.1 163 8) ≤ x45 then some (.inr m46) else bnd (f_X8_mixHearing x45 m46) fun m49 => nm (x45 + 1) fun x50 => some (.inl (x50, m49)))
def f_X8_digest_L65 : (Int32 × Mem) → Option ((Int32 × Mem) ⊕ Mem)
  | (x24, m25) => (if (m25.1 163 7) ≤ x24 then some (.inr m25) else bnd (lp (f_X8_digest_L78 x24) 1000000 (0, m25)) (fun m36 => bnd2 (f_X8_tiredThen x24 60 m36) fun x38 m39 => bnd (f_X8_mix x38.toInt64 m39) fun m41 => nm (x24 + 1) fun x42 => some (.inl (x42, m41))))
def f_X8_digest_L38 : (Int32 × Mem) → Option ((Int32 × Mem) ⊕ Mem)
  | (x14, m15) => (if 7 ≤ x14 then some (.inr m15) else gIn (0 + x14) 373 <| nm (m15.1 163 (0 + x14).toNatClampNeg) fun x18 => bnd (f_X8_mix x18.toInt64 m15) fun m20 => nm (x14 + 1) fun x21 => some (.inl (x21, m20)))
def f_X8_digest_L14 : (Int32 × Mem) → Option ((Int32 × Mem) ⊕ Mem)
  | (x4, m5) => (if 13 ≤ x4 then some (.inr m5) else bnd (f_X8_counted x4 m5) fun x8 => bnd (f_X8_mix x8.toInt64 m5) fun m10 => nm (x4 + 1) fun x11 => some (.inl (x11, m10)))
def f_X8_digest (m0 : Mem) : Option (Int64 × Mem) :=
  nm (si m0 162 5 0) fun m1 => nm (slm m1 162 16 2399) fun m2 => bnd (lp (f_X8_digest_L14) 1000000 (0, m2)) (fun m12 => bnd (lp (f_X8_digest_L38) 1000000 (0, m12)) (fun m22 => bnd (lp (f_X8_digest_L65) 1000000 (0, m22)) (fun m43 => bnd (lp (f_X8_digest_L121) 1000000 (0, m43)) (fun m51 => bnd2 (f_X8_mannableNow m51) fun x53 m54 => bnd (f_X8_mix x53.toInt64 m54) fun m56 => bnd (lp (f_X8_digest_L154) 1000000 (0, m56)) (fun m66 => bnd (f_X8_share m66) fun z68 => bnd (f_Jxe99ae_doubleToLongBits_ccdee z68 m66) fun y70 => bnd (f_X8_mix y70 m66) fun m72 => bnd (f_X8_mix ((m72.1 162 3).toInt64) m72) fun m74 => bnd (lp (f_X8_digest_L197) 1000000 (0, m74)) (fun m84 => some (m84.2 162 16, m84)))))))
set_option maxRecDepth 100000 in
set_option maxHeartbeats 4000000 in
theorem m_X8_digest {m0 : Mem} {rr : Int64} {mm : Mem} (h : f_X8_digest m0 = some (rr, mm)) : Con yX8_digest cX8_digest 3 (some Jvm.ClassFile.FieldType.long) 10 228 (fun G => [.ref (ga G 162)]) m0 (some (.long rr)) mm := by
  refine con_of (by decide) (fun G => Nat.le_of_ble_eq_true rfl) (fun X F => ?_)
  show WA X 0 0 0 [(0, .ref (ga X.G 162))] [] m0 (EQ X (some (.long rr)) mm)
  rw [f_X8_digest] at h
  refine a_aload_n (pc := 0) F dX8_digest_0 0 rfl ?_
  refine a_iconst (v := 0) (pc := 1) F dX8_digest_1 (by decide) ?_
  refine a_puti (k := 162) (pc := 2) F dX8_digest_2 fp_RX8_31 kl_162 ks_162 rfl ?_
  refine a_nmm fun m1 em1 => ?_
  replace h := nm_at em1 h
  clear em1
  refine a_aload_n (pc := 5) F dX8_digest_5 0 rfl ?_
  refine a_ldc2l (v := 2399) (pc := 6) F dX8_digest_6 cw_RX8_250 ?_
  refine a_putl (k := 162) (pc := 9) F dX8_digest_9 fp_RX8_242 kl_162 ks_162 rfl ?_
  refine a_nmm fun m2 em2 => ?_
  replace h := nm_at em2 h
  clear em2
  refine a_iconst (v := 0) (pc := 12) F dX8_digest_12 (by decide) ?_
  refine a_istore_n (lv' := [(1, .int 0), (0, .ref (ga X.G 162))]) (pc := 13) F dX8_digest_13 (by decide) rfl ?_
  refine a_lv F [1, 0] rfl ?_
  replace h := bnd_some h
  obtain ⟨m12, hL3, h⟩ := h
  have hE3 : WA X 0 0 36 [(0, .ref (ga X.G 162))] [] m12 (EQ X (some (.long rr)) mm) := by
    refine a_iconst (v := 0) (pc := 36) F dX8_digest_36 (by decide) ?_
    refine a_istore_n (lv' := [(1, .int 0), (0, .ref (ga X.G 162))]) (pc := 37) F dX8_digest_37 (by decide) rfl ?_
    refine a_lv F [1, 0] rfl ?_
    replace h := bnd_some h
    obtain ⟨m22, hL13, h⟩ := h
    have hE13 : WA X 0 0 63 [(0, .ref (ga X.G 162))] [] m22 (EQ X (some (.long rr)) mm) := by
      refine a_iconst (v := 0) (pc := 63) F dX8_digest_63 (by decide) ?_
      refine a_istore_n (lv' := [(1, .int 0), (0, .ref (ga X.G 162))]) (pc := 64) F dX8_digest_64 (by decide) rfl ?_
      refine a_lv F [1, 0] rfl ?_
      replace h := bnd_some h
      obtain ⟨m43, hL23, h⟩ := h
      have hE23 : WA X 0 0 119 [(0, .ref (ga X.G 162))] [] m43 (EQ X (some (.long rr)) mm) := by
        refine a_iconst (v := 0) (pc := 119) F dX8_digest_119 (by decide) ?_
        refine a_istore_n (lv' := [(1, .int 0), (0, .ref (ga X.G 162))]) (pc := 120) F dX8_digest_120 (by decide) rfl ?_
        refine a_lv F [1, 0] rfl ?_
        replace h := bnd_some h
        obtain ⟨m51, hL44, h⟩ := h
        have hE44 : WA X 0 0 143 [(0, .ref (ga X.G 162))] [] m51 (EQ X (some (.long rr)) mm) := by
          refine a_aload_n (pc := 143) F dX8_digest_143 0 rfl ?_
          refine a_aload_n (pc := 144) F dX8_digest_144 0 rfl ?_
          replace h := bnd2_some h
          obtain ⟨x53, m54, hc52, h⟩ := h
          refine a_callV (pc := 145) (k := 162) (As := []) (st := [.ref (ga X.G 162)]) F dX8_digest_145 (m_X8_mannableNow hc52) cv_RX8_230 kl_162 ks_162 ⟨_, _, rfl⟩ rfl rfl rfl (Nat.le_of_ble_eq_true rfl) ⟨Nat.le_of_ble_eq_true rfl, Nat.le_of_ble_eq_true rfl⟩ ?_ rfl rfl
          clear hc52
          refine a_i2l (pc := 148) F dX8_digest_148 ?_
          replace h := bnd_some h
          obtain ⟨m56, hc55, h⟩ := h
          refine a_callV (pc := 149) (k := 162) (As := [.long x53.toInt64]) (st := []) F dX8_digest_149 (m_X8_mix hc55) cv_RX8_246 kl_162 ks_162 ⟨_, _, rfl⟩ rfl rfl rfl (Nat.le_of_ble_eq_true rfl) ⟨Nat.le_of_ble_eq_true rfl, Nat.le_of_ble_eq_true rfl⟩ ?_ rfl rfl
          clear hc55
          refine a_iconst (v := 0) (pc := 152) F dX8_digest_152 (by decide) ?_
          refine a_istore_n (lv' := [(1, .int 0), (0, .ref (ga X.G 162))]) (pc := 153) F dX8_digest_153 (by decide) rfl ?_
          refine a_lv F [1, 0] rfl ?_
          replace h := bnd_some h
          obtain ⟨m66, hL57, h⟩ := h
          have hE57 : WA X 0 0 175 [(0, .ref (ga X.G 162))] [] m66 (EQ X (some (.long rr)) mm) := by
            refine a_aload_n (pc := 175) F dX8_digest_175 0 rfl ?_
            refine a_aload_n (pc := 176) F dX8_digest_176 0 rfl ?_
            replace h := bnd_some h
            obtain ⟨z68, hc67, h⟩ := h
            refine a_callV (pc := 177) (k := 162) (As := []) (st := [.ref (ga X.G 162)]) F dX8_digest_177 (m_X8_share hc67) cv_RX8_236 kl_162 ks_162 ⟨_, _, rfl⟩ rfl rfl rfl (Nat.le_of_ble_eq_true rfl) ⟨Nat.le_of_ble_eq_true rfl, Nat.le_of_ble_eq_true rfl⟩ ?_ rfl rfl
            clear hc67
            replace h := bnd_some h
            obtain ⟨y70, hc69, h⟩ := h
            refine a_callS (pc := 180) (As := [.double z68]) (st := [.ref (ga X.G 162)]) F dX8_digest_180 (m_Jxe99ae_doubleToLongBits_ccdee hc69) cs_RX8_255 rfl rfl rfl (Nat.le_of_ble_eq_true rfl) ⟨Nat.le_of_ble_eq_true rfl, Nat.le_of_ble_eq_true rfl⟩ ?_ rfl rfl
            clear hc69
            replace h := bnd_some h
            obtain ⟨m72, hc71, h⟩ := h
            refine a_callV (pc := 183) (k := 162) (As := [.long y70]) (st := []) F dX8_digest_183 (m_X8_mix hc71) cv_RX8_246 kl_162 ks_162 ⟨_, _, rfl⟩ rfl rfl rfl (Nat.le_of_ble_eq_true rfl) ⟨Nat.le_of_ble_eq_true rfl, Nat.le_of_ble_eq_true rfl⟩ ?_ rfl rfl
            clear hc71
            refine a_aload_n (pc := 186) F dX8_digest_186 0 rfl ?_
            refine a_aload_n (pc := 187) F dX8_digest_187 0 rfl ?_
            refine a_geti (k := 162) (pc := 188) F dX8_digest_188 fl_RX8_153 kl_162 ks_162 rfl ?_
            refine a_i2l (pc := 191) F dX8_digest_191 ?_
            replace h := bnd_some h
            obtain ⟨m74, hc73, h⟩ := h
            refine a_callV (pc := 192) (k := 162) (As := [.long ((m72.1 162 3).toInt64)]) (st := []) F dX8_digest_192 (m_X8_mix hc73) cv_RX8_246 kl_162 ks_162 ⟨_, _, rfl⟩ rfl rfl rfl (Nat.le_of_ble_eq_true rfl) ⟨Nat.le_of_ble_eq_true rfl, Nat.le_of_ble_eq_true rfl⟩ ?_ rfl rfl
            clear hc73
            refine a_iconst (v := 0) (pc := 195) F dX8_digest_195 (by decide) ?_
            refine a_istore_n (lv' := [(1, .int 0), (0, .ref (ga X.G 162))]) (pc := 196) F dX8_digest_196 (by decide) rfl ?_
            refine a_lv F [1, 0] rfl ?_
            replace h := bnd_some h
            obtain ⟨m84, hL75, h⟩ := h
            have hE75 : WA X 0 0 222 [(0, .ref (ga X.G 162))] [] m84 (EQ X (some (.long rr)) mm) := by
              refine a_aload_n (pc := 222) F dX8_digest_222 0 rfl ?_
              refine a_getl (k := 162) (pc := 223) F dX8_digest_223 fl_RX8_242 kl_162 ks_162 rfl ?_
              cases h
              exact a_lret (pc := 226) F dX8_digest_226 rfl
            clear h
            refine lp_run (P := fun (s : (Int32 × Mem)) => WA X 0 0 197 [(0, .ref (ga X.G 162)), (1, .int s.1)] [] s.2 (EQ X (some (.long rr)) mm)) ?_ _ _ hL75
            clear hL75
            rintro ⟨x76, m77⟩ xo h hP75 hT75
            show WA X 0 0 197 [(0, .ref (ga X.G 162)), (1, .int x76)] [] m77 (EQ X (some (.long rr)) mm)
            rw [f_X8_digest_L197] at h
            refine a_iload_n (pc := 197) F dX8_digest_197 1 rfl ?_
            refine a_aload_n (pc := 198) F dX8_digest_198 0 rfl ?_
            refine a_geti (k := 162) (pc := 199) F dX8_digest_199 fl_RX8_153 kl_162 ks_162 rfl ?_
            refine a_icmp_ge (tgt := 222) (pc := 202) F dX8_digest_202 (by decide) (fun q78 => ?_) (fun q78 => ?_)
            · replace h := ite_t q78 h
              clear q78
              refine a_lv F [0] rfl ?_
              cases hT75 _ (Option.some.inj h).symm
              exact hE75
            · replace h := ite_f q78 h
              clear q78
              refine a_aload_n (pc := 205) F dX8_digest_205 0 rfl ?_
              refine a_aload_n (pc := 206) F dX8_digest_206 0 rfl ?_
              refine a_getr (k := 162) (r := 165) (pc := 207) F dX8_digest_207 fl_RX8_16 kl_162 ks_162 rfl ?_
              refine a_iload_n (pc := 210) F dX8_digest_210 1 rfl ?_
              replace h := gIn_some h
              obtain ⟨g79, h⟩ := h
              refine a_ial (k := 165) (pc := 211) F dX8_digest_211 kl_165 ks_165 g79 ?_
              refine a_nmi fun x80 ex80 => ?_
              replace h := nm_at ex80 h
              clear ex80
              refine a_i2l (pc := 212) F dX8_digest_212 ?_
              replace h := bnd_some h
              obtain ⟨m82, hc81, h⟩ := h
              refine a_callV (pc := 213) (k := 162) (As := [.long x80.toInt64]) (st := []) F dX8_digest_213 (m_X8_mix hc81) cv_RX8_246 kl_162 ks_162 ⟨_, _, rfl⟩ rfl rfl rfl (Nat.le_of_ble_eq_true rfl) ⟨Nat.le_of_ble_eq_true rfl, Nat.le_of_ble_eq_true rfl⟩ ?_ rfl rfl
              clear hc81
              obtain ⟨x83, ex83⟩ : ∃ x83 : Int32, x83 = x76 + 1 := ⟨_, rfl⟩
              refine a_iinc (v := x83) (lv' := [(1, .int x83), (0, .ref (ga X.G 162))]) (pc := 216) F dX8_digest_216 1 rfl (by rw [ex83]; rfl) (by decide) rfl ?_
              replace h := nm_at ex83 h
              clear ex83
              refine a_goto (tgt := 197) (pc := 219) F dX8_digest_219 (by decide) ?_
              refine a_lv F [1, 0] rfl ?_
              exact hP75 _ (Option.some.inj h).symm
          clear h
          refine lp_run (P := fun (s : (Int32 × Mem)) => WA X 0 0 154 [(0, .ref (ga X.G 162)), (1, .int s.1)] [] s.2 (EQ X (some (.long rr)) mm)) ?_ _ _ hL57
          clear hL57
          rintro ⟨x58, m59⟩ xo h hP57 hT57
          show WA X 0 0 154 [(0, .ref (ga X.G 162)), (1, .int x58)] [] m59 (EQ X (some (.long rr)) mm)
          rw [f_X8_digest_L154] at h
          refine a_iload_n (pc := 154) F dX8_digest_154 1 rfl ?_
          refine a_iconst (v := 3) (pc := 155) F dX8_digest_155 (by decide) ?_
          refine a_icmp_ge (tgt := 175) (pc := 156) F dX8_digest_156 (by decide) (fun q60 => ?_) (fun q60 => ?_)
          · replace h := ite_t q60 h
            clear q60
            refine a_lv F [0] rfl ?_
            cases hT57 _ (Option.some.inj h).symm
            exact hE57
          · replace h := ite_f q60 h
            clear q60
            refine a_aload_n (pc := 159) F dX8_digest_159 0 rfl ?_
            refine a_aload_n (pc := 160) F dX8_digest_160 0 rfl ?_
            refine a_iload_n (pc := 161) F dX8_digest_161 1 rfl ?_
            replace h := bnd_some h
            obtain ⟨x62, hc61, h⟩ := h
            refine a_callV (pc := 162) (k := 162) (As := [.int x58]) (st := [.ref (ga X.G 162)]) F dX8_digest_162 (m_X8_missingNow hc61) cv_RX8_233 kl_162 ks_162 ⟨_, _, rfl⟩ rfl rfl rfl (Nat.le_of_ble_eq_true rfl) ⟨Nat.le_of_ble_eq_true rfl, Nat.le_of_ble_eq_true rfl⟩ ?_ rfl rfl
            clear hc61
            refine a_i2l (pc := 165) F dX8_digest_165 ?_
            replace h := bnd_some h
            obtain ⟨m64, hc63, h⟩ := h
            refine a_callV (pc := 166) (k := 162) (As := [.long x62.toInt64]) (st := []) F dX8_digest_166 (m_X8_mix hc63) cv_RX8_246 kl_162 ks_162 ⟨_, _, rfl⟩ rfl rfl rfl (Nat.le_of_ble_eq_true rfl) ⟨Nat.le_of_ble_eq_true rfl, Nat.le_of_ble_eq_true rfl⟩ ?_ rfl rfl
            clear hc63
            obtain ⟨x65, ex65⟩ : ∃ x65 : Int32, x65 = x58 + 1 := ⟨_, rfl⟩
            refine a_iinc (v := x65) (lv' := [(1, .int x65), (0, .ref (ga X.G 162))]) (pc := 169) F dX8_digest_169 1 rfl (by rw [ex65]; rfl) (by decide) rfl ?_
            replace h := nm_at ex65 h
            clear ex65
            refine a_goto (tgt := 154) (pc := 172) F dX8_digest_172 (by decide) ?_
            refine a_lv F [1, 0] rfl ?_
            exact hP57 _ (Option.some.inj h).symm
        clear h
        refine lp_run (P := fun (s : (Int32 × Mem)) => WA X 0 0 121 [(0, .ref (ga X.G 162)), (1, .int s.1)] [] s.2 (EQ X (some (.long rr)) mm)) ?_ _ _ hL44
        clear hL44
        rintro ⟨x45, m46⟩ xo h hP44 hT44
        show WA X 0 0 121 [(0, .ref (ga X.G 162)), (1, .int x45)] [] m46 (EQ X (some (.long rr)) mm)
        rw [f_X8_digest_L121] at h
        refine a_iload_n (pc := 121) F dX8_digest_121 1 rfl ?_
        refine a_aload_n (pc := 122) F dX8_digest_122 0 rfl ?_
        refine a_getr (k := 162) (r := 163) (pc := 123) F dX8_digest_123 fl_RX8_7 kl_162 ks_162 rfl ?_
        refine a_bipush (v := 8) (pc := 126) F dX8_digest_126 (by decide) ?_
        refine a_ialc (k := 163) (pc := 128) F dX8_digest_128 kl_163 ks_163 rfl rfl ?_
        refine a_icmp_ge (tgt := 143) (pc := 129) F dX8_digest_129 (by decide) (fun q47 => ?_) (fun q47 => ?_)
        · replace h := ite_t q47 h
          clear q47
          refine a_lv F [0] rfl ?_
          cases hT44 _ (Option.some.inj h).symm
          exact hE44
        · replace h := ite_f q47 h
          clear q47
          refine a_aload_n (pc := 132) F dX8_digest_132 0 rfl ?_
          refine a_iload_n (pc := 133) F dX8_digest_133 1 rfl ?_
          replace h := bnd_some h
          obtain ⟨m49, hc48, h⟩ := h
          refine a_callV (pc := 134) (k := 162) (As := [.int x45]) (st := []) F dX8_digest_134 (m_X8_mixHearing hc48) cv_RX8_252 kl_162 ks_162 ⟨_, _, rfl⟩ rfl rfl rfl (Nat.le_of_ble_eq_true rfl) ⟨Nat.le_of_ble_eq_true rfl, Nat.le_of_ble_eq_true rfl⟩ ?_ rfl rfl
          clear hc48
          obtain ⟨x50, ex50⟩ : ∃ x50 : Int32, x50 = x45 + 1 := ⟨_, rfl⟩
          refine a_iinc (v := x50) (lv' := [(1, .int x50), (0, .ref (ga X.G 162))]) (pc := 137) F dX8_digest_137 1 rfl (by rw [ex50]; rfl) (by decide) rfl ?_
          replace h := nm_at ex50 h
          clear ex50
          refine a_goto (tgt := 121) (pc := 140) F dX8_digest_140 (by decide) ?_
          refine a_lv F [1, 0] rfl ?_
          exact hP44 _ (Option.some.inj h).symm
      clear h
      refine lp_run (P := fun (s : (Int32 × Mem)) => WA X 0 0 65 [(0, .ref (ga X.G 162)), (1, .int s.1)] [] s.2 (EQ X (some (.long rr)) mm)) ?_ _ _ hL23
      clear hL23
      rintro ⟨x24, m25⟩ xo h hP23 hT23
      show WA X 0 0 65 [(0, .ref (ga X.G 162)), (1, .int x24)] [] m25 (EQ X (some (.long rr)) mm)
      rw [f_X8_digest_L65] at h
      refine a_iload_n (pc := 65) F dX8_digest_65 1 rfl ?_
      refine a_aload_n (pc := 66) F dX8_digest_66 0 rfl ?_
      refine a_getr (k := 162) (r := 163) (pc := 67) F dX8_digest_67 fl_RX8_7 kl_162 ks_162 rfl ?_
      refine a_bipush (v := 7) (pc := 70) F dX8_digest_70 (by decide) ?_
      refine a_ialc (k := 163) (pc := 72) F dX8_digest_72 kl_163 ks_163 rfl rfl ?_
      refine a_icmp_ge (tgt := 119) (pc := 73) F dX8_digest_73 (by decide) (fun q26 => ?_) (fun q26 => ?_)
      · replace h := ite_t q26 h
        clear q26
        refine a_lv F [0] rfl ?_
        cases hT23 _ (Option.some.inj h).symm
        exact hE23
      · replace h := ite_f q26 h
        clear q26
        refine a_iconst (v := 0) (pc := 76) F dX8_digest_76 (by decide) ?_
        refine a_istore_n (lv' := [(2, .int 0), (0, .ref (ga X.G 162)), (1, .int x24)]) (pc := 77) F dX8_digest_77 (by decide) rfl ?_
        refine a_lv F [1, 2, 0] rfl ?_
        replace h := bnd_some h
        obtain ⟨m36, hL27, h⟩ := h
        have hE27 : WA X 0 0 101 [(0, .ref (ga X.G 162)), (1, .int x24)] [] m36 (EQ X (some (.long rr)) mm) := by
          refine a_aload_n (pc := 101) F dX8_digest_101 0 rfl ?_
          refine a_aload_n (pc := 102) F dX8_digest_102 0 rfl ?_
          refine a_iload_n (pc := 103) F dX8_digest_103 1 rfl ?_
          refine a_bipush (v := 60) (pc := 104) F dX8_digest_104 (by decide) ?_
          replace h := bnd2_some h
          obtain ⟨x38, m39, hc37, h⟩ := h
          refine a_callV (pc := 106) (k := 162) (As := [.int x24, .int 60]) (st := [.ref (ga X.G 162)]) F dX8_digest_106 (m_X8_tiredThen hc37) cv_RX8_224 kl_162 ks_162 ⟨_, _, rfl⟩ rfl rfl rfl (Nat.le_of_ble_eq_true rfl) ⟨Nat.le_of_ble_eq_true rfl, Nat.le_of_ble_eq_true rfl⟩ ?_ rfl rfl
          clear hc37
          refine a_i2l (pc := 109) F dX8_digest_109 ?_
          replace h := bnd_some h
          obtain ⟨m41, hc40, h⟩ := h
          refine a_callV (pc := 110) (k := 162) (As := [.long x38.toInt64]) (st := []) F dX8_digest_110 (m_X8_mix hc40) cv_RX8_246 kl_162 ks_162 ⟨_, _, rfl⟩ rfl rfl rfl (Nat.le_of_ble_eq_true rfl) ⟨Nat.le_of_ble_eq_true rfl, Nat.le_of_ble_eq_true rfl⟩ ?_ rfl rfl
          clear hc40
          obtain ⟨x42, ex42⟩ : ∃ x42 : Int32, x42 = x24 + 1 := ⟨_, rfl⟩
          refine a_iinc (v := x42) (lv' := [(1, .int x42), (0, .ref (ga X.G 162))]) (pc := 113) F dX8_digest_113 1 rfl (by rw [ex42]; rfl) (by decide) rfl ?_
          replace h := nm_at ex42 h
          clear ex42
          refine a_goto (tgt := 65) (pc := 116) F dX8_digest_116 (by decide) ?_
          refine a_lv F [1, 0] rfl ?_
          exact hP23 _ (Option.some.inj h).symm
        clear h
        refine lp_run (P := fun (s : (Int32 × Mem)) => WA X 0 0 78 [(0, .ref (ga X.G 162)), (1, .int x24), (2, .int s.1)] [] s.2 (EQ X (some (.long rr)) mm)) ?_ _ _ hL27
        clear hL27
        rintro ⟨x28, m29⟩ xo h hP27 hT27
        show WA X 0 0 78 [(0, .ref (ga X.G 162)), (1, .int x24), (2, .int x28)] [] m29 (EQ X (some (.long rr)) mm)
        rw [f_X8_digest_L78] at h
        refine a_iload_n (pc := 78) F dX8_digest_78 2 rfl ?_
        refine a_bipush (v := 8) (pc := 79) F dX8_digest_79 (by decide) ?_
        refine a_icmp_ge (tgt := 101) (pc := 81) F dX8_digest_81 (by decide) (fun q30 => ?_) (fun q30 => ?_)
        · replace h := ite_t q30 h
          clear q30
          refine a_lv F [0, 1] rfl ?_
          cases hT27 _ (Option.some.inj h).symm
          exact hE27
        · replace h := ite_f q30 h
          clear q30
          refine a_aload_n (pc := 84) F dX8_digest_84 0 rfl ?_
          refine a_aload_n (pc := 85) F dX8_digest_85 0 rfl ?_
          refine a_iload_n (pc := 86) F dX8_digest_86 1 rfl ?_
          refine a_iload_n (pc := 87) F dX8_digest_87 2 rfl ?_
          replace h := bnd_some h
          obtain ⟨x32, hc31, h⟩ := h
          refine a_callV (pc := 88) (k := 162) (As := [.int x24, .int x28]) (st := [.ref (ga X.G 162)]) F dX8_digest_88 (m_X8_personNow hc31) cv_RX8_183 kl_162 ks_162 ⟨_, _, rfl⟩ rfl rfl rfl (Nat.le_of_ble_eq_true rfl) ⟨Nat.le_of_ble_eq_true rfl, Nat.le_of_ble_eq_true rfl⟩ ?_ rfl rfl
          clear hc31
          refine a_i2l (pc := 91) F dX8_digest_91 ?_
          replace h := bnd_some h
          obtain ⟨m34, hc33, h⟩ := h
          refine a_callV (pc := 92) (k := 162) (As := [.long x32.toInt64]) (st := []) F dX8_digest_92 (m_X8_mix hc33) cv_RX8_246 kl_162 ks_162 ⟨_, _, rfl⟩ rfl rfl rfl (Nat.le_of_ble_eq_true rfl) ⟨Nat.le_of_ble_eq_true rfl, Nat.le_of_ble_eq_true rfl⟩ ?_ rfl rfl
          clear hc33
          obtain ⟨x35, ex35⟩ : ∃ x35 : Int32, x35 = x28 + 1 := ⟨_, rfl⟩
          refine a_iinc (v := x35) (lv' := [(2, .int x35), (0, .ref (ga X.G 162)), (1, .int x24)]) (pc := 95) F dX8_digest_95 2 rfl (by rw [ex35]; rfl) (by decide) rfl ?_
          replace h := nm_at ex35 h
          clear ex35
          refine a_goto (tgt := 78) (pc := 98) F dX8_digest_98 (by decide) ?_
          refine a_lv F [1, 2, 0] rfl ?_
          exact hP27 _ (Option.some.inj h).symm
    clear h
    refine lp_run (P := fun (s : (Int32 × Mem)) => WA X 0 0 38 [(0, .ref (ga X.G 162)), (1, .int s.1)] [] s.2 (EQ X (some (.long rr)) mm)) ?_ _ _ hL13
    clear hL13
    rintro ⟨x14, m15⟩ xo h hP13 hT13
    show WA X 0 0 38 [(0, .ref (ga X.G 162)), (1, .int x14)] [] m15 (EQ X (some (.long rr)) mm)
    rw [f_X8_digest_L38] at h
    refine a_iload_n (pc := 38) F dX8_digest_38 1 rfl ?_
    refine a_bipush (v := 7) (pc := 39) F dX8_digest_39 (by decide) ?_
    refine a_icmp_ge (tgt := 63) (pc := 41) F dX8_digest_41 (by decide) (fun q16 => ?_) (fun q16 => ?_)
    · replace h := ite_t q16 h
      clear q16
      refine a_lv F [0] rfl ?_
      cases hT13 _ (Option.some.inj h).symm
      exact hE13
    · replace h := ite_f q16 h
      clear q16
      refine a_aload_n (pc := 44) F dX8_digest_44 0 rfl ?_
      refine a_aload_n (pc := 45) F dX8_digest_45 0 rfl ?_
      refine a_getr (k := 162) (r := 163) (pc := 46) F dX8_digest_46 fl_RX8_7 kl_162 ks_162 rfl ?_
      refine a_iconst (v := 0) (pc := 49) F dX8_digest_49 (by decide) ?_
      refine a_iload_n (pc := 50) F dX8_digest_50 1 rfl ?_
      refine a_iadd (pc := 51) F dX8_digest_51 ?_
      replace h := gIn_some h
      obtain ⟨g17, h⟩ := h
      refine a_ial (k := 163) (pc := 52) F dX8_digest_52 kl_163 ks_163 g17 ?_
      refine a_nmi fun x18 ex18 => ?_
      replace h := nm_at ex18 h
      clear ex18
      refine a_i2l (pc := 53) F dX8_digest_53 ?_
      replace h := bnd_some h
      obtain ⟨m20, hc19, h⟩ := h
      refine a_callV (pc := 54) (k := 162) (As := [.long x18.toInt64]) (st := []) F dX8_digest_54 (m_X8_mix hc19) cv_RX8_246 kl_162 ks_162 ⟨_, _, rfl⟩ rfl rfl rfl (Nat.le_of_ble_eq_true rfl) ⟨Nat.le_of_ble_eq_true rfl, Nat.le_of_ble_eq_true rfl⟩ ?_ rfl rfl
      clear hc19
      obtain ⟨x21, ex21⟩ : ∃ x21 : Int32, x21 = x14 + 1 := ⟨_, rfl⟩
      refine a_iinc (v := x21) (lv' := [(1, .int x21), (0, .ref (ga X.G 162))]) (pc := 57) F dX8_digest_57 1 rfl (by rw [ex21]; rfl) (by decide) rfl ?_
      replace h := nm_at ex21 h
      clear ex21
      refine a_goto (tgt := 38) (pc := 60) F dX8_digest_60 (by decide) ?_
      refine a_lv F [1, 0] rfl ?_
      exact hP13 _ (Option.some.inj h).symm
  clear h
  refine lp_run (P := fun (s : (Int32 × Mem)) => WA X 0 0 14 [(0, .ref (ga X.G 162)), (1, .int s.1)] [] s.2 (EQ X (some (.long rr)) mm)) ?_ _ _ hL3
  clear hL3
  rintro ⟨x4, m5⟩ xo h hP3 hT3
  show WA X 0 0 14 [(0, .ref (ga X.G 162)), (1, .int x4)] [] m5 (EQ X (some (.long rr)) mm)
  rw [f_X8_digest_L14] at h
  refine a_iload_n (pc := 14) F dX8_digest_14 1 rfl ?_
  refine a_bipush (v := 13) (pc := 15) F dX8_digest_15 (by decide) ?_
  refine a_icmp_ge (tgt := 36) (pc := 17) F dX8_digest_17 (by decide) (fun q6 => ?_) (fun q6 => ?_)
  · replace h := ite_t q6 h
    clear q6
    refine a_lv F [0] rfl ?_
    cases hT3 _ (Option.some.inj h).symm
    exact hE3
  · replace h := ite_f q6 h
    clear q6
    refine a_aload_n (pc := 20) F dX8_digest_20 0 rfl ?_
    refine a_aload_n (pc := 21) F dX8_digest_21 0 rfl ?_
    refine a_iload_n (pc := 22) F dX8_digest_22 1 rfl ?_
    replace h := bnd_some h
    obtain ⟨x8, hc7, h⟩ := h
    refine a_callV (pc := 23) (k := 162) (As := [.int x4]) (st := [.ref (ga X.G 162)]) F dX8_digest_23 (m_X8_counted hc7) cv_RX8_199 kl_162 ks_162 ⟨_, _, rfl⟩ rfl rfl rfl (Nat.le_of_ble_eq_true rfl) ⟨Nat.le_of_ble_eq_true rfl, Nat.le_of_ble_eq_true rfl⟩ ?_ rfl rfl
    clear hc7
    refine a_i2l (pc := 26) F dX8_digest_26 ?_
    replace h := bnd_some h
    obtain ⟨m10, hc9, h⟩ := h
    refine a_callV (pc := 27) (k := 162) (As := [.long x8.toInt64]) (st := []) F dX8_digest_27 (m_X8_mix hc9) cv_RX8_246 kl_162 ks_162 ⟨_, _, rfl⟩ rfl rfl rfl (Nat.le_of_ble_eq_true rfl) ⟨Nat.le_of_ble_eq_true rfl, Nat.le_of_ble_eq_true rfl⟩ ?_ rfl rfl
    clear hc9
    obtain ⟨x11, ex11⟩ : ∃ x11 : Int32, x11 = x4 + 1 := ⟨_, rfl⟩
    refine a_iinc (v := x11) (lv' := [(1, .int x11), (0, .ref (ga X.G 162))]) (pc := 30) F dX8_digest_30 1 rfl (by rw [ex11]; rfl) (by decide) rfl ?_
    replace h := nm_at ex11 h
    clear ex11
    refine a_goto (tgt := 14) (pc := 33) F dX8_digest_33 (by decide) ?_
    refine a_lv F [1, 0] rfl ?_
    exact hP3 _ (Option.some.inj h).symm
