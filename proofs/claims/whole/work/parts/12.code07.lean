def f_X8_digest_L78 (x24 : Int32) : (Int32 × Mem) → Option ((Int32 × Mem) ⊕ Mem)
  | (x29, m30) => (if 8 ≤ x29 then some (.inr m30) else bnd (f_X8_personNow x24 x29 m30) fun x33 => bnd (f_X8_mix x33.toInt64 m30) fun m35 => nm (x29 + 1) fun x36 => some (.inl (x36, m35)))
def f_X8_digest_L197 : (Int32 × Mem) → Option ((Int32 × Mem) ⊕ Mem)
  | (x78, m79) => (if (m79.1 162 3) ≤ x78 then some (.inr m79) else gIn x78 60 <| nm (m79.1 165 x78.toNatClampNeg) fun x82 => bnd (f_X8_mix x82.toInt64 m79) fun m84 => nm (x78 + 1) fun x85 => some (.inl (x85, m84)))
def f_X8_digest_L154 : (Int32 × Mem) → Option ((Int32 × Mem) ⊕ Mem)
  | (x60, m61) => (if 3 ≤ x60 then some (.inr m61) else bnd (f_X8_missingNow x60 m61) fun x64 => bnd (f_X8_mix x64.toInt64 m61) fun m66 => nm (x60 + 1) fun x67 => some (.inl (x67, m66)))
def f_X8_digest_L121 : (Int32 × Mem) → Option ((Int32 × Mem) ⊕ Mem)
  | (x46, m47) => nm (m47.1 163 (8 : Int32).toNatClampNeg) fun x48 => (if x48 ≤ x46 then some (.inr m47) else bnd (f_X8_mixHearing x46 m47) fun m51 => nm (x46 + 1) fun x52 => some (.inl (x52, m51)))
def f_X8_digest_L65 : (Int32 × Mem) → Option ((Int32 × Mem) ⊕ Mem)
  | (x24, m25) => nm (m25.1 163 (7 : Int32).toNatClampNeg) fun x26 => (if x26 ≤ x24 then some (.inr m25) else bnd (lp (f_X8_digest_L78 x24) 1000000 (0, m25)) (fun m37 => bnd2 (f_X8_tiredThen x24 60 m37) fun x39 m40 => bnd (f_X8_mix x39.toInt64 m40) fun m42 => nm (x24 + 1) fun x43 => some (.inl (x43, m42))))
def f_X8_digest_L38 : (Int32 × Mem) → Option ((Int32 × Mem) ⊕ Mem)
  | (x14, m15) => (if 7 ≤ x14 then some (.inr m15) else gIn (0 + x14) 373 <| nm (m15.1 163 (0 + x14).toNatClampNeg) fun x18 => bnd (f_X8_mix x18.toInt64 m15) fun m20 => nm (x14 + 1) fun x21 => some (.inl (x21, m20)))
def f_X8_digest_L14 : (Int32 × Mem) → Option ((Int32 × Mem) ⊕ Mem)
  | (x4, m5) => (if 13 ≤ x4 then some (.inr m5) else bnd (f_X8_counted x4 m5) fun x8 => bnd (f_X8_mix x8.toInt64 m5) fun m10 => nm (x4 + 1) fun x11 => some (.inl (x11, m10)))
def f_X8_digest (m0 : Mem) : Option (Int64 × Mem) :=
  nm (si m0 162 5 0) fun m1 => nm (slm m1 162 16 2399) fun m2 => bnd (lp (f_X8_digest_L14) 1000000 (0, m2)) (fun m12 => bnd (lp (f_X8_digest_L38) 1000000 (0, m12)) (fun m22 => bnd (lp (f_X8_digest_L65) 1000000 (0, m22)) (fun m44 => bnd (lp (f_X8_digest_L121) 1000000 (0, m44)) (fun m53 => bnd2 (f_X8_mannableNow m53) fun x55 m56 => bnd (f_X8_mix x55.toInt64 m56) fun m58 => bnd (lp (f_X8_digest_L154) 1000000 (0, m58)) (fun m68 => bnd (f_X8_share m68) fun z70 => bnd (f_Jxe99ae_doubleToLongBits_ccdee z70 m68) fun y72 => bnd (f_X8_mix y72 m68) fun m74 => bnd (f_X8_mix ((m74.1 162 3).toInt64) m74) fun m76 => bnd (lp (f_X8_digest_L197) 1000000 (0, m76)) (fun m86 => some (m86.2 162 16, m86)))))))
set_option maxRecDepth 100000 in
set_option maxHeartbeats 4000000 in
theorem m_X8_digest {m0 : Mem} {rr : Int64} {mm : Mem} (h : f_X8_digest m0 = some (rr, mm)) : Con yX8_digest cX8_digest 3 (some Jvm.ClassFile.FieldType.long) 10 228 (fun G => [.ref (ga G 162)]) m0 (some (.long rr)) mm := by
  refine con_of (lv := []) (by decide) (fun G => Nat.le_of_ble_eq_true rfl) (fun X F => ?_)
  show WA X 0 0 0 [(0, .ref (ga X.G 162))] [] m0 (EQ X (some (.long rr)) mm)
  rw [f_X8_digest] at h
  refine a_aload_n (pc := 0) F dX8_digest_0 0 rfl ?_
  refine a_iconst (v := 0) (pc := 1) F dX8_digest_1 (by decide) ?_
  refine a_puti (k := 162) (pc := 2) F dX8_digest_2 fp_RX8_31 kl_162 ks_162 rfl ?_
  refine a_nmm fun m1 em1 => ?_
  replace h := nm_at em1 h
  clear em1
  refine a_aload_n (pc := 5) F dX8_digest_5 0 rfl ?_
  refine a_ldc2l (v := 2399) (pc := 6) F dX8_digest_6 cw_RX8_250 ?_
  refine a_putl (k := 162) (pc := 9) F dX8_digest_9 fp_RX8_242 kl_162 ks_162 rfl ?_
  refine a_nmm fun m2 em2 => ?_
  replace h := nm_at em2 h
  clear em2
  refine a_iconst (v := 0) (pc := 12) F dX8_digest_12 (by decide) ?_
  refine a_istore_n (lv' := [(1, .int 0), (0, .ref (ga X.G 162))]) (pc := 13) F dX8_digest_13 (by decide) rfl ?_
  refine a_lv F [1, 0] rfl ?_
  replace h := bnd_some h
  obtain ⟨m12, hL3, h⟩ := h
  have hE3 : WA X 0 0 36 [(0, .ref (ga X.G 162))] [] m12 (EQ X (some (.long rr)) mm) := by
    refine a_iconst (v := 0) (pc := 36) F dX8_digest_36 (by decide) ?_
    refine a_istore_n (lv' := [(1, .int 0), (0, .ref (ga X.G 162))]) (pc := 37) F dX8_digest_37 (by decide) rfl ?_
    refine a_lv F [1, 0] rfl ?_
    replace h := bnd_some h
    obtain ⟨m22, hL13, h⟩ := h
    have hE13 : WA X 0 0 63 [(0, .ref (ga X.G 162))] [] m22 (EQ X (some (.long rr)) mm) := by
      refine a_iconst (v := 0) (pc := 63) F dX8_digest_63 (by decide) ?_
      refine a_istore_n (lv' := [(1, .int 0), (0, .ref (ga X.G 162))]) (pc := 64) F dX8_digest_64 (by decide) rfl ?_
      refine a_lv F [1, 0] rfl ?_
      replace h := bnd_some h
      obtain ⟨m44, hL23, h⟩ := h
      have hE23 : WA X 0 0 119 [(0, .ref (ga X.G 162))] [] m44 (EQ X (some (.long rr)) mm) := by
        refine a_iconst (v := 0) (pc := 119) F dX8_digest_119 (by decide) ?_
        refine a_istore_n (lv' := [(1, .int 0), (0, .ref (ga X.G 162))]) (pc := 120) F dX8_digest_120 (by decide) rfl ?_
        refine a_lv F [1, 0] rfl ?_
        replace h := bnd_some h
        obtain ⟨m53, hL45, h⟩ := h
        have hE45 : WA X 0 0 143 [(0, .ref (ga X.G 162))] [] m53 (EQ X (some (.long rr)) mm) := by
          refine a_aload_n (pc := 143) F dX8_digest_143 0 rfl ?_
          refine a_aload_n (pc := 144) F dX8_digest_144 0 rfl ?_
          replace h := bnd2_some h
          obtain ⟨x55, m56, hc54, h⟩ := h
          refine a_callV (pc := 145) (k := 162) (As := []) (st := [.ref (ga X.G 162)]) F dX8_digest_145 (m_X8_mannableNow hc54) cv_RX8_230 kl_162 ks_162 ⟨_, _, rfl⟩ rfl rfl rfl (Nat.le_of_ble_eq_true rfl) ⟨Nat.le_of_ble_eq_true rfl, Nat.le_of_ble_eq_true rfl⟩ ?_ rfl rfl
          clear hc54
          refine a_i2l (pc := 148) F dX8_digest_148 ?_
          replace h := bnd_some h
          obtain ⟨m58, hc57, h⟩ := h
          refine a_callV (pc := 149) (k := 162) (As := [.long x55.toInt64]) (st := []) F dX8_digest_149 (m_X8_mix hc57) cv_RX8_246 kl_162 ks_162 ⟨_, _, rfl⟩ rfl rfl rfl (Nat.le_of_ble_eq_true rfl) ⟨Nat.le_of_ble_eq_true rfl, Nat.le_of_ble_eq_true rfl⟩ ?_ rfl rfl
          clear hc57
          refine a_iconst (v := 0) (pc := 152) F dX8_digest_152 (by decide) ?_
          refine a_istore_n (lv' := [(1, .int 0), (0, .ref (ga X.G 162))]) (pc := 153) F dX8_digest_153 (by decide) rfl ?_
          refine a_lv F [1, 0] rfl ?_
          replace h := bnd_some h
          obtain ⟨m68, hL59, h⟩ := h
          have hE59 : WA X 0 0 175 [(0, .ref (ga X.G 162))] [] m68 (EQ X (some (.long rr)) mm) := by
            refine a_aload_n (pc := 175) F dX8_digest_175 0 rfl ?_
            refine a_aload_n (pc := 176) F dX8_digest_176 0 rfl ?_
            replace h := bnd_some h
            obtain ⟨z70, hc69, h⟩ := h
            refine a_callV (pc := 177) (k := 162) (As := []) (st := [.ref (ga X.G 162)]) F dX8_digest_177 (m_X8_share hc69) cv_RX8_236 kl_162 ks_162 ⟨_, _, rfl⟩ rfl rfl rfl (Nat.le_of_ble_eq_true rfl) ⟨Nat.le_of_ble_eq_true rfl, Nat.le_of_ble_eq_true rfl⟩ ?_ rfl rfl
            clear hc69
            replace h := bnd_some h
            obtain ⟨y72, hc71, h⟩ := h
            refine a_callS (pc := 180) (As := [.double z70]) (st := [.ref (ga X.G 162)]) F dX8_digest_180 (m_Jxe99ae_doubleToLongBits_ccdee hc71) cs_RX8_255 rfl rfl rfl (Nat.le_of_ble_eq_true rfl) ⟨Nat.le_of_ble_eq_true rfl, Nat.le_of_ble_eq_true rfl⟩ ?_ rfl rfl
            clear hc71
            replace h := bnd_some h
            obtain ⟨m74, hc73, h⟩ := h
            refine a_callV (pc := 183) (k := 162) (As := [.long y72]) (st := []) F dX8_digest_183 (m_X8_mix hc73) cv_RX8_246 kl_162 ks_162 ⟨_, _, rfl⟩ rfl rfl rfl (Nat.le_of_ble_eq_true rfl) ⟨Nat.le_of_ble_eq_true rfl, Nat.le_of_ble_eq_true rfl⟩ ?_ rfl rfl
            clear hc73
            refine a_aload_n (pc := 186) F dX8_digest_186 0 rfl ?_
            refine a_aload_n (pc := 187) F dX8_digest_187 0 rfl ?_
            refine a_geti (k := 162) (pc := 188) F dX8_digest_188 fl_RX8_153 kl_162 ks_162 rfl ?_
            refine a_i2l (pc := 191) F dX8_digest_191 ?_
            replace h := bnd_some h
            obtain ⟨m76, hc75, h⟩ := h
            refine a_callV (pc := 192) (k := 162) (As := [.long ((m74.1 162 3).toInt64)]) (st := []) F dX8_digest_192 (m_X8_mix hc75) cv_RX8_246 kl_162 ks_162 ⟨_, _, rfl⟩ rfl rfl rfl (Nat.le_of_ble_eq_true rfl) ⟨Nat.le_of_ble_eq_true rfl, Nat.le_of_ble_eq_true rfl⟩ ?_ rfl rfl
            clear hc75
            refine a_iconst (v := 0) (pc := 195) F dX8_digest_195 (by decide) ?_
            refine a_istore_n (lv' := [(1, .int 0), (0, .ref (ga X.G 162))]) (pc := 196) F dX8_digest_196 (by decide) rfl ?_
            refine a_lv F [1, 0] rfl ?_
            replace h := bnd_some h
            obtain ⟨m86, hL77, h⟩ := h
            have hE77 : WA X 0 0 222 [(0, .ref (ga X.G 162))] [] m86 (EQ X (some (.long rr)) mm) := by
              refine a_aload_n (pc := 222) F dX8_digest_222 0 rfl ?_
              refine a_getl (k := 162) (pc := 223) F dX8_digest_223 fl_RX8_242 kl_162 ks_162 rfl ?_
              cases h
              exact a_lret (pc := 226) F dX8_digest_226 rfl
            clear h
            refine lp_run (P := fun (s : (Int32 × Mem)) => WA X 0 0 197 [(0, .ref (ga X.G 162)), (1, .int s.1)] [] s.2 (EQ X (some (.long rr)) mm)) ?_ _ _ hL77
            clear hL77
            rintro ⟨x78, m79⟩ xo h hP77 hT77
            show WA X 0 0 197 [(0, .ref (ga X.G 162)), (1, .int x78)] [] m79 (EQ X (some (.long rr)) mm)
            rw [f_X8_digest_L197] at h
            refine a_iload_n (pc := 197) F dX8_digest_197 1 rfl ?_
            refine a_aload_n (pc := 198) F dX8_digest_198 0 rfl ?_
            refine a_geti (k := 162) (pc := 199) F dX8_digest_199 fl_RX8_153 kl_162 ks_162 rfl ?_
            refine a_icmp_ge (tgt := 222) (pc := 202) F dX8_digest_202 (by decide) (fun q80 => ?_) (fun q80 => ?_)
            · replace h := ite_t q80 h
              clear q80
              refine a_lv F [0] rfl ?_
              cases hT77 _ (Option.some.inj h).symm
              exact hE77
            · replace h := ite_f q80 h
              clear q80
              refine a_aload_n (pc := 205) F dX8_digest_205 0 rfl ?_
              refine a_aload_n (pc := 206) F dX8_digest_206 0 rfl ?_
              refine a_getr (k := 162) (r := 165) (pc := 207) F dX8_digest_207 fl_RX8_16 kl_162 ks_162 rfl ?_
              refine a_iload_n (pc := 210) F dX8_digest_210 1 rfl ?_
              replace h := gIn_some h
              obtain ⟨g81, h⟩ := h
              refine a_ial (k := 165) (pc := 211) F dX8_digest_211 kl_165 ks_165 g81 ?_
              refine a_nmi fun x82 ex82 => ?_
              replace h := nm_at ex82 h
              clear ex82
              refine a_i2l (pc := 212) F dX8_digest_212 ?_
              replace h := bnd_some h
              obtain ⟨m84, hc83, h⟩ := h
              refine a_callV (pc := 213) (k := 162) (As := [.long x82.toInt64]) (st := []) F dX8_digest_213 (m_X8_mix hc83) cv_RX8_246 kl_162 ks_162 ⟨_, _, rfl⟩ rfl rfl rfl (Nat.le_of_ble_eq_true rfl) ⟨Nat.le_of_ble_eq_true rfl, Nat.le_of_ble_eq_true rfl⟩ ?_ rfl rfl
              clear hc83
              obtain ⟨x85, ex85⟩ : ∃ x85 : Int32, x85 = x78 + 1 := ⟨_, rfl⟩
              refine a_iinc (v := x85) (lv' := [(1, .int x85), (0, .ref (ga X.G 162))]) (pc := 216) F dX8_digest_216 1 rfl (by rw [ex85]; rfl) (by decide) rfl ?_
              replace h := nm_at ex85 h
              clear ex85
              refine a_goto (tgt := 197) (pc := 219) F dX8_digest_219 (by decide) ?_
              refine a_lv F [1, 0] rfl ?_
              exact hP77 _ (Option.some.inj h).symm
          clear h
          refine lp_run (P := fun (s : (Int32 × Mem)) => WA X 0 0 154 [(0, .ref (ga X.G 162)), (1, .int s.1)] [] s.2 (EQ X (some (.long rr)) mm)) ?_ _ _ hL59
          clear hL59
          rintro ⟨x60, m61⟩ xo h hP59 hT59
          show WA X 0 0 154 [(0, .ref (ga X.G 162)), (1, .int x60)] [] m61 (EQ X (some (.long rr)) mm)
          rw [f_X8_digest_L154] at h
          refine a_iload_n (pc := 154) F dX8_digest_154 1 rfl ?_
          refine a_iconst (v := 3) (pc := 155) F dX8_digest_155 (by decide) ?_
          refine a_icmp_ge (tgt := 175) (pc := 156) F dX8_digest_156 (by decide) (fun q62 => ?_) (fun q62 => ?_)
          · replace h := ite_t q62 h
            clear q62
            refine a_lv F [0] rfl ?_
            cases hT59 _ (Option.some.inj h).symm
            exact hE59
          · replace h := ite_f q62 h
            clear q62
            refine a_aload_n (pc := 159) F dX8_digest_159 0 rfl ?_
            refine a_aload_n (pc := 160) F dX8_digest_160 0 rfl ?_
            refine a_iload_n (pc := 161) F dX8_digest_161 1 rfl ?_
            replace h := bnd_some h
            obtain ⟨x64, hc63, h⟩ := h
            refine a_callV (pc := 162) (k := 162) (As := [.int x60]) (st := [.ref (ga X.G 162)]) F dX8_digest_162 (m_X8_missingNow hc63) cv_RX8_233 kl_162 ks_162 ⟨_, _, rfl⟩ rfl rfl rfl (Nat.le_of_ble_eq_true rfl) ⟨Nat.le_of_ble_eq_true rfl, Nat.le_of_ble_eq_true rfl⟩ ?_ rfl rfl
            clear hc63
            refine a_i2l (pc := 165) F dX8_digest_165 ?_
            replace h := bnd_some h
            obtain ⟨m66, hc65, h⟩ := h
            refine a_callV (pc := 166) (k := 162) (As := [.long x64.toInt64]) (st := []) F dX8_digest_166 (m_X8_mix hc65) cv_RX8_246 kl_162 ks_162 ⟨_, _, rfl⟩ rfl rfl rfl (Nat.le_of_ble_eq_true rfl) ⟨Nat.le_of_ble_eq_true rfl, Nat.le_of_ble_eq_true rfl⟩ ?_ rfl rfl
            clear hc65
            obtain ⟨x67, ex67⟩ : ∃ x67 : Int32, x67 = x60 + 1 := ⟨_, rfl⟩
            refine a_iinc (v := x67) (lv' := [(1, .int x67), (0, .ref (ga X.G 162))]) (pc := 169) F dX8_digest_169 1 rfl (by rw [ex67]; rfl) (by decide) rfl ?_
            replace h := nm_at ex67 h
            clear ex67
            refine a_goto (tgt := 154) (pc := 172) F dX8_digest_172 (by decide) ?_
            refine a_lv F [1, 0] rfl ?_
            exact hP59 _ (Option.some.inj h).symm
        clear h
        refine lp_run (P := fun (s : (Int32 × Mem)) => WA X 0 0 121 [(0, .ref (ga X.G 162)), (1, .int s.1)] [] s.2 (EQ X (some (.long rr)) mm)) ?_ _ _ hL45
        clear hL45
        rintro ⟨x46, m47⟩ xo h hP45 hT45
        show WA X 0 0 121 [(0, .ref (ga X.G 162)), (1, .int x46)] [] m47 (EQ X (some (.long rr)) mm)
        rw [f_X8_digest_L121] at h
        refine a_iload_n (pc := 121) F dX8_digest_121 1 rfl ?_
        refine a_aload_n (pc := 122) F dX8_digest_122 0 rfl ?_
        refine a_getr (k := 162) (r := 163) (pc := 123) F dX8_digest_123 fl_RX8_7 kl_162 ks_162 rfl ?_
        refine a_bipush (v := 8) (pc := 126) F dX8_digest_126 (by decide) ?_
        refine a_ial (k := 163) (pc := 128) F dX8_digest_128 kl_163 ks_163 (vp_lit rfl) ?_
        refine a_nmi fun x48 ex48 => ?_
        replace h := nm_at ex48 h
        clear ex48
        refine a_icmp_ge (tgt := 143) (pc := 129) F dX8_digest_129 (by decide) (fun q49 => ?_) (fun q49 => ?_)
        · replace h := ite_t q49 h
          clear q49
          refine a_lv F [0] rfl ?_
          cases hT45 _ (Option.some.inj h).symm
          exact hE45
        · replace h := ite_f q49 h
          clear q49
          refine a_aload_n (pc := 132) F dX8_digest_132 0 rfl ?_
          refine a_iload_n (pc := 133) F dX8_digest_133 1 rfl ?_
          replace h := bnd_some h
          obtain ⟨m51, hc50, h⟩ := h
          refine a_callV (pc := 134) (k := 162) (As := [.int x46]) (st := []) F dX8_digest_134 (m_X8_mixHearing hc50) cv_RX8_252 kl_162 ks_162 ⟨_, _, rfl⟩ rfl rfl rfl (Nat.le_of_ble_eq_true rfl) ⟨Nat.le_of_ble_eq_true rfl, Nat.le_of_ble_eq_true rfl⟩ ?_ rfl rfl
          clear hc50
          obtain ⟨x52, ex52⟩ : ∃ x52 : Int32, x52 = x46 + 1 := ⟨_, rfl⟩
          refine a_iinc (v := x52) (lv' := [(1, .int x52), (0, .ref (ga X.G 162))]) (pc := 137) F dX8_digest_137 1 rfl (by rw [ex52]; rfl) (by decide) rfl ?_
          replace h := nm_at ex52 h
          clear ex52
          refine a_goto (tgt := 121) (pc := 140) F dX8_digest_140 (by decide) ?_
          refine a_lv F [1, 0] rfl ?_
          exact hP45 _ (Option.some.inj h).symm
      clear h
      refine lp_run (P := fun (s : (Int32 × Mem)) => WA X 0 0 65 [(0, .ref (ga X.G 162)), (1, .int s.1)] [] s.2 (EQ X (some (.long rr)) mm)) ?_ _ _ hL23
      clear hL23
      rintro ⟨x24, m25⟩ xo h hP23 hT23
      show WA X 0 0 65 [(0, .ref (ga X.G 162)), (1, .int x24)] [] m25 (EQ X (some (.long rr)) mm)
      rw [f_X8_digest_L65] at h
      refine a_iload_n (pc := 65) F dX8_digest_65 1 rfl ?_
      refine a_aload_n (pc := 66) F dX8_digest_66 0 rfl ?_
      refine a_getr (k := 162) (r := 163) (pc := 67) F dX8_digest_67 fl_RX8_7 kl_162 ks_162 rfl ?_
      refine a_bipush (v := 7) (pc := 70) F dX8_digest_70 (by decide) ?_
      refine a_ial (k := 163) (pc := 72) F dX8_digest_72 kl_163 ks_163 (vp_lit rfl) ?_
      refine a_nmi fun x26 ex26 => ?_
      replace h := nm_at ex26 h
      clear ex26
      refine a_icmp_ge (tgt := 119) (pc := 73) F dX8_digest_73 (by decide) (fun q27 => ?_) (fun q27 => ?_)
      · replace h := ite_t q27 h
        clear q27
        refine a_lv F [0] rfl ?_
        cases hT23 _ (Option.some.inj h).symm
        exact hE23
      · replace h := ite_f q27 h
        clear q27
        refine a_iconst (v := 0) (pc := 76) F dX8_digest_76 (by decide) ?_
        refine a_istore_n (lv' := [(2, .int 0), (0, .ref (ga X.G 162)), (1, .int x24)]) (pc := 77) F dX8_digest_77 (by decide) rfl ?_
        refine a_lv F [1, 2, 0] rfl ?_
        replace h := bnd_some h
        obtain ⟨m37, hL28, h⟩ := h
        have hE28 : WA X 0 0 101 [(0, .ref (ga X.G 162)), (1, .int x24)] [] m37 (EQ X (some (.long rr)) mm) := by
          refine a_aload_n (pc := 101) F dX8_digest_101 0 rfl ?_
          refine a_aload_n (pc := 102) F dX8_digest_102 0 rfl ?_
          refine a_iload_n (pc := 103) F dX8_digest_103 1 rfl ?_
          refine a_bipush (v := 60) (pc := 104) F dX8_digest_104 (by decide) ?_
          replace h := bnd2_some h
          obtain ⟨x39, m40, hc38, h⟩ := h
          refine a_callV (pc := 106) (k := 162) (As := [.int x24, .int 60]) (st := [.ref (ga X.G 162)]) F dX8_digest_106 (m_X8_tiredThen hc38) cv_RX8_224 kl_162 ks_162 ⟨_, _, rfl⟩ rfl rfl rfl (Nat.le_of_ble_eq_true rfl) ⟨Nat.le_of_ble_eq_true rfl, Nat.le_of_ble_eq_true rfl⟩ ?_ rfl rfl
          clear hc38
          refine a_i2l (pc := 109) F dX8_digest_109 ?_
          replace h := bnd_some h
          obtain ⟨m42, hc41, h⟩ := h
          refine a_callV (pc := 110) (k := 162) (As := [.long x39.toInt64]) (st := []) F dX8_digest_110 (m_X8_mix hc41) cv_RX8_246 kl_162 ks_162 ⟨_, _, rfl⟩ rfl rfl rfl (Nat.le_of_ble_eq_true rfl) ⟨Nat.le_of_ble_eq_true rfl, Nat.le_of_ble_eq_true rfl⟩ ?_ rfl rfl
          clear hc41
          obtain ⟨x43, ex43⟩ : ∃ x43 : Int32, x43 = x24 + 1 := ⟨_, rfl⟩
          refine a_iinc (v := x43) (lv' := [(1, .int x43), (0, .ref (ga X.G 162))]) (pc := 113) F dX8_digest_113 1 rfl (by rw [ex43]; rfl) (by decide) rfl ?_
          replace h := nm_at ex43 h
          clear ex43
          refine a_goto (tgt := 65) (pc := 116) F dX8_digest_116 (by decide) ?_
          refine a_lv F [1, 0] rfl ?_
          exact hP23 _ (Option.some.inj h).symm
        clear h
        refine lp_run (P := fun (s : (Int32 × Mem)) => WA X 0 0 78 [(0, .ref (ga X.G 162)), (1, .int x24), (2, .int s.1)] [] s.2 (EQ X (some (.long rr)) mm)) ?_ _ _ hL28
        clear hL28
        rintro ⟨x29, m30⟩ xo h hP28 hT28
        show WA X 0 0 78 [(0, .ref (ga X.G 162)), (1, .int x24), (2, .int x29)] [] m30 (EQ X (some (.long rr)) mm)
        rw [f_X8_digest_L78] at h
        refine a_iload_n (pc := 78) F dX8_digest_78 2 rfl ?_
        refine a_bipush (v := 8) (pc := 79) F dX8_digest_79 (by decide) ?_
        refine a_icmp_ge (tgt := 101) (pc := 81) F dX8_digest_81 (by decide) (fun q31 => ?_) (fun q31 => ?_)
        · replace h := ite_t q31 h
          clear q31
          refine a_lv F [0, 1] rfl ?_
          cases hT28 _ (Option.some.inj h).symm
          exact hE28
        · replace h := ite_f q31 h
          clear q31
          refine a_aload_n (pc := 84) F dX8_digest_84 0 rfl ?_
          refine a_aload_n (pc := 85) F dX8_digest_85 0 rfl ?_
          refine a_iload_n (pc := 86) F dX8_digest_86 1 rfl ?_
          refine a_iload_n (pc := 87) F dX8_digest_87 2 rfl ?_
          replace h := bnd_some h
          obtain ⟨x33, hc32, h⟩ := h
          refine a_callV (pc := 88) (k := 162) (As := [.int x24, .int x29]) (st := [.ref (ga X.G 162)]) F dX8_digest_88 (m_X8_personNow hc32) cv_RX8_183 kl_162 ks_162 ⟨_, _, rfl⟩ rfl rfl rfl (Nat.le_of_ble_eq_true rfl) ⟨Nat.le_of_ble_eq_true rfl, Nat.le_of_ble_eq_true rfl⟩ ?_ rfl rfl
          clear hc32
          refine a_i2l (pc := 91) F dX8_digest_91 ?_
          replace h := bnd_some h
          obtain ⟨m35, hc34, h⟩ := h
          refine a_callV (pc := 92) (k := 162) (As := [.long x33.toInt64]) (st := []) F dX8_digest_92 (m_X8_mix hc34) cv_RX8_246 kl_162 ks_162 ⟨_, _, rfl⟩ rfl rfl rfl (Nat.le_of_ble_eq_true rfl) ⟨Nat.le_of_ble_eq_true rfl, Nat.le_of_ble_eq_true rfl⟩ ?_ rfl rfl
          clear hc34
          obtain ⟨x36, ex36⟩ : ∃ x36 : Int32, x36 = x29 + 1 := ⟨_, rfl⟩
          refine a_iinc (v := x36) (lv' := [(2, .int x36), (0, .ref (ga X.G 162)), (1, .int x24)]) (pc := 95) F dX8_digest_95 2 rfl (by rw [ex36]; rfl) (by decide) rfl ?_
          replace h := nm_at ex36 h
          clear ex36
          refine a_goto (tgt := 78) (pc := 98) F dX8_digest_98 (by decide) ?_
          refine a_lv F [1, 2, 0] rfl ?_
          exact hP28 _ (Option.some.inj h).symm
    clear h
    refine lp_run (P := fun (s : (Int32 × Mem)) => WA X 0 0 38 [(0, .ref (ga X.G 162)), (1, .int s.1)] [] s.2 (EQ X (some (.long rr)) mm)) ?_ _ _ hL13
    clear hL13
    rintro ⟨x14, m15⟩ xo h hP13 hT13
    show WA X 0 0 38 [(0, .ref (ga X.G 162)), (1, .int x14)] [] m15 (EQ X (some (.long rr)) mm)
    rw [f_X8_digest_L38] at h
    refine a_iload_n (pc := 38) F dX8_digest_38 1 rfl ?_
    refine a_bipush (v := 7) (pc := 39) F dX8_digest_39 (by decide) ?_
    refine a_icmp_ge (tgt := 63) (pc := 41) F dX8_digest_41 (by decide) (fun q16 => ?_) (fun q16 => ?_)
    · replace h := ite_t q16 h
      clear q16
      refine a_lv F [0] rfl ?_
      cases hT13 _ (Option.some.inj h).symm
      exact hE13
    · replace h := ite_f q16 h
      clear q16
      refine a_aload_n (pc := 44) F dX8_digest_44 0 rfl ?_
      refine a_aload_n (pc := 45) F dX8_digest_45 0 rfl ?_
      refine a_getr (k := 162) (r := 163) (pc := 46) F dX8_digest_46 fl_RX8_7 kl_162 ks_162 rfl ?_
      refine a_iconst (v := 0) (pc := 49) F dX8_digest_49 (by decide) ?_
      refine a_iload_n (pc := 50) F dX8_digest_50 1 rfl ?_
      refine a_iadd (pc := 51) F dX8_digest_51 ?_
      replace h := gIn_some h
      obtain ⟨g17, h⟩ := h
      refine a_ial (k := 163) (pc := 52) F dX8_digest_52 kl_163 ks_163 g17 ?_
      refine a_nmi fun x18 ex18 => ?_
      replace h := nm_at ex18 h
      clear ex18
      refine a_i2l (pc := 53) F dX8_digest_53 ?_
      replace h := bnd_some h
      obtain ⟨m20, hc19, h⟩ := h
      refine a_callV (pc := 54) (k := 162) (As := [.long x18.toInt64]) (st := []) F dX8_digest_54 (m_X8_mix hc19) cv_RX8_246 kl_162 ks_162 ⟨_, _, rfl⟩ rfl rfl rfl (Nat.le_of_ble_eq_true rfl) ⟨Nat.le_of_ble_eq_true rfl, Nat.le_of_ble_eq_true rfl⟩ ?_ rfl rfl
      clear hc19
      obtain ⟨x21, ex21⟩ : ∃ x21 : Int32, x21 = x14 + 1 := ⟨_, rfl⟩
      refine a_iinc (v := x21) (lv' := [(1, .int x21), (0, .ref (ga X.G 162))]) (pc := 57) F dX8_digest_57 1 rfl (by rw [ex21]; rfl) (by decide) rfl ?_
      replace h := nm_at ex21 h
      clear ex21
      refine a_goto (tgt := 38) (pc := 60) F dX8_digest_60 (by decide) ?_
      refine a_lv F [1, 0] rfl ?_
      exact hP13 _ (Option.some.inj h).symm
  clear h
  refine lp_run (P := fun (s : (Int32 × Mem)) => WA X 0 0 14 [(0, .ref (ga X.G 162)), (1, .int s.1)] [] s.2 (EQ X (some (.long rr)) mm)) ?_ _ _ hL3
  clear hL3
  rintro ⟨x4, m5⟩ xo h hP3 hT3
  show WA X 0 0 14 [(0, .ref (ga X.G 162)), (1, .int x4)] [] m5 (EQ X (some (.long rr)) mm)
  rw [f_X8_digest_L14] at h
  refine a_iload_n (pc := 14) F dX8_digest_14 1 rfl ?_
  refine a_bipush (v := 13) (pc := 15) F dX8_digest_15 (by decide) ?_
  refine a_icmp_ge (tgt := 36) (pc := 17) F dX8_digest_17 (by decide) (fun q6 => ?_) (fun q6 => ?_)
  · replace h := ite_t q6 h
    clear q6
    refine a_lv F [0] rfl ?_
    cases hT3 _ (Option.some.inj h).symm
    exact hE3
  · replace h := ite_f q6 h
    clear q6
    refine a_aload_n (pc := 20) F dX8_digest_20 0 rfl ?_
    refine a_aload_n (pc := 21) F dX8_digest_21 0 rfl ?_
    refine a_iload_n (pc := 22) F dX8_digest_22 1 rfl ?_
    replace h := bnd_some h
    obtain ⟨x8, hc7, h⟩ := h
    refine a_callV (pc := 23) (k := 162) (As := [.int x4]) (st := [.ref (ga X.G 162)]) F dX8_digest_23 (m_X8_counted hc7) cv_RX8_199 kl_162 ks_162 ⟨_, _, rfl⟩ rfl rfl rfl (Nat.le_of_ble_eq_true rfl) ⟨Nat.le_of_ble_eq_true rfl, Nat.le_of_ble_eq_true rfl⟩ ?_ rfl rfl
    clear hc7
    refine a_i2l (pc := 26) F dX8_digest_26 ?_
    replace h := bnd_some h
    obtain ⟨m10, hc9, h⟩ := h
    refine a_callV (pc := 27) (k := 162) (As := [.long x8.toInt64]) (st := []) F dX8_digest_27 (m_X8_mix hc9) cv_RX8_246 kl_162 ks_162 ⟨_, _, rfl⟩ rfl rfl rfl (Nat.le_of_ble_eq_true rfl) ⟨Nat.le_of_ble_eq_true rfl, Nat.le_of_ble_eq_true rfl⟩ ?_ rfl rfl
    clear hc9
    obtain ⟨x11, ex11⟩ : ∃ x11 : Int32, x11 = x4 + 1 := ⟨_, rfl⟩
    refine a_iinc (v := x11) (lv' := [(1, .int x11), (0, .ref (ga X.G 162))]) (pc := 30) F dX8_digest_30 1 rfl (by rw [ex11]; rfl) (by decide) rfl ?_
    replace h := nm_at ex11 h
    clear ex11
    refine a_goto (tgt := 14) (pc := 33) F dX8_digest_33 (by decide) ?_
    refine a_lv F [1, 0] rfl ?_
    exact hP3 _ (Option.some.inj h).symm
