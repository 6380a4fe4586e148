def f_L_chains (p2 : Int32) (p3 : Int32) (m0 : Mem) : Option (Int32 × Mem) :=
  bnd (f_L_at p3 (m0.1 162 1) m0) fun x2 => bnd (f_L_at p2 9 m0) fun x4 => jn ((if 6 ≤ x4 then (if x4 = 6 then gIn x2 8 <| nm (m0.1 165 x2.toNatClampNeg) fun x46 => bnd (f_L_size x46 m0) fun x48 => bnd (f_L_at (p3 >>> (4 &&& 31)) (m0.1 162 0) m0) fun x50 => (if x48 = 0 then some (.inr (1, m0)) else gIn x2 8 <| nm (m0.1 165 x2.toNatClampNeg) fun x53 => bnd (f_L_has x53 x50 m0) fun x55 => jn ((if x55 = 0 then bnd (f_L_at (p3 >>> (8 &&& 31)) x48 m0) fun x59 => gIn x2 8 <| nm (m0.1 165 x2.toNatClampNeg) fun x61 => bnd (f_L_who x61 x59 m0) fun x63 => gIn x2 8 <| nm (m0.1 165 x2.toNatClampNeg) fun x65 => nm ((x50 - x63) <<< ((4 * x59) &&& 31)) fun x66 => bnd (f_L_why x2 (x65 + x66) m0) fun x68 => (if x68 ≤ 0 then gIn x2 8 <| nm (si m0 165 x2.toNatClampNeg (x65 + x66)) fun m71 => (if 6 ≤ (m71.1 162 6) then some (.inl (x59, x63, m71)) else nm (si m71 162 6 ((m71.1 162 6) + 1)) fun m73 => some (.inl (x59, x63, m73))) else some (.inr (.inr (1, m0)))) else some (.inr (.inr (1, m0))))) (fun ((x74, x75, m76) : Int32 × Int32 × Mem) => bnd2 (f_X7_swap x2 x74 x50 m76) fun x78 m79 => (if x78 = x75 then some (.inr (1, m79)) else some (.inr (0, m79))))) else gIn ((6 * x2) + 4) 48 <| nm (m0.1 164 ((6 * x2) + 4).toNatClampNeg) fun x9 => (if 0 < x9 then some (.inr (1, m0)) else gIn ((6 * x2) + 2) 48 <| nm (m0.1 164 ((6 * x2) + 2).toNatClampNeg) fun x12 => jn ((if (m0.1 162 2) < x12 then (if 6 ≤ (m0.1 162 6) then some (.inl m0) else nm (si m0 162 6 ((m0.1 162 6) + 1)) fun m16 => some (.inl m16)) else some (.inr (.inr (1, m0))))) (fun (m17 : Mem) => (if x4 = 7 then gIn x2 8 <| nm (m17.1 165 x2.toNatClampNeg) fun x36 => bnd (f_L_size x36 m17) fun x38 => gIn x2 8 <| nm (si m17 165 x2.toNatClampNeg 0) fun m40 => bnd2 (f_X7_release x2 m40) fun x42 m43 => (if x42 = x38 then some (.inr (1, m43)) else some (.inr (0, m43))) else gIn ((6 * x2) + 2) 48 <| nm (m17.1 164 ((6 * x2) + 2).toNatClampNeg) fun x20 => bnd ((if (m17.1 162 11) ≤ (x20 - (m17.1 162 2)) then (if (m17.1 162 12) ≤ (x20 - (m17.1 162 2)) then some 0 else some 1) else some 2)) (fun (x24 : Int32) => bnd2 (f_L_pays x2 x24 m17) fun x26 m27 => gIn ((6 * x2) + 4) 48 <| nm (si m27 164 ((6 * x2) + 4).toNatClampNeg 3) fun m29 => nm (si m29 162 4 ((m29.1 162 4) + x26)) fun m30 => bnd2 (f_X7_vacate x2 m30) fun x32 m33 => (if x32 = x26 then some (.inr (1, m33)) else some (.inr (0, m33)))))))) else bnd (f_L_at (p3 >>> (4 &&& 31)) (m0.1 162 0) m0) fun x82 => bnd (f_L_at (p3 >>> (7 &&& 31)) 3 m0) fun x84 => (if x84 = 0 then some (.inl (x82, (-1 : Int32), m0)) else bnd (f_L_at (p3 >>> (9 &&& 31)) (m0.1 162 0) m0) fun x87 => some (.inl (x82, x87, m0))))) (fun ((x88, x89, m90) : Int32 × Int32 × Mem) => bnd ((if x89 < 0 then some (-1 : Int32) else bnd (f_L_at (p3 >>> (12 &&& 31)) 2 m90) fun x94 => (if x94 = 0 then some (-1 : Int32) else bnd (f_L_at (p3 >>> (13 &&& 31)) (m90.1 162 0) m90) fun x97 => some x97))) (fun (x98 : Int32) => jn ((if x88 = x89 then some (.inr (1, m90)) else (if x98 < 0 then some (.inl ()) else (if x98 = x88 then some (.inr (1, m90)) else (if x98 = x89 then some (.inr (1, m90)) else some (.inl ())))))) (fun (_ : Unit) => nm ((x88 + 1) + (16 * (x89 + 1))) fun x104 => nm (x104 + (256 * (x98 + 1))) fun x105 => bnd (f_L_why x2 x105 m90) fun x107 => bnd (f_X7_whyNot x2 x88 x89 x98 m90) fun x109 => jn ((if x109 = x107 then (if x107 ≤ 0 then gIn x2 8 <| nm (si m90 165 x2.toNatClampNeg x105) fun m114 => (if 6 ≤ (m114.1 162 6) then some (.inl m114) else nm (si m114 162 6 ((m114.1 162 6) + 1)) fun m116 => some (.inl m116)) else some (.inr (1, m90))) else some (.inr (0, m90)))) (fun (m117 : Mem) => bnd2 (f_X7_assign x2 x88 x89 x98 m117) fun x119 m120 => bnd (f_L_together x2 2 m120) fun x122 => (if x119 = x122 then some (1, m120) else some (0, m120))))))
set_option maxRecDepth 100000 in
set_option maxHeartbeats 4000000 in
theorem m_L_chains {p2 : Int32} {p3 : Int32} {m0 : Mem} {rr : Int32} {mm : Mem} (h : f_L_chains p2 p3 m0 = some (rr, mm)) : Con yL_chains cL_chains 14 (some Jvm.ClassFile.FieldType.boolean) 5 131 (fun G => [.ref (ga G 0), .int p2, .int p3, .ref (ga G 162), .ref (ga G 163), .ref (ga G 164), .ref (ga G 165)]) m0 (some (.int rr)) mm := by
  refine con_of (by decide) (fun G => Nat.le_of_ble_eq_true rfl) (fun X F => ?_)
  show WA X 0 0 0 [(0, .ref (ga X.G 0)), (1, .int p2), (2, .int p3), (3, .ref (ga X.G 162)), (4, .ref (ga X.G 163)), (5, .ref (ga X.G 164)), (6, .ref (ga X.G 165))] [] m0 (EQ X (some (.int rr)) mm)
  rw [f_L_chains] at h
  refine a_iload_n (pc := 0) F dL_chains_0 2 rfl ?_
  refine a_aload_n (pc := 1) F dL_chains_1 3 rfl ?_
  refine a_iconst (v := 1) (pc := 2) F dL_chains_2 (by decide) ?_
  refine a_ialc (k := 162) (pc := 3) F dL_chains_3 kl_162 ks_162 rfl rfl ?_
  replace h := bnd_some h
  obtain ⟨x2, hc1, h⟩ := h
  refine a_callS (pc := 4) (As := [.int p3, .int (m0.1 162 1)]) (st := []) F dL_chains_4 (m_L_at hc1) cs_RL_37 rfl rfl rfl (Nat.le_of_ble_eq_true rfl) ⟨Nat.le_of_ble_eq_true rfl, Nat.le_of_ble_eq_true rfl⟩ ?_ rfl rfl
  clear hc1
  refine a_istore (lv' := [(7, .int x2), (0, .ref (ga X.G 0)), (1, .int p2), (2, .int p3), (3, .ref (ga X.G 162)), (4, .ref (ga X.G 163)), (5, .ref (ga X.G 164)), (6, .ref (ga X.G 165))]) (pc := 7) F dL_chains_7 (by decide) rfl ?_
  refine a_iload_n (pc := 9) F dL_chains_9 2 rfl ?_
  refine a_bipush (v := 9) (pc := 10) F dL_chains_10 (by decide) ?_
  replace h := bnd_some h
  obtain ⟨x4, hc3, h⟩ := h
  refine a_callS (pc := 12) (As := [.int p2, .int 9]) (st := []) F dL_chains_12 (m_L_at hc3) cs_RL_37 rfl rfl rfl (Nat.le_of_ble_eq_true rfl) ⟨Nat.le_of_ble_eq_true rfl, Nat.le_of_ble_eq_true rfl⟩ ?_ rfl rfl
  clear hc3
  refine a_istore (lv' := [(8, .int x4), (7, .int x2), (0, .ref (ga X.G 0)), (1, .int p2), (2, .int p3), (3, .ref (ga X.G 162)), (4, .ref (ga X.G 163)), (5, .ref (ga X.G 164)), (6, .ref (ga X.G 165))]) (pc := 15) F dL_chains_15 (by decide) rfl ?_
  refine a_iload (pc := 17) F dL_chains_17 0 rfl ?_
  refine a_bipush (v := 6) (pc := 19) F dL_chains_19 (by decide) ?_
  replace h := jn_some h
  obtain ⟨o5, hR5, hK5, hB5⟩ := h
  have hJ5 : ∀ (x88 : Int32) (x89 : Int32) (m90 : Mem), o5 = .inl (x88, x89, m90) → WA X 0 0 60 [(0, .ref (ga X.G 0)), (2, .int p3), (3, .ref (ga X.G 162)), (4, .ref (ga X.G 163)), (5, .ref (ga X.G 164)), (6, .ref (ga X.G 165)), (7, .int x2), (9, .int x88)] [.int x89] m90 (EQ X (some (.int rr)) mm) := by
    intro x88 x89 m90 eo
    have h := hK5 _ eo
    clear hK5 eo
    refine a_istore (lv' := [(10, .int x89), (0, .ref (ga X.G 0)), (2, .int p3), (3, .ref (ga X.G 162)), (4, .ref (ga X.G 163)), (5, .ref (ga X.G 164)), (6, .ref (ga X.G 165)), (7, .int x2), (9, .int x88)]) (pc := 60) F dL_chains_60 (by decide) rfl ?_
    refine a_iload (pc := 62) F dL_chains_62 0 rfl ?_
    replace h := bnd_some h
    obtain ⟨x98, hR91, h⟩ := h
    have hJ91 : WA X 0 0 92 [(0, .ref (ga X.G 0)), (3, .ref (ga X.G 162)), (4, .ref (ga X.G 163)), (5, .ref (ga X.G 164)), (6, .ref (ga X.G 165)), (7, .int x2), (9, .int x88), (10, .int x89)] [.int x98] m90 (EQ X (some (.int rr)) mm) := by
      refine a_istore (lv' := [(11, .int x98), (0, .ref (ga X.G 0)), (3, .ref (ga X.G 162)), (4, .ref (ga X.G 163)), (5, .ref (ga X.G 164)), (6, .ref (ga X.G 165)), (7, .int x2), (9, .int x88), (10, .int x89)]) (pc := 92) F dL_chains_92 (by decide) rfl ?_
      refine a_iload (pc := 94) F dL_chains_94 7 rfl ?_
      refine a_iload (pc := 96) F dL_chains_96 8 rfl ?_
      replace h := jn_some h
      obtain ⟨o99, hR99, hK99, hB99⟩ := h
      have hJ99 : ∀ (u : Unit), o99 = .inl u → WA X 0 0 122 [(0, .ref (ga X.G 0)), (3, .ref (ga X.G 162)), (4, .ref (ga X.G 163)), (5, .ref (ga X.G 164)), (6, .ref (ga X.G 165)), (7, .int x2), (9, .int x88), (10, .int x89), (11, .int x98)] [] m90 (EQ X (some (.int rr)) mm) := by
        intro u eo
        have h := hK99 _ eo
        clear hK99 eo
        refine a_iload (pc := 122) F dL_chains_122 6 rfl ?_
        refine a_iconst (v := 1) (pc := 124) F dL_chains_124 (by decide) ?_
        refine a_iadd (pc := 125) F dL_chains_125 ?_
        refine a_bipush (v := 16) (pc := 126) F dL_chains_126 (by decide) ?_
        refine a_iload (pc := 128) F dL_chains_128 7 rfl ?_
        refine a_iconst (v := 1) (pc := 130) F dL_chains_130 (by decide) ?_
        refine a_iadd (pc := 131) F dL_chains_131 ?_
        refine a_imul (pc := 132) F dL_chains_132 ?_
        refine a_iadd (pc := 133) F dL_chains_133 ?_
        refine a_nmi fun x104 ex104 => ?_
        replace h := nm_at ex104 h
        clear ex104
        refine a_sipush (v := 256) (pc := 134) F dL_chains_134 (by decide) ?_
        refine a_iload (pc := 137) F dL_chains_137 8 rfl ?_
        refine a_iconst (v := 1) (pc := 139) F dL_chains_139 (by decide) ?_
        refine a_iadd (pc := 140) F dL_chains_140 ?_
        refine a_imul (pc := 141) F dL_chains_141 ?_
        refine a_iadd (pc := 142) F dL_chains_142 ?_
        refine a_nmi fun x105 ex105 => ?_
        replace h := nm_at ex105 h
        clear ex105
        refine a_istore (lv' := [(12, .int x105), (0, .ref (ga X.G 0)), (3, .ref (ga X.G 162)), (4, .ref (ga X.G 163)), (5, .ref (ga X.G 164)), (6, .ref (ga X.G 165)), (7, .int x2), (9, .int x88), (10, .int x89), (11, .int x98)]) (pc := 143) F dL_chains_143 (by decide) rfl ?_
        refine a_aload_n (pc := 145) F dL_chains_145 2 rfl ?_
        refine a_aload (pc := 146) F dL_chains_146 3 rfl ?_
        refine a_aload (pc := 148) F dL_chains_148 4 rfl ?_
        refine a_aload (pc := 150) F dL_chains_150 5 rfl ?_
        refine a_iload (pc := 152) F dL_chains_152 6 rfl ?_
        refine a_iload (pc := 154) F dL_chains_154 0 rfl ?_
        replace h := bnd_some h
        obtain ⟨x107, hc106, h⟩ := h
        refine a_callS (pc := 156) (As := [.ref (ga X.G 162), .ref (ga X.G 163), .ref (ga X.G 164), .ref (ga X.G 165), .int x2, .int x105]) (st := []) F dL_chains_156 (m_L_why hc106) cs_RL_40 rfl rfl rfl (Nat.le_of_ble_eq_true rfl) ⟨Nat.le_of_ble_eq_true rfl, Nat.le_of_ble_eq_true rfl⟩ ?_ rfl rfl
        clear hc106
        refine a_istore (lv' := [(13, .int x107), (12, .int x105), (0, .ref (ga X.G 0)), (3, .ref (ga X.G 162)), (4, .ref (ga X.G 163)), (5, .ref (ga X.G 164)), (6, .ref (ga X.G 165)), (7, .int x2), (9, .int x88), (10, .int x89), (11, .int x98)]) (pc := 159) F dL_chains_159 (by decide) rfl ?_
        refine a_aload_n (pc := 161) F dL_chains_161 2 rfl ?_
        refine a_iload (pc := 162) F dL_chains_162 7 rfl ?_
        refine a_iload (pc := 164) F dL_chains_164 8 rfl ?_
        refine a_iload (pc := 166) F dL_chains_166 9 rfl ?_
        refine a_iload (pc := 168) F dL_chains_168 10 rfl ?_
        replace h := bnd_some h
        obtain ⟨x109, hc108, h⟩ := h
        refine a_callV (pc := 170) (k := 0) (As := [.int x2, .int x88, .int x89, .int x98]) (st := []) F dL_chains_170 (m_X7_whyNot hc108) cv_RL_43 kl_0 ks_0 ⟨_, _, rfl⟩ rfl rfl rfl (Nat.le_of_ble_eq_true rfl) ⟨Nat.le_of_ble_eq_true rfl, Nat.le_of_ble_eq_true rfl⟩ ?_ rfl rfl
        clear hc108
        refine a_iload (pc := 173) F dL_chains_173 0 rfl ?_
        replace h := jn_some h
        obtain ⟨o110, hR110, hK110, hB110⟩ := h
        have hJ110 : ∀ (m117 : Mem), o110 = .inl m117 → WA X 0 0 211 [(0, .ref (ga X.G 0)), (3, .ref (ga X.G 162)), (4, .ref (ga X.G 163)), (5, .ref (ga X.G 164)), (6, .ref (ga X.G 165)), (7, .int x2), (9, .int x88), (10, .int x89), (11, .int x98)] [] m117 (EQ X (some (.int rr)) mm) := by
          intro m117 eo
          have h := hK110 _ eo
          clear hK110 eo
          refine a_aload_n (pc := 211) F dL_chains_211 0 rfl ?_
          refine a_iload (pc := 212) F dL_chains_212 5 rfl ?_
          refine a_iload (pc := 214) F dL_chains_214 6 rfl ?_
          refine a_iload (pc := 216) F dL_chains_216 7 rfl ?_
          refine a_iload (pc := 218) F dL_chains_218 8 rfl ?_
          replace h := bnd2_some h
          obtain ⟨x119, m120, hc118, h⟩ := h
          refine a_callV (pc := 220) (k := 0) (As := [.int x2, .int x88, .int x89, .int x98]) (st := []) F dL_chains_220 (m_X7_assign hc118) cv_RL_49 kl_0 ks_0 ⟨_, _, rfl⟩ rfl rfl rfl (Nat.le_of_ble_eq_true rfl) ⟨Nat.le_of_ble_eq_true rfl, Nat.le_of_ble_eq_true rfl⟩ ?_ rfl rfl
          clear hc118
          refine a_aload_n (pc := 223) F dL_chains_223 1 rfl ?_
          refine a_aload (pc := 224) F dL_chains_224 2 rfl ?_
          refine a_aload (pc := 226) F dL_chains_226 3 rfl ?_
          refine a_aload (pc := 228) F dL_chains_228 4 rfl ?_
          refine a_iload (pc := 230) F dL_chains_230 5 rfl ?_
          refine a_iconst (v := 2) (pc := 232) F dL_chains_232 (by decide) ?_
          replace h := bnd_some h
          obtain ⟨x122, hc121, h⟩ := h
          refine a_callS (pc := 233) (As := [.ref (ga X.G 162), .ref (ga X.G 163), .ref (ga X.G 164), .ref (ga X.G 165), .int x2, .int 2]) (st := [.int x119]) F dL_chains_233 (m_L_together hc121) cs_RL_22 rfl rfl rfl (Nat.le_of_ble_eq_true rfl) ⟨Nat.le_of_ble_eq_true rfl, Nat.le_of_ble_eq_true rfl⟩ ?_ rfl rfl
          clear hc121
          refine a_icmp_ne (tgt := 243) (pc := 236) F dL_chains_236 (by decide) (fun q123 => ?_) (fun q123 => ?_)
          · replace h := ite_f q123 h
            clear q123
            refine a_iconst (v := 0) (pc := 243) F dL_chains_243 (by decide) ?_
            cases h
            exact a_iret (pc := 244) F dL_chains_244 ⟨_, rfl, rfl⟩
          · replace h := ite_t (Decidable.not_not.mp q123) h
            clear q123
            refine a_iconst (v := 1) (pc := 239) F dL_chains_239 (by decide) ?_
            refine a_goto (tgt := 244) (pc := 240) F dL_chains_240 (by decide) ?_
            cases h
            exact a_iret (pc := 244) F dL_chains_244 ⟨_, rfl, rfl⟩
        clear hK110
        have h := hR110
        clear hR110
        refine a_icmp_eq (tgt := 180) (pc := 175) F dL_chains_175 (by decide) (fun q111 => ?_) (fun q111 => ?_)
        · replace h := ite_t q111 h
          clear q111
          refine a_iload (pc := 180) F dL_chains_180 0 rfl ?_
          refine a_if_le (tgt := 187) (pc := 182) F dL_chains_182 (by decide) (fun q112 => ?_) (fun q112 => ?_)
          · replace h := ite_t q112 h
            clear q112
            refine a_aload (pc := 187) F dL_chains_187 6 rfl ?_
            refine a_iload (pc := 189) F dL_chains_189 7 rfl ?_
            refine a_iload (pc := 191) F dL_chains_191 1 rfl ?_
            replace h := gIn_some h
            obtain ⟨g113, h⟩ := h
            refine a_ias (k := 165) (pc := 193) F dL_chains_193 kl_165 ks_165 g113 ?_
            refine a_nmm fun m114 em114 => ?_
            replace h := nm_at em114 h
            clear em114
            refine a_aload_n (pc := 194) F dL_chains_194 3 rfl ?_
            refine a_bipush (v := 6) (pc := 195) F dL_chains_195 (by decide) ?_
            refine a_ialc (k := 162) (pc := 197) F dL_chains_197 kl_162 ks_162 rfl rfl ?_
            refine a_bipush (v := 6) (pc := 198) F dL_chains_198 (by decide) ?_
            refine a_icmp_ge (tgt := 211) (pc := 200) F dL_chains_200 (by decide) (fun q115 => ?_) (fun q115 => ?_)
            · replace h := ite_t q115 h
              clear q115
              refine a_lv F [2, 3, 4, 5, 6, 7, 8, 9, 10] rfl ?_
              exact hJ110 _ (Option.some.inj h).symm
            · replace h := ite_f q115 h
              clear q115
              refine a_aload_n (pc := 203) F dL_chains_203 3 rfl ?_
              refine a_bipush (v := 6) (pc := 204) F dL_chains_204 (by decide) ?_
              refine a_dup2 (pc := 206) F dL_chains_206 rfl rfl ?_
              refine a_ialc (k := 162) (pc := 207) F dL_chains_207 kl_162 ks_162 rfl rfl ?_
              refine a_iconst (v := 1) (pc := 208) F dL_chains_208 (by decide) ?_
              refine a_iadd (pc := 209) F dL_chains_209 ?_
              refine a_iasc (k := 162) (pc := 210) F dL_chains_210 kl_162 ks_162 rfl rfl ?_
              refine a_nmm fun m116 em116 => ?_
              replace h := nm_at em116 h
              clear em116
              refine a_lv F [2, 3, 4, 5, 6, 7, 8, 9, 10] rfl ?_
              exact hJ110 _ (Option.some.inj h).symm
          · replace h := ite_f q112 h
            clear q112
            refine a_iconst (v := 1) (pc := 185) F dL_chains_185 (by decide) ?_
            replace h := hB110 _ (Option.some.inj h).symm
            cases h
            exact a_iret (pc := 186) F dL_chains_186 ⟨_, rfl, rfl⟩
        · replace h := ite_f q111 h
          clear q111
          refine a_iconst (v := 0) (pc := 178) F dL_chains_178 (by decide) ?_
          replace h := hB110 _ (Option.some.inj h).symm
          cases h
          exact a_iret (pc := 179) F dL_chains_179 ⟨_, rfl, rfl⟩
      clear hK99
      have h := hR99
      clear hR99
      refine a_icmp_eq (tgt := 120) (pc := 98) F dL_chains_98 (by decide) (fun q100 => ?_) (fun q100 => ?_)
      · replace h := ite_t q100 h
        clear q100
        refine a_iconst (v := 1) (pc := 120) F dL_chains_120 (by decide) ?_
        replace h := hB99 _ (Option.some.inj h).symm
        cases h
        exact a_iret (pc := 121) F dL_chains_121 ⟨_, rfl, rfl⟩
      · replace h := ite_f q100 h
        clear q100
        refine a_iload (pc := 101) F dL_chains_101 0 rfl ?_
        refine a_if_lt (tgt := 122) (pc := 103) F dL_chains_103 (by decide) (fun q101 => ?_) (fun q101 => ?_)
        · replace h := ite_t q101 h
          clear q101
          refine a_lv F [1, 2, 3, 4, 5, 6, 7, 8, 0] rfl ?_
          exact hJ99 _ (Option.some.inj h).symm
        · replace h := ite_f q101 h
          clear q101
          refine a_iload (pc := 106) F dL_chains_106 0 rfl ?_
          refine a_iload (pc := 108) F dL_chains_108 7 rfl ?_
          refine a_icmp_eq (tgt := 120) (pc := 110) F dL_chains_110 (by decide) (fun q102 => ?_) (fun q102 => ?_)
          · replace h := ite_t q102 h
            clear q102
            refine a_iconst (v := 1) (pc := 120) F dL_chains_120 (by decide) ?_
            replace h := hB99 _ (Option.some.inj h).symm
            cases h
            exact a_iret (pc := 121) F dL_chains_121 ⟨_, rfl, rfl⟩
          · replace h := ite_f q102 h
            clear q102
            refine a_iload (pc := 113) F dL_chains_113 0 rfl ?_
            refine a_iload (pc := 115) F dL_chains_115 8 rfl ?_
            refine a_icmp_ne (tgt := 122) (pc := 117) F dL_chains_117 (by decide) (fun q103 => ?_) (fun q103 => ?_)
            · replace h := ite_f q103 h
              clear q103
              refine a_lv F [1, 2, 3, 4, 5, 6, 7, 8, 0] rfl ?_
              exact hJ99 _ (Option.some.inj h).symm
            · replace h := ite_t (Decidable.not_not.mp q103) h
              clear q103
              refine a_iconst (v := 1) (pc := 120) F dL_chains_120 (by decide) ?_
              replace h := hB99 _ (Option.some.inj h).symm
              cases h
              exact a_iret (pc := 121) F dL_chains_121 ⟨_, rfl, rfl⟩
    clear h
    have h := hR91
    clear hR91
    refine a_if_lt (tgt := 78) (pc := 64) F dL_chains_64 (by decide) (fun q92 => ?_) (fun q92 => ?_)
    · replace h := ite_t q92 h
      clear q92
      refine a_iconst (v := (-1)) (pc := 78) F dL_chains_78 (by decide) ?_
      refine a_goto (tgt := 92) (pc := 79) F dL_chains_79 (by decide) ?_
      refine a_lv F [1, 3, 4, 5, 6, 7, 8, 0] rfl ?_
      cases h
      exact hJ91
    · replace h := ite_f q92 h
      clear q92
      refine a_iload_n (pc := 67) F dL_chains_67 2 rfl ?_
      refine a_bipush (v := 12) (pc := 68) F dL_chains_68 (by decide) ?_
      refine a_ishr (pc := 70) F dL_chains_70 ?_
      refine a_iconst (v := 2) (pc := 71) F dL_chains_71 (by decide) ?_
      replace h := bnd_some h
      obtain ⟨x94, hc93, h⟩ := h
      refine a_callS (pc := 72) (As := [.int (p3 >>> (12 &&& 31)), .int 2]) (st := []) F dL_chains_72 (m_L_at hc93) cs_RL_37 rfl rfl rfl (Nat.le_of_ble_eq_true rfl) ⟨Nat.le_of_ble_eq_true rfl, Nat.le_of_ble_eq_true rfl⟩ ?_ rfl rfl
      clear hc93
      refine a_if_ne (tgt := 82) (pc := 75) F dL_chains_75 (by decide) (fun q95 => ?_) (fun q95 => ?_)
      · replace h := ite_f q95 h
        clear q95
        refine a_iload_n (pc := 82) F dL_chains_82 2 rfl ?_
        refine a_bipush (v := 13) (pc := 83) F dL_chains_83 (by decide) ?_
        refine a_ishr (pc := 85) F dL_chains_85 ?_
        refine a_aload_n (pc := 86) F dL_chains_86 3 rfl ?_
        refine a_iconst (v := 0) (pc := 87) F dL_chains_87 (by decide) ?_
        refine a_ialc (k := 162) (pc := 88) F dL_chains_88 kl_162 ks_162 rfl rfl ?_
        replace h := bnd_some h
        obtain ⟨x97, hc96, h⟩ := h
        refine a_callS (pc := 89) (As := [.int (p3 >>> (13 &&& 31)), .int (m90.1 162 0)]) (st := []) F dL_chains_89 (m_L_at hc96) cs_RL_37 rfl rfl rfl (Nat.le_of_ble_eq_true rfl) ⟨Nat.le_of_ble_eq_true rfl, Nat.le_of_ble_eq_true rfl⟩ ?_ rfl rfl
        clear hc96
        refine a_lv F [1, 3, 4, 5, 6, 7, 8, 0] rfl ?_
        cases h
        exact hJ91
      · replace h := ite_t (Decidable.not_not.mp q95) h
        clear q95
        refine a_iconst (v := (-1)) (pc := 78) F dL_chains_78 (by decide) ?_
        refine a_goto (tgt := 92) (pc := 79) F dL_chains_79 (by decide) ?_
        refine a_lv F [1, 3, 4, 5, 6, 7, 8, 0] rfl ?_
        cases h
        exact hJ91
  clear hK5
  have h := hR5
  clear hR5
  refine a_icmp_ge (tgt := 245) (pc := 21) F dL_chains_21 (by decide) (fun q6 => ?_) (fun q6 => ?_)
  · replace h := ite_t q6 h
    clear q6
    refine a_iload (pc := 245) F dL_chains_245 0 rfl ?_
    refine a_bipush (v := 6) (pc := 247) F dL_chains_247 (by decide) ?_
    refine a_icmp_ne (tgt := 398) (pc := 249) F dL_chains_249 (by decide) (fun q7 => ?_) (fun q7 => ?_)
    · replace h := ite_f q7 h
      clear q7
      refine a_aload (pc := 398) F dL_chains_398 7 rfl ?_
      refine a_bipush (v := 6) (pc := 400) F dL_chains_400 (by decide) ?_
      refine a_iload (pc := 402) F dL_chains_402 1 rfl ?_
      refine a_imul (pc := 404) F dL_chains_404 ?_
      refine a_iconst (v := 4) (pc := 405) F dL_chains_405 (by decide) ?_
      refine a_iadd (pc := 406) F dL_chains_406 ?_
      replace h := gIn_some h
      obtain ⟨g8, h⟩ := h
      refine a_ial (k := 164) (pc := 407) F dL_chains_407 kl_164 ks_164 g8 ?_
      refine a_nmi fun x9 ex9 => ?_
      replace h := nm_at ex9 h
      clear ex9
      refine a_if_gt (tgt := 427) (pc := 408) F dL_chains_408 (by decide) (fun q10 => ?_) (fun q10 => ?_)
      · replace h := ite_t q10 h
        clear q10
        refine a_iconst (v := 1) (pc := 427) F dL_chains_427 (by decide) ?_
        replace h := hB5 _ (Option.some.inj h).symm
        cases h
        exact a_iret (pc := 428) F dL_chains_428 ⟨_, rfl, rfl⟩
      · replace h := ite_f q10 h
        clear q10
        refine a_aload (pc := 411) F dL_chains_411 7 rfl ?_
        refine a_bipush (v := 6) (pc := 413) F dL_chains_413 (by decide) ?_
        refine a_iload (pc := 415) F dL_chains_415 1 rfl ?_
        refine a_imul (pc := 417) F dL_chains_417 ?_
        refine a_iconst (v := 2) (pc := 418) F dL_chains_418 (by decide) ?_
        refine a_iadd (pc := 419) F dL_chains_419 ?_
        replace h := gIn_some h
        obtain ⟨g11, h⟩ := h
        refine a_ial (k := 164) (pc := 420) F dL_chains_420 kl_164 ks_164 g11 ?_
        refine a_nmi fun x12 ex12 => ?_
        replace h := nm_at ex12 h
        clear ex12
        refine a_aload_n (pc := 421) F dL_chains_421 5 rfl ?_
        refine a_iconst (v := 2) (pc := 422) F dL_chains_422 (by decide) ?_
        refine a_ialc (k := 162) (pc := 423) F dL_chains_423 kl_162 ks_162 rfl rfl ?_
        replace h := jn_some h
        obtain ⟨o13, hR13, hK13, hB13⟩ := h
        have hJ13 : ∀ (m17 : Mem), o13 = .inl m17 → WA X 0 0 446 [(0, .ref (ga X.G 0)), (3, .ref (ga X.G 162)), (4, .ref (ga X.G 163)), (5, .ref (ga X.G 164)), (6, .ref (ga X.G 165)), (7, .int x2), (8, .int x4)] [] m17 (EQ X (some (.int rr)) mm) := by
          intro m17 eo
          have h := hK13 _ eo
          clear hK13 eo
          refine a_iload (pc := 446) F dL_chains_446 6 rfl ?_
          refine a_bipush (v := 7) (pc := 448) F dL_chains_448 (by decide) ?_
          refine a_icmp_ne (tgt := 486) (pc := 450) F dL_chains_450 (by decide) (fun q18 => ?_) (fun q18 => ?_)
          · replace h := ite_f q18 h
            clear q18
            refine a_aload (pc := 486) F dL_chains_486 3 rfl ?_
            refine a_bipush (v := 6) (pc := 488) F dL_chains_488 (by decide) ?_
            refine a_iload (pc := 490) F dL_chains_490 5 rfl ?_
            refine a_imul (pc := 492) F dL_chains_492 ?_
            refine a_iconst (v := 2) (pc := 493) F dL_chains_493 (by decide) ?_
            refine a_iadd (pc := 494) F dL_chains_494 ?_
            replace h := gIn_some h
            obtain ⟨g19, h⟩ := h
            refine a_ial (k := 164) (pc := 495) F dL_chains_495 kl_164 ks_164 g19 ?_
            refine a_nmi fun x20 ex20 => ?_
            replace h := nm_at ex20 h
            clear ex20
            refine a_aload_n (pc := 496) F dL_chains_496 1 rfl ?_
            refine a_iconst (v := 2) (pc := 497) F dL_chains_497 (by decide) ?_
            refine a_ialc (k := 162) (pc := 498) F dL_chains_498 kl_162 ks_162 rfl rfl ?_
            refine a_isub (pc := 499) F dL_chains_499 ?_
            refine a_istore (lv' := [(9, .int (x20 - (m17.1 162 2))), (0, .ref (ga X.G 0)), (3, .ref (ga X.G 162)), (4, .ref (ga X.G 163)), (5, .ref (ga X.G 164)), (6, .ref (ga X.G 165)), (7, .int x2), (8, .int x4)]) (pc := 500) F dL_chains_500 (by decide) rfl ?_
            refine a_aload_n (pc := 502) F dL_chains_502 2 rfl ?_
            refine a_aload (pc := 503) F dL_chains_503 3 rfl ?_
            refine a_aload (pc := 505) F dL_chains_505 4 rfl ?_
            refine a_aload (pc := 507) F dL_chains_507 5 rfl ?_
            refine a_iload (pc := 509) F dL_chains_509 6 rfl ?_
            refine a_iload (pc := 511) F dL_chains_511 0 rfl ?_
            refine a_aload_n (pc := 513) F dL_chains_513 2 rfl ?_
            refine a_bipush (v := 11) (pc := 514) F dL_chains_514 (by decide) ?_
            refine a_ialc (k := 162) (pc := 516) F dL_chains_516 kl_162 ks_162 rfl rfl ?_
            replace h := bnd_some h
            obtain ⟨x24, hR21, h⟩ := h
            have hJ21 : WA X 0 0 538 [(0, .ref (ga X.G 0)), (3, .ref (ga X.G 162)), (5, .ref (ga X.G 164)), (7, .int x2)] [.int x24, .int x2, .ref (ga X.G 165), .ref (ga X.G 164), .ref (ga X.G 163), .ref (ga X.G 162)] m17 (EQ X (some (.int rr)) mm) := by
              replace h := bnd2_some h
              obtain ⟨x26, m27, hc25, h⟩ := h
              refine a_callS (pc := 538) (As := [.ref (ga X.G 162), .ref (ga X.G 163), .ref (ga X.G 164), .ref (ga X.G 165), .int x2, .int x24]) (st := []) F dL_chains_538 (m_L_pays hc25) cs_RL_34 rfl rfl rfl (Nat.le_of_ble_eq_true rfl) ⟨Nat.le_of_ble_eq_true rfl, Nat.le_of_ble_eq_true rfl⟩ ?_ rfl rfl
              clear hc25
              refine a_istore (lv' := [(10, .int x26), (0, .ref (ga X.G 0)), (3, .ref (ga X.G 162)), (5, .ref (ga X.G 164)), (7, .int x2)]) (pc := 541) F dL_chains_541 (by decide) rfl ?_
              refine a_aload (pc := 543) F dL_chains_543 3 rfl ?_
              refine a_bipush (v := 6) (pc := 545) F dL_chains_545 (by decide) ?_
              refine a_iload (pc := 547) F dL_chains_547 4 rfl ?_
              refine a_imul (pc := 549) F dL_chains_549 ?_
              refine a_iconst (v := 4) (pc := 550) F dL_chains_550 (by decide) ?_
              refine a_iadd (pc := 551) F dL_chains_551 ?_
              refine a_iconst (v := 3) (pc := 552) F dL_chains_552 (by decide) ?_
              replace h := gIn_some h
              obtain ⟨g28, h⟩ := h
              refine a_ias (k := 164) (pc := 553) F dL_chains_553 kl_164 ks_164 g28 ?_
              refine a_nmm fun m29 em29 => ?_
              replace h := nm_at em29 h
              clear em29
              refine a_aload_n (pc := 554) F dL_chains_554 2 rfl ?_
              refine a_iconst (v := 4) (pc := 555) F dL_chains_555 (by decide) ?_
              refine a_dup2 (pc := 556) F dL_chains_556 rfl rfl ?_
              refine a_ialc (k := 162) (pc := 557) F dL_chains_557 kl_162 ks_162 rfl rfl ?_
              refine a_iload (pc := 558) F dL_chains_558 0 rfl ?_
              refine a_iadd (pc := 560) F dL_chains_560 ?_
              refine a_iasc (k := 162) (pc := 561) F dL_chains_561 kl_162 ks_162 rfl rfl ?_
              refine a_nmm fun m30 em30 => ?_
              replace h := nm_at em30 h
              clear em30
              refine a_aload_n (pc := 562) F dL_chains_562 1 rfl ?_
              refine a_iload (pc := 563) F dL_chains_563 4 rfl ?_
              replace h := bnd2_some h
              obtain ⟨x32, m33, hc31, h⟩ := h
              refine a_callV (pc := 565) (k := 0) (As := [.int x2]) (st := []) F dL_chains_565 (m_X7_vacate hc31) cv_RL_59 kl_0 ks_0 ⟨_, _, rfl⟩ rfl rfl rfl (Nat.le_of_ble_eq_true rfl) ⟨Nat.le_of_ble_eq_true rfl, Nat.le_of_ble_eq_true rfl⟩ ?_ rfl rfl
              clear hc31
              refine a_iload (pc := 568) F dL_chains_568 0 rfl ?_
              refine a_icmp_ne (tgt := 577) (pc := 570) F dL_chains_570 (by decide) (fun q34 => ?_) (fun q34 => ?_)
              · replace h := ite_f q34 h
                clear q34
                refine a_iconst (v := 0) (pc := 577) F dL_chains_577 (by decide) ?_
                replace h := hB5 _ (Option.some.inj h).symm
                cases h
                exact a_iret (pc := 578) F dL_chains_578 ⟨_, rfl, rfl⟩
              · replace h := ite_t (Decidable.not_not.mp q34) h
                clear q34
                refine a_iconst (v := 1) (pc := 573) F dL_chains_573 (by decide) ?_
                refine a_goto (tgt := 578) (pc := 574) F dL_chains_574 (by decide) ?_
                replace h := hB5 _ (Option.some.inj h).symm
                cases h
                exact a_iret (pc := 578) F dL_chains_578 ⟨_, rfl, rfl⟩
            clear h
            have h := hR21
            clear hR21
            refine a_icmp_ge (tgt := 524) (pc := 517) F dL_chains_517 (by decide) (fun q22 => ?_) (fun q22 => ?_)
            · replace h := ite_t q22 h
              clear q22
              refine a_iload (pc := 524) F dL_chains_524 0 rfl ?_
              refine a_aload_n (pc := 526) F dL_chains_526 2 rfl ?_
              refine a_bipush (v := 12) (pc := 527) F dL_chains_527 (by decide) ?_
              refine a_ialc (k := 162) (pc := 529) F dL_chains_529 kl_162 ks_162 rfl rfl ?_
              refine a_icmp_ge (tgt := 537) (pc := 530) F dL_chains_530 (by decide) (fun q23 => ?_) (fun q23 => ?_)
              · replace h := ite_t q23 h
                clear q23
                refine a_iconst (v := 0) (pc := 537) F dL_chains_537 (by decide) ?_
                refine a_lv F [1, 2, 4, 6] rfl ?_
                cases h
                exact hJ21
              · replace h := ite_f q23 h
                clear q23
                refine a_iconst (v := 1) (pc := 533) F dL_chains_533 (by decide) ?_
                refine a_goto (tgt := 538) (pc := 534) F dL_chains_534 (by decide) ?_
                refine a_lv F [1, 2, 4, 6] rfl ?_
                cases h
                exact hJ21
            · replace h := ite_f q22 h
              clear q22
              refine a_iconst (v := 2) (pc := 520) F dL_chains_520 (by decide) ?_
              refine a_goto (tgt := 538) (pc := 521) F dL_chains_521 (by decide) ?_
              refine a_lv F [1, 2, 4, 6] rfl ?_
              cases h
              exact hJ21
          · replace h := ite_t (Decidable.not_not.mp q18) h
            clear q18
            refine a_aload (pc := 453) F dL_chains_453 4 rfl ?_
            refine a_iload (pc := 455) F dL_chains_455 5 rfl ?_
            replace h := gIn_some h
            obtain ⟨g35, h⟩ := h
            refine a_ial (k := 165) (pc := 457) F dL_chains_457 kl_165 ks_165 g35 ?_
            refine a_nmi fun x36 ex36 => ?_
            replace h := nm_at ex36 h
            clear ex36
            replace h := bnd_some h
            obtain ⟨x38, hc37, h⟩ := h
            refine a_callS (pc := 458) (As := [.int x36]) (st := []) F dL_chains_458 (m_L_size hc37) cs_RL_14 rfl rfl rfl (Nat.le_of_ble_eq_true rfl) ⟨Nat.le_of_ble_eq_true rfl, Nat.le_of_ble_eq_true rfl⟩ ?_ rfl rfl
            clear hc37
            refine a_istore (lv' := [(9, .int x38), (0, .ref (ga X.G 0)), (3, .ref (ga X.G 162)), (4, .ref (ga X.G 163)), (5, .ref (ga X.G 164)), (6, .ref (ga X.G 165)), (7, .int x2), (8, .int x4)]) (pc := 461) F dL_chains_461 (by decide) rfl ?_
            refine a_aload (pc := 463) F dL_chains_463 5 rfl ?_
            refine a_iload (pc := 465) F dL_chains_465 6 rfl ?_
            refine a_iconst (v := 0) (pc := 467) F dL_chains_467 (by decide) ?_
            replace h := gIn_some h
            obtain ⟨g39, h⟩ := h
            refine a_ias (k := 165) (pc := 468) F dL_chains_468 kl_165 ks_165 g39 ?_
            refine a_nmm fun m40 em40 => ?_
            replace h := nm_at em40 h
            clear em40
            refine a_aload_n (pc := 469) F dL_chains_469 1 rfl ?_
            refine a_iload (pc := 470) F dL_chains_470 6 rfl ?_
            replace h := bnd2_some h
            obtain ⟨x42, m43, hc41, h⟩ := h
            refine a_callV (pc := 472) (k := 0) (As := [.int x2]) (st := []) F dL_chains_472 (m_X7_release hc41) cv_RL_56 kl_0 ks_0 ⟨_, _, rfl⟩ rfl rfl rfl (Nat.le_of_ble_eq_true rfl) ⟨Nat.le_of_ble_eq_true rfl, Nat.le_of_ble_eq_true rfl⟩ ?_ rfl rfl
            clear hc41
            refine a_iload (pc := 475) F dL_chains_475 0 rfl ?_
            refine a_icmp_ne (tgt := 484) (pc := 477) F dL_chains_477 (by decide) (fun q44 => ?_) (fun q44 => ?_)
            · replace h := ite_f q44 h
              clear q44
              refine a_iconst (v := 0) (pc := 484) F dL_chains_484 (by decide) ?_
              replace h := hB5 _ (Option.some.inj h).symm
              cases h
              exact a_iret (pc := 485) F dL_chains_485 ⟨_, rfl, rfl⟩
            · replace h := ite_t (Decidable.not_not.mp q44) h
              clear q44
              refine a_iconst (v := 1) (pc := 480) F dL_chains_480 (by decide) ?_
              refine a_goto (tgt := 485) (pc := 481) F dL_chains_481 (by decide) ?_
              replace h := hB5 _ (Option.some.inj h).symm
              cases h
              exact a_iret (pc := 485) F dL_chains_485 ⟨_, rfl, rfl⟩
        clear hK13
        have h := hR13
        clear hR13
        refine a_icmp_gt (tgt := 429) (pc := 424) F dL_chains_424 (by decide) (fun q14 => ?_) (fun q14 => ?_)
        · replace h := ite_t q14 h
          clear q14
          refine a_aload_n (pc := 429) F dL_chains_429 5 rfl ?_
          refine a_bipush (v := 6) (pc := 430) F dL_chains_430 (by decide) ?_
          refine a_ialc (k := 162) (pc := 432) F dL_chains_432 kl_162 ks_162 rfl rfl ?_
          refine a_bipush (v := 6) (pc := 433) F dL_chains_433 (by decide) ?_
          refine a_icmp_ge (tgt := 446) (pc := 435) F dL_chains_435 (by decide) (fun q15 => ?_) (fun q15 => ?_)
          · replace h := ite_t q15 h
            clear q15
            refine a_lv F [2, 5, 6, 7, 8, 1, 0] rfl ?_
            exact hJ13 _ (Option.some.inj h).symm
          · replace h := ite_f q15 h
            clear q15
            refine a_aload_n (pc := 438) F dL_chains_438 5 rfl ?_
            refine a_bipush (v := 6) (pc := 439) F dL_chains_439 (by decide) ?_
            refine a_dup2 (pc := 441) F dL_chains_441 rfl rfl ?_
            refine a_ialc (k := 162) (pc := 442) F dL_chains_442 kl_162 ks_162 rfl rfl ?_
            refine a_iconst (v := 1) (pc := 443) F dL_chains_443 (by decide) ?_
            refine a_iadd (pc := 444) F dL_chains_444 ?_
            refine a_iasc (k := 162) (pc := 445) F dL_chains_445 kl_162 ks_162 rfl rfl ?_
            refine a_nmm fun m16 em16 => ?_
            replace h := nm_at em16 h
            clear em16
            refine a_lv F [2, 5, 6, 7, 8, 1, 0] rfl ?_
            exact hJ13 _ (Option.some.inj h).symm
        · replace h := ite_f q14 h
          clear q14
          refine a_iconst (v := 1) (pc := 427) F dL_chains_427 (by decide) ?_
          replace h := hB13 _ (Option.some.inj h).symm
          replace h := hB5 _ (Option.some.inj h).symm
          cases h
          exact a_iret (pc := 428) F dL_chains_428 ⟨_, rfl, rfl⟩
    · replace h := ite_t (Decidable.not_not.mp q7) h
      clear q7
      refine a_aload (pc := 252) F dL_chains_252 8 rfl ?_
      refine a_iload (pc := 254) F dL_chains_254 1 rfl ?_
      replace h := gIn_some h
      obtain ⟨g45, h⟩ := h
      refine a_ial (k := 165) (pc := 256) F dL_chains_256 kl_165 ks_165 g45 ?_
      refine a_nmi fun x46 ex46 => ?_
      replace h := nm_at ex46 h
      clear ex46
      replace h := bnd_some h
      obtain ⟨x48, hc47, h⟩ := h
      refine a_callS (pc := 257) (As := [.int x46]) (st := []) F dL_chains_257 (m_L_size hc47) cs_RL_14 rfl rfl rfl (Nat.le_of_ble_eq_true rfl) ⟨Nat.le_of_ble_eq_true rfl, Nat.le_of_ble_eq_true rfl⟩ ?_ rfl rfl
      clear hc47
      refine a_istore (lv' := [(9, .int x48), (8, .int x4), (7, .int x2), (0, .ref (ga X.G 0)), (1, .int p2), (2, .int p3), (3, .ref (ga X.G 162)), (4, .ref (ga X.G 163)), (5, .ref (ga X.G 164)), (6, .ref (ga X.G 165))]) (pc := 260) F dL_chains_260 (by decide) rfl ?_
      refine a_iload_n (pc := 262) F dL_chains_262 5 rfl ?_
      refine a_iconst (v := 4) (pc := 263) F dL_chains_263 (by decide) ?_
      refine a_ishr (pc := 264) F dL_chains_264 ?_
      refine a_aload_n (pc := 265) F dL_chains_265 6 rfl ?_
      refine a_iconst (v := 0) (pc := 266) F dL_chains_266 (by decide) ?_
      refine a_ialc (k := 162) (pc := 267) F dL_chains_267 kl_162 ks_162 rfl rfl ?_
      replace h := bnd_some h
      obtain ⟨x50, hc49, h⟩ := h
      refine a_callS (pc := 268) (As := [.int (p3 >>> (4 &&& 31)), .int (m0.1 162 0)]) (st := []) F dL_chains_268 (m_L_at hc49) cs_RL_37 rfl rfl rfl (Nat.le_of_ble_eq_true rfl) ⟨Nat.le_of_ble_eq_true rfl, Nat.le_of_ble_eq_true rfl⟩ ?_ rfl rfl
      clear hc49
      refine a_istore (lv' := [(10, .int x50), (9, .int x48), (8, .int x4), (7, .int x2), (0, .ref (ga X.G 0)), (1, .int p2), (2, .int p3), (3, .ref (ga X.G 162)), (4, .ref (ga X.G 163)), (5, .ref (ga X.G 164)), (6, .ref (ga X.G 165))]) (pc := 271) F dL_chains_271 (by decide) rfl ?_
      refine a_iload (pc := 273) F dL_chains_273 1 rfl ?_
      refine a_if_eq (tgt := 291) (pc := 275) F dL_chains_275 (by decide) (fun q51 => ?_) (fun q51 => ?_)
      · replace h := ite_t q51 h
        clear q51
        refine a_iconst (v := 1) (pc := 291) F dL_chains_291 (by decide) ?_
        replace h := hB5 _ (Option.some.inj h).symm
        cases h
        exact a_iret (pc := 292) F dL_chains_292 ⟨_, rfl, rfl⟩
      · replace h := ite_f q51 h
        clear q51
        refine a_aload (pc := 278) F dL_chains_278 10 rfl ?_
        refine a_iload (pc := 280) F dL_chains_280 3 rfl ?_
        replace h := gIn_some h
        obtain ⟨g52, h⟩ := h
        refine a_ial (k := 165) (pc := 282) F dL_chains_282 kl_165 ks_165 g52 ?_
        refine a_nmi fun x53 ex53 => ?_
        replace h := nm_at ex53 h
        clear ex53
        refine a_iload (pc := 283) F dL_chains_283 0 rfl ?_
        replace h := bnd_some h
        obtain ⟨x55, hc54, h⟩ := h
        refine a_callS (pc := 285) (As := [.int x53, .int x50]) (st := []) F dL_chains_285 (m_L_has hc54) cs_RL_26 rfl rfl rfl (Nat.le_of_ble_eq_true rfl) ⟨Nat.le_of_ble_eq_true rfl, Nat.le_of_ble_eq_true rfl⟩ ?_ rfl rfl
        clear hc54
        replace h := jn_some h
        obtain ⟨o56, hR56, hK56, hB56⟩ := h
        have hJ56 : ∀ (x74 : Int32) (x75 : Int32) (m76 : Mem), o56 = .inl (x74, x75, m76) → WA X 0 0 377 [(0, .ref (ga X.G 0)), (7, .int x2), (10, .int x50), (11, .int x74), (12, .int x75)] [] m76 (EQ X (some (.int rr)) mm) := by
          intro x74 x75 m76 eo
          have h := hK56 _ eo
          clear hK56 eo
          refine a_aload_n (pc := 377) F dL_chains_377 0 rfl ?_
          refine a_iload (pc := 378) F dL_chains_378 1 rfl ?_
          refine a_iload (pc := 380) F dL_chains_380 3 rfl ?_
          refine a_iload (pc := 382) F dL_chains_382 2 rfl ?_
          replace h := bnd2_some h
          obtain ⟨x78, m79, hc77, h⟩ := h
          refine a_callV (pc := 384) (k := 0) (As := [.int x2, .int x74, .int x50]) (st := []) F dL_chains_384 (m_X7_swap hc77) cv_RL_52 kl_0 ks_0 ⟨_, _, rfl⟩ rfl rfl rfl (Nat.le_of_ble_eq_true rfl) ⟨Nat.le_of_ble_eq_true rfl, Nat.le_of_ble_eq_true rfl⟩ ?_ rfl rfl
          clear hc77
          refine a_iload (pc := 387) F dL_chains_387 4 rfl ?_
          refine a_icmp_ne (tgt := 396) (pc := 389) F dL_chains_389 (by decide) (fun q80 => ?_) (fun q80 => ?_)
          · replace h := ite_f q80 h
            clear q80
            refine a_iconst (v := 0) (pc := 396) F dL_chains_396 (by decide) ?_
            replace h := hB5 _ (Option.some.inj h).symm
            cases h
            exact a_iret (pc := 397) F dL_chains_397 ⟨_, rfl, rfl⟩
          · replace h := ite_t (Decidable.not_not.mp q80) h
            clear q80
            refine a_iconst (v := 1) (pc := 392) F dL_chains_392 (by decide) ?_
            refine a_goto (tgt := 397) (pc := 393) F dL_chains_393 (by decide) ?_
            replace h := hB5 _ (Option.some.inj h).symm
            cases h
            exact a_iret (pc := 397) F dL_chains_397 ⟨_, rfl, rfl⟩
        clear hK56
        have h := hR56
        clear hR56
        refine a_if_eq (tgt := 293) (pc := 288) F dL_chains_288 (by decide) (fun q57 => ?_) (fun q57 => ?_)
        · replace h := ite_t q57 h
          clear q57
          refine a_iload_n (pc := 293) F dL_chains_293 6 rfl ?_
          refine a_bipush (v := 8) (pc := 294) F dL_chains_294 (by decide) ?_
          refine a_ishr (pc := 296) F dL_chains_296 ?_
          refine a_iload (pc := 297) F dL_chains_297 1 rfl ?_
          replace h := bnd_some h
          obtain ⟨x59, hc58, h⟩ := h
          refine a_callS (pc := 299) (As := [.int (p3 >>> (8 &&& 31)), .int x48]) (st := []) F dL_chains_299 (m_L_at hc58) cs_RL_37 rfl rfl rfl (Nat.le_of_ble_eq_true rfl) ⟨Nat.le_of_ble_eq_true rfl, Nat.le_of_ble_eq_true rfl⟩ ?_ rfl rfl
          clear hc58
          refine a_istore (lv' := [(11, .int x59), (10, .int x50), (9, .int x48), (8, .int x4), (7, .int x2), (0, .ref (ga X.G 0)), (1, .int p2), (2, .int p3), (3, .ref (ga X.G 162)), (4, .ref (ga X.G 163)), (5, .ref (ga X.G 164)), (6, .ref (ga X.G 165))]) (pc := 302) F dL_chains_302 (by decide) rfl ?_
          refine a_aload (pc := 304) F dL_chains_304 11 rfl ?_
          refine a_iload (pc := 306) F dL_chains_306 4 rfl ?_
          replace h := gIn_some h
          obtain ⟨g60, h⟩ := h
          refine a_ial (k := 165) (pc := 308) F dL_chains_308 kl_165 ks_165 g60 ?_
          refine a_nmi fun x61 ex61 => ?_
          replace h := nm_at ex61 h
          clear ex61
          refine a_iload (pc := 309) F dL_chains_309 0 rfl ?_
          replace h := bnd_some h
          obtain ⟨x63, hc62, h⟩ := h
          refine a_callS (pc := 311) (As := [.int x61, .int x59]) (st := []) F dL_chains_311 (m_L_who hc62) cs_RL_8 rfl rfl rfl (Nat.le_of_ble_eq_true rfl) ⟨Nat.le_of_ble_eq_true rfl, Nat.le_of_ble_eq_true rfl⟩ ?_ rfl rfl
          clear hc62
          refine a_istore (lv' := [(12, .int x63), (11, .int x59), (10, .int x50), (9, .int x48), (8, .int x4), (7, .int x2), (0, .ref (ga X.G 0)), (1, .int p2), (2, .int p3), (3, .ref (ga X.G 162)), (4, .ref (ga X.G 163)), (5, .ref (ga X.G 164)), (6, .ref (ga X.G 165))]) (pc := 314) F dL_chains_314 (by decide) rfl ?_
          refine a_aload (pc := 316) F dL_chains_316 12 rfl ?_
          refine a_iload (pc := 318) F dL_chains_318 5 rfl ?_
          replace h := gIn_some h
          obtain ⟨g64, h⟩ := h
          refine a_ial (k := 165) (pc := 320) F dL_chains_320 kl_165 ks_165 g64 ?_
          refine a_nmi fun x65 ex65 => ?_
          replace h := nm_at ex65 h
          clear ex65
          refine a_iload (pc := 321) F dL_chains_321 2 rfl ?_
          refine a_iload (pc := 323) F dL_chains_323 0 rfl ?_
          refine a_isub (pc := 325) F dL_chains_325 ?_
          refine a_iconst (v := 4) (pc := 326) F dL_chains_326 (by decide) ?_
          refine a_iload (pc := 327) F dL_chains_327 1 rfl ?_
          refine a_imul (pc := 329) F dL_chains_329 ?_
          refine a_ishl (pc := 330) F dL_chains_330 ?_
          refine a_nmi fun x66 ex66 => ?_
          replace h := nm_at ex66 h
          clear ex66
          refine a_iadd (pc := 331) F dL_chains_331 ?_
          refine a_istore (lv' := [(13, .int (x65 + x66)), (12, .int x63), (11, .int x59), (10, .int x50), (9, .int x48), (8, .int x4), (7, .int x2), (0, .ref (ga X.G 0)), (1, .int p2), (2, .int p3), (3, .ref (ga X.G 162)), (4, .ref (ga X.G 163)), (5, .ref (ga X.G 164)), (6, .ref (ga X.G 165))]) (pc := 332) F dL_chains_332 (by decide) rfl ?_
          refine a_aload_n (pc := 334) F dL_chains_334 10 rfl ?_
          refine a_aload (pc := 335) F dL_chains_335 11 rfl ?_
          refine a_aload (pc := 337) F dL_chains_337 12 rfl ?_
          refine a_aload (pc := 339) F dL_chains_339 13 rfl ?_
          refine a_iload (pc := 341) F dL_chains_341 6 rfl ?_
          refine a_iload (pc := 343) F dL_chains_343 0 rfl ?_
          replace h := bnd_some h
          obtain ⟨x68, hc67, h⟩ := h
          refine a_callS (pc := 345) (As := [.ref (ga X.G 162), .ref (ga X.G 163), .ref (ga X.G 164), .ref (ga X.G 165), .int x2, .int (x65 + x66)]) (st := []) F dL_chains_345 (m_L_why hc67) cs_RL_40 rfl rfl rfl (Nat.le_of_ble_eq_true rfl) ⟨Nat.le_of_ble_eq_true rfl, Nat.le_of_ble_eq_true rfl⟩ ?_ rfl rfl
          clear hc67
          refine a_if_le (tgt := 353) (pc := 348) F dL_chains_348 (by decide) (fun q69 => ?_) (fun q69 => ?_)
          · replace h := ite_t q69 h
            clear q69
            refine a_aload (pc := 353) F dL_chains_353 13 rfl ?_
            refine a_iload (pc := 355) F dL_chains_355 6 rfl ?_
            refine a_iload (pc := 357) F dL_chains_357 0 rfl ?_
            replace h := gIn_some h
            obtain ⟨g70, h⟩ := h
            refine a_ias (k := 165) (pc := 359) F dL_chains_359 kl_165 ks_165 g70 ?_
            refine a_nmm fun m71 em71 => ?_
            replace h := nm_at em71 h
            clear em71
            refine a_aload_n (pc := 360) F dL_chains_360 10 rfl ?_
            refine a_bipush (v := 6) (pc := 361) F dL_chains_361 (by decide) ?_
            refine a_ialc (k := 162) (pc := 363) F dL_chains_363 kl_162 ks_162 rfl rfl ?_
            refine a_bipush (v := 6) (pc := 364) F dL_chains_364 (by decide) ?_
            refine a_icmp_ge (tgt := 377) (pc := 366) F dL_chains_366 (by decide) (fun q72 => ?_) (fun q72 => ?_)
            · replace h := ite_t q72 h
              clear q72
              refine a_lv F [7, 6, 3, 2, 1] rfl ?_
              exact hJ56 _ _ _ (Option.some.inj h).symm
            · replace h := ite_f q72 h
              clear q72
              refine a_aload_n (pc := 369) F dL_chains_369 10 rfl ?_
              refine a_bipush (v := 6) (pc := 370) F dL_chains_370 (by decide) ?_
              refine a_dup2 (pc := 372) F dL_chains_372 rfl rfl ?_
              refine a_ialc (k := 162) (pc := 373) F dL_chains_373 kl_162 ks_162 rfl rfl ?_
              refine a_iconst (v := 1) (pc := 374) F dL_chains_374 (by decide) ?_
              refine a_iadd (pc := 375) F dL_chains_375 ?_
              refine a_iasc (k := 162) (pc := 376) F dL_chains_376 kl_162 ks_162 rfl rfl ?_
              refine a_nmm fun m73 em73 => ?_
              replace h := nm_at em73 h
              clear em73
              refine a_lv F [7, 6, 3, 2, 1] rfl ?_
              exact hJ56 _ _ _ (Option.some.inj h).symm
          · replace h := ite_f q69 h
            clear q69
            refine a_iconst (v := 1) (pc := 351) F dL_chains_351 (by decide) ?_
            replace h := hB56 _ (Option.some.inj h).symm
            replace h := hB5 _ (Option.some.inj h).symm
            cases h
            exact a_iret (pc := 352) F dL_chains_352 ⟨_, rfl, rfl⟩
        · replace h := ite_f q57 h
          clear q57
          refine a_iconst (v := 1) (pc := 291) F dL_chains_291 (by decide) ?_
          replace h := hB56 _ (Option.some.inj h).symm
          replace h := hB5 _ (Option.some.inj h).symm
          cases h
          exact a_iret (pc := 292) F dL_chains_292 ⟨_, rfl, rfl⟩
  · replace h := ite_f q6 h
    clear q6
    refine a_iload_n (pc := 24) F dL_chains_24 4 rfl ?_
    refine a_iconst (v := 4) (pc := 25) F dL_chains_25 (by decide) ?_
    refine a_ishr (pc := 26) F dL_chains_26 ?_
    refine a_aload_n (pc := 27) F dL_chains_27 5 rfl ?_
    refine a_iconst (v := 0) (pc := 28) F dL_chains_28 (by decide) ?_
    refine a_ialc (k := 162) (pc := 29) F dL_chains_29 kl_162 ks_162 rfl rfl ?_
    replace h := bnd_some h
    obtain ⟨x82, hc81, h⟩ := h
    refine a_callS (pc := 30) (As := [.int (p3 >>> (4 &&& 31)), .int (m0.1 162 0)]) (st := []) F dL_chains_30 (m_L_at hc81) cs_RL_37 rfl rfl rfl (Nat.le_of_ble_eq_true rfl) ⟨Nat.le_of_ble_eq_true rfl, Nat.le_of_ble_eq_true rfl⟩ ?_ rfl rfl
    clear hc81
    refine a_istore (lv' := [(9, .int x82), (8, .int x4), (7, .int x2), (0, .ref (ga X.G 0)), (1, .int p2), (2, .int p3), (3, .ref (ga X.G 162)), (4, .ref (ga X.G 163)), (5, .ref (ga X.G 164)), (6, .ref (ga X.G 165))]) (pc := 33) F dL_chains_33 (by decide) rfl ?_
    refine a_iload_n (pc := 35) F dL_chains_35 5 rfl ?_
    refine a_bipush (v := 7) (pc := 36) F dL_chains_36 (by decide) ?_
    refine a_ishr (pc := 38) F dL_chains_38 ?_
    refine a_iconst (v := 3) (pc := 39) F dL_chains_39 (by decide) ?_
    replace h := bnd_some h
    obtain ⟨x84, hc83, h⟩ := h
    refine a_callS (pc := 40) (As := [.int (p3 >>> (7 &&& 31)), .int 3]) (st := []) F dL_chains_40 (m_L_at hc83) cs_RL_37 rfl rfl rfl (Nat.le_of_ble_eq_true rfl) ⟨Nat.le_of_ble_eq_true rfl, Nat.le_of_ble_eq_true rfl⟩ ?_ rfl rfl
    clear hc83
    refine a_if_ne (tgt := 50) (pc := 43) F dL_chains_43 (by decide) (fun q85 => ?_) (fun q85 => ?_)
    · replace h := ite_f q85 h
      clear q85
      refine a_iload_n (pc := 50) F dL_chains_50 5 rfl ?_
      refine a_bipush (v := 9) (pc := 51) F dL_chains_51 (by decide) ?_
      refine a_ishr (pc := 53) F dL_chains_53 ?_
      refine a_aload_n (pc := 54) F dL_chains_54 6 rfl ?_
      refine a_iconst (v := 0) (pc := 55) F dL_chains_55 (by decide) ?_
      refine a_ialc (k := 162) (pc := 56) F dL_chains_56 kl_162 ks_162 rfl rfl ?_
      replace h := bnd_some h
      obtain ⟨x87, hc86, h⟩ := h
      refine a_callS (pc := 57) (As := [.int (p3 >>> (9 &&& 31)), .int (m0.1 162 0)]) (st := []) F dL_chains_57 (m_L_at hc86) cs_RL_37 rfl rfl rfl (Nat.le_of_ble_eq_true rfl) ⟨Nat.le_of_ble_eq_true rfl, Nat.le_of_ble_eq_true rfl⟩ ?_ rfl rfl
      clear hc86
      refine a_lv F [3, 5, 6, 7, 8, 9, 2, 0] rfl ?_
      exact hJ5 _ _ _ (Option.some.inj h).symm
    · replace h := ite_t (Decidable.not_not.mp q85) h
      clear q85
      refine a_iconst (v := (-1)) (pc := 46) F dL_chains_46 (by decide) ?_
      refine a_goto (tgt := 60) (pc := 47) F dL_chains_47 (by decide) ?_
      refine a_lv F [3, 5, 6, 7, 8, 9, 2, 0] rfl ?_
      exact hJ5 _ _ _ (Option.some.inj h).symm
