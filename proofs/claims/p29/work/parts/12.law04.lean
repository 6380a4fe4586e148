def f_L_act_L607 (x180 : Int32) : (Int32 × Int32 × Mem) → Option ((Int32 × Int32 × Mem) ⊕ (Int32 × Mem))
  | (x182, x183, m184) => (if (1 + x180) ≤ x183 then some (.inr (x182, m184)) else bnd2 (f_L_minute m184) fun x187 m188 => nm (x183 + 1) fun x189 => some (.inl (x182 + x187, x189, m188)))
def f_L_act (p2 : Int32) (p3 : Int32) (m0 : Mem) : Option (Int32 × Mem) :=
  bnd (f_L_at (p2 >>> (20 &&& 31)) 14 m0) fun x2 => jn ((if (m0.1 162 0) < 3 then nm (si m0 162 0 ((m0.1 162 0) + 1)) fun m5 => bnd (f_L_at p3 4 m5) fun x7 => bnd (f_L_at (p3 >>> (2 &&& 31)) 3 m5) fun x9 => nm (1 <<< ((4 + x9) &&& 31)) fun x10 => nm ((1 <<< (x7 &&& 31)) ||| x10) fun x11 => bnd (f_L_at (p3 >>> (4 &&& 31)) 128 m5) fun x13 => gIn (6 * (m0.1 162 0)) 30 <| nm (si m5 163 (6 * (m0.1 162 0)).toNatClampNeg (x11 ||| x13)) fun m15 => bnd (f_L_at (p3 >>> (11 &&& 31)) 2 m15) fun x17 => bnd ((if x17 = 0 then some (7 : Int32) else bnd (f_L_at (p3 >>> (12 &&& 31)) 8 m15) fun x21 => some x21)) (fun (x22 : Int32) => gIn ((6 * (m0.1 162 0)) + 1) 30 <| nm (si m15 163 ((6 * (m0.1 162 0)) + 1).toNatClampNeg x22) fun m24 => bnd (f_L_at (p3 >>> (15 &&& 31)) 100 m24) fun x26 => gIn ((6 * (m0.1 162 0)) + 2) 30 <| nm (si m24 163 ((6 * (m0.1 162 0)) + 2).toNatClampNeg (1 + x26)) fun m28 => bnd ((if 6 ≤ (m28.1 162 6) then some m28 else nm (si m28 162 6 ((m28.1 162 6) + 1)) fun m31 => some m31)) (fun (m32 : Mem) => gIn (6 * (m0.1 162 0)) 30 <| nm (m32.1 163 (6 * (m0.1 162 0)).toNatClampNeg) fun x34 => gIn ((6 * (m0.1 162 0)) + 1) 30 <| nm (m32.1 163 ((6 * (m0.1 162 0)) + 1).toNatClampNeg) fun x36 => gIn ((6 * (m0.1 162 0)) + 2) 30 <| nm (m32.1 163 ((6 * (m0.1 162 0)) + 2).toNatClampNeg) fun x38 => bnd2 (f_X7_addInterpreter x34 x36 x38 m32) fun x40 m41 => (if x40 = ((6 * (m0.1 162 0)) / 6) then some (.inr (1, m41)) else some (.inr (0, m41))))) else (if x2 = 0 then (if 5 ≤ (m0.1 162 0) then some (.inl m0) else nm (si m0 162 0 ((m0.1 162 0) + 1)) fun m45 => bnd (f_L_at p3 4 m45) fun x47 => bnd (f_L_at (p3 >>> (2 &&& 31)) 3 m45) fun x49 => nm (1 <<< ((4 + x49) &&& 31)) fun x50 => nm ((1 <<< (x47 &&& 31)) ||| x50) fun x51 => bnd (f_L_at (p3 >>> (4 &&& 31)) 128 m45) fun x53 => gIn (6 * (m0.1 162 0)) 30 <| nm (si m45 163 (6 * (m0.1 162 0)).toNatClampNeg (x51 ||| x53)) fun m55 => bnd (f_L_at (p3 >>> (11 &&& 31)) 2 m55) fun x57 => bnd ((if x57 = 0 then some (7 : Int32) else bnd (f_L_at (p3 >>> (12 &&& 31)) 8 m55) fun x61 => some x61)) (fun (x62 : Int32) => gIn ((6 * (m0.1 162 0)) + 1) 30 <| nm (si m55 163 ((6 * (m0.1 162 0)) + 1).toNatClampNeg x62) fun m64 => bnd (f_L_at (p3 >>> (15 &&& 31)) 100 m64) fun x66 => gIn ((6 * (m0.1 162 0)) + 2) 30 <| nm (si m64 163 ((6 * (m0.1 162 0)) + 2).toNatClampNeg (1 + x66)) fun m68 => bnd ((if 6 ≤ (m68.1 162 6) then some m68 else nm (si m68 162 6 ((m68.1 162 6) + 1)) fun m71 => some m71)) (fun (m72 : Mem) => gIn (6 * (m0.1 162 0)) 30 <| nm (m72.1 163 (6 * (m0.1 162 0)).toNatClampNeg) fun x74 => gIn ((6 * (m0.1 162 0)) + 1) 30 <| nm (m72.1 163 ((6 * (m0.1 162 0)) + 1).toNatClampNeg) fun x76 => gIn ((6 * (m0.1 162 0)) + 2) 30 <| nm (m72.1 163 ((6 * (m0.1 162 0)) + 2).toNatClampNeg) fun x78 => bnd2 (f_X7_addInterpreter x74 x76 x78 m72) fun x80 m81 => (if x80 = ((6 * (m0.1 162 0)) / 6) then some (.inr (1, m81)) else some (.inr (0, m81)))))) else some (.inl m0)))) (fun (m83 : Mem) => jn ((if (m83.1 162 1) < 2 then nm (si m83 162 1 ((m83.1 162 1) + 1)) fun m86 => bnd (f_L_at p3 3 m86) fun x88 => gIn (6 * (m83.1 162 1)) 48 <| nm (si m86 164 (6 * (m83.1 162 1)).toNatClampNeg x88) fun m90 => nm ((6 * (m83.1 162 1)) + 1) fun x91 => bnd (f_L_at (p3 >>> (2 &&& 31)) 6 m90) fun x93 => gIn x91 48 <| nm (si m90 164 x91.toNatClampNeg (1 + x93)) fun m95 => nm ((6 * (m83.1 162 1)) + 2) fun x96 => bnd (f_L_at (p3 >>> (5 &&& 31)) 60 m95) fun x98 => nm (((m95.1 162 2) + 1) + x98) fun x99 => gIn x96 48 <| nm (si m95 164 x96.toNatClampNeg x99) fun m101 => nm ((6 * (m83.1 162 1)) + 3) fun x102 => bnd (f_L_at (p3 >>> (11 &&& 31)) 50 m101) fun x104 => gIn x102 48 <| nm (si m101 164 x102.toNatClampNeg (10 + x104)) fun m106 => bnd ((if 6 ≤ (m106.1 162 6) then some m106 else nm (si m106 162 6 ((m106.1 162 6) + 1)) fun m109 => some m109)) (fun (m110 : Mem) => gIn (6 * (m83.1 162 1)) 48 <| nm (m110.1 164 (6 * (m83.1 162 1)).toNatClampNeg) fun x112 => nm ((6 * (m83.1 162 1)) + 1) fun x113 => gIn x113 48 <| nm (m110.1 164 x113.toNatClampNeg) fun x115 => nm ((6 * (m83.1 162 1)) + 2) fun x116 => gIn x116 48 <| nm (m110.1 164 x116.toNatClampNeg) fun x118 => nm ((6 * (m83.1 162 1)) + 3) fun x119 => gIn x119 48 <| nm (m110.1 164 x119.toNatClampNeg) fun x121 => bnd2 (f_X7_addHearing x112 x115 (x118 - (m110.1 162 2)) x121 m110) fun x123 m124 => nm ((6 * (m83.1 162 1)) / 6) fun x125 => (if x123 = x125 then some (.inr (1, m124)) else some (.inr (0, m124)))) else (if 3 ≤ x2 then some (.inl m83) else (if 8 ≤ (m83.1 162 1) then some (.inl m83) else nm (si m83 162 1 ((m83.1 162 1) + 1)) fun m129 => bnd (f_L_at p3 3 m129) fun x131 => gIn (6 * (m83.1 162 1)) 48 <| nm (si m129 164 (6 * (m83.1 162 1)).toNatClampNeg x131) fun m133 => nm ((6 * (m83.1 162 1)) + 1) fun x134 => bnd (f_L_at (p3 >>> (2 &&& 31)) 6 m133) fun x136 => gIn x134 48 <| nm (si m133 164 x134.toNatClampNeg (1 + x136)) fun m138 => nm ((6 * (m83.1 162 1)) + 2) fun x139 => bnd (f_L_at (p3 >>> (5 &&& 31)) 60 m138) fun x141 => nm (((m138.1 162 2) + 1) + x141) fun x142 => gIn x139 48 <| nm (si m138 164 x139.toNatClampNeg x142) fun m144 => nm ((6 * (m83.1 162 1)) + 3) fun x145 => bnd (f_L_at (p3 >>> (11 &&& 31)) 50 m144) fun x147 => gIn x145 48 <| nm (si m144 164 x145.toNatClampNeg (10 + x147)) fun m149 => bnd ((if 6 ≤ (m149.1 162 6) then some m149 else nm (si m149 162 6 ((m149.1 162 6) + 1)) fun m152 => some m152)) (fun (m153 : Mem) => gIn (6 * (m83.1 162 1)) 48 <| nm (m153.1 164 (6 * (m83.1 162 1)).toNatClampNeg) fun x155 => nm ((6 * (m83.1 162 1)) + 1) fun x156 => gIn x156 48 <| nm (m153.1 164 x156.toNatClampNeg) fun x158 => nm ((6 * (m83.1 162 1)) + 2) fun x159 => gIn x159 48 <| nm (m153.1 164 x159.toNatClampNeg) fun x161 => nm ((6 * (m83.1 162 1)) + 3) fun x162 => gIn x162 48 <| nm (m153.1 164 x162.toNatClampNeg) fun x164 => bnd2 (f_X7_addHearing x155 x158 (x161 - (m153.1 162 2)) x164 m153) fun x166 m167 => nm ((6 * (m83.1 162 1)) / 6) fun x168 => (if x166 = x168 then some (.inr (1, m167)) else some (.inr (0, m167)))))))) (fun (m170 : Mem) => jn ((if 10 ≤ x2 then (if x2 = 10 then bnd (f_L_at p3 (m170.1 162 0) m170) fun x222 => gIn ((6 * x222) + 1) 30 <| nm (m170.1 163 ((6 * x222) + 1).toNatClampNeg) fun x224 => bnd (f_L_at (p3 >>> (4 &&& 31)) 8 m170) fun x226 => gIn ((6 * x222) + 1) 30 <| nm (si m170 163 ((6 * x222) + 1).toNatClampNeg x226) fun m228 => (if 6 ≤ (m228.1 162 6) then some (.inl (x222, x224, m228)) else nm (si m228 162 6 ((m228.1 162 6) + 1)) fun m230 => some (.inl (x222, x224, m230))) else bnd ((if 6 ≤ (m170.1 162 6) then some m170 else nm (si m170 162 6 ((m170.1 162 6) + 1)) fun m176 => some m176)) (fun (m177 : Mem) => (if x2 = 11 then bnd (f_L_at p3 7 m177) fun x197 => gIn (7 + x197) 14 <| nm (m177.1 162 (7 + x197).toNatClampNeg) fun x199 => bnd ((if 3 ≤ x197 then (if x197 = 3 then bnd (f_L_at (p3 >>> (3 &&& 31)) 300 m177) fun x209 => some x209 else (if 6 ≤ x197 then bnd (f_L_at (p3 >>> (3 &&& 31)) 101 m177) fun x205 => some x205 else bnd (f_L_at (p3 >>> (3 &&& 31)) 80 m177) fun x207 => some x207)) else bnd (f_L_at (p3 >>> (3 &&& 31)) 21 m177) fun x211 => some x211)) (fun (x212 : Int32) => gIn (7 + x197) 14 <| nm (si m177 162 (7 + x197).toNatClampNeg x212) fun m214 => gIn (7 + x197) 14 <| nm (m214.1 162 (7 + x197).toNatClampNeg) fun x216 => bnd2 (f_X7_set x197 x216 m214) fun x218 m219 => (if x218 = x199 then some (.inr (1, m219)) else some (.inr (0, m219)))) else bnd (f_L_at p3 40 m177) fun x180 => bnd (lp (f_L_act_L607 x180) 1000000 (0, 0, m177)) (fun (x190, m191) => bnd2 (f_X7_pass (1 + x180) m191) fun x193 m194 => (if x193 = x190 then some (.inr (1, m194)) else some (.inr (0, m194))))))) else bnd2 (f_L_chains p2 p3 m170) fun x232 m233 => gBo x232 <| some (.inr (x232, m233)))) (fun ((x235, x236, m237) : Int32 × Int32 × Mem) => gIn ((6 * x235) + 1) 30 <| nm (m237.1 163 ((6 * x235) + 1).toNatClampNeg) fun x239 => bnd2 (f_X7_certify x235 x239 m237) fun x241 m242 => (if x241 = x236 then some (1, m242) else some (0, m242)))))
set_option maxRecDepth 100000 in
set_option maxHeartbeats 4000000 in
theorem m_L_act {p2 : Int32} {p3 : Int32} {m0 : Mem} {rr : Int32} {mm : Mem} (h : f_L_act p2 p3 m0 = some (rr, mm)) : Con yL_act cL_act 11 (some Jvm.ClassFile.FieldType.boolean) 6 164 (fun G => [.ref (ga G 0), .int p2, .int p3, .ref (ga G 162), .ref (ga G 163), .ref (ga G 164), .ref (ga G 165)]) m0 (some (.int rr)) mm := by
  refine con_of (by decide) (fun G => Nat.le_of_ble_eq_true rfl) (fun X F => ?_)
  show WA X 0 0 0 [(0, .ref (ga X.G 0)), (1, .int p2), (2, .int p3), (3, .ref (ga X.G 162)), (4, .ref (ga X.G 163)), (5, .ref (ga X.G 164)), (6, .ref (ga X.G 165))] [] m0 (EQ X (some (.int rr)) mm)
  rw [f_L_act] at h
  refine a_iload_n (pc := 0) F dL_act_0 1 rfl ?_
  refine a_bipush (v := 20) (pc := 1) F dL_act_1 (by decide) ?_
  refine a_ishr (pc := 3) F dL_act_3 ?_
  refine a_bipush (v := 14) (pc := 4) F dL_act_4 (by decide) ?_
  replace h := bnd_some h
  obtain ⟨x2, hc1, h⟩ := h
  refine a_callS (pc := 6) (As := [.int (p2 >>> (20 &&& 31)), .int 14]) (st := []) F dL_act_6 (m_L_at hc1) cs_RL_37 rfl rfl rfl (Nat.le_of_ble_eq_true rfl) ⟨Nat.le_of_ble_eq_true rfl, Nat.le_of_ble_eq_true rfl⟩ ?_ rfl rfl
  clear hc1
  refine a_istore (lv' := [(7, .int x2), (0, .ref (ga X.G 0)), (1, .int p2), (2, .int p3), (3, .ref (ga X.G 162)), (4, .ref (ga X.G 163)), (5, .ref (ga X.G 164)), (6, .ref (ga X.G 165))]) (pc := 9) F dL_act_9 (by decide) rfl ?_
  refine a_aload_n (pc := 11) F dL_act_11 4 rfl ?_
  refine a_iconst (v := 0) (pc := 12) F dL_act_12 (by decide) ?_
  refine a_ialc (k := 162) (pc := 13) F dL_act_13 kl_162 ks_162 rfl rfl ?_
  refine a_iconst (v := 3) (pc := 14) F dL_act_14 (by decide) ?_
  replace h := jn_some h
  obtain ⟨o3, hR3, hK3, hB3⟩ := h
  have hJ3 : ∀ (m83 : Mem), o3 = .inl m83 → WA X 0 0 181 [(0, .ref (ga X.G 0)), (1, .int p2), (2, .int p3), (3, .ref (ga X.G 162)), (4, .ref (ga X.G 163)), (5, .ref (ga X.G 164)), (6, .ref (ga X.G 165)), (7, .int x2)] [] m83 (EQ X (some (.int rr)) mm) := by
    intro m83 eo
    have h := hK3 _ eo
    clear hK3 eo
    refine a_aload_n (pc := 181) F dL_act_181 3 rfl ?_
    refine a_iconst (v := 1) (pc := 182) F dL_act_182 (by decide) ?_
    refine a_ialc (k := 162) (pc := 183) F dL_act_183 kl_162 ks_162 rfl rfl ?_
    refine a_iconst (v := 2) (pc := 184) F dL_act_184 (by decide) ?_
    replace h := jn_some h
    obtain ⟨o84, hR84, hK84, hB84⟩ := h
    have hJ84 : ∀ (m170 : Mem), o84 = .inl m170 → WA X 0 0 347 [(0, .ref (ga X.G 0)), (1, .int p2), (2, .int p3), (3, .ref (ga X.G 162)), (4, .ref (ga X.G 163)), (5, .ref (ga X.G 164)), (6, .ref (ga X.G 165)), (7, .int x2)] [] m170 (EQ X (some (.int rr)) mm) := by
      intro m170 eo
      have h := hK84 _ eo
      clear hK84 eo
      refine a_iload (pc := 347) F dL_act_347 7 rfl ?_
      refine a_bipush (v := 10) (pc := 349) F dL_act_349 (by decide) ?_
      replace h := jn_some h
      obtain ⟨o171, hR171, hK171, hB171⟩ := h
      have hJ171 : ∀ (x235 : Int32) (x236 : Int32) (m237 : Mem), o171 = .inl (x235, x236, m237) → WA X 0 0 431 [(0, .ref (ga X.G 0)), (4, .ref (ga X.G 163)), (8, .int x235), (9, .int x236)] [] m237 (EQ X (some (.int rr)) mm) := by
        intro x235 x236 m237 eo
        have h := hK171 _ eo
        clear hK171 eo
        refine a_aload_n (pc := 431) F dL_act_431 0 rfl ?_
        refine a_iload (pc := 432) F dL_act_432 2 rfl ?_
        refine a_aload (pc := 434) F dL_act_434 1 rfl ?_
        refine a_bipush (v := 6) (pc := 436) F dL_act_436 (by decide) ?_
        refine a_iload (pc := 438) F dL_act_438 2 rfl ?_
        refine a_imul (pc := 440) F dL_act_440 ?_
        refine a_iconst (v := 1) (pc := 441) F dL_act_441 (by decide) ?_
        refine a_iadd (pc := 442) F dL_act_442 ?_
        replace h := gIn_some h
        obtain ⟨g238, h⟩ := h
        refine a_ial (k := 163) (pc := 443) F dL_act_443 kl_163 ks_163 g238 ?_
        refine a_nmi fun x239 ex239 => ?_
        replace h := nm_at ex239 h
        clear ex239
        replace h := bnd2_some h
        obtain ⟨x241, m242, hc240, h⟩ := h
        refine a_callV (pc := 444) (k := 0) (As := [.int x235, .int x239]) (st := []) F dL_act_444 (m_X7_certify hc240) cv_RL_72 kl_0 ks_0 ⟨_, _, rfl⟩ rfl rfl rfl (Nat.le_of_ble_eq_true rfl) ⟨Nat.le_of_ble_eq_true rfl, Nat.le_of_ble_eq_true rfl⟩ ?_ rfl rfl
        clear hc240
        refine a_iload (pc := 447) F dL_act_447 3 rfl ?_
        refine a_icmp_ne (tgt := 456) (pc := 449) F dL_act_449 (by decide) (fun q243 => ?_) (fun q243 => ?_)
        · replace h := ite_f q243 h
          clear q243
          refine a_iconst (v := 0) (pc := 456) F dL_act_456 (by decide) ?_
          cases h
          exact a_iret (pc := 457) F dL_act_457 ⟨_, rfl, rfl⟩
        · replace h := ite_t (Decidable.not_not.mp q243) h
          clear q243
          refine a_iconst (v := 1) (pc := 452) F dL_act_452 (by decide) ?_
          refine a_goto (tgt := 457) (pc := 453) F dL_act_453 (by decide) ?_
          cases h
          exact a_iret (pc := 457) F dL_act_457 ⟨_, rfl, rfl⟩
      clear hK171
      have h := hR171
      clear hR171
      refine a_icmp_ge (tgt := 368) (pc := 351) F dL_act_351 (by decide) (fun q172 => ?_) (fun q172 => ?_)
      · replace h := ite_t q172 h
        clear q172
        refine a_iload (pc := 368) F dL_act_368 7 rfl ?_
        refine a_bipush (v := 10) (pc := 370) F dL_act_370 (by decide) ?_
        refine a_icmp_ne (tgt := 458) (pc := 372) F dL_act_372 (by decide) (fun q173 => ?_) (fun q173 => ?_)
        · replace h := ite_f q173 h
          clear q173
          refine a_aload_n (pc := 458) F dL_act_458 3 rfl ?_
          refine a_bipush (v := 6) (pc := 459) F dL_act_459 (by decide) ?_
          refine a_ialc (k := 162) (pc := 461) F dL_act_461 kl_162 ks_162 rfl rfl ?_
          refine a_bipush (v := 6) (pc := 462) F dL_act_462 (by decide) ?_
          replace h := bnd_some h
          obtain ⟨m177, hR174, h⟩ := h
          have hJ174 : WA X 0 0 475 [(0, .ref (ga X.G 0)), (2, .int p3), (3, .ref (ga X.G 162)), (4, .ref (ga X.G 163)), (5, .ref (ga X.G 164)), (6, .ref (ga X.G 165)), (7, .int x2)] [] m177 (EQ X (some (.int rr)) mm) := by
            refine a_iload (pc := 475) F dL_act_475 6 rfl ?_
            refine a_bipush (v := 11) (pc := 477) F dL_act_477 (by decide) ?_
            refine a_icmp_ne (tgt := 591) (pc := 479) F dL_act_479 (by decide) (fun q178 => ?_) (fun q178 => ?_)
            · replace h := ite_f q178 h
              clear q178
              refine a_iconst (v := 1) (pc := 591) F dL_act_591 (by decide) ?_
              refine a_iload_n (pc := 592) F dL_act_592 1 rfl ?_
              refine a_bipush (v := 40) (pc := 593) F dL_act_593 (by decide) ?_
              replace h := bnd_some h
              obtain ⟨x180, hc179, h⟩ := h
              refine a_callS (pc := 595) (As := [.int p3, .int 40]) (st := [.int 1]) F dL_act_595 (m_L_at hc179) cs_RL_37 rfl rfl rfl (Nat.le_of_ble_eq_true rfl) ⟨Nat.le_of_ble_eq_true rfl, Nat.le_of_ble_eq_true rfl⟩ ?_ rfl rfl
              clear hc179
              refine a_iadd (pc := 598) F dL_act_598 ?_
              refine a_istore (lv' := [(8, .int (1 + x180)), (0, .ref (ga X.G 0)), (2, .int p3), (3, .ref (ga X.G 162)), (4, .ref (ga X.G 163)), (5, .ref (ga X.G 164)), (6, .ref (ga X.G 165)), (7, .int x2)]) (pc := 599) F dL_act_599 (by decide) rfl ?_
              refine a_iconst (v := 0) (pc := 601) F dL_act_601 (by decide) ?_
              refine a_istore (lv' := [(9, .int 0), (8, .int (1 + x180)), (0, .ref (ga X.G 0)), (2, .int p3), (3, .ref (ga X.G 162)), (4, .ref (ga X.G 163)), (5, .ref (ga X.G 164)), (6, .ref (ga X.G 165)), (7, .int x2)]) (pc := 602) F dL_act_602 (by decide) rfl ?_
              refine a_iconst (v := 0) (pc := 604) F dL_act_604 (by decide) ?_
              refine a_istore (lv' := [(10, .int 0), (9, .int 0), (8, .int (1 + x180)), (0, .ref (ga X.G 0)), (2, .int p3), (3, .ref (ga X.G 162)), (4, .ref (ga X.G 163)), (5, .ref (ga X.G 164)), (6, .ref (ga X.G 165)), (7, .int x2)]) (pc := 605) F dL_act_605 (by decide) rfl ?_
              refine a_lv F [3, 5, 6, 7, 8, 2, 1, 0] rfl ?_
              replace h := bnd_some h
              obtain ⟨⟨x190, m191⟩, hL181, h⟩ := h
              have hE181 : WA X 0 0 635 [(0, .ref (ga X.G 0)), (8, .int (1 + x180)), (9, .int x190)] [] m191 (EQ X (some (.int rr)) mm) := by
                refine a_aload_n (pc := 635) F dL_act_635 0 rfl ?_
                refine a_iload (pc := 636) F dL_act_636 1 rfl ?_
                replace h := bnd2_some h
                obtain ⟨x193, m194, hc192, h⟩ := h
                refine a_callV (pc := 638) (k := 0) (As := [.int (1 + x180)]) (st := []) F dL_act_638 (m_X7_pass hc192) cv_RL_82 kl_0 ks_0 ⟨_, _, rfl⟩ rfl rfl rfl (Nat.le_of_ble_eq_true rfl) ⟨Nat.le_of_ble_eq_true rfl, Nat.le_of_ble_eq_true rfl⟩ ?_ rfl rfl
                clear hc192
                refine a_iload (pc := 641) F dL_act_641 2 rfl ?_
                refine a_icmp_ne (tgt := 650) (pc := 643) F dL_act_643 (by decide) (fun q195 => ?_) (fun q195 => ?_)
                · replace h := ite_f q195 h
                  clear q195
                  refine a_iconst (v := 0) (pc := 650) F dL_act_650 (by decide) ?_
                  replace h := hB171 _ (Option.some.inj h).symm
                  cases h
                  exact a_iret (pc := 651) F dL_act_651 ⟨_, rfl, rfl⟩
                · replace h := ite_t (Decidable.not_not.mp q195) h
                  clear q195
                  refine a_iconst (v := 1) (pc := 646) F dL_act_646 (by decide) ?_
                  refine a_goto (tgt := 651) (pc := 647) F dL_act_647 (by decide) ?_
                  replace h := hB171 _ (Option.some.inj h).symm
                  cases h
                  exact a_iret (pc := 651) F dL_act_651 ⟨_, rfl, rfl⟩
              clear h
              refine lp_run (P := fun (s : (Int32 × Int32 × Mem)) => WA X 0 0 607 [(0, .ref (ga X.G 0)), (3, .ref (ga X.G 162)), (4, .ref (ga X.G 163)), (5, .ref (ga X.G 164)), (6, .ref (ga X.G 165)), (8, .int (1 + x180)), (9, .int s.1), (10, .int s.2.1)] [] s.2.2 (EQ X (some (.int rr)) mm)) ?_ _ _ hL181
              clear hL181
              rintro ⟨x182, x183, m184⟩ xo h hP181 hT181
              show WA X 0 0 607 [(0, .ref (ga X.G 0)), (3, .ref (ga X.G 162)), (4, .ref (ga X.G 163)), (5, .ref (ga X.G 164)), (6, .ref (ga X.G 165)), (8, .int (1 + x180)), (9, .int x182), (10, .int x183)] [] m184 (EQ X (some (.int rr)) mm)
              rw [f_L_act_L607] at h
              refine a_iload (pc := 607) F dL_act_607 7 rfl ?_
              refine a_iload (pc := 609) F dL_act_609 5 rfl ?_
              refine a_icmp_ge (tgt := 635) (pc := 611) F dL_act_611 (by decide) (fun q185 => ?_) (fun q185 => ?_)
              · replace h := ite_t q185 h
                clear q185
                refine a_lv F [0, 5, 6] rfl ?_
                cases hT181 _ (Option.some.inj h).symm
                exact hE181
              · replace h := ite_f q185 h
                clear q185
                refine a_iload (pc := 614) F dL_act_614 6 rfl ?_
                refine a_aload_n (pc := 616) F dL_act_616 1 rfl ?_
                refine a_aload (pc := 617) F dL_act_617 2 rfl ?_
                refine a_aload (pc := 619) F dL_act_619 3 rfl ?_
                refine a_aload (pc := 621) F dL_act_621 4 rfl ?_
                replace h := bnd2_some h
                obtain ⟨x187, m188, hc186, h⟩ := h
                refine a_callS (pc := 623) (As := [.ref (ga X.G 162), .ref (ga X.G 163), .ref (ga X.G 164), .ref (ga X.G 165)]) (st := [.int x182]) F dL_act_623 (m_L_minute hc186) cs_RL_78 rfl rfl rfl (Nat.le_of_ble_eq_true rfl) ⟨Nat.le_of_ble_eq_true rfl, Nat.le_of_ble_eq_true rfl⟩ ?_ rfl rfl
                clear hc186
                refine a_iadd (pc := 626) F dL_act_626 ?_
                refine a_istore (lv' := [(9, .int (x182 + x187)), (0, .ref (ga X.G 0)), (3, .ref (ga X.G 162)), (4, .ref (ga X.G 163)), (5, .ref (ga X.G 164)), (6, .ref (ga X.G 165)), (8, .int (1 + x180)), (10, .int x183)]) (pc := 627) F dL_act_627 (by decide) rfl ?_
                obtain ⟨x189, ex189⟩ : ∃ x189 : Int32, x189 = x183 + 1 := ⟨_, rfl⟩
                refine a_iinc (v := x189) (lv' := [(10, .int x189), (9, .int (x182 + x187)), (0, .ref (ga X.G 0)), (3, .ref (ga X.G 162)), (4, .ref (ga X.G 163)), (5, .ref (ga X.G 164)), (6, .ref (ga X.G 165)), (8, .int (1 + x180))]) (pc := 629) F dL_act_629 7 rfl (by rw [ex189]; rfl) (by decide) rfl ?_
                replace h := nm_at ex189 h
                clear ex189
                refine a_goto (tgt := 607) (pc := 632) F dL_act_632 (by decide) ?_
                refine a_lv F [2, 3, 4, 5, 6, 7, 1, 0] rfl ?_
                exact hP181 _ (Option.some.inj h).symm
            · replace h := ite_t (Decidable.not_not.mp q178) h
              clear q178
              refine a_iload_n (pc := 482) F dL_act_482 1 rfl ?_
              refine a_bipush (v := 7) (pc := 483) F dL_act_483 (by decide) ?_
              replace h := bnd_some h
              obtain ⟨x197, hc196, h⟩ := h
              refine a_callS (pc := 485) (As := [.int p3, .int 7]) (st := []) F dL_act_485 (m_L_at hc196) cs_RL_37 rfl rfl rfl (Nat.le_of_ble_eq_true rfl) ⟨Nat.le_of_ble_eq_true rfl, Nat.le_of_ble_eq_true rfl⟩ ?_ rfl rfl
              clear hc196
              refine a_istore (lv' := [(8, .int x197), (0, .ref (ga X.G 0)), (2, .int p3), (3, .ref (ga X.G 162)), (4, .ref (ga X.G 163)), (5, .ref (ga X.G 164)), (6, .ref (ga X.G 165)), (7, .int x2)]) (pc := 488) F dL_act_488 (by decide) rfl ?_
              refine a_aload_n (pc := 490) F dL_act_490 3 rfl ?_
              refine a_bipush (v := 7) (pc := 491) F dL_act_491 (by decide) ?_
              refine a_iload (pc := 493) F dL_act_493 0 rfl ?_
              refine a_iadd (pc := 495) F dL_act_495 ?_
              replace h := gIn_some h
              obtain ⟨g198, h⟩ := h
              refine a_ial (k := 162) (pc := 496) F dL_act_496 kl_162 ks_162 g198 ?_
              refine a_nmi fun x199 ex199 => ?_
              replace h := nm_at ex199 h
              clear ex199
              refine a_istore (lv' := [(9, .int x199), (8, .int x197), (0, .ref (ga X.G 0)), (2, .int p3), (3, .ref (ga X.G 162)), (4, .ref (ga X.G 163)), (5, .ref (ga X.G 164)), (6, .ref (ga X.G 165)), (7, .int x2)]) (pc := 497) F dL_act_497 (by decide) rfl ?_
              refine a_aload_n (pc := 499) F dL_act_499 4 rfl ?_
              refine a_bipush (v := 7) (pc := 500) F dL_act_500 (by decide) ?_
              refine a_iload (pc := 502) F dL_act_502 1 rfl ?_
              refine a_iadd (pc := 504) F dL_act_504 ?_
              refine a_iload (pc := 505) F dL_act_505 1 rfl ?_
              refine a_iconst (v := 3) (pc := 507) F dL_act_507 (by decide) ?_
              replace h := bnd_some h
              obtain ⟨x212, hR200, h⟩ := h
              have hJ200 : WA X 0 0 566 [(0, .ref (ga X.G 0)), (3, .ref (ga X.G 162)), (8, .int x197), (9, .int x199)] [.int x212, .int (7 + x197), .ref (ga X.G 162)] m177 (EQ X (some (.int rr)) mm) := by
                replace h := gIn_some h
                obtain ⟨g213, h⟩ := h
                refine a_ias (k := 162) (pc := 566) F dL_act_566 kl_162 ks_162 g213 ?_
                refine a_nmm fun m214 em214 => ?_
                replace h := nm_at em214 h
                clear em214
                refine a_aload_n (pc := 567) F dL_act_567 0 rfl ?_
                refine a_iload (pc := 568) F dL_act_568 2 rfl ?_
                refine a_aload_n (pc := 570) F dL_act_570 1 rfl ?_
                refine a_bipush (v := 7) (pc := 571) F dL_act_571 (by decide) ?_
                refine a_iload (pc := 573) F dL_act_573 2 rfl ?_
                refine a_iadd (pc := 575) F dL_act_575 ?_
                replace h := gIn_some h
                obtain ⟨g215, h⟩ := h
                refine a_ial (k := 162) (pc := 576) F dL_act_576 kl_162 ks_162 g215 ?_
                refine a_nmi fun x216 ex216 => ?_
                replace h := nm_at ex216 h
                clear ex216
                replace h := bnd2_some h
                obtain ⟨x218, m219, hc217, h⟩ := h
                refine a_callV (pc := 577) (k := 0) (As := [.int x197, .int x216]) (st := []) F dL_act_577 (m_X7_set hc217) cv_RL_75 kl_0 ks_0 ⟨_, _, rfl⟩ rfl rfl rfl (Nat.le_of_ble_eq_true rfl) ⟨Nat.le_of_ble_eq_true rfl, Nat.le_of_ble_eq_true rfl⟩ ?_ rfl rfl
                clear hc217
                refine a_iload (pc := 580) F dL_act_580 3 rfl ?_
                refine a_icmp_ne (tgt := 589) (pc := 582) F dL_act_582 (by decide) (fun q220 => ?_) (fun q220 => ?_)
                · replace h := ite_f q220 h
                  clear q220
                  refine a_iconst (v := 0) (pc := 589) F dL_act_589 (by decide) ?_
                  replace h := hB171 _ (Option.some.inj h).symm
                  cases h
                  exact a_iret (pc := 590) F dL_act_590 ⟨_, rfl, rfl⟩
                · replace h := ite_t (Decidable.not_not.mp q220) h
                  clear q220
                  refine a_iconst (v := 1) (pc := 585) F dL_act_585 (by decide) ?_
                  refine a_goto (tgt := 590) (pc := 586) F dL_act_586 (by decide) ?_
                  replace h := hB171 _ (Option.some.inj h).symm
                  cases h
                  exact a_iret (pc := 590) F dL_act_590 ⟨_, rfl, rfl⟩
              clear h
              have h := hR200
              clear hR200
              refine a_icmp_ge (tgt := 522) (pc := 508) F dL_act_508 (by decide) (fun q201 => ?_) (fun q201 => ?_)
              · replace h := ite_t q201 h
                clear q201
                refine a_iload (pc := 522) F dL_act_522 1 rfl ?_
                refine a_iconst (v := 3) (pc := 524) F dL_act_524 (by decide) ?_
                refine a_icmp_ne (tgt := 540) (pc := 525) F dL_act_525 (by decide) (fun q202 => ?_) (fun q202 => ?_)
                · replace h := ite_f q202 h
                  clear q202
                  refine a_iload (pc := 540) F dL_act_540 1 rfl ?_
                  refine a_bipush (v := 6) (pc := 542) F dL_act_542 (by decide) ?_
                  refine a_icmp_ge (tgt := 558) (pc := 544) F dL_act_544 (by decide) (fun q203 => ?_) (fun q203 => ?_)
                  · replace h := ite_t q203 h
                    clear q203
                    refine a_iload_n (pc := 558) F dL_act_558 3 rfl ?_
                    refine a_iconst (v := 3) (pc := 559) F dL_act_559 (by decide) ?_
                    refine a_ishr (pc := 560) F dL_act_560 ?_
                    refine a_bipush (v := 101) (pc := 561) F dL_act_561 (by decide) ?_
                    replace h := bnd_some h
                    obtain ⟨x205, hc204, h⟩ := h
                    refine a_callS (pc := 563) (As := [.int (p3 >>> (3 &&& 31)), .int 101]) (st := [.int (7 + x197), .ref (ga X.G 162)]) F dL_act_563 (m_L_at hc204) cs_RL_37 rfl rfl rfl (Nat.le_of_ble_eq_true rfl) ⟨Nat.le_of_ble_eq_true rfl, Nat.le_of_ble_eq_true rfl⟩ ?_ rfl rfl
                    clear hc204
                    refine a_lv F [2, 4, 1, 0] rfl ?_
                    cases h
                    exact hJ200
                  · replace h := ite_f q203 h
                    clear q203
                    refine a_iload_n (pc := 547) F dL_act_547 3 rfl ?_
                    refine a_iconst (v := 3) (pc := 548) F dL_act_548 (by decide) ?_
                    refine a_ishr (pc := 549) F dL_act_549 ?_
                    refine a_bipush (v := 80) (pc := 550) F dL_act_550 (by decide) ?_
                    replace h := bnd_some h
                    obtain ⟨x207, hc206, h⟩ := h
                    refine a_callS (pc := 552) (As := [.int (p3 >>> (3 &&& 31)), .int 80]) (st := [.int (7 + x197), .ref (ga X.G 162)]) F dL_act_552 (m_L_at hc206) cs_RL_37 rfl rfl rfl (Nat.le_of_ble_eq_true rfl) ⟨Nat.le_of_ble_eq_true rfl, Nat.le_of_ble_eq_true rfl⟩ ?_ rfl rfl
                    clear hc206
                    refine a_goto (tgt := 566) (pc := 555) F dL_act_555 (by decide) ?_
                    refine a_lv F [2, 4, 1, 0] rfl ?_
                    cases h
                    exact hJ200
                · replace h := ite_t (Decidable.not_not.mp q202) h
                  clear q202
                  refine a_iload_n (pc := 528) F dL_act_528 3 rfl ?_
                  refine a_iconst (v := 3) (pc := 529) F dL_act_529 (by decide) ?_
                  refine a_ishr (pc := 530) F dL_act_530 ?_
                  refine a_sipush (v := 300) (pc := 531) F dL_act_531 (by decide) ?_
                  replace h := bnd_some h
                  obtain ⟨x209, hc208, h⟩ := h
                  refine a_callS (pc := 534) (As := [.int (p3 >>> (3 &&& 31)), .int 300]) (st := [.int (7 + x197), .ref (ga X.G 162)]) F dL_act_534 (m_L_at hc208) cs_RL_37 rfl rfl rfl (Nat.le_of_ble_eq_true rfl) ⟨Nat.le_of_ble_eq_true rfl, Nat.le_of_ble_eq_true rfl⟩ ?_ rfl rfl
                  clear hc208
                  refine a_goto (tgt := 566) (pc := 537) F dL_act_537 (by decide) ?_
                  refine a_lv F [2, 4, 1, 0] rfl ?_
                  cases h
                  exact hJ200
              · replace h := ite_f q201 h
                clear q201
                refine a_iload_n (pc := 511) F dL_act_511 3 rfl ?_
                refine a_iconst (v := 3) (pc := 512) F dL_act_512 (by decide) ?_
                refine a_ishr (pc := 513) F dL_act_513 ?_
                refine a_bipush (v := 21) (pc := 514) F dL_act_514 (by decide) ?_
                replace h := bnd_some h
                obtain ⟨x211, hc210, h⟩ := h
                refine a_callS (pc := 516) (As := [.int (p3 >>> (3 &&& 31)), .int 21]) (st := [.int (7 + x197), .ref (ga X.G 162)]) F dL_act_516 (m_L_at hc210) cs_RL_37 rfl rfl rfl (Nat.le_of_ble_eq_true rfl) ⟨Nat.le_of_ble_eq_true rfl, Nat.le_of_ble_eq_true rfl⟩ ?_ rfl rfl
                clear hc210
                refine a_goto (tgt := 566) (pc := 519) F dL_act_519 (by decide) ?_
                refine a_lv F [2, 4, 1, 0] rfl ?_
                cases h
                exact hJ200
          clear h
          have h := hR174
          clear hR174
          refine a_icmp_ge (tgt := 475) (pc := 464) F dL_act_464 (by decide) (fun q175 => ?_) (fun q175 => ?_)
          · replace h := ite_t q175 h
            clear q175
            refine a_lv F [0, 2, 3, 4, 5, 6, 7] rfl ?_
            cases h
            exact hJ174
          · replace h := ite_f q175 h
            clear q175
            refine a_aload_n (pc := 467) F dL_act_467 3 rfl ?_
            refine a_bipush (v := 6) (pc := 468) F dL_act_468 (by decide) ?_
            refine a_dup2 (pc := 470) F dL_act_470 rfl rfl ?_
            refine a_ialc (k := 162) (pc := 471) F dL_act_471 kl_162 ks_162 rfl rfl ?_
            refine a_iconst (v := 1) (pc := 472) F dL_act_472 (by decide) ?_
            refine a_iadd (pc := 473) F dL_act_473 ?_
            refine a_iasc (k := 162) (pc := 474) F dL_act_474 kl_162 ks_162 rfl rfl ?_
            refine a_nmm fun m176 em176 => ?_
            replace h := nm_at em176 h
            clear em176
            refine a_lv F [0, 2, 3, 4, 5, 6, 7] rfl ?_
            cases h
            exact hJ174
        · replace h := ite_t (Decidable.not_not.mp q173) h
          clear q173
          refine a_iload_n (pc := 375) F dL_act_375 2 rfl ?_
          refine a_aload_n (pc := 376) F dL_act_376 3 rfl ?_
          refine a_iconst (v := 0) (pc := 377) F dL_act_377 (by decide) ?_
          refine a_ialc (k := 162) (pc := 378) F dL_act_378 kl_162 ks_162 rfl rfl ?_
          replace h := bnd_some h
          obtain ⟨x222, hc221, h⟩ := h
          refine a_callS (pc := 379) (As := [.int p3, .int (m170.1 162 0)]) (st := []) F dL_act_379 (m_L_at hc221) cs_RL_37 rfl rfl rfl (Nat.le_of_ble_eq_true rfl) ⟨Nat.le_of_ble_eq_true rfl, Nat.le_of_ble_eq_true rfl⟩ ?_ rfl rfl
          clear hc221
          refine a_istore (lv' := [(8, .int x222), (0, .ref (ga X.G 0)), (1, .int p2), (2, .int p3), (3, .ref (ga X.G 162)), (4, .ref (ga X.G 163)), (5, .ref (ga X.G 164)), (6, .ref (ga X.G 165)), (7, .int x2)]) (pc := 382) F dL_act_382 (by decide) rfl ?_
          refine a_aload (pc := 384) F dL_act_384 5 rfl ?_
          refine a_bipush (v := 6) (pc := 386) F dL_act_386 (by decide) ?_
          refine a_iload (pc := 388) F dL_act_388 0 rfl ?_
          refine a_imul (pc := 390) F dL_act_390 ?_
          refine a_iconst (v := 1) (pc := 391) F dL_act_391 (by decide) ?_
          refine a_iadd (pc := 392) F dL_act_392 ?_
          replace h := gIn_some h
          obtain ⟨g223, h⟩ := h
          refine a_ial (k := 163) (pc := 393) F dL_act_393 kl_163 ks_163 g223 ?_
          refine a_nmi fun x224 ex224 => ?_
          replace h := nm_at ex224 h
          clear ex224
          refine a_istore (lv' := [(9, .int x224), (8, .int x222), (0, .ref (ga X.G 0)), (1, .int p2), (2, .int p3), (3, .ref (ga X.G 162)), (4, .ref (ga X.G 163)), (5, .ref (ga X.G 164)), (6, .ref (ga X.G 165)), (7, .int x2)]) (pc := 394) F dL_act_394 (by decide) rfl ?_
          refine a_aload (pc := 396) F dL_act_396 6 rfl ?_
          refine a_bipush (v := 6) (pc := 398) F dL_act_398 (by decide) ?_
          refine a_iload (pc := 400) F dL_act_400 1 rfl ?_
          refine a_imul (pc := 402) F dL_act_402 ?_
          refine a_iconst (v := 1) (pc := 403) F dL_act_403 (by decide) ?_
          refine a_iadd (pc := 404) F dL_act_404 ?_
          refine a_iload_n (pc := 405) F dL_act_405 4 rfl ?_
          refine a_iconst (v := 4) (pc := 406) F dL_act_406 (by decide) ?_
          refine a_ishr (pc := 407) F dL_act_407 ?_
          refine a_bipush (v := 8) (pc := 408) F dL_act_408 (by decide) ?_
          replace h := bnd_some h
          obtain ⟨x226, hc225, h⟩ := h
          refine a_callS (pc := 410) (As := [.int (p3 >>> (4 &&& 31)), .int 8]) (st := [.int ((6 * x222) + 1), .ref (ga X.G 163)]) F dL_act_410 (m_L_at hc225) cs_RL_37 rfl rfl rfl (Nat.le_of_ble_eq_true rfl) ⟨Nat.le_of_ble_eq_true rfl, Nat.le_of_ble_eq_true rfl⟩ ?_ rfl rfl
          clear hc225
          replace h := gIn_some h
          obtain ⟨g227, h⟩ := h
          refine a_ias (k := 163) (pc := 413) F dL_act_413 kl_163 ks_163 g227 ?_
          refine a_nmm fun m228 em228 => ?_
          replace h := nm_at em228 h
          clear em228
          refine a_aload_n (pc := 414) F dL_act_414 5 rfl ?_
          refine a_bipush (v := 6) (pc := 415) F dL_act_415 (by decide) ?_
          refine a_ialc (k := 162) (pc := 417) F dL_act_417 kl_162 ks_162 rfl rfl ?_
          refine a_bipush (v := 6) (pc := 418) F dL_act_418 (by decide) ?_
          refine a_icmp_ge (tgt := 431) (pc := 420) F dL_act_420 (by decide) (fun q229 => ?_) (fun q229 => ?_)
          · replace h := ite_t q229 h
            clear q229
            refine a_lv F [2, 6, 1, 0] rfl ?_
            exact hJ171 _ _ _ (Option.some.inj h).symm
          · replace h := ite_f q229 h
            clear q229
            refine a_aload_n (pc := 423) F dL_act_423 5 rfl ?_
            refine a_bipush (v := 6) (pc := 424) F dL_act_424 (by decide) ?_
            refine a_dup2 (pc := 426) F dL_act_426 rfl rfl ?_
            refine a_ialc (k := 162) (pc := 427) F dL_act_427 kl_162 ks_162 rfl rfl ?_
            refine a_iconst (v := 1) (pc := 428) F dL_act_428 (by decide) ?_
            refine a_iadd (pc := 429) F dL_act_429 ?_
            refine a_iasc (k := 162) (pc := 430) F dL_act_430 kl_162 ks_162 rfl rfl ?_
            refine a_nmm fun m230 em230 => ?_
            replace h := nm_at em230 h
            clear em230
            refine a_lv F [2, 6, 1, 0] rfl ?_
            exact hJ171 _ _ _ (Option.some.inj h).symm
      · replace h := ite_f q172 h
        clear q172
        refine a_aload_n (pc := 354) F dL_act_354 0 rfl ?_
        refine a_iload_n (pc := 355) F dL_act_355 1 rfl ?_
        refine a_iload_n (pc := 356) F dL_act_356 2 rfl ?_
        refine a_aload_n (pc := 357) F dL_act_357 3 rfl ?_
        refine a_aload (pc := 358) F dL_act_358 4 rfl ?_
        refine a_aload (pc := 360) F dL_act_360 5 rfl ?_
        refine a_aload (pc := 362) F dL_act_362 6 rfl ?_
        replace h := bnd2_some h
        obtain ⟨x232, m233, hc231, h⟩ := h
        refine a_callS (pc := 364) (As := [.ref (ga X.G 0), .int p2, .int p3, .ref (ga X.G 162), .ref (ga X.G 163), .ref (ga X.G 164), .ref (ga X.G 165)]) (st := []) F dL_act_364 (m_L_chains hc231) cs_RL_68 rfl rfl rfl (Nat.le_of_ble_eq_true rfl) ⟨Nat.le_of_ble_eq_true rfl, Nat.le_of_ble_eq_true rfl⟩ ?_ rfl rfl
        clear hc231
        replace h := gBo_some h
        obtain ⟨g234, h⟩ := h
        replace h := hB171 _ (Option.some.inj h).symm
        cases h
        exact a_iret (pc := 367) F dL_act_367 ⟨_, rfl, narrow_bo g234⟩
    clear hK84
    have h := hR84
    clear hR84
    refine a_icmp_lt (tgt := 202) (pc := 185) F dL_act_185 (by decide) (fun q85 => ?_) (fun q85 => ?_)
    · replace h := ite_t q85 h
      clear q85
      refine a_bipush (v := 6) (pc := 202) F dL_act_202 (by decide) ?_
      refine a_aload_n (pc := 204) F dL_act_204 3 rfl ?_
      refine a_iconst (v := 1) (pc := 205) F dL_act_205 (by decide) ?_
      refine a_dup2 (pc := 206) F dL_act_206 rfl rfl ?_
      refine a_ialc (k := 162) (pc := 207) F dL_act_207 kl_162 ks_162 rfl rfl ?_
      refine a_dup_x2 (pc := 208) F dL_act_208 rfl rfl rfl ?_
      refine a_iconst (v := 1) (pc := 209) F dL_act_209 (by decide) ?_
      refine a_iadd (pc := 210) F dL_act_210 ?_
      refine a_iasc (k := 162) (pc := 211) F dL_act_211 kl_162 ks_162 rfl rfl ?_
      refine a_nmm fun m86 em86 => ?_
      replace h := nm_at em86 h
      clear em86
      refine a_imul (pc := 212) F dL_act_212 ?_
      refine a_istore (lv' := [(8, .int (6 * (m83.1 162 1))), (0, .ref (ga X.G 0)), (1, .int p2), (2, .int p3), (3, .ref (ga X.G 162)), (4, .ref (ga X.G 163)), (5, .ref (ga X.G 164)), (6, .ref (ga X.G 165)), (7, .int x2)]) (pc := 213) F dL_act_213 (by decide) rfl ?_
      refine a_aload (pc := 215) F dL_act_215 6 rfl ?_
      refine a_iload (pc := 217) F dL_act_217 0 rfl ?_
      refine a_iload_n (pc := 219) F dL_act_219 3 rfl ?_
      refine a_iconst (v := 3) (pc := 220) F dL_act_220 (by decide) ?_
      replace h := bnd_some h
      obtain ⟨x88, hc87, h⟩ := h
      refine a_callS (pc := 221) (As := [.int p3, .int 3]) (st := [.int (6 * (m83.1 162 1)), .ref (ga X.G 164)]) F dL_act_221 (m_L_at hc87) cs_RL_37 rfl rfl rfl (Nat.le_of_ble_eq_true rfl) ⟨Nat.le_of_ble_eq_true rfl, Nat.le_of_ble_eq_true rfl⟩ ?_ rfl rfl
      clear hc87
      replace h := gIn_some h
      obtain ⟨g89, h⟩ := h
      refine a_ias (k := 164) (pc := 224) F dL_act_224 kl_164 ks_164 g89 ?_
      refine a_nmm fun m90 em90 => ?_
      replace h := nm_at em90 h
      clear em90
      refine a_aload (pc := 225) F dL_act_225 6 rfl ?_
      refine a_iload (pc := 227) F dL_act_227 0 rfl ?_
      refine a_iconst (v := 1) (pc := 229) F dL_act_229 (by decide) ?_
      refine a_iadd (pc := 230) F dL_act_230 ?_
      refine a_nmi fun x91 ex91 => ?_
      replace h := nm_at ex91 h
      clear ex91
      refine a_iconst (v := 1) (pc := 231) F dL_act_231 (by decide) ?_
      refine a_iload_n (pc := 232) F dL_act_232 3 rfl ?_
      refine a_iconst (v := 2) (pc := 233) F dL_act_233 (by decide) ?_
      refine a_ishr (pc := 234) F dL_act_234 ?_
      refine a_bipush (v := 6) (pc := 235) F dL_act_235 (by decide) ?_
      replace h := bnd_some h
      obtain ⟨x93, hc92, h⟩ := h
      refine a_callS (pc := 237) (As := [.int (p3 >>> (2 &&& 31)), .int 6]) (st := [.int 1, .int x91, .ref (ga X.G 164)]) F dL_act_237 (m_L_at hc92) cs_RL_37 rfl rfl rfl (Nat.le_of_ble_eq_true rfl) ⟨Nat.le_of_ble_eq_true rfl, Nat.le_of_ble_eq_true rfl⟩ ?_ rfl rfl
      clear hc92
      refine a_iadd (pc := 240) F dL_act_240 ?_
      replace h := gIn_some h
      obtain ⟨g94, h⟩ := h
      refine a_ias (k := 164) (pc := 241) F dL_act_241 kl_164 ks_164 g94 ?_
      refine a_nmm fun m95 em95 => ?_
      replace h := nm_at em95 h
      clear em95
      refine a_aload (pc := 242) F dL_act_242 6 rfl ?_
      refine a_iload (pc := 244) F dL_act_244 0 rfl ?_
      refine a_iconst (v := 2) (pc := 246) F dL_act_246 (by decide) ?_
      refine a_iadd (pc := 247) F dL_act_247 ?_
      refine a_nmi fun x96 ex96 => ?_
      replace h := nm_at ex96 h
      clear ex96
      refine a_aload_n (pc := 248) F dL_act_248 4 rfl ?_
      refine a_iconst (v := 2) (pc := 249) F dL_act_249 (by decide) ?_
      refine a_ialc (k := 162) (pc := 250) F dL_act_250 kl_162 ks_162 rfl rfl ?_
      refine a_iconst (v := 1) (pc := 251) F dL_act_251 (by decide) ?_
      refine a_iadd (pc := 252) F dL_act_252 ?_
      refine a_iload_n (pc := 253) F dL_act_253 3 rfl ?_
      refine a_iconst (v := 5) (pc := 254) F dL_act_254 (by decide) ?_
      refine a_ishr (pc := 255) F dL_act_255 ?_
      refine a_bipush (v := 60) (pc := 256) F dL_act_256 (by decide) ?_
      replace h := bnd_some h
      obtain ⟨x98, hc97, h⟩ := h
      refine a_callS (pc := 258) (As := [.int (p3 >>> (5 &&& 31)), .int 60]) (st := [.int ((m95.1 162 2) + 1), .int x96, .ref (ga X.G 164)]) F dL_act_258 (m_L_at hc97) cs_RL_37 rfl rfl rfl (Nat.le_of_ble_eq_true rfl) ⟨Nat.le_of_ble_eq_true rfl, Nat.le_of_ble_eq_true rfl⟩ ?_ rfl rfl
      clear hc97
      refine a_iadd (pc := 261) F dL_act_261 ?_
      refine a_nmi fun x99 ex99 => ?_
      replace h := nm_at ex99 h
      clear ex99
      replace h := gIn_some h
      obtain ⟨g100, h⟩ := h
      refine a_ias (k := 164) (pc := 262) F dL_act_262 kl_164 ks_164 g100 ?_
      refine a_nmm fun m101 em101 => ?_
      replace h := nm_at em101 h
      clear em101
      refine a_aload (pc := 263) F dL_act_263 6 rfl ?_
      refine a_iload (pc := 265) F dL_act_265 0 rfl ?_
      refine a_iconst (v := 3) (pc := 267) F dL_act_267 (by decide) ?_
      refine a_iadd (pc := 268) F dL_act_268 ?_
      refine a_nmi fun x102 ex102 => ?_
      replace h := nm_at ex102 h
      clear ex102
      refine a_bipush (v := 10) (pc := 269) F dL_act_269 (by decide) ?_
      refine a_iload_n (pc := 271) F dL_act_271 3 rfl ?_
      refine a_bipush (v := 11) (pc := 272) F dL_act_272 (by decide) ?_
      refine a_ishr (pc := 274) F dL_act_274 ?_
      refine a_bipush (v := 50) (pc := 275) F dL_act_275 (by decide) ?_
      replace h := bnd_some h
      obtain ⟨x104, hc103, h⟩ := h
      refine a_callS (pc := 277) (As := [.int (p3 >>> (11 &&& 31)), .int 50]) (st := [.int 10, .int x102, .ref (ga X.G 164)]) F dL_act_277 (m_L_at hc103) cs_RL_37 rfl rfl rfl (Nat.le_of_ble_eq_true rfl) ⟨Nat.le_of_ble_eq_true rfl, Nat.le_of_ble_eq_true rfl⟩ ?_ rfl rfl
      clear hc103
      refine a_iadd (pc := 280) F dL_act_280 ?_
      replace h := gIn_some h
      obtain ⟨g105, h⟩ := h
      refine a_ias (k := 164) (pc := 281) F dL_act_281 kl_164 ks_164 g105 ?_
      refine a_nmm fun m106 em106 => ?_
      replace h := nm_at em106 h
      clear em106
      refine a_aload_n (pc := 282) F dL_act_282 4 rfl ?_
      refine a_bipush (v := 6) (pc := 283) F dL_act_283 (by decide) ?_
      refine a_ialc (k := 162) (pc := 285) F dL_act_285 kl_162 ks_162 rfl rfl ?_
      refine a_bipush (v := 6) (pc := 286) F dL_act_286 (by decide) ?_
      replace h := bnd_some h
      obtain ⟨m110, hR107, h⟩ := h
      have hJ107 : WA X 0 0 299 [(0, .ref (ga X.G 0)), (3, .ref (ga X.G 162)), (5, .ref (ga X.G 164)), (8, .int (6 * (m83.1 162 1)))] [] m110 (EQ X (some (.int rr)) mm) := by
        refine a_aload_n (pc := 299) F dL_act_299 0 rfl ?_
        refine a_aload (pc := 300) F dL_act_300 2 rfl ?_
        refine a_iload (pc := 302) F dL_act_302 3 rfl ?_
        replace h := gIn_some h
        obtain ⟨g111, h⟩ := h
        refine a_ial (k := 164) (pc := 304) F dL_act_304 kl_164 ks_164 g111 ?_
        refine a_nmi fun x112 ex112 => ?_
        replace h := nm_at ex112 h
        clear ex112
        refine a_aload (pc := 305) F dL_act_305 2 rfl ?_
        refine a_iload (pc := 307) F dL_act_307 3 rfl ?_
        refine a_iconst (v := 1) (pc := 309) F dL_act_309 (by decide) ?_
        refine a_iadd (pc := 310) F dL_act_310 ?_
        refine a_nmi fun x113 ex113 => ?_
        replace h := nm_at ex113 h
        clear ex113
        replace h := gIn_some h
        obtain ⟨g114, h⟩ := h
        refine a_ial (k := 164) (pc := 311) F dL_act_311 kl_164 ks_164 g114 ?_
        refine a_nmi fun x115 ex115 => ?_
        replace h := nm_at ex115 h
        clear ex115
        refine a_aload (pc := 312) F dL_act_312 2 rfl ?_
        refine a_iload (pc := 314) F dL_act_314 3 rfl ?_
        refine a_iconst (v := 2) (pc := 316) F dL_act_316 (by decide) ?_
        refine a_iadd (pc := 317) F dL_act_317 ?_
        refine a_nmi fun x116 ex116 => ?_
        replace h := nm_at ex116 h
        clear ex116
        replace h := gIn_some h
        obtain ⟨g117, h⟩ := h
        refine a_ial (k := 164) (pc := 318) F dL_act_318 kl_164 ks_164 g117 ?_
        refine a_nmi fun x118 ex118 => ?_
        replace h := nm_at ex118 h
        clear ex118
        refine a_aload_n (pc := 319) F dL_act_319 1 rfl ?_
        refine a_iconst (v := 2) (pc := 320) F dL_act_320 (by decide) ?_
        refine a_ialc (k := 162) (pc := 321) F dL_act_321 kl_162 ks_162 rfl rfl ?_
        refine a_isub (pc := 322) F dL_act_322 ?_
        refine a_aload (pc := 323) F dL_act_323 2 rfl ?_
        refine a_iload (pc := 325) F dL_act_325 3 rfl ?_
        refine a_iconst (v := 3) (pc := 327) F dL_act_327 (by decide) ?_
        refine a_iadd (pc := 328) F dL_act_328 ?_
        refine a_nmi fun x119 ex119 => ?_
        replace h := nm_at ex119 h
        clear ex119
        replace h := gIn_some h
        obtain ⟨g120, h⟩ := h
        refine a_ial (k := 164) (pc := 329) F dL_act_329 kl_164 ks_164 g120 ?_
        refine a_nmi fun x121 ex121 => ?_
        replace h := nm_at ex121 h
        clear ex121
        replace h := bnd2_some h
        obtain ⟨x123, m124, hc122, h⟩ := h
        refine a_callV (pc := 330) (k := 0) (As := [.int x112, .int x115, .int (x118 - (m110.1 162 2)), .int x121]) (st := []) F dL_act_330 (m_X7_addHearing hc122) cv_RL_65 kl_0 ks_0 ⟨_, _, rfl⟩ rfl rfl rfl (Nat.le_of_ble_eq_true rfl) ⟨Nat.le_of_ble_eq_true rfl, Nat.le_of_ble_eq_true rfl⟩ ?_ rfl rfl
        clear hc122
        refine a_iload (pc := 333) F dL_act_333 3 rfl ?_
        refine a_bipush (v := 6) (pc := 335) F dL_act_335 (by decide) ?_
        refine a_idiv (pc := 337) F dL_act_337 (by decide) ?_
        refine a_nmi fun x125 ex125 => ?_
        replace h := nm_at ex125 h
        clear ex125
        refine a_icmp_ne (tgt := 345) (pc := 338) F dL_act_338 (by decide) (fun q126 => ?_) (fun q126 => ?_)
        · replace h := ite_f q126 h
          clear q126
          refine a_iconst (v := 0) (pc := 345) F dL_act_345 (by decide) ?_
          replace h := hB84 _ (Option.some.inj h).symm
          cases h
          exact a_iret (pc := 346) F dL_act_346 ⟨_, rfl, rfl⟩
        · replace h := ite_t (Decidable.not_not.mp q126) h
          clear q126
          refine a_iconst (v := 1) (pc := 341) F dL_act_341 (by decide) ?_
          refine a_goto (tgt := 346) (pc := 342) F dL_act_342 (by decide) ?_
          replace h := hB84 _ (Option.some.inj h).symm
          cases h
          exact a_iret (pc := 346) F dL_act_346 ⟨_, rfl, rfl⟩
      clear h
      have h := hR107
      clear hR107
      refine a_icmp_ge (tgt := 299) (pc := 288) F dL_act_288 (by decide) (fun q108 => ?_) (fun q108 => ?_)
      · replace h := ite_t q108 h
        clear q108
        refine a_lv F [1, 4, 6, 0] rfl ?_
        cases h
        exact hJ107
      · replace h := ite_f q108 h
        clear q108
        refine a_aload_n (pc := 291) F dL_act_291 4 rfl ?_
        refine a_bipush (v := 6) (pc := 292) F dL_act_292 (by decide) ?_
        refine a_dup2 (pc := 294) F dL_act_294 rfl rfl ?_
        refine a_ialc (k := 162) (pc := 295) F dL_act_295 kl_162 ks_162 rfl rfl ?_
        refine a_iconst (v := 1) (pc := 296) F dL_act_296 (by decide) ?_
        refine a_iadd (pc := 297) F dL_act_297 ?_
        refine a_iasc (k := 162) (pc := 298) F dL_act_298 kl_162 ks_162 rfl rfl ?_
        refine a_nmm fun m109 em109 => ?_
        replace h := nm_at em109 h
        clear em109
        refine a_lv F [1, 4, 6, 0] rfl ?_
        cases h
        exact hJ107
    · replace h := ite_f q85 h
      clear q85
      refine a_iload (pc := 188) F dL_act_188 7 rfl ?_
      refine a_iconst (v := 3) (pc := 190) F dL_act_190 (by decide) ?_
      refine a_icmp_ge (tgt := 347) (pc := 191) F dL_act_191 (by decide) (fun q127 => ?_) (fun q127 => ?_)
      · replace h := ite_t q127 h
        clear q127
        exact hJ84 _ (Option.some.inj h).symm
      · replace h := ite_f q127 h
        clear q127
        refine a_aload_n (pc := 194) F dL_act_194 3 rfl ?_
        refine a_iconst (v := 1) (pc := 195) F dL_act_195 (by decide) ?_
        refine a_ialc (k := 162) (pc := 196) F dL_act_196 kl_162 ks_162 rfl rfl ?_
        refine a_bipush (v := 8) (pc := 197) F dL_act_197 (by decide) ?_
        refine a_icmp_ge (tgt := 347) (pc := 199) F dL_act_199 (by decide) (fun q128 => ?_) (fun q128 => ?_)
        · replace h := ite_t q128 h
          clear q128
          exact hJ84 _ (Option.some.inj h).symm
        · replace h := ite_f q128 h
          clear q128
          refine a_bipush (v := 6) (pc := 202) F dL_act_202 (by decide) ?_
          refine a_aload_n (pc := 204) F dL_act_204 3 rfl ?_
          refine a_iconst (v := 1) (pc := 205) F dL_act_205 (by decide) ?_
          refine a_dup2 (pc := 206) F dL_act_206 rfl rfl ?_
          refine a_ialc (k := 162) (pc := 207) F dL_act_207 kl_162 ks_162 rfl rfl ?_
          refine a_dup_x2 (pc := 208) F dL_act_208 rfl rfl rfl ?_
          refine a_iconst (v := 1) (pc := 209) F dL_act_209 (by decide) ?_
          refine a_iadd (pc := 210) F dL_act_210 ?_
          refine a_iasc (k := 162) (pc := 211) F dL_act_211 kl_162 ks_162 rfl rfl ?_
          refine a_nmm fun m129 em129 => ?_
          replace h := nm_at em129 h
          clear em129
          refine a_imul (pc := 212) F dL_act_212 ?_
          refine a_istore (lv' := [(8, .int (6 * (m83.1 162 1))), (0, .ref (ga X.G 0)), (1, .int p2), (2, .int p3), (3, .ref (ga X.G 162)), (4, .ref (ga X.G 163)), (5, .ref (ga X.G 164)), (6, .ref (ga X.G 165)), (7, .int x2)]) (pc := 213) F dL_act_213 (by decide) rfl ?_
          refine a_aload (pc := 215) F dL_act_215 6 rfl ?_
          refine a_iload (pc := 217) F dL_act_217 0 rfl ?_
          refine a_iload_n (pc := 219) F dL_act_219 3 rfl ?_
          refine a_iconst (v := 3) (pc := 220) F dL_act_220 (by decide) ?_
          replace h := bnd_some h
          obtain ⟨x131, hc130, h⟩ := h
          refine a_callS (pc := 221) (As := [.int p3, .int 3]) (st := [.int (6 * (m83.1 162 1)), .ref (ga X.G 164)]) F dL_act_221 (m_L_at hc130) cs_RL_37 rfl rfl rfl (Nat.le_of_ble_eq_true rfl) ⟨Nat.le_of_ble_eq_true rfl, Nat.le_of_ble_eq_true rfl⟩ ?_ rfl rfl
          clear hc130
          replace h := gIn_some h
          obtain ⟨g132, h⟩ := h
          refine a_ias (k := 164) (pc := 224) F dL_act_224 kl_164 ks_164 g132 ?_
          refine a_nmm fun m133 em133 => ?_
          replace h := nm_at em133 h
          clear em133
          refine a_aload (pc := 225) F dL_act_225 6 rfl ?_
          refine a_iload (pc := 227) F dL_act_227 0 rfl ?_
          refine a_iconst (v := 1) (pc := 229) F dL_act_229 (by decide) ?_
          refine a_iadd (pc := 230) F dL_act_230 ?_
          refine a_nmi fun x134 ex134 => ?_
          replace h := nm_at ex134 h
          clear ex134
          refine a_iconst (v := 1) (pc := 231) F dL_act_231 (by decide) ?_
          refine a_iload_n (pc := 232) F dL_act_232 3 rfl ?_
          refine a_iconst (v := 2) (pc := 233) F dL_act_233 (by decide) ?_
          refine a_ishr (pc := 234) F dL_act_234 ?_
          refine a_bipush (v := 6) (pc := 235) F dL_act_235 (by decide) ?_
          replace h := bnd_some h
          obtain ⟨x136, hc135, h⟩ := h
          refine a_callS (pc := 237) (As := [.int (p3 >>> (2 &&& 31)), .int 6]) (st := [.int 1, .int x134, .ref (ga X.G 164)]) F dL_act_237 (m_L_at hc135) cs_RL_37 rfl rfl rfl (Nat.le_of_ble_eq_true rfl) ⟨Nat.le_of_ble_eq_true rfl, Nat.le_of_ble_eq_true rfl⟩ ?_ rfl rfl
          clear hc135
          refine a_iadd (pc := 240) F dL_act_240 ?_
          replace h := gIn_some h
          obtain ⟨g137, h⟩ := h
          refine a_ias (k := 164) (pc := 241) F dL_act_241 kl_164 ks_164 g137 ?_
          refine a_nmm fun m138 em138 => ?_
          replace h := nm_at em138 h
          clear em138
          refine a_aload (pc := 242) F dL_act_242 6 rfl ?_
          refine a_iload (pc := 244) F dL_act_244 0 rfl ?_
          refine a_iconst (v := 2) (pc := 246) F dL_act_246 (by decide) ?_
          refine a_iadd (pc := 247) F dL_act_247 ?_
          refine a_nmi fun x139 ex139 => ?_
          replace h := nm_at ex139 h
          clear ex139
          refine a_aload_n (pc := 248) F dL_act_248 4 rfl ?_
          refine a_iconst (v := 2) (pc := 249) F dL_act_249 (by decide) ?_
          refine a_ialc (k := 162) (pc := 250) F dL_act_250 kl_162 ks_162 rfl rfl ?_
          refine a_iconst (v := 1) (pc := 251) F dL_act_251 (by decide) ?_
          refine a_iadd (pc := 252) F dL_act_252 ?_
          refine a_iload_n (pc := 253) F dL_act_253 3 rfl ?_
          refine a_iconst (v := 5) (pc := 254) F dL_act_254 (by decide) ?_
          refine a_ishr (pc := 255) F dL_act_255 ?_
          refine a_bipush (v := 60) (pc := 256) F dL_act_256 (by decide) ?_
          replace h := bnd_some h
          obtain ⟨x141, hc140, h⟩ := h
          refine a_callS (pc := 258) (As := [.int (p3 >>> (5 &&& 31)), .int 60]) (st := [.int ((m138.1 162 2) + 1), .int x139, .ref (ga X.G 164)]) F dL_act_258 (m_L_at hc140) cs_RL_37 rfl rfl rfl (Nat.le_of_ble_eq_true rfl) ⟨Nat.le_of_ble_eq_true rfl, Nat.le_of_ble_eq_true rfl⟩ ?_ rfl rfl
          clear hc140
          refine a_iadd (pc := 261) F dL_act_261 ?_
          refine a_nmi fun x142 ex142 => ?_
          replace h := nm_at ex142 h
          clear ex142
          replace h := gIn_some h
          obtain ⟨g143, h⟩ := h
          refine a_ias (k := 164) (pc := 262) F dL_act_262 kl_164 ks_164 g143 ?_
          refine a_nmm fun m144 em144 => ?_
          replace h := nm_at em144 h
          clear em144
          refine a_aload (pc := 263) F dL_act_263 6 rfl ?_
          refine a_iload (pc := 265) F dL_act_265 0 rfl ?_
          refine a_iconst (v := 3) (pc := 267) F dL_act_267 (by decide) ?_
          refine a_iadd (pc := 268) F dL_act_268 ?_
          refine a_nmi fun x145 ex145 => ?_
          replace h := nm_at ex145 h
          clear ex145
          refine a_bipush (v := 10) (pc := 269) F dL_act_269 (by decide) ?_
          refine a_iload_n (pc := 271) F dL_act_271 3 rfl ?_
          refine a_bipush (v := 11) (pc := 272) F dL_act_272 (by decide) ?_
          refine a_ishr (pc := 274) F dL_act_274 ?_
          refine a_bipush (v := 50) (pc := 275) F dL_act_275 (by decide) ?_
          replace h := bnd_some h
          obtain ⟨x147, hc146, h⟩ := h
          refine a_callS (pc := 277) (As := [.int (p3 >>> (11 &&& 31)), .int 50]) (st := [.int 10, .int x145, .ref (ga X.G 164)]) F dL_act_277 (m_L_at hc146) cs_RL_37 rfl rfl rfl (Nat.le_of_ble_eq_true rfl) ⟨Nat.le_of_ble_eq_true rfl, Nat.le_of_ble_eq_true rfl⟩ ?_ rfl rfl
          clear hc146
          refine a_iadd (pc := 280) F dL_act_280 ?_
          replace h := gIn_some h
          obtain ⟨g148, h⟩ := h
          refine a_ias (k := 164) (pc := 281) F dL_act_281 kl_164 ks_164 g148 ?_
          refine a_nmm fun m149 em149 => ?_
          replace h := nm_at em149 h
          clear em149
          refine a_aload_n (pc := 282) F dL_act_282 4 rfl ?_
          refine a_bipush (v := 6) (pc := 283) F dL_act_283 (by decide) ?_
          refine a_ialc (k := 162) (pc := 285) F dL_act_285 kl_162 ks_162 rfl rfl ?_
          refine a_bipush (v := 6) (pc := 286) F dL_act_286 (by decide) ?_
          replace h := bnd_some h
          obtain ⟨m153, hR150, h⟩ := h
          have hJ150 : WA X 0 0 299 [(0, .ref (ga X.G 0)), (3, .ref (ga X.G 162)), (5, .ref (ga X.G 164)), (8, .int (6 * (m83.1 162 1)))] [] m153 (EQ X (some (.int rr)) mm) := by
            refine a_aload_n (pc := 299) F dL_act_299 0 rfl ?_
            refine a_aload (pc := 300) F dL_act_300 2 rfl ?_
            refine a_iload (pc := 302) F dL_act_302 3 rfl ?_
            replace h := gIn_some h
            obtain ⟨g154, h⟩ := h
            refine a_ial (k := 164) (pc := 304) F dL_act_304 kl_164 ks_164 g154 ?_
            refine a_nmi fun x155 ex155 => ?_
            replace h := nm_at ex155 h
            clear ex155
            refine a_aload (pc := 305) F dL_act_305 2 rfl ?_
            refine a_iload (pc := 307) F dL_act_307 3 rfl ?_
            refine a_iconst (v := 1) (pc := 309) F dL_act_309 (by decide) ?_
            refine a_iadd (pc := 310) F dL_act_310 ?_
            refine a_nmi fun x156 ex156 => ?_
            replace h := nm_at ex156 h
            clear ex156
            replace h := gIn_some h
            obtain ⟨g157, h⟩ := h
            refine a_ial (k := 164) (pc := 311) F dL_act_311 kl_164 ks_164 g157 ?_
            refine a_nmi fun x158 ex158 => ?_
            replace h := nm_at ex158 h
            clear ex158
            refine a_aload (pc := 312) F dL_act_312 2 rfl ?_
            refine a_iload (pc := 314) F dL_act_314 3 rfl ?_
            refine a_iconst (v := 2) (pc := 316) F dL_act_316 (by decide) ?_
            refine a_iadd (pc := 317) F dL_act_317 ?_
            refine a_nmi fun x159 ex159 => ?_
            replace h := nm_at ex159 h
            clear ex159
            replace h := gIn_some h
            obtain ⟨g160, h⟩ := h
            refine a_ial (k := 164) (pc := 318) F dL_act_318 kl_164 ks_164 g160 ?_
            refine a_nmi fun x161 ex161 => ?_
            replace h := nm_at ex161 h
            clear ex161
            refine a_aload_n (pc := 319) F dL_act_319 1 rfl ?_
            refine a_iconst (v := 2) (pc := 320) F dL_act_320 (by decide) ?_
            refine a_ialc (k := 162) (pc := 321) F dL_act_321 kl_162 ks_162 rfl rfl ?_
            refine a_isub (pc := 322) F dL_act_322 ?_
            refine a_aload (pc := 323) F dL_act_323 2 rfl ?_
            refine a_iload (pc := 325) F dL_act_325 3 rfl ?_
            refine a_iconst (v := 3) (pc := 327) F dL_act_327 (by decide) ?_
            refine a_iadd (pc := 328) F dL_act_328 ?_
            refine a_nmi fun x162 ex162 => ?_
            replace h := nm_at ex162 h
            clear ex162
            replace h := gIn_some h
            obtain ⟨g163, h⟩ := h
            refine a_ial (k := 164) (pc := 329) F dL_act_329 kl_164 ks_164 g163 ?_
            refine a_nmi fun x164 ex164 => ?_
            replace h := nm_at ex164 h
            clear ex164
            replace h := bnd2_some h
            obtain ⟨x166, m167, hc165, h⟩ := h
            refine a_callV (pc := 330) (k := 0) (As := [.int x155, .int x158, .int (x161 - (m153.1 162 2)), .int x164]) (st := []) F dL_act_330 (m_X7_addHearing hc165) cv_RL_65 kl_0 ks_0 ⟨_, _, rfl⟩ rfl rfl rfl (Nat.le_of_ble_eq_true rfl) ⟨Nat.le_of_ble_eq_true rfl, Nat.le_of_ble_eq_true rfl⟩ ?_ rfl rfl
            clear hc165
            refine a_iload (pc := 333) F dL_act_333 3 rfl ?_
            refine a_bipush (v := 6) (pc := 335) F dL_act_335 (by decide) ?_
            refine a_idiv (pc := 337) F dL_act_337 (by decide) ?_
            refine a_nmi fun x168 ex168 => ?_
            replace h := nm_at ex168 h
            clear ex168
            refine a_icmp_ne (tgt := 345) (pc := 338) F dL_act_338 (by decide) (fun q169 => ?_) (fun q169 => ?_)
            · replace h := ite_f q169 h
              clear q169
              refine a_iconst (v := 0) (pc := 345) F dL_act_345 (by decide) ?_
              replace h := hB84 _ (Option.some.inj h).symm
              cases h
              exact a_iret (pc := 346) F dL_act_346 ⟨_, rfl, rfl⟩
            · replace h := ite_t (Decidable.not_not.mp q169) h
              clear q169
              refine a_iconst (v := 1) (pc := 341) F dL_act_341 (by decide) ?_
              refine a_goto (tgt := 346) (pc := 342) F dL_act_342 (by decide) ?_
              replace h := hB84 _ (Option.some.inj h).symm
              cases h
              exact a_iret (pc := 346) F dL_act_346 ⟨_, rfl, rfl⟩
          clear h
          have h := hR150
          clear hR150
          refine a_icmp_ge (tgt := 299) (pc := 288) F dL_act_288 (by decide) (fun q151 => ?_) (fun q151 => ?_)
          · replace h := ite_t q151 h
            clear q151
            refine a_lv F [1, 4, 6, 0] rfl ?_
            cases h
            exact hJ150
          · replace h := ite_f q151 h
            clear q151
            refine a_aload_n (pc := 291) F dL_act_291 4 rfl ?_
            refine a_bipush (v := 6) (pc := 292) F dL_act_292 (by decide) ?_
            refine a_dup2 (pc := 294) F dL_act_294 rfl rfl ?_
            refine a_ialc (k := 162) (pc := 295) F dL_act_295 kl_162 ks_162 rfl rfl ?_
            refine a_iconst (v := 1) (pc := 296) F dL_act_296 (by decide) ?_
            refine a_iadd (pc := 297) F dL_act_297 ?_
            refine a_iasc (k := 162) (pc := 298) F dL_act_298 kl_162 ks_162 rfl rfl ?_
            refine a_nmm fun m152 em152 => ?_
            replace h := nm_at em152 h
            clear em152
            refine a_lv F [1, 4, 6, 0] rfl ?_
            cases h
            exact hJ150
  clear hK3
  have h := hR3
  clear hR3
  refine a_icmp_lt (tgt := 30) (pc := 15) F dL_act_15 (by decide) (fun q4 => ?_) (fun q4 => ?_)
  · replace h := ite_t q4 h
    clear q4
    refine a_bipush (v := 6) (pc := 30) F dL_act_30 (by decide) ?_
    refine a_aload_n (pc := 32) F dL_act_32 4 rfl ?_
    refine a_iconst (v := 0) (pc := 33) F dL_act_33 (by decide) ?_
    refine a_dup2 (pc := 34) F dL_act_34 rfl rfl ?_
    refine a_ialc (k := 162) (pc := 35) F dL_act_35 kl_162 ks_162 rfl rfl ?_
    refine a_dup_x2 (pc := 36) F dL_act_36 rfl rfl rfl ?_
    refine a_iconst (v := 1) (pc := 37) F dL_act_37 (by decide) ?_
    refine a_iadd (pc := 38) F dL_act_38 ?_
    refine a_iasc (k := 162) (pc := 39) F dL_act_39 kl_162 ks_162 rfl rfl ?_
    refine a_nmm fun m5 em5 => ?_
    replace h := nm_at em5 h
    clear em5
    refine a_imul (pc := 40) F dL_act_40 ?_
    refine a_istore (lv' := [(8, .int (6 * (m0.1 162 0))), (7, .int x2), (0, .ref (ga X.G 0)), (1, .int p2), (2, .int p3), (3, .ref (ga X.G 162)), (4, .ref (ga X.G 163)), (5, .ref (ga X.G 164)), (6, .ref (ga X.G 165))]) (pc := 41) F dL_act_41 (by decide) rfl ?_
    refine a_aload (pc := 43) F dL_act_43 6 rfl ?_
    refine a_iload (pc := 45) F dL_act_45 0 rfl ?_
    refine a_iconst (v := 1) (pc := 47) F dL_act_47 (by decide) ?_
    refine a_iload_n (pc := 48) F dL_act_48 4 rfl ?_
    refine a_iconst (v := 4) (pc := 49) F dL_act_49 (by decide) ?_
    replace h := bnd_some h
    obtain ⟨x7, hc6, h⟩ := h
    refine a_callS (pc := 50) (As := [.int p3, .int 4]) (st := [.int 1, .int (6 * (m0.1 162 0)), .ref (ga X.G 163)]) F dL_act_50 (m_L_at hc6) cs_RL_37 rfl rfl rfl (Nat.le_of_ble_eq_true rfl) ⟨Nat.le_of_ble_eq_true rfl, Nat.le_of_ble_eq_true rfl⟩ ?_ rfl rfl
    clear hc6
    refine a_ishl (pc := 53) F dL_act_53 ?_
    refine a_iconst (v := 1) (pc := 54) F dL_act_54 (by decide) ?_
    refine a_iconst (v := 4) (pc := 55) F dL_act_55 (by decide) ?_
    refine a_iload_n (pc := 56) F dL_act_56 4 rfl ?_
    refine a_iconst (v := 2) (pc := 57) F dL_act_57 (by decide) ?_
    refine a_ishr (pc := 58) F dL_act_58 ?_
    refine a_iconst (v := 3) (pc := 59) F dL_act_59 (by decide) ?_
    replace h := bnd_some h
    obtain ⟨x9, hc8, h⟩ := h
    refine a_callS (pc := 60) (As := [.int (p3 >>> (2 &&& 31)), .int 3]) (st := [.int 4, .int 1, .int (1 <<< (x7 &&& 31)), .int (6 * (m0.1 162 0)), .ref (ga X.G 163)]) F dL_act_60 (m_L_at hc8) cs_RL_37 rfl rfl rfl (Nat.le_of_ble_eq_true rfl) ⟨Nat.le_of_ble_eq_true rfl, Nat.le_of_ble_eq_true rfl⟩ ?_ rfl rfl
    clear hc8
    refine a_iadd (pc := 63) F dL_act_63 ?_
    refine a_ishl (pc := 64) F dL_act_64 ?_
    refine a_nmi fun x10 ex10 => ?_
    replace h := nm_at ex10 h
    clear ex10
    refine a_ior (pc := 65) F dL_act_65 ?_
    refine a_nmi fun x11 ex11 => ?_
    replace h := nm_at ex11 h
    clear ex11
    refine a_iload_n (pc := 66) F dL_act_66 4 rfl ?_
    refine a_iconst (v := 4) (pc := 67) F dL_act_67 (by decide) ?_
    refine a_ishr (pc := 68) F dL_act_68 ?_
    refine a_sipush (v := 128) (pc := 69) F dL_act_69 (by decide) ?_
    replace h := bnd_some h
    obtain ⟨x13, hc12, h⟩ := h
    refine a_callS (pc := 72) (As := [.int (p3 >>> (4 &&& 31)), .int 128]) (st := [.int x11, .int (6 * (m0.1 162 0)), .ref (ga X.G 163)]) F dL_act_72 (m_L_at hc12) cs_RL_37 rfl rfl rfl (Nat.le_of_ble_eq_true rfl) ⟨Nat.le_of_ble_eq_true rfl, Nat.le_of_ble_eq_true rfl⟩ ?_ rfl rfl
    clear hc12
    refine a_ior (pc := 75) F dL_act_75 ?_
    replace h := gIn_some h
    obtain ⟨g14, h⟩ := h
    refine a_ias (k := 163) (pc := 76) F dL_act_76 kl_163 ks_163 g14 ?_
    refine a_nmm fun m15 em15 => ?_
    replace h := nm_at em15 h
    clear em15
    refine a_aload (pc := 77) F dL_act_77 6 rfl ?_
    refine a_iload (pc := 79) F dL_act_79 0 rfl ?_
    refine a_iconst (v := 1) (pc := 81) F dL_act_81 (by decide) ?_
    refine a_iadd (pc := 82) F dL_act_82 ?_
    refine a_iload_n (pc := 83) F dL_act_83 4 rfl ?_
    refine a_bipush (v := 11) (pc := 84) F dL_act_84 (by decide) ?_
    refine a_ishr (pc := 86) F dL_act_86 ?_
    refine a_iconst (v := 2) (pc := 87) F dL_act_87 (by decide) ?_
    replace h := bnd_some h
    obtain ⟨x17, hc16, h⟩ := h
    refine a_callS (pc := 88) (As := [.int (p3 >>> (11 &&& 31)), .int 2]) (st := [.int ((6 * (m0.1 162 0)) + 1), .ref (ga X.G 163)]) F dL_act_88 (m_L_at hc16) cs_RL_37 rfl rfl rfl (Nat.le_of_ble_eq_true rfl) ⟨Nat.le_of_ble_eq_true rfl, Nat.le_of_ble_eq_true rfl⟩ ?_ rfl rfl
    clear hc16
    replace h := bnd_some h
    obtain ⟨x22, hR18, h⟩ := h
    have hJ18 : WA X 0 0 108 [(0, .ref (ga X.G 0)), (2, .int p3), (3, .ref (ga X.G 162)), (4, .ref (ga X.G 163)), (8, .int (6 * (m0.1 162 0)))] [.int x22, .int ((6 * (m0.1 162 0)) + 1), .ref (ga X.G 163)] m15 (EQ X (some (.int rr)) mm) := by
      replace h := gIn_some h
      obtain ⟨g23, h⟩ := h
      refine a_ias (k := 163) (pc := 108) F dL_act_108 kl_163 ks_163 g23 ?_
      refine a_nmm fun m24 em24 => ?_
      replace h := nm_at em24 h
      clear em24
      refine a_aload (pc := 109) F dL_act_109 3 rfl ?_
      refine a_iload (pc := 111) F dL_act_111 4 rfl ?_
      refine a_iconst (v := 2) (pc := 113) F dL_act_113 (by decide) ?_
      refine a_iadd (pc := 114) F dL_act_114 ?_
      refine a_iconst (v := 1) (pc := 115) F dL_act_115 (by decide) ?_
      refine a_iload_n (pc := 116) F dL_act_116 1 rfl ?_
      refine a_bipush (v := 15) (pc := 117) F dL_act_117 (by decide) ?_
      refine a_ishr (pc := 119) F dL_act_119 ?_
      refine a_bipush (v := 100) (pc := 120) F dL_act_120 (by decide) ?_
      replace h := bnd_some h
      obtain ⟨x26, hc25, h⟩ := h
      refine a_callS (pc := 122) (As := [.int (p3 >>> (15 &&& 31)), .int 100]) (st := [.int 1, .int ((6 * (m0.1 162 0)) + 2), .ref (ga X.G 163)]) F dL_act_122 (m_L_at hc25) cs_RL_37 rfl rfl rfl (Nat.le_of_ble_eq_true rfl) ⟨Nat.le_of_ble_eq_true rfl, Nat.le_of_ble_eq_true rfl⟩ ?_ rfl rfl
      clear hc25
      refine a_iadd (pc := 125) F dL_act_125 ?_
      replace h := gIn_some h
      obtain ⟨g27, h⟩ := h
      refine a_ias (k := 163) (pc := 126) F dL_act_126 kl_163 ks_163 g27 ?_
      refine a_nmm fun m28 em28 => ?_
      replace h := nm_at em28 h
      clear em28
      refine a_aload_n (pc := 127) F dL_act_127 2 rfl ?_
      refine a_bipush (v := 6) (pc := 128) F dL_act_128 (by decide) ?_
      refine a_ialc (k := 162) (pc := 130) F dL_act_130 kl_162 ks_162 rfl rfl ?_
      refine a_bipush (v := 6) (pc := 131) F dL_act_131 (by decide) ?_
      replace h := bnd_some h
      obtain ⟨m32, hR29, h⟩ := h
      have hJ29 : WA X 0 0 144 [(0, .ref (ga X.G 0)), (4, .ref (ga X.G 163)), (8, .int (6 * (m0.1 162 0)))] [] m32 (EQ X (some (.int rr)) mm) := by
        refine a_aload_n (pc := 144) F dL_act_144 0 rfl ?_
        refine a_aload (pc := 145) F dL_act_145 1 rfl ?_
        refine a_iload (pc := 147) F dL_act_147 2 rfl ?_
        replace h := gIn_some h
        obtain ⟨g33, h⟩ := h
        refine a_ial (k := 163) (pc := 149) F dL_act_149 kl_163 ks_163 g33 ?_
        refine a_nmi fun x34 ex34 => ?_
        replace h := nm_at ex34 h
        clear ex34
        refine a_aload (pc := 150) F dL_act_150 1 rfl ?_
        refine a_iload (pc := 152) F dL_act_152 2 rfl ?_
        refine a_iconst (v := 1) (pc := 154) F dL_act_154 (by decide) ?_
        refine a_iadd (pc := 155) F dL_act_155 ?_
        replace h := gIn_some h
        obtain ⟨g35, h⟩ := h
        refine a_ial (k := 163) (pc := 156) F dL_act_156 kl_163 ks_163 g35 ?_
        refine a_nmi fun x36 ex36 => ?_
        replace h := nm_at ex36 h
        clear ex36
        refine a_aload (pc := 157) F dL_act_157 1 rfl ?_
        refine a_iload (pc := 159) F dL_act_159 2 rfl ?_
        refine a_iconst (v := 2) (pc := 161) F dL_act_161 (by decide) ?_
        refine a_iadd (pc := 162) F dL_act_162 ?_
        replace h := gIn_some h
        obtain ⟨g37, h⟩ := h
        refine a_ial (k := 163) (pc := 163) F dL_act_163 kl_163 ks_163 g37 ?_
        refine a_nmi fun x38 ex38 => ?_
        replace h := nm_at ex38 h
        clear ex38
        replace h := bnd2_some h
        obtain ⟨x40, m41, hc39, h⟩ := h
        refine a_callV (pc := 164) (k := 0) (As := [.int x34, .int x36, .int x38]) (st := []) F dL_act_164 (m_X7_addInterpreter hc39) cv_RL_62 kl_0 ks_0 ⟨_, _, rfl⟩ rfl rfl rfl (Nat.le_of_ble_eq_true rfl) ⟨Nat.le_of_ble_eq_true rfl, Nat.le_of_ble_eq_true rfl⟩ ?_ rfl rfl
        clear hc39
        refine a_iload (pc := 167) F dL_act_167 2 rfl ?_
        refine a_bipush (v := 6) (pc := 169) F dL_act_169 (by decide) ?_
        refine a_idiv (pc := 171) F dL_act_171 (by decide) ?_
        refine a_icmp_ne (tgt := 179) (pc := 172) F dL_act_172 (by decide) (fun q42 => ?_) (fun q42 => ?_)
        · replace h := ite_f q42 h
          clear q42
          refine a_iconst (v := 0) (pc := 179) F dL_act_179 (by decide) ?_
          replace h := hB3 _ (Option.some.inj h).symm
          cases h
          exact a_iret (pc := 180) F dL_act_180 ⟨_, rfl, rfl⟩
        · replace h := ite_t (Decidable.not_not.mp q42) h
          clear q42
          refine a_iconst (v := 1) (pc := 175) F dL_act_175 (by decide) ?_
          refine a_goto (tgt := 180) (pc := 176) F dL_act_176 (by decide) ?_
          replace h := hB3 _ (Option.some.inj h).symm
          cases h
          exact a_iret (pc := 180) F dL_act_180 ⟨_, rfl, rfl⟩
      clear h
      have h := hR29
      clear hR29
      refine a_icmp_ge (tgt := 144) (pc := 133) F dL_act_133 (by decide) (fun q30 => ?_) (fun q30 => ?_)
      · replace h := ite_t q30 h
        clear q30
        refine a_lv F [0, 3, 4] rfl ?_
        cases h
        exact hJ29
      · replace h := ite_f q30 h
        clear q30
        refine a_aload_n (pc := 136) F dL_act_136 2 rfl ?_
        refine a_bipush (v := 6) (pc := 137) F dL_act_137 (by decide) ?_
        refine a_dup2 (pc := 139) F dL_act_139 rfl rfl ?_
        refine a_ialc (k := 162) (pc := 140) F dL_act_140 kl_162 ks_162 rfl rfl ?_
        refine a_iconst (v := 1) (pc := 141) F dL_act_141 (by decide) ?_
        refine a_iadd (pc := 142) F dL_act_142 ?_
        refine a_iasc (k := 162) (pc := 143) F dL_act_143 kl_162 ks_162 rfl rfl ?_
        refine a_nmm fun m31 em31 => ?_
        replace h := nm_at em31 h
        clear em31
        refine a_lv F [0, 3, 4] rfl ?_
        cases h
        exact hJ29
    clear h
    have h := hR18
    clear hR18
    refine a_if_ne (tgt := 99) (pc := 91) F dL_act_91 (by decide) (fun q19 => ?_) (fun q19 => ?_)
    · replace h := ite_f q19 h
      clear q19
      refine a_iload_n (pc := 99) F dL_act_99 4 rfl ?_
      refine a_bipush (v := 12) (pc := 100) F dL_act_100 (by decide) ?_
      refine a_ishr (pc := 102) F dL_act_102 ?_
      refine a_bipush (v := 8) (pc := 103) F dL_act_103 (by decide) ?_
      replace h := bnd_some h
      obtain ⟨x21, hc20, h⟩ := h
      refine a_callS (pc := 105) (As := [.int (p3 >>> (12 &&& 31)), .int 8]) (st := [.int ((6 * (m0.1 162 0)) + 1), .ref (ga X.G 163)]) F dL_act_105 (m_L_at hc20) cs_RL_37 rfl rfl rfl (Nat.le_of_ble_eq_true rfl) ⟨Nat.le_of_ble_eq_true rfl, Nat.le_of_ble_eq_true rfl⟩ ?_ rfl rfl
      clear hc20
      refine a_lv F [2, 4, 5, 6, 0] rfl ?_
      cases h
      exact hJ18
    · replace h := ite_t (Decidable.not_not.mp q19) h
      clear q19
      refine a_bipush (v := 7) (pc := 94) F dL_act_94 (by decide) ?_
      refine a_goto (tgt := 108) (pc := 96) F dL_act_96 (by decide) ?_
      refine a_lv F [2, 4, 5, 6, 0] rfl ?_
      cases h
      exact hJ18
  · replace h := ite_f q4 h
    clear q4
    refine a_iload (pc := 18) F dL_act_18 0 rfl ?_
    refine a_if_ne (tgt := 181) (pc := 20) F dL_act_20 (by decide) (fun q43 => ?_) (fun q43 => ?_)
    · replace h := ite_f q43 h
      clear q43
      refine a_lv F [1, 2, 3, 4, 5, 6, 7, 0] rfl ?_
      exact hJ3 _ (Option.some.inj h).symm
    · replace h := ite_t (Decidable.not_not.mp q43) h
      clear q43
      refine a_aload_n (pc := 23) F dL_act_23 4 rfl ?_
      refine a_iconst (v := 0) (pc := 24) F dL_act_24 (by decide) ?_
      refine a_ialc (k := 162) (pc := 25) F dL_act_25 kl_162 ks_162 rfl rfl ?_
      refine a_iconst (v := 5) (pc := 26) F dL_act_26 (by decide) ?_
      refine a_icmp_ge (tgt := 181) (pc := 27) F dL_act_27 (by decide) (fun q44 => ?_) (fun q44 => ?_)
      · replace h := ite_t q44 h
        clear q44
        refine a_lv F [1, 2, 3, 4, 5, 6, 7, 0] rfl ?_
        exact hJ3 _ (Option.some.inj h).symm
      · replace h := ite_f q44 h
        clear q44
        refine a_bipush (v := 6) (pc := 30) F dL_act_30 (by decide) ?_
        refine a_aload_n (pc := 32) F dL_act_32 4 rfl ?_
        refine a_iconst (v := 0) (pc := 33) F dL_act_33 (by decide) ?_
        refine a_dup2 (pc := 34) F dL_act_34 rfl rfl ?_
        refine a_ialc (k := 162) (pc := 35) F dL_act_35 kl_162 ks_162 rfl rfl ?_
        refine a_dup_x2 (pc := 36) F dL_act_36 rfl rfl rfl ?_
        refine a_iconst (v := 1) (pc := 37) F dL_act_37 (by decide) ?_
        refine a_iadd (pc := 38) F dL_act_38 ?_
        refine a_iasc (k := 162) (pc := 39) F dL_act_39 kl_162 ks_162 rfl rfl ?_
        refine a_nmm fun m45 em45 => ?_
        replace h := nm_at em45 h
        clear em45
        refine a_imul (pc := 40) F dL_act_40 ?_
        refine a_istore (lv' := [(8, .int (6 * (m0.1 162 0))), (7, .int x2), (0, .ref (ga X.G 0)), (1, .int p2), (2, .int p3), (3, .ref (ga X.G 162)), (4, .ref (ga X.G 163)), (5, .ref (ga X.G 164)), (6, .ref (ga X.G 165))]) (pc := 41) F dL_act_41 (by decide) rfl ?_
        refine a_aload (pc := 43) F dL_act_43 6 rfl ?_
        refine a_iload (pc := 45) F dL_act_45 0 rfl ?_
        refine a_iconst (v := 1) (pc := 47) F dL_act_47 (by decide) ?_
        refine a_iload_n (pc := 48) F dL_act_48 4 rfl ?_
        refine a_iconst (v := 4) (pc := 49) F dL_act_49 (by decide) ?_
        replace h := bnd_some h
        obtain ⟨x47, hc46, h⟩ := h
        refine a_callS (pc := 50) (As := [.int p3, .int 4]) (st := [.int 1, .int (6 * (m0.1 162 0)), .ref (ga X.G 163)]) F dL_act_50 (m_L_at hc46) cs_RL_37 rfl rfl rfl (Nat.le_of_ble_eq_true rfl) ⟨Nat.le_of_ble_eq_true rfl, Nat.le_of_ble_eq_true rfl⟩ ?_ rfl rfl
        clear hc46
        refine a_ishl (pc := 53) F dL_act_53 ?_
        refine a_iconst (v := 1) (pc := 54) F dL_act_54 (by decide) ?_
        refine a_iconst (v := 4) (pc := 55) F dL_act_55 (by decide) ?_
        refine a_iload_n (pc := 56) F dL_act_56 4 rfl ?_
        refine a_iconst (v := 2) (pc := 57) F dL_act_57 (by decide) ?_
        refine a_ishr (pc := 58) F dL_act_58 ?_
        refine a_iconst (v := 3) (pc := 59) F dL_act_59 (by decide) ?_
        replace h := bnd_some h
        obtain ⟨x49, hc48, h⟩ := h
        refine a_callS (pc := 60) (As := [.int (p3 >>> (2 &&& 31)), .int 3]) (st := [.int 4, .int 1, .int (1 <<< (x47 &&& 31)), .int (6 * (m0.1 162 0)), .ref (ga X.G 163)]) F dL_act_60 (m_L_at hc48) cs_RL_37 rfl rfl rfl (Nat.le_of_ble_eq_true rfl) ⟨Nat.le_of_ble_eq_true rfl, Nat.le_of_ble_eq_true rfl⟩ ?_ rfl rfl
        clear hc48
        refine a_iadd (pc := 63) F dL_act_63 ?_
        refine a_ishl (pc := 64) F dL_act_64 ?_
        refine a_nmi fun x50 ex50 => ?_
        replace h := nm_at ex50 h
        clear ex50
        refine a_ior (pc := 65) F dL_act_65 ?_
        refine a_nmi fun x51 ex51 => ?_
        replace h := nm_at ex51 h
        clear ex51
        refine a_iload_n (pc := 66) F dL_act_66 4 rfl ?_
        refine a_iconst (v := 4) (pc := 67) F dL_act_67 (by decide) ?_
        refine a_ishr (pc := 68) F dL_act_68 ?_
        refine a_sipush (v := 128) (pc := 69) F dL_act_69 (by decide) ?_
        replace h := bnd_some h
        obtain ⟨x53, hc52, h⟩ := h
        refine a_callS (pc := 72) (As := [.int (p3 >>> (4 &&& 31)), .int 128]) (st := [.int x51, .int (6 * (m0.1 162 0)), .ref (ga X.G 163)]) F dL_act_72 (m_L_at hc52) cs_RL_37 rfl rfl rfl (Nat.le_of_ble_eq_true rfl) ⟨Nat.le_of_ble_eq_true rfl, Nat.le_of_ble_eq_true rfl⟩ ?_ rfl rfl
        clear hc52
        refine a_ior (pc := 75) F dL_act_75 ?_
        replace h := gIn_some h
        obtain ⟨g54, h⟩ := h
        refine a_ias (k := 163) (pc := 76) F dL_act_76 kl_163 ks_163 g54 ?_
        refine a_nmm fun m55 em55 => ?_
        replace h := nm_at em55 h
        clear em55
        refine a_aload (pc := 77) F dL_act_77 6 rfl ?_
        refine a_iload (pc := 79) F dL_act_79 0 rfl ?_
        refine a_iconst (v := 1) (pc := 81) F dL_act_81 (by decide) ?_
        refine a_iadd (pc := 82) F dL_act_82 ?_
        refine a_iload_n (pc := 83) F dL_act_83 4 rfl ?_
        refine a_bipush (v := 11) (pc := 84) F dL_act_84 (by decide) ?_
        refine a_ishr (pc := 86) F dL_act_86 ?_
        refine a_iconst (v := 2) (pc := 87) F dL_act_87 (by decide) ?_
        replace h := bnd_some h
        obtain ⟨x57, hc56, h⟩ := h
        refine a_callS (pc := 88) (As := [.int (p3 >>> (11 &&& 31)), .int 2]) (st := [.int ((6 * (m0.1 162 0)) + 1), .ref (ga X.G 163)]) F dL_act_88 (m_L_at hc56) cs_RL_37 rfl rfl rfl (Nat.le_of_ble_eq_true rfl) ⟨Nat.le_of_ble_eq_true rfl, Nat.le_of_ble_eq_true rfl⟩ ?_ rfl rfl
        clear hc56
        replace h := bnd_some h
        obtain ⟨x62, hR58, h⟩ := h
        have hJ58 : WA X 0 0 108 [(0, .ref (ga X.G 0)), (2, .int p3), (3, .ref (ga X.G 162)), (4, .ref (ga X.G 163)), (8, .int (6 * (m0.1 162 0)))] [.int x62, .int ((6 * (m0.1 162 0)) + 1), .ref (ga X.G 163)] m55 (EQ X (some (.int rr)) mm) := by
          replace h := gIn_some h
          obtain ⟨g63, h⟩ := h
          refine a_ias (k := 163) (pc := 108) F dL_act_108 kl_163 ks_163 g63 ?_
          refine a_nmm fun m64 em64 => ?_
          replace h := nm_at em64 h
          clear em64
          refine a_aload (pc := 109) F dL_act_109 3 rfl ?_
          refine a_iload (pc := 111) F dL_act_111 4 rfl ?_
          refine a_iconst (v := 2) (pc := 113) F dL_act_113 (by decide) ?_
          refine a_iadd (pc := 114) F dL_act_114 ?_
          refine a_iconst (v := 1) (pc := 115) F dL_act_115 (by decide) ?_
          refine a_iload_n (pc := 116) F dL_act_116 1 rfl ?_
          refine a_bipush (v := 15) (pc := 117) F dL_act_117 (by decide) ?_
          refine a_ishr (pc := 119) F dL_act_119 ?_
          refine a_bipush (v := 100) (pc := 120) F dL_act_120 (by decide) ?_
          replace h := bnd_some h
          obtain ⟨x66, hc65, h⟩ := h
          refine a_callS (pc := 122) (As := [.int (p3 >>> (15 &&& 31)), .int 100]) (st := [.int 1, .int ((6 * (m0.1 162 0)) + 2), .ref (ga X.G 163)]) F dL_act_122 (m_L_at hc65) cs_RL_37 rfl rfl rfl (Nat.le_of_ble_eq_true rfl) ⟨Nat.le_of_ble_eq_true rfl, Nat.le_of_ble_eq_true rfl⟩ ?_ rfl rfl
          clear hc65
          refine a_iadd (pc := 125) F dL_act_125 ?_
          replace h := gIn_some h
          obtain ⟨g67, h⟩ := h
          refine a_ias (k := 163) (pc := 126) F dL_act_126 kl_163 ks_163 g67 ?_
          refine a_nmm fun m68 em68 => ?_
          replace h := nm_at em68 h
          clear em68
          refine a_aload_n (pc := 127) F dL_act_127 2 rfl ?_
          refine a_bipush (v := 6) (pc := 128) F dL_act_128 (by decide) ?_
          refine a_ialc (k := 162) (pc := 130) F dL_act_130 kl_162 ks_162 rfl rfl ?_
          refine a_bipush (v := 6) (pc := 131) F dL_act_131 (by decide) ?_
          replace h := bnd_some h
          obtain ⟨m72, hR69, h⟩ := h
          have hJ69 : WA X 0 0 144 [(0, .ref (ga X.G 0)), (4, .ref (ga X.G 163)), (8, .int (6 * (m0.1 162 0)))] [] m72 (EQ X (some (.int rr)) mm) := by
            refine a_aload_n (pc := 144) F dL_act_144 0 rfl ?_
            refine a_aload (pc := 145) F dL_act_145 1 rfl ?_
            refine a_iload (pc := 147) F dL_act_147 2 rfl ?_
            replace h := gIn_some h
            obtain ⟨g73, h⟩ := h
            refine a_ial (k := 163) (pc := 149) F dL_act_149 kl_163 ks_163 g73 ?_
            refine a_nmi fun x74 ex74 => ?_
            replace h := nm_at ex74 h
            clear ex74
            refine a_aload (pc := 150) F dL_act_150 1 rfl ?_
            refine a_iload (pc := 152) F dL_act_152 2 rfl ?_
            refine a_iconst (v := 1) (pc := 154) F dL_act_154 (by decide) ?_
            refine a_iadd (pc := 155) F dL_act_155 ?_
            replace h := gIn_some h
            obtain ⟨g75, h⟩ := h
            refine a_ial (k := 163) (pc := 156) F dL_act_156 kl_163 ks_163 g75 ?_
            refine a_nmi fun x76 ex76 => ?_
            replace h := nm_at ex76 h
            clear ex76
            refine a_aload (pc := 157) F dL_act_157 1 rfl ?_
            refine a_iload (pc := 159) F dL_act_159 2 rfl ?_
            refine a_iconst (v := 2) (pc := 161) F dL_act_161 (by decide) ?_
            refine a_iadd (pc := 162) F dL_act_162 ?_
            replace h := gIn_some h
            obtain ⟨g77, h⟩ := h
            refine a_ial (k := 163) (pc := 163) F dL_act_163 kl_163 ks_163 g77 ?_
            refine a_nmi fun x78 ex78 => ?_
            replace h := nm_at ex78 h
            clear ex78
            replace h := bnd2_some h
            obtain ⟨x80, m81, hc79, h⟩ := h
            refine a_callV (pc := 164) (k := 0) (As := [.int x74, .int x76, .int x78]) (st := []) F dL_act_164 (m_X7_addInterpreter hc79) cv_RL_62 kl_0 ks_0 ⟨_, _, rfl⟩ rfl rfl rfl (Nat.le_of_ble_eq_true rfl) ⟨Nat.le_of_ble_eq_true rfl, Nat.le_of_ble_eq_true rfl⟩ ?_ rfl rfl
            clear hc79
            refine a_iload (pc := 167) F dL_act_167 2 rfl ?_
            refine a_bipush (v := 6) (pc := 169) F dL_act_169 (by decide) ?_
            refine a_idiv (pc := 171) F dL_act_171 (by decide) ?_
            refine a_icmp_ne (tgt := 179) (pc := 172) F dL_act_172 (by decide) (fun q82 => ?_) (fun q82 => ?_)
            · replace h := ite_f q82 h
              clear q82
              refine a_iconst (v := 0) (pc := 179) F dL_act_179 (by decide) ?_
              replace h := hB3 _ (Option.some.inj h).symm
              cases h
              exact a_iret (pc := 180) F dL_act_180 ⟨_, rfl, rfl⟩
            · replace h := ite_t (Decidable.not_not.mp q82) h
              clear q82
              refine a_iconst (v := 1) (pc := 175) F dL_act_175 (by decide) ?_
              refine a_goto (tgt := 180) (pc := 176) F dL_act_176 (by decide) ?_
              replace h := hB3 _ (Option.some.inj h).symm
              cases h
              exact a_iret (pc := 180) F dL_act_180 ⟨_, rfl, rfl⟩
          clear h
          have h := hR69
          clear hR69
          refine a_icmp_ge (tgt := 144) (pc := 133) F dL_act_133 (by decide) (fun q70 => ?_) (fun q70 => ?_)
          · replace h := ite_t q70 h
            clear q70
            refine a_lv F [0, 3, 4] rfl ?_
            cases h
            exact hJ69
          · replace h := ite_f q70 h
            clear q70
            refine a_aload_n (pc := 136) F dL_act_136 2 rfl ?_
            refine a_bipush (v := 6) (pc := 137) F dL_act_137 (by decide) ?_
            refine a_dup2 (pc := 139) F dL_act_139 rfl rfl ?_
            refine a_ialc (k := 162) (pc := 140) F dL_act_140 kl_162 ks_162 rfl rfl ?_
            refine a_iconst (v := 1) (pc := 141) F dL_act_141 (by decide) ?_
            refine a_iadd (pc := 142) F dL_act_142 ?_
            refine a_iasc (k := 162) (pc := 143) F dL_act_143 kl_162 ks_162 rfl rfl ?_
            refine a_nmm fun m71 em71 => ?_
            replace h := nm_at em71 h
            clear em71
            refine a_lv F [0, 3, 4] rfl ?_
            cases h
            exact hJ69
        clear h
        have h := hR58
        clear hR58
        refine a_if_ne (tgt := 99) (pc := 91) F dL_act_91 (by decide) (fun q59 => ?_) (fun q59 => ?_)
        · replace h := ite_f q59 h
          clear q59
          refine a_iload_n (pc := 99) F dL_act_99 4 rfl ?_
          refine a_bipush (v := 12) (pc := 100) F dL_act_100 (by decide) ?_
          refine a_ishr (pc := 102) F dL_act_102 ?_
          refine a_bipush (v := 8) (pc := 103) F dL_act_103 (by decide) ?_
          replace h := bnd_some h
          obtain ⟨x61, hc60, h⟩ := h
          refine a_callS (pc := 105) (As := [.int (p3 >>> (12 &&& 31)), .int 8]) (st := [.int ((6 * (m0.1 162 0)) + 1), .ref (ga X.G 163)]) F dL_act_105 (m_L_at hc60) cs_RL_37 rfl rfl rfl (Nat.le_of_ble_eq_true rfl) ⟨Nat.le_of_ble_eq_true rfl, Nat.le_of_ble_eq_true rfl⟩ ?_ rfl rfl
          clear hc60
          refine a_lv F [2, 4, 5, 6, 0] rfl ?_
          cases h
          exact hJ58
        · replace h := ite_t (Decidable.not_not.mp q59) h
          clear q59
          refine a_bipush (v := 7) (pc := 94) F dL_act_94 (by decide) ?_
          refine a_goto (tgt := 108) (pc := 96) F dL_act_96 (by decide) ?_
          refine a_lv F [2, 4, 5, 6, 0] rfl ?_
          cases h
          exact hJ58
