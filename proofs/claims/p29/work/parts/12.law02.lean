def f_L_minute_L21 (x2 : Int32) : (Int32 × Int32 × Mem) → Option ((Int32 × Int32 × Mem) ⊕ (Int32 × Mem))
  | (x6, x7, m8) => (if (m8.1 162 1) ≤ x7 then some (.inr (x6, m8)) else gIn ((6 * x7) + 4) 48 <| nm (m8.1 164 ((6 * x7) + 4).toNatClampNeg) fun x11 => (if x11 = 0 then gIn ((6 * x7) + 2) 48 <| nm (m8.1 164 ((6 * x7) + 2).toNatClampNeg) fun x15 => (if (m8.1 162 2) < x15 then nm (x7 + 1) fun x17 => some (.inl (x6, x17, m8)) else gIn x7 8 <| nm (m8.1 165 x7.toNatClampNeg) fun x19 => bnd (f_L_has x19 x2 m8) fun x21 => (if x21 = 0 then nm (x7 + 1) fun x23 => some (.inl (x6, x23, m8)) else gIn x7 8 <| nm (m8.1 165 x7.toNatClampNeg) fun x25 => bnd (f_L_size x25 m8) fun x27 => bnd ((if x27 ≤ 1 then some 0 else some (m8.1 162 8))) (fun (x30 : Int32) => gIn ((6 * x2) + 5) 30 <| nm (m8.1 163 ((6 * x2) + 5).toNatClampNeg) fun x32 => gIn ((6 * x2) + 5) 30 <| nm (si m8 163 ((6 * x2) + 5).toNatClampNeg (x32 + 1)) fun m34 => nm (x7 + 1) fun x35 => some (.inl ((m8.1 162 7) + x30, x35, m34))))) else nm (x7 + 1) fun x13 => some (.inl (x6, x13, m8))))
def f_L_minute_L333 (x92 : Int32) (m93 : Mem) : (Int32 × Int32) → Option ((Int32 × Int32) ⊕ Int32)
  | (x104, x105) => (if (m93.1 162 0) ≤ x105 then some (.inr x104) else gIn x92 8 <| nm (m93.1 165 x92.toNatClampNeg) fun x108 => bnd (f_L_has x108 x105 m93) fun x110 => (if x110 = 0 then nm (x105 + 1) fun x112 => some (.inl (x104, x112)) else gIn ((6 * x105) + 3) 30 <| nm (m93.1 163 ((6 * x105) + 3).toNatClampNeg) fun x114 => (if x114 ≤ (m93.1 162 10) then nm (x105 + 1) fun x116 => some (.inl (x104, x116)) else nm (x105 + 1) fun x117 => some (.inl (1, x117)))))
def f_L_minute_L292 : (Int32 × Mem) → Option ((Int32 × Mem) ⊕ Mem)
  | (x92, m93) => (if (m93.1 162 1) ≤ x92 then some (.inr m93) else gIn ((6 * x92) + 4) 48 <| nm (m93.1 164 ((6 * x92) + 4).toNatClampNeg) fun x96 => (if x96 = 0 then gIn ((6 * x92) + 2) 48 <| nm (m93.1 164 ((6 * x92) + 2).toNatClampNeg) fun x100 => (if x100 = (m93.1 162 2) then bnd (lp (f_L_minute_L333 x92 m93) 1000000 (0, 0)) (fun x118 => (if x118 = 0 then nm (x92 + 1) fun x120 => some (.inl (x120, m93)) else gIn ((6 * x92) + 4) 48 <| nm (si m93 164 ((6 * x92) + 4).toNatClampNeg 2) fun m122 => bnd2 (f_L_pays x92 1 m122) fun x124 m125 => nm (si m125 162 5 ((m122.1 162 5) + x124)) fun m126 => nm (x92 + 1) fun x127 => some (.inl (x127, m126)))) else nm (x92 + 1) fun x102 => some (.inl (x102, m93))) else nm (x92 + 1) fun x98 => some (.inl (x98, m93))))
def f_L_minute_L195 : (Int32 × Int32 × Mem) → Option ((Int32 × Int32 × Mem) ⊕ (Int32 × Mem))
  | (x59, x60, m61) => (if (m61.1 162 1) ≤ x60 then some (.inr (x59, m61)) else gIn ((6 * x60) + 4) 48 <| nm (m61.1 164 ((6 * x60) + 4).toNatClampNeg) fun x64 => (if x64 = 0 then gIn ((6 * x60) + 2) 48 <| nm (m61.1 164 ((6 * x60) + 2).toNatClampNeg) fun x68 => gIn ((6 * x60) + 3) 48 <| nm (m61.1 164 ((6 * x60) + 3).toNatClampNeg) fun x70 => (if (x68 + x70) = (m61.1 162 2) then gIn x60 8 <| nm (m61.1 165 x60.toNatClampNeg) fun x74 => bnd ((if x74 ≤ 0 then some 2 else some 1)) (fun (x77 : Int32) => gIn ((6 * x60) + 4) 48 <| nm (si m61 164 ((6 * x60) + 4).toNatClampNeg x77) fun m79 => gIn x60 8 <| nm (m79.1 165 x60.toNatClampNeg) fun x81 => (if x81 ≤ 0 then nm (x60 + 1) fun x83 => some (.inl (x59, x83, m79)) else bnd2 (f_L_pays x60 2 m79) fun x85 m86 => nm (x59 + 1) fun x87 => nm (x60 + 1) fun x88 => some (.inl (x87, x88, m86)))) else nm (x60 + 1) fun x72 => some (.inl (x59, x72, m61))) else nm (x60 + 1) fun x66 => some (.inl (x59, x66, m61))))
def f_L_minute_L3 : (Int32 × Mem) → Option ((Int32 × Mem) ⊕ Mem)
  | (x2, m3) => (if (m3.1 162 0) ≤ x2 then some (.inr m3) else bnd (lp (f_L_minute_L21 x2) 1000000 (-(m3.1 162 9), 0, m3)) (fun (x36, m37) => gIn ((6 * x2) + 3) 30 <| nm (m37.1 163 ((6 * x2) + 3).toNatClampNeg) fun x39 => gIn ((6 * x2) + 3) 30 <| nm (si m37 163 ((6 * x2) + 3).toNatClampNeg (x39 + x36)) fun m41 => gIn ((6 * x2) + 3) 30 <| nm (m41.1 163 ((6 * x2) + 3).toNatClampNeg) fun x43 => bnd ((if x43 ≤ 1000 then some m41 else gIn ((6 * x2) + 3) 30 <| nm (si m41 163 ((6 * x2) + 3).toNatClampNeg 1000) fun m47 => some m47)) (fun (m48 : Mem) => gIn ((6 * x2) + 3) 30 <| nm (m48.1 163 ((6 * x2) + 3).toNatClampNeg) fun x50 => (if 0 ≤ x50 then nm (x2 + 1) fun x52 => some (.inl (x52, m48)) else gIn ((6 * x2) + 3) 30 <| nm (si m48 163 ((6 * x2) + 3).toNatClampNeg 0) fun m54 => nm (x2 + 1) fun x55 => some (.inl (x55, m54))))))
def f_L_minute (m0 : Mem) : Option (Int32 × Mem) :=
  bnd (lp (f_L_minute_L3) 1000000 (0, m0)) (fun m56 => nm (si m56 162 2 ((m56.1 162 2) + 1)) fun m57 => bnd (lp (f_L_minute_L195) 1000000 (0, 0, m57)) (fun (x89, m90) => bnd (lp (f_L_minute_L292) 1000000 (0, m90)) (fun m128 => some (x89, m128))))
set_option maxRecDepth 100000 in
set_option maxHeartbeats 4000000 in
theorem m_L_minute {m0 : Mem} {rr : Int32} {mm : Mem} (h : f_L_minute m0 = some (rr, mm)) : Con yL_minute cL_minute 8 (some Jvm.ClassFile.FieldType.int) 3 84 (fun G => [.ref (ga G 162), .ref (ga G 163), .ref (ga G 164), .ref (ga G 165)]) m0 (some (.int rr)) mm := by
  refine con_of (by decide) (fun G => Nat.le_of_ble_eq_true rfl) (fun X F => ?_)
  show WA X 0 0 0 [(0, .ref (ga X.G 162)), (1, .ref (ga X.G 163)), (2, .ref (ga X.G 164)), (3, .ref (ga X.G 165))] [] m0 (EQ X (some (.int rr)) mm)
  rw [f_L_minute] at h
  refine a_iconst (v := 0) (pc := 0) F dL_minute_0 (by decide) ?_
  refine a_istore (lv' := [(4, .int 0), (0, .ref (ga X.G 162)), (1, .ref (ga X.G 163)), (2, .ref (ga X.G 164)), (3, .ref (ga X.G 165))]) (pc := 1) F dL_minute_1 (by decide) rfl ?_
  refine a_lv F [1, 2, 3, 4, 0] rfl ?_
  replace h := bnd_some h
  obtain ⟨m56, hL1, h⟩ := h
  have hE1 : WA X 0 0 182 [(0, .ref (ga X.G 162)), (1, .ref (ga X.G 163)), (2, .ref (ga X.G 164)), (3, .ref (ga X.G 165))] [] m56 (EQ X (some (.int rr)) mm) := by
    refine a_aload_n (pc := 182) F dL_minute_182 0 rfl ?_
    refine a_iconst (v := 2) (pc := 183) F dL_minute_183 (by decide) ?_
    refine a_dup2 (pc := 184) F dL_minute_184 rfl rfl ?_
    refine a_ialc (k := 162) (pc := 185) F dL_minute_185 kl_162 ks_162 rfl rfl ?_
    refine a_iconst (v := 1) (pc := 186) F dL_minute_186 (by decide) ?_
    refine a_iadd (pc := 187) F dL_minute_187 ?_
    refine a_iasc (k := 162) (pc := 188) F dL_minute_188 kl_162 ks_162 rfl rfl ?_
    refine a_nmm fun m57 em57 => ?_
    replace h := nm_at em57 h
    clear em57
    refine a_iconst (v := 0) (pc := 189) F dL_minute_189 (by decide) ?_
    refine a_istore (lv' := [(4, .int 0), (0, .ref (ga X.G 162)), (1, .ref (ga X.G 163)), (2, .ref (ga X.G 164)), (3, .ref (ga X.G 165))]) (pc := 190) F dL_minute_190 (by decide) rfl ?_
    refine a_iconst (v := 0) (pc := 192) F dL_minute_192 (by decide) ?_
    refine a_istore (lv' := [(5, .int 0), (4, .int 0), (0, .ref (ga X.G 162)), (1, .ref (ga X.G 163)), (2, .ref (ga X.G 164)), (3, .ref (ga X.G 165))]) (pc := 193) F dL_minute_193 (by decide) rfl ?_
    refine a_lv F [2, 3, 4, 5, 1, 0] rfl ?_
    replace h := bnd_some h
    obtain ⟨⟨x89, m90⟩, hL58, h⟩ := h
    have hE58 : WA X 0 0 289 [(0, .ref (ga X.G 162)), (1, .ref (ga X.G 163)), (2, .ref (ga X.G 164)), (3, .ref (ga X.G 165)), (4, .int x89)] [] m90 (EQ X (some (.int rr)) mm) := by
      refine a_iconst (v := 0) (pc := 289) F dL_minute_289 (by decide) ?_
      refine a_istore (lv' := [(5, .int 0), (0, .ref (ga X.G 162)), (1, .ref (ga X.G 163)), (2, .ref (ga X.G 164)), (3, .ref (ga X.G 165)), (4, .int x89)]) (pc := 290) F dL_minute_290 (by decide) rfl ?_
      refine a_lv F [1, 2, 3, 4, 5, 0] rfl ?_
      replace h := bnd_some h
      obtain ⟨m128, hL91, h⟩ := h
      have hE91 : WA X 0 0 415 [(4, .int x89)] [] m128 (EQ X (some (.int rr)) mm) := by
        refine a_iload (pc := 415) F dL_minute_415 0 rfl ?_
        cases h
        exact a_iret (pc := 417) F dL_minute_417 ⟨_, rfl, rfl⟩
      clear h
      refine lp_run (P := fun (s : (Int32 × Mem)) => WA X 0 0 292 [(0, .ref (ga X.G 162)), (1, .ref (ga X.G 163)), (2, .ref (ga X.G 164)), (3, .ref (ga X.G 165)), (4, .int x89), (5, .int s.1)] [] s.2 (EQ X (some (.int rr)) mm)) ?_ _ _ hL91
      clear hL91
      rintro ⟨x92, m93⟩ xo h hP91 hT91
      show WA X 0 0 292 [(0, .ref (ga X.G 162)), (1, .ref (ga X.G 163)), (2, .ref (ga X.G 164)), (3, .ref (ga X.G 165)), (4, .int x89), (5, .int x92)] [] m93 (EQ X (some (.int rr)) mm)
      rw [f_L_minute_L292] at h
      refine a_iload (pc := 292) F dL_minute_292 5 rfl ?_
      refine a_aload_n (pc := 294) F dL_minute_294 0 rfl ?_
      refine a_iconst (v := 1) (pc := 295) F dL_minute_295 (by decide) ?_
      refine a_ialc (k := 162) (pc := 296) F dL_minute_296 kl_162 ks_162 rfl rfl ?_
      refine a_icmp_ge (tgt := 415) (pc := 297) F dL_minute_297 (by decide) (fun q94 => ?_) (fun q94 => ?_)
      · replace h := ite_t q94 h
        clear q94
        refine a_lv F [4] rfl ?_
        cases hT91 _ (Option.some.inj h).symm
        exact hE91
      · replace h := ite_f q94 h
        clear q94
        refine a_aload_n (pc := 300) F dL_minute_300 2 rfl ?_
        refine a_bipush (v := 6) (pc := 301) F dL_minute_301 (by decide) ?_
        refine a_iload (pc := 303) F dL_minute_303 5 rfl ?_
        refine a_imul (pc := 305) F dL_minute_305 ?_
        refine a_iconst (v := 4) (pc := 306) F dL_minute_306 (by decide) ?_
        refine a_iadd (pc := 307) F dL_minute_307 ?_
        replace h := gIn_some h
        obtain ⟨g95, h⟩ := h
        refine a_ial (k := 164) (pc := 308) F dL_minute_308 kl_164 ks_164 g95 ?_
        refine a_nmi fun x96 ex96 => ?_
        replace h := nm_at ex96 h
        clear ex96
        refine a_if_ne (tgt := 409) (pc := 309) F dL_minute_309 (by decide) (fun q97 => ?_) (fun q97 => ?_)
        · replace h := ite_f q97 h
          clear q97
          obtain ⟨x98, ex98⟩ : ∃ x98 : Int32, x98 = x92 + 1 := ⟨_, rfl⟩
          refine a_iinc (v := x98) (lv' := [(5, .int x98), (0, .ref (ga X.G 162)), (1, .ref (ga X.G 163)), (2, .ref (ga X.G 164)), (3, .ref (ga X.G 165)), (4, .int x89)]) (pc := 409) F dL_minute_409 5 rfl (by rw [ex98]; rfl) (by decide) rfl ?_
          replace h := nm_at ex98 h
          clear ex98
          refine a_goto (tgt := 292) (pc := 412) F dL_minute_412 (by decide) ?_
          refine a_lv F [1, 2, 3, 4, 5, 0] rfl ?_
          exact hP91 _ (Option.some.inj h).symm
        · replace h := ite_t (Decidable.not_not.mp q97) h
          clear q97
          refine a_aload_n (pc := 312) F dL_minute_312 2 rfl ?_
          refine a_bipush (v := 6) (pc := 313) F dL_minute_313 (by decide) ?_
          refine a_iload (pc := 315) F dL_minute_315 5 rfl ?_
          refine a_imul (pc := 317) F dL_minute_317 ?_
          refine a_iconst (v := 2) (pc := 318) F dL_minute_318 (by decide) ?_
          refine a_iadd (pc := 319) F dL_minute_319 ?_
          replace h := gIn_some h
          obtain ⟨g99, h⟩ := h
          refine a_ial (k := 164) (pc := 320) F dL_minute_320 kl_164 ks_164 g99 ?_
          refine a_nmi fun x100 ex100 => ?_
          replace h := nm_at ex100 h
          clear ex100
          refine a_aload_n (pc := 321) F dL_minute_321 0 rfl ?_
          refine a_iconst (v := 2) (pc := 322) F dL_minute_322 (by decide) ?_
          refine a_ialc (k := 162) (pc := 323) F dL_minute_323 kl_162 ks_162 rfl rfl ?_
          refine a_icmp_ne (tgt := 409) (pc := 324) F dL_minute_324 (by decide) (fun q101 => ?_) (fun q101 => ?_)
          · replace h := ite_f q101 h
            clear q101
            obtain ⟨x102, ex102⟩ : ∃ x102 : Int32, x102 = x92 + 1 := ⟨_, rfl⟩
            refine a_iinc (v := x102) (lv' := [(5, .int x102), (0, .ref (ga X.G 162)), (1, .ref (ga X.G 163)), (2, .ref (ga X.G 164)), (3, .ref (ga X.G 165)), (4, .int x89)]) (pc := 409) F dL_minute_409 5 rfl (by rw [ex102]; rfl) (by decide) rfl ?_
            replace h := nm_at ex102 h
            clear ex102
            refine a_goto (tgt := 292) (pc := 412) F dL_minute_412 (by decide) ?_
            refine a_lv F [1, 2, 3, 4, 5, 0] rfl ?_
            exact hP91 _ (Option.some.inj h).symm
          · replace h := ite_t (Decidable.not_not.mp q101) h
            clear q101
            refine a_iconst (v := 0) (pc := 327) F dL_minute_327 (by decide) ?_
            refine a_istore (lv' := [(6, .int 0), (0, .ref (ga X.G 162)), (1, .ref (ga X.G 163)), (2, .ref (ga X.G 164)), (3, .ref (ga X.G 165)), (4, .int x89), (5, .int x92)]) (pc := 328) F dL_minute_328 (by decide) rfl ?_
            refine a_iconst (v := 0) (pc := 330) F dL_minute_330 (by decide) ?_
            refine a_istore (lv' := [(7, .int 0), (6, .int 0), (0, .ref (ga X.G 162)), (1, .ref (ga X.G 163)), (2, .ref (ga X.G 164)), (3, .ref (ga X.G 165)), (4, .int x89), (5, .int x92)]) (pc := 331) F dL_minute_331 (by decide) rfl ?_
            refine a_lv F [2, 3, 4, 5, 6, 7, 1, 0] rfl ?_
            replace h := bnd_some h
            obtain ⟨x118, hL103, h⟩ := h
            have hE103 : WA X 0 0 378 [(0, .ref (ga X.G 162)), (1, .ref (ga X.G 163)), (2, .ref (ga X.G 164)), (3, .ref (ga X.G 165)), (4, .int x89), (5, .int x92), (6, .int x118)] [] m93 (EQ X (some (.int rr)) mm) := by
              refine a_iload (pc := 378) F dL_minute_378 6 rfl ?_
              refine a_if_eq (tgt := 409) (pc := 380) F dL_minute_380 (by decide) (fun q119 => ?_) (fun q119 => ?_)
              · replace h := ite_t q119 h
                clear q119
                obtain ⟨x120, ex120⟩ : ∃ x120 : Int32, x120 = x92 + 1 := ⟨_, rfl⟩
                refine a_iinc (v := x120) (lv' := [(5, .int x120), (0, .ref (ga X.G 162)), (1, .ref (ga X.G 163)), (2, .ref (ga X.G 164)), (3, .ref (ga X.G 165)), (4, .int x89), (6, .int x118)]) (pc := 409) F dL_minute_409 5 rfl (by rw [ex120]; rfl) (by decide) rfl ?_
                replace h := nm_at ex120 h
                clear ex120
                refine a_goto (tgt := 292) (pc := 412) F dL_minute_412 (by decide) ?_
                refine a_lv F [1, 2, 3, 4, 5, 0] rfl ?_
                exact hP91 _ (Option.some.inj h).symm
              · replace h := ite_f q119 h
                clear q119
                refine a_aload_n (pc := 383) F dL_minute_383 2 rfl ?_
                refine a_bipush (v := 6) (pc := 384) F dL_minute_384 (by decide) ?_
                refine a_iload (pc := 386) F dL_minute_386 5 rfl ?_
                refine a_imul (pc := 388) F dL_minute_388 ?_
                refine a_iconst (v := 4) (pc := 389) F dL_minute_389 (by decide) ?_
                refine a_iadd (pc := 390) F dL_minute_390 ?_
                refine a_iconst (v := 2) (pc := 391) F dL_minute_391 (by decide) ?_
                replace h := gIn_some h
                obtain ⟨g121, h⟩ := h
                refine a_ias (k := 164) (pc := 392) F dL_minute_392 kl_164 ks_164 g121 ?_
                refine a_nmm fun m122 em122 => ?_
                replace h := nm_at em122 h
                clear em122
                refine a_aload_n (pc := 393) F dL_minute_393 0 rfl ?_
                refine a_iconst (v := 5) (pc := 394) F dL_minute_394 (by decide) ?_
                refine a_dup2 (pc := 395) F dL_minute_395 rfl rfl ?_
                refine a_ialc (k := 162) (pc := 396) F dL_minute_396 kl_162 ks_162 rfl rfl ?_
                refine a_aload_n (pc := 397) F dL_minute_397 0 rfl ?_
                refine a_aload_n (pc := 398) F dL_minute_398 1 rfl ?_
                refine a_aload_n (pc := 399) F dL_minute_399 2 rfl ?_
                refine a_aload_n (pc := 400) F dL_minute_400 3 rfl ?_
                refine a_iload (pc := 401) F dL_minute_401 5 rfl ?_
                refine a_iconst (v := 1) (pc := 403) F dL_minute_403 (by decide) ?_
                replace h := bnd2_some h
                obtain ⟨x124, m125, hc123, h⟩ := h
                refine a_callS (pc := 404) (As := [.ref (ga X.G 162), .ref (ga X.G 163), .ref (ga X.G 164), .ref (ga X.G 165), .int x92, .int 1]) (st := [.int (m122.1 162 5), .int 5, .ref (ga X.G 162)]) F dL_minute_404 (m_L_pays hc123) cs_RL_34 rfl rfl rfl (Nat.le_of_ble_eq_true rfl) ⟨Nat.le_of_ble_eq_true rfl, Nat.le_of_ble_eq_true rfl⟩ ?_ rfl rfl
                clear hc123
                refine a_iadd (pc := 407) F dL_minute_407 ?_
                refine a_iasc (k := 162) (pc := 408) F dL_minute_408 kl_162 ks_162 rfl rfl ?_
                refine a_nmm fun m126 em126 => ?_
                replace h := nm_at em126 h
                clear em126
                obtain ⟨x127, ex127⟩ : ∃ x127 : Int32, x127 = x92 + 1 := ⟨_, rfl⟩
                refine a_iinc (v := x127) (lv' := [(5, .int x127), (0, .ref (ga X.G 162)), (1, .ref (ga X.G 163)), (2, .ref (ga X.G 164)), (3, .ref (ga X.G 165)), (4, .int x89), (6, .int x118)]) (pc := 409) F dL_minute_409 5 rfl (by rw [ex127]; rfl) (by decide) rfl ?_
                replace h := nm_at ex127 h
                clear ex127
                refine a_goto (tgt := 292) (pc := 412) F dL_minute_412 (by decide) ?_
                refine a_lv F [1, 2, 3, 4, 5, 0] rfl ?_
                exact hP91 _ (Option.some.inj h).symm
            clear h
            refine lp_run (P := fun (s : (Int32 × Int32)) => WA X 0 0 333 [(0, .ref (ga X.G 162)), (1, .ref (ga X.G 163)), (2, .ref (ga X.G 164)), (3, .ref (ga X.G 165)), (4, .int x89), (5, .int x92), (6, .int s.1), (7, .int s.2)] [] m93 (EQ X (some (.int rr)) mm)) ?_ _ _ hL103
            clear hL103
            rintro ⟨x104, x105⟩ xo h hP103 hT103
            show WA X 0 0 333 [(0, .ref (ga X.G 162)), (1, .ref (ga X.G 163)), (2, .ref (ga X.G 164)), (3, .ref (ga X.G 165)), (4, .int x89), (5, .int x92), (6, .int x104), (7, .int x105)] [] m93 (EQ X (some (.int rr)) mm)
            rw [f_L_minute_L333] at h
            refine a_iload (pc := 333) F dL_minute_333 7 rfl ?_
            refine a_aload_n (pc := 335) F dL_minute_335 0 rfl ?_
            refine a_iconst (v := 0) (pc := 336) F dL_minute_336 (by decide) ?_
            refine a_ialc (k := 162) (pc := 337) F dL_minute_337 kl_162 ks_162 rfl rfl ?_
            refine a_icmp_ge (tgt := 378) (pc := 338) F dL_minute_338 (by decide) (fun q106 => ?_) (fun q106 => ?_)
            · replace h := ite_t q106 h
              clear q106
              refine a_lv F [0, 1, 2, 3, 4, 5, 6] rfl ?_
              cases hT103 _ (Option.some.inj h).symm
              exact hE103
            · replace h := ite_f q106 h
              clear q106
              refine a_aload_n (pc := 341) F dL_minute_341 3 rfl ?_
              refine a_iload (pc := 342) F dL_minute_342 5 rfl ?_
              replace h := gIn_some h
              obtain ⟨g107, h⟩ := h
              refine a_ial (k := 165) (pc := 344) F dL_minute_344 kl_165 ks_165 g107 ?_
              refine a_nmi fun x108 ex108 => ?_
              replace h := nm_at ex108 h
              clear ex108
              refine a_iload (pc := 345) F dL_minute_345 7 rfl ?_
              replace h := bnd_some h
              obtain ⟨x110, hc109, h⟩ := h
              refine a_callS (pc := 347) (As := [.int x108, .int x105]) (st := []) F dL_minute_347 (m_L_has hc109) cs_RL_26 rfl rfl rfl (Nat.le_of_ble_eq_true rfl) ⟨Nat.le_of_ble_eq_true rfl, Nat.le_of_ble_eq_true rfl⟩ ?_ rfl rfl
              clear hc109
              refine a_if_eq (tgt := 372) (pc := 350) F dL_minute_350 (by decide) (fun q111 => ?_) (fun q111 => ?_)
              · replace h := ite_t q111 h
                clear q111
                obtain ⟨x112, ex112⟩ : ∃ x112 : Int32, x112 = x105 + 1 := ⟨_, rfl⟩
                refine a_iinc (v := x112) (lv' := [(7, .int x112), (0, .ref (ga X.G 162)), (1, .ref (ga X.G 163)), (2, .ref (ga X.G 164)), (3, .ref (ga X.G 165)), (4, .int x89), (5, .int x92), (6, .int x104)]) (pc := 372) F dL_minute_372 7 rfl (by rw [ex112]; rfl) (by decide) rfl ?_
                replace h := nm_at ex112 h
                clear ex112
                refine a_goto (tgt := 333) (pc := 375) F dL_minute_375 (by decide) ?_
                refine a_lv F [1, 2, 3, 4, 5, 6, 7, 0] rfl ?_
                exact hP103 _ (Option.some.inj h).symm
              · replace h := ite_f q111 h
                clear q111
                refine a_aload_n (pc := 353) F dL_minute_353 1 rfl ?_
                refine a_bipush (v := 6) (pc := 354) F dL_minute_354 (by decide) ?_
                refine a_iload (pc := 356) F dL_minute_356 7 rfl ?_
                refine a_imul (pc := 358) F dL_minute_358 ?_
                refine a_iconst (v := 3) (pc := 359) F dL_minute_359 (by decide) ?_
                refine a_iadd (pc := 360) F dL_minute_360 ?_
                replace h := gIn_some h
                obtain ⟨g113, h⟩ := h
                refine a_ial (k := 163) (pc := 361) F dL_minute_361 kl_163 ks_163 g113 ?_
                refine a_nmi fun x114 ex114 => ?_
                replace h := nm_at ex114 h
                clear ex114
                refine a_aload_n (pc := 362) F dL_minute_362 0 rfl ?_
                refine a_bipush (v := 10) (pc := 363) F dL_minute_363 (by decide) ?_
                refine a_ialc (k := 162) (pc := 365) F dL_minute_365 kl_162 ks_162 rfl rfl ?_
                refine a_icmp_le (tgt := 372) (pc := 366) F dL_minute_366 (by decide) (fun q115 => ?_) (fun q115 => ?_)
                · replace h := ite_t q115 h
                  clear q115
                  obtain ⟨x116, ex116⟩ : ∃ x116 : Int32, x116 = x105 + 1 := ⟨_, rfl⟩
                  refine a_iinc (v := x116) (lv' := [(7, .int x116), (0, .ref (ga X.G 162)), (1, .ref (ga X.G 163)), (2, .ref (ga X.G 164)), (3, .ref (ga X.G 165)), (4, .int x89), (5, .int x92), (6, .int x104)]) (pc := 372) F dL_minute_372 7 rfl (by rw [ex116]; rfl) (by decide) rfl ?_
                  replace h := nm_at ex116 h
                  clear ex116
                  refine a_goto (tgt := 333) (pc := 375) F dL_minute_375 (by decide) ?_
                  refine a_lv F [1, 2, 3, 4, 5, 6, 7, 0] rfl ?_
                  exact hP103 _ (Option.some.inj h).symm
                · replace h := ite_f q115 h
                  clear q115
                  refine a_iconst (v := 1) (pc := 369) F dL_minute_369 (by decide) ?_
                  refine a_istore (lv' := [(6, .int 1), (0, .ref (ga X.G 162)), (1, .ref (ga X.G 163)), (2, .ref (ga X.G 164)), (3, .ref (ga X.G 165)), (4, .int x89), (5, .int x92), (7, .int x105)]) (pc := 370) F dL_minute_370 (by decide) rfl ?_
                  obtain ⟨x117, ex117⟩ : ∃ x117 : Int32, x117 = x105 + 1 := ⟨_, rfl⟩
                  refine a_iinc (v := x117) (lv' := [(7, .int x117), (6, .int 1), (0, .ref (ga X.G 162)), (1, .ref (ga X.G 163)), (2, .ref (ga X.G 164)), (3, .ref (ga X.G 165)), (4, .int x89), (5, .int x92)]) (pc := 372) F dL_minute_372 7 rfl (by rw [ex117]; rfl) (by decide) rfl ?_
                  replace h := nm_at ex117 h
                  clear ex117
                  refine a_goto (tgt := 333) (pc := 375) F dL_minute_375 (by decide) ?_
                  refine a_lv F [2, 3, 4, 5, 6, 7, 1, 0] rfl ?_
                  exact hP103 _ (Option.some.inj h).symm
    clear h
    refine lp_run (P := fun (s : (Int32 × Int32 × Mem)) => WA X 0 0 195 [(0, .ref (ga X.G 162)), (1, .ref (ga X.G 163)), (2, .ref (ga X.G 164)), (3, .ref (ga X.G 165)), (4, .int s.1), (5, .int s.2.1)] [] s.2.2 (EQ X (some (.int rr)) mm)) ?_ _ _ hL58
    clear hL58
    rintro ⟨x59, x60, m61⟩ xo h hP58 hT58
    show WA X 0 0 195 [(0, .ref (ga X.G 162)), (1, .ref (ga X.G 163)), (2, .ref (ga X.G 164)), (3, .ref (ga X.G 165)), (4, .int x59), (5, .int x60)] [] m61 (EQ X (some (.int rr)) mm)
    rw [f_L_minute_L195] at h
    refine a_iload (pc := 195) F dL_minute_195 5 rfl ?_
    refine a_aload_n (pc := 197) F dL_minute_197 0 rfl ?_
    refine a_iconst (v := 1) (pc := 198) F dL_minute_198 (by decide) ?_
    refine a_ialc (k := 162) (pc := 199) F dL_minute_199 kl_162 ks_162 rfl rfl ?_
    refine a_icmp_ge (tgt := 289) (pc := 200) F dL_minute_200 (by decide) (fun q62 => ?_) (fun q62 => ?_)
    · replace h := ite_t q62 h
      clear q62
      refine a_lv F [0, 1, 2, 3, 4] rfl ?_
      cases hT58 _ (Option.some.inj h).symm
      exact hE58
    · replace h := ite_f q62 h
      clear q62
      refine a_aload_n (pc := 203) F dL_minute_203 2 rfl ?_
      refine a_bipush (v := 6) (pc := 204) F dL_minute_204 (by decide) ?_
      refine a_iload (pc := 206) F dL_minute_206 5 rfl ?_
      refine a_imul (pc := 208) F dL_minute_208 ?_
      refine a_iconst (v := 4) (pc := 209) F dL_minute_209 (by decide) ?_
      refine a_iadd (pc := 210) F dL_minute_210 ?_
      replace h := gIn_some h
      obtain ⟨g63, h⟩ := h
      refine a_ial (k := 164) (pc := 211) F dL_minute_211 kl_164 ks_164 g63 ?_
      refine a_nmi fun x64 ex64 => ?_
      replace h := nm_at ex64 h
      clear ex64
      refine a_if_ne (tgt := 283) (pc := 212) F dL_minute_212 (by decide) (fun q65 => ?_) (fun q65 => ?_)
      · replace h := ite_f q65 h
        clear q65
        obtain ⟨x66, ex66⟩ : ∃ x66 : Int32, x66 = x60 + 1 := ⟨_, rfl⟩
        refine a_iinc (v := x66) (lv' := [(5, .int x66), (0, .ref (ga X.G 162)), (1, .ref (ga X.G 163)), (2, .ref (ga X.G 164)), (3, .ref (ga X.G 165)), (4, .int x59)]) (pc := 283) F dL_minute_283 5 rfl (by rw [ex66]; rfl) (by decide) rfl ?_
        replace h := nm_at ex66 h
        clear ex66
        refine a_goto (tgt := 195) (pc := 286) F dL_minute_286 (by decide) ?_
        refine a_lv F [1, 2, 3, 4, 5, 0] rfl ?_
        exact hP58 _ (Option.some.inj h).symm
      · replace h := ite_t (Decidable.not_not.mp q65) h
        clear q65
        refine a_aload_n (pc := 215) F dL_minute_215 2 rfl ?_
        refine a_bipush (v := 6) (pc := 216) F dL_minute_216 (by decide) ?_
        refine a_iload (pc := 218) F dL_minute_218 5 rfl ?_
        refine a_imul (pc := 220) F dL_minute_220 ?_
        refine a_iconst (v := 2) (pc := 221) F dL_minute_221 (by decide) ?_
        refine a_iadd (pc := 222) F dL_minute_222 ?_
        replace h := gIn_some h
        obtain ⟨g67, h⟩ := h
        refine a_ial (k := 164) (pc := 223) F dL_minute_223 kl_164 ks_164 g67 ?_
        refine a_nmi fun x68 ex68 => ?_
        replace h := nm_at ex68 h
        clear ex68
        refine a_aload_n (pc := 224) F dL_minute_224 2 rfl ?_
        refine a_bipush (v := 6) (pc := 225) F dL_minute_225 (by decide) ?_
        refine a_iload (pc := 227) F dL_minute_227 5 rfl ?_
        refine a_imul (pc := 229) F dL_minute_229 ?_
        refine a_iconst (v := 3) (pc := 230) F dL_minute_230 (by decide) ?_
        refine a_iadd (pc := 231) F dL_minute_231 ?_
        replace h := gIn_some h
        obtain ⟨g69, h⟩ := h
        refine a_ial (k := 164) (pc := 232) F dL_minute_232 kl_164 ks_164 g69 ?_
        refine a_nmi fun x70 ex70 => ?_
        replace h := nm_at ex70 h
        clear ex70
        refine a_iadd (pc := 233) F dL_minute_233 ?_
        refine a_aload_n (pc := 234) F dL_minute_234 0 rfl ?_
        refine a_iconst (v := 2) (pc := 235) F dL_minute_235 (by decide) ?_
        refine a_ialc (k := 162) (pc := 236) F dL_minute_236 kl_162 ks_162 rfl rfl ?_
        refine a_icmp_ne (tgt := 283) (pc := 237) F dL_minute_237 (by decide) (fun q71 => ?_) (fun q71 => ?_)
        · replace h := ite_f q71 h
          clear q71
          obtain ⟨x72, ex72⟩ : ∃ x72 : Int32, x72 = x60 + 1 := ⟨_, rfl⟩
          refine a_iinc (v := x72) (lv' := [(5, .int x72), (0, .ref (ga X.G 162)), (1, .ref (ga X.G 163)), (2, .ref (ga X.G 164)), (3, .ref (ga X.G 165)), (4, .int x59)]) (pc := 283) F dL_minute_283 5 rfl (by rw [ex72]; rfl) (by decide) rfl ?_
          replace h := nm_at ex72 h
          clear ex72
          refine a_goto (tgt := 195) (pc := 286) F dL_minute_286 (by decide) ?_
          refine a_lv F [1, 2, 3, 4, 5, 0] rfl ?_
          exact hP58 _ (Option.some.inj h).symm
        · replace h := ite_t (Decidable.not_not.mp q71) h
          clear q71
          refine a_aload_n (pc := 240) F dL_minute_240 2 rfl ?_
          refine a_bipush (v := 6) (pc := 241) F dL_minute_241 (by decide) ?_
          refine a_iload (pc := 243) F dL_minute_243 5 rfl ?_
          refine a_imul (pc := 245) F dL_minute_245 ?_
          refine a_iconst (v := 4) (pc := 246) F dL_minute_246 (by decide) ?_
          refine a_iadd (pc := 247) F dL_minute_247 ?_
          refine a_aload_n (pc := 248) F dL_minute_248 3 rfl ?_
          refine a_iload (pc := 249) F dL_minute_249 5 rfl ?_
          replace h := gIn_some h
          obtain ⟨g73, h⟩ := h
          refine a_ial (k := 165) (pc := 251) F dL_minute_251 kl_165 ks_165 g73 ?_
          refine a_nmi fun x74 ex74 => ?_
          replace h := nm_at ex74 h
          clear ex74
          replace h := bnd_some h
          obtain ⟨x77, hR75, h⟩ := h
          have hJ75 : WA X 0 0 260 [(0, .ref (ga X.G 162)), (1, .ref (ga X.G 163)), (2, .ref (ga X.G 164)), (3, .ref (ga X.G 165)), (4, .int x59), (5, .int x60)] [.int x77, .int ((6 * x60) + 4), .ref (ga X.G 164)] m61 (EQ X (some (.int rr)) mm) := by
            replace h := gIn_some h
            obtain ⟨g78, h⟩ := h
            refine a_ias (k := 164) (pc := 260) F dL_minute_260 kl_164 ks_164 g78 ?_
            refine a_nmm fun m79 em79 => ?_
            replace h := nm_at em79 h
            clear em79
            refine a_aload_n (pc := 261) F dL_minute_261 3 rfl ?_
            refine a_iload (pc := 262) F dL_minute_262 5 rfl ?_
            replace h := gIn_some h
            obtain ⟨g80, h⟩ := h
            refine a_ial (k := 165) (pc := 264) F dL_minute_264 kl_165 ks_165 g80 ?_
            refine a_nmi fun x81 ex81 => ?_
            replace h := nm_at ex81 h
            clear ex81
            refine a_if_le (tgt := 283) (pc := 265) F dL_minute_265 (by decide) (fun q82 => ?_) (fun q82 => ?_)
            · replace h := ite_t q82 h
              clear q82
              obtain ⟨x83, ex83⟩ : ∃ x83 : Int32, x83 = x60 + 1 := ⟨_, rfl⟩
              refine a_iinc (v := x83) (lv' := [(5, .int x83), (0, .ref (ga X.G 162)), (1, .ref (ga X.G 163)), (2, .ref (ga X.G 164)), (3, .ref (ga X.G 165)), (4, .int x59)]) (pc := 283) F dL_minute_283 5 rfl (by rw [ex83]; rfl) (by decide) rfl ?_
              replace h := nm_at ex83 h
              clear ex83
              refine a_goto (tgt := 195) (pc := 286) F dL_minute_286 (by decide) ?_
              refine a_lv F [1, 2, 3, 4, 5, 0] rfl ?_
              exact hP58 _ (Option.some.inj h).symm
            · replace h := ite_f q82 h
              clear q82
              refine a_aload_n (pc := 268) F dL_minute_268 0 rfl ?_
              refine a_aload_n (pc := 269) F dL_minute_269 1 rfl ?_
              refine a_aload_n (pc := 270) F dL_minute_270 2 rfl ?_
              refine a_aload_n (pc := 271) F dL_minute_271 3 rfl ?_
              refine a_iload (pc := 272) F dL_minute_272 5 rfl ?_
              refine a_iconst (v := 2) (pc := 274) F dL_minute_274 (by decide) ?_
              replace h := bnd2_some h
              obtain ⟨x85, m86, hc84, h⟩ := h
              refine a_callS (pc := 275) (As := [.ref (ga X.G 162), .ref (ga X.G 163), .ref (ga X.G 164), .ref (ga X.G 165), .int x60, .int 2]) (st := []) F dL_minute_275 (m_L_pays hc84) cs_RL_34 rfl rfl rfl (Nat.le_of_ble_eq_true rfl) ⟨Nat.le_of_ble_eq_true rfl, Nat.le_of_ble_eq_true rfl⟩ ?_ rfl rfl
              clear hc84
              refine a_istore (lv' := [(6, .int x85), (0, .ref (ga X.G 162)), (1, .ref (ga X.G 163)), (2, .ref (ga X.G 164)), (3, .ref (ga X.G 165)), (4, .int x59), (5, .int x60)]) (pc := 278) F dL_minute_278 (by decide) rfl ?_
              obtain ⟨x87, ex87⟩ : ∃ x87 : Int32, x87 = x59 + 1 := ⟨_, rfl⟩
              refine a_iinc (v := x87) (lv' := [(4, .int x87), (6, .int x85), (0, .ref (ga X.G 162)), (1, .ref (ga X.G 163)), (2, .ref (ga X.G 164)), (3, .ref (ga X.G 165)), (5, .int x60)]) (pc := 280) F dL_minute_280 5 rfl (by rw [ex87]; rfl) (by decide) rfl ?_
              replace h := nm_at ex87 h
              clear ex87
              obtain ⟨x88, ex88⟩ : ∃ x88 : Int32, x88 = x60 + 1 := ⟨_, rfl⟩
              refine a_iinc (v := x88) (lv' := [(5, .int x88), (4, .int x87), (6, .int x85), (0, .ref (ga X.G 162)), (1, .ref (ga X.G 163)), (2, .ref (ga X.G 164)), (3, .ref (ga X.G 165))]) (pc := 283) F dL_minute_283 6 rfl (by rw [ex88]; rfl) (by decide) rfl ?_
              replace h := nm_at ex88 h
              clear ex88
              refine a_goto (tgt := 195) (pc := 286) F dL_minute_286 (by decide) ?_
              refine a_lv F [3, 4, 5, 6, 1, 0] rfl ?_
              exact hP58 _ (Option.some.inj h).symm
          clear h
          have h := hR75
          clear hR75
          refine a_if_le (tgt := 259) (pc := 252) F dL_minute_252 (by decide) (fun q76 => ?_) (fun q76 => ?_)
          · replace h := ite_t q76 h
            clear q76
            refine a_iconst (v := 2) (pc := 259) F dL_minute_259 (by decide) ?_
            cases h
            exact hJ75
          · replace h := ite_f q76 h
            clear q76
            refine a_iconst (v := 1) (pc := 255) F dL_minute_255 (by decide) ?_
            refine a_goto (tgt := 260) (pc := 256) F dL_minute_256 (by decide) ?_
            cases h
            exact hJ75
  clear h
  refine lp_run (P := fun (s : (Int32 × Mem)) => WA X 0 0 3 [(0, .ref (ga X.G 162)), (1, .ref (ga X.G 163)), (2, .ref (ga X.G 164)), (3, .ref (ga X.G 165)), (4, .int s.1)] [] s.2 (EQ X (some (.int rr)) mm)) ?_ _ _ hL1
  clear hL1
  rintro ⟨x2, m3⟩ xo h hP1 hT1
  show WA X 0 0 3 [(0, .ref (ga X.G 162)), (1, .ref (ga X.G 163)), (2, .ref (ga X.G 164)), (3, .ref (ga X.G 165)), (4, .int x2)] [] m3 (EQ X (some (.int rr)) mm)
  rw [f_L_minute_L3] at h
  refine a_iload (pc := 3) F dL_minute_3 4 rfl ?_
  refine a_aload_n (pc := 5) F dL_minute_5 0 rfl ?_
  refine a_iconst (v := 0) (pc := 6) F dL_minute_6 (by decide) ?_
  refine a_ialc (k := 162) (pc := 7) F dL_minute_7 kl_162 ks_162 rfl rfl ?_
  refine a_icmp_ge (tgt := 182) (pc := 8) F dL_minute_8 (by decide) (fun q4 => ?_) (fun q4 => ?_)
  · replace h := ite_t q4 h
    clear q4
    refine a_lv F [0, 1, 2, 3] rfl ?_
    cases hT1 _ (Option.some.inj h).symm
    exact hE1
  · replace h := ite_f q4 h
    clear q4
    refine a_aload_n (pc := 11) F dL_minute_11 0 rfl ?_
    refine a_bipush (v := 9) (pc := 12) F dL_minute_12 (by decide) ?_
    refine a_ialc (k := 162) (pc := 14) F dL_minute_14 kl_162 ks_162 rfl rfl ?_
    refine a_ineg (pc := 15) F dL_minute_15 ?_
    refine a_istore (lv' := [(5, .int (-(m3.1 162 9))), (0, .ref (ga X.G 162)), (1, .ref (ga X.G 163)), (2, .ref (ga X.G 164)), (3, .ref (ga X.G 165)), (4, .int x2)]) (pc := 16) F dL_minute_16 (by decide) rfl ?_
    refine a_iconst (v := 0) (pc := 18) F dL_minute_18 (by decide) ?_
    refine a_istore (lv' := [(6, .int 0), (5, .int (-(m3.1 162 9))), (0, .ref (ga X.G 162)), (1, .ref (ga X.G 163)), (2, .ref (ga X.G 164)), (3, .ref (ga X.G 165)), (4, .int x2)]) (pc := 19) F dL_minute_19 (by decide) rfl ?_
    refine a_lv F [2, 3, 4, 5, 6, 1, 0] rfl ?_
    replace h := bnd_some h
    obtain ⟨⟨x36, m37⟩, hL5, h⟩ := h
    have hE5 : WA X 0 0 113 [(0, .ref (ga X.G 162)), (1, .ref (ga X.G 163)), (2, .ref (ga X.G 164)), (3, .ref (ga X.G 165)), (4, .int x2), (5, .int x36)] [] m37 (EQ X (some (.int rr)) mm) := by
      refine a_aload_n (pc := 113) F dL_minute_113 1 rfl ?_
      refine a_bipush (v := 6) (pc := 114) F dL_minute_114 (by decide) ?_
      refine a_iload (pc := 116) F dL_minute_116 4 rfl ?_
      refine a_imul (pc := 118) F dL_minute_118 ?_
      refine a_iconst (v := 3) (pc := 119) F dL_minute_119 (by decide) ?_
      refine a_iadd (pc := 120) F dL_minute_120 ?_
      refine a_dup2 (pc := 121) F dL_minute_121 rfl rfl ?_
      replace h := gIn_some h
      obtain ⟨g38, h⟩ := h
      refine a_ial (k := 163) (pc := 122) F dL_minute_122 kl_163 ks_163 g38 ?_
      refine a_nmi fun x39 ex39 => ?_
      replace h := nm_at ex39 h
      clear ex39
      refine a_iload (pc := 123) F dL_minute_123 5 rfl ?_
      refine a_iadd (pc := 125) F dL_minute_125 ?_
      replace h := gIn_some h
      obtain ⟨g40, h⟩ := h
      refine a_ias (k := 163) (pc := 126) F dL_minute_126 kl_163 ks_163 g40 ?_
      refine a_nmm fun m41 em41 => ?_
      replace h := nm_at em41 h
      clear em41
      refine a_aload_n (pc := 127) F dL_minute_127 1 rfl ?_
      refine a_bipush (v := 6) (pc := 128) F dL_minute_128 (by decide) ?_
      refine a_iload (pc := 130) F dL_minute_130 4 rfl ?_
      refine a_imul (pc := 132) F dL_minute_132 ?_
      refine a_iconst (v := 3) (pc := 133) F dL_minute_133 (by decide) ?_
      refine a_iadd (pc := 134) F dL_minute_134 ?_
      replace h := gIn_some h
      obtain ⟨g42, h⟩ := h
      refine a_ial (k := 163) (pc := 135) F dL_minute_135 kl_163 ks_163 g42 ?_
      refine a_nmi fun x43 ex43 => ?_
      replace h := nm_at ex43 h
      clear ex43
      refine a_sipush (v := 1000) (pc := 136) F dL_minute_136 (by decide) ?_
      replace h := bnd_some h
      obtain ⟨m48, hR44, h⟩ := h
      have hJ44 : WA X 0 0 154 [(0, .ref (ga X.G 162)), (1, .ref (ga X.G 163)), (2, .ref (ga X.G 164)), (3, .ref (ga X.G 165)), (4, .int x2)] [] m48 (EQ X (some (.int rr)) mm) := by
        refine a_aload_n (pc := 154) F dL_minute_154 1 rfl ?_
        refine a_bipush (v := 6) (pc := 155) F dL_minute_155 (by decide) ?_
        refine a_iload (pc := 157) F dL_minute_157 4 rfl ?_
        refine a_imul (pc := 159) F dL_minute_159 ?_
        refine a_iconst (v := 3) (pc := 160) F dL_minute_160 (by decide) ?_
        refine a_iadd (pc := 161) F dL_minute_161 ?_
        replace h := gIn_some h
        obtain ⟨g49, h⟩ := h
        refine a_ial (k := 163) (pc := 162) F dL_minute_162 kl_163 ks_163 g49 ?_
        refine a_nmi fun x50 ex50 => ?_
        replace h := nm_at ex50 h
        clear ex50
        refine a_if_ge (tgt := 176) (pc := 163) F dL_minute_163 (by decide) (fun q51 => ?_) (fun q51 => ?_)
        · replace h := ite_t q51 h
          clear q51
          obtain ⟨x52, ex52⟩ : ∃ x52 : Int32, x52 = x2 + 1 := ⟨_, rfl⟩
          refine a_iinc (v := x52) (lv' := [(4, .int x52), (0, .ref (ga X.G 162)), (1, .ref (ga X.G 163)), (2, .ref (ga X.G 164)), (3, .ref (ga X.G 165))]) (pc := 176) F dL_minute_176 4 rfl (by rw [ex52]; rfl) (by decide) rfl ?_
          replace h := nm_at ex52 h
          clear ex52
          refine a_goto (tgt := 3) (pc := 179) F dL_minute_179 (by decide) ?_
          refine a_lv F [1, 2, 3, 4, 0] rfl ?_
          exact hP1 _ (Option.some.inj h).symm
        · replace h := ite_f q51 h
          clear q51
          refine a_aload_n (pc := 166) F dL_minute_166 1 rfl ?_
          refine a_bipush (v := 6) (pc := 167) F dL_minute_167 (by decide) ?_
          refine a_iload (pc := 169) F dL_minute_169 4 rfl ?_
          refine a_imul (pc := 171) F dL_minute_171 ?_
          refine a_iconst (v := 3) (pc := 172) F dL_minute_172 (by decide) ?_
          refine a_iadd (pc := 173) F dL_minute_173 ?_
          refine a_iconst (v := 0) (pc := 174) F dL_minute_174 (by decide) ?_
          replace h := gIn_some h
          obtain ⟨g53, h⟩ := h
          refine a_ias (k := 163) (pc := 175) F dL_minute_175 kl_163 ks_163 g53 ?_
          refine a_nmm fun m54 em54 => ?_
          replace h := nm_at em54 h
          clear em54
          obtain ⟨x55, ex55⟩ : ∃ x55 : Int32, x55 = x2 + 1 := ⟨_, rfl⟩
          refine a_iinc (v := x55) (lv' := [(4, .int x55), (0, .ref (ga X.G 162)), (1, .ref (ga X.G 163)), (2, .ref (ga X.G 164)), (3, .ref (ga X.G 165))]) (pc := 176) F dL_minute_176 4 rfl (by rw [ex55]; rfl) (by decide) rfl ?_
          replace h := nm_at ex55 h
          clear ex55
          refine a_goto (tgt := 3) (pc := 179) F dL_minute_179 (by decide) ?_
          refine a_lv F [1, 2, 3, 4, 0] rfl ?_
          exact hP1 _ (Option.some.inj h).symm
      clear h
      have h := hR44
      clear hR44
      refine a_icmp_le (tgt := 154) (pc := 139) F dL_minute_139 (by decide) (fun q45 => ?_) (fun q45 => ?_)
      · replace h := ite_t q45 h
        clear q45
        refine a_lv F [0, 1, 2, 3, 4] rfl ?_
        cases h
        exact hJ44
      · replace h := ite_f q45 h
        clear q45
        refine a_aload_n (pc := 142) F dL_minute_142 1 rfl ?_
        refine a_bipush (v := 6) (pc := 143) F dL_minute_143 (by decide) ?_
        refine a_iload (pc := 145) F dL_minute_145 4 rfl ?_
        refine a_imul (pc := 147) F dL_minute_147 ?_
        refine a_iconst (v := 3) (pc := 148) F dL_minute_148 (by decide) ?_
        refine a_iadd (pc := 149) F dL_minute_149 ?_
        refine a_sipush (v := 1000) (pc := 150) F dL_minute_150 (by decide) ?_
        replace h := gIn_some h
        obtain ⟨g46, h⟩ := h
        refine a_ias (k := 163) (pc := 153) F dL_minute_153 kl_163 ks_163 g46 ?_
        refine a_nmm fun m47 em47 => ?_
        replace h := nm_at em47 h
        clear em47
        refine a_lv F [0, 1, 2, 3, 4] rfl ?_
        cases h
        exact hJ44
    clear h
    refine lp_run (P := fun (s : (Int32 × Int32 × Mem)) => WA X 0 0 21 [(0, .ref (ga X.G 162)), (1, .ref (ga X.G 163)), (2, .ref (ga X.G 164)), (3, .ref (ga X.G 165)), (4, .int x2), (5, .int s.1), (6, .int s.2.1)] [] s.2.2 (EQ X (some (.int rr)) mm)) ?_ _ _ hL5
    clear hL5
    rintro ⟨x6, x7, m8⟩ xo h hP5 hT5
    show WA X 0 0 21 [(0, .ref (ga X.G 162)), (1, .ref (ga X.G 163)), (2, .ref (ga X.G 164)), (3, .ref (ga X.G 165)), (4, .int x2), (5, .int x6), (6, .int x7)] [] m8 (EQ X (some (.int rr)) mm)
    rw [f_L_minute_L21] at h
    refine a_iload (pc := 21) F dL_minute_21 6 rfl ?_
    refine a_aload_n (pc := 23) F dL_minute_23 0 rfl ?_
    refine a_iconst (v := 1) (pc := 24) F dL_minute_24 (by decide) ?_
    refine a_ialc (k := 162) (pc := 25) F dL_minute_25 kl_162 ks_162 rfl rfl ?_
    refine a_icmp_ge (tgt := 113) (pc := 26) F dL_minute_26 (by decide) (fun q9 => ?_) (fun q9 => ?_)
    · replace h := ite_t q9 h
      clear q9
      refine a_lv F [0, 1, 2, 3, 4, 5] rfl ?_
      cases hT5 _ (Option.some.inj h).symm
      exact hE5
    · replace h := ite_f q9 h
      clear q9
      refine a_aload_n (pc := 29) F dL_minute_29 2 rfl ?_
      refine a_bipush (v := 6) (pc := 30) F dL_minute_30 (by decide) ?_
      refine a_iload (pc := 32) F dL_minute_32 6 rfl ?_
      refine a_imul (pc := 34) F dL_minute_34 ?_
      refine a_iconst (v := 4) (pc := 35) F dL_minute_35 (by decide) ?_
      refine a_iadd (pc := 36) F dL_minute_36 ?_
      replace h := gIn_some h
      obtain ⟨g10, h⟩ := h
      refine a_ial (k := 164) (pc := 37) F dL_minute_37 kl_164 ks_164 g10 ?_
      refine a_nmi fun x11 ex11 => ?_
      replace h := nm_at ex11 h
      clear ex11
      refine a_if_ne (tgt := 107) (pc := 38) F dL_minute_38 (by decide) (fun q12 => ?_) (fun q12 => ?_)
      · replace h := ite_f q12 h
        clear q12
        obtain ⟨x13, ex13⟩ : ∃ x13 : Int32, x13 = x7 + 1 := ⟨_, rfl⟩
        refine a_iinc (v := x13) (lv' := [(6, .int x13), (0, .ref (ga X.G 162)), (1, .ref (ga X.G 163)), (2, .ref (ga X.G 164)), (3, .ref (ga X.G 165)), (4, .int x2), (5, .int x6)]) (pc := 107) F dL_minute_107 6 rfl (by rw [ex13]; rfl) (by decide) rfl ?_
        replace h := nm_at ex13 h
        clear ex13
        refine a_goto (tgt := 21) (pc := 110) F dL_minute_110 (by decide) ?_
        refine a_lv F [1, 2, 3, 4, 5, 6, 0] rfl ?_
        exact hP5 _ (Option.some.inj h).symm
      · replace h := ite_t (Decidable.not_not.mp q12) h
        clear q12
        refine a_aload_n (pc := 41) F dL_minute_41 2 rfl ?_
        refine a_bipush (v := 6) (pc := 42) F dL_minute_42 (by decide) ?_
        refine a_iload (pc := 44) F dL_minute_44 6 rfl ?_
        refine a_imul (pc := 46) F dL_minute_46 ?_
        refine a_iconst (v := 2) (pc := 47) F dL_minute_47 (by decide) ?_
        refine a_iadd (pc := 48) F dL_minute_48 ?_
        replace h := gIn_some h
        obtain ⟨g14, h⟩ := h
        refine a_ial (k := 164) (pc := 49) F dL_minute_49 kl_164 ks_164 g14 ?_
        refine a_nmi fun x15 ex15 => ?_
        replace h := nm_at ex15 h
        clear ex15
        refine a_aload_n (pc := 50) F dL_minute_50 0 rfl ?_
        refine a_iconst (v := 2) (pc := 51) F dL_minute_51 (by decide) ?_
        refine a_ialc (k := 162) (pc := 52) F dL_minute_52 kl_162 ks_162 rfl rfl ?_
        refine a_icmp_gt (tgt := 107) (pc := 53) F dL_minute_53 (by decide) (fun q16 => ?_) (fun q16 => ?_)
        · replace h := ite_t q16 h
          clear q16
          obtain ⟨x17, ex17⟩ : ∃ x17 : Int32, x17 = x7 + 1 := ⟨_, rfl⟩
          refine a_iinc (v := x17) (lv' := [(6, .int x17), (0, .ref (ga X.G 162)), (1, .ref (ga X.G 163)), (2, .ref (ga X.G 164)), (3, .ref (ga X.G 165)), (4, .int x2), (5, .int x6)]) (pc := 107) F dL_minute_107 6 rfl (by rw [ex17]; rfl) (by decide) rfl ?_
          replace h := nm_at ex17 h
          clear ex17
          refine a_goto (tgt := 21) (pc := 110) F dL_minute_110 (by decide) ?_
          refine a_lv F [1, 2, 3, 4, 5, 6, 0] rfl ?_
          exact hP5 _ (Option.some.inj h).symm
        · replace h := ite_f q16 h
          clear q16
          refine a_aload_n (pc := 56) F dL_minute_56 3 rfl ?_
          refine a_iload (pc := 57) F dL_minute_57 6 rfl ?_
          replace h := gIn_some h
          obtain ⟨g18, h⟩ := h
          refine a_ial (k := 165) (pc := 59) F dL_minute_59 kl_165 ks_165 g18 ?_
          refine a_nmi fun x19 ex19 => ?_
          replace h := nm_at ex19 h
          clear ex19
          refine a_iload (pc := 60) F dL_minute_60 4 rfl ?_
          replace h := bnd_some h
          obtain ⟨x21, hc20, h⟩ := h
          refine a_callS (pc := 62) (As := [.int x19, .int x2]) (st := []) F dL_minute_62 (m_L_has hc20) cs_RL_26 rfl rfl rfl (Nat.le_of_ble_eq_true rfl) ⟨Nat.le_of_ble_eq_true rfl, Nat.le_of_ble_eq_true rfl⟩ ?_ rfl rfl
          clear hc20
          refine a_if_eq (tgt := 107) (pc := 65) F dL_minute_65 (by decide) (fun q22 => ?_) (fun q22 => ?_)
          · replace h := ite_t q22 h
            clear q22
            obtain ⟨x23, ex23⟩ : ∃ x23 : Int32, x23 = x7 + 1 := ⟨_, rfl⟩
            refine a_iinc (v := x23) (lv' := [(6, .int x23), (0, .ref (ga X.G 162)), (1, .ref (ga X.G 163)), (2, .ref (ga X.G 164)), (3, .ref (ga X.G 165)), (4, .int x2), (5, .int x6)]) (pc := 107) F dL_minute_107 6 rfl (by rw [ex23]; rfl) (by decide) rfl ?_
            replace h := nm_at ex23 h
            clear ex23
            refine a_goto (tgt := 21) (pc := 110) F dL_minute_110 (by decide) ?_
            refine a_lv F [1, 2, 3, 4, 5, 6, 0] rfl ?_
            exact hP5 _ (Option.some.inj h).symm
          · replace h := ite_f q22 h
            clear q22
            refine a_aload_n (pc := 68) F dL_minute_68 0 rfl ?_
            refine a_bipush (v := 7) (pc := 69) F dL_minute_69 (by decide) ?_
            refine a_ialc (k := 162) (pc := 71) F dL_minute_71 kl_162 ks_162 rfl rfl ?_
            refine a_aload_n (pc := 72) F dL_minute_72 3 rfl ?_
            refine a_iload (pc := 73) F dL_minute_73 6 rfl ?_
            replace h := gIn_some h
            obtain ⟨g24, h⟩ := h
            refine a_ial (k := 165) (pc := 75) F dL_minute_75 kl_165 ks_165 g24 ?_
            refine a_nmi fun x25 ex25 => ?_
            replace h := nm_at ex25 h
            clear ex25
            replace h := bnd_some h
            obtain ⟨x27, hc26, h⟩ := h
            refine a_callS (pc := 76) (As := [.int x25]) (st := [.int (m8.1 162 7)]) F dL_minute_76 (m_L_size hc26) cs_RL_14 rfl rfl rfl (Nat.le_of_ble_eq_true rfl) ⟨Nat.le_of_ble_eq_true rfl, Nat.le_of_ble_eq_true rfl⟩ ?_ rfl rfl
            clear hc26
            refine a_iconst (v := 1) (pc := 79) F dL_minute_79 (by decide) ?_
            replace h := bnd_some h
            obtain ⟨x30, hR28, h⟩ := h
            have hJ28 : WA X 0 0 91 [(0, .ref (ga X.G 162)), (1, .ref (ga X.G 163)), (2, .ref (ga X.G 164)), (3, .ref (ga X.G 165)), (4, .int x2), (6, .int x7)] [.int x30, .int (m8.1 162 7)] m8 (EQ X (some (.int rr)) mm) := by
              refine a_iadd (pc := 91) F dL_minute_91 ?_
              refine a_istore (lv' := [(5, .int ((m8.1 162 7) + x30)), (0, .ref (ga X.G 162)), (1, .ref (ga X.G 163)), (2, .ref (ga X.G 164)), (3, .ref (ga X.G 165)), (4, .int x2), (6, .int x7)]) (pc := 92) F dL_minute_92 (by decide) rfl ?_
              refine a_aload_n (pc := 94) F dL_minute_94 2 rfl ?_
              refine a_bipush (v := 6) (pc := 95) F dL_minute_95 (by decide) ?_
              refine a_iload (pc := 97) F dL_minute_97 5 rfl ?_
              refine a_imul (pc := 99) F dL_minute_99 ?_
              refine a_iconst (v := 5) (pc := 100) F dL_minute_100 (by decide) ?_
              refine a_iadd (pc := 101) F dL_minute_101 ?_
              refine a_dup2 (pc := 102) F dL_minute_102 rfl rfl ?_
              replace h := gIn_some h
              obtain ⟨g31, h⟩ := h
              refine a_ial (k := 163) (pc := 103) F dL_minute_103 kl_163 ks_163 g31 ?_
              refine a_nmi fun x32 ex32 => ?_
              replace h := nm_at ex32 h
              clear ex32
              refine a_iconst (v := 1) (pc := 104) F dL_minute_104 (by decide) ?_
              refine a_iadd (pc := 105) F dL_minute_105 ?_
              replace h := gIn_some h
              obtain ⟨g33, h⟩ := h
              refine a_ias (k := 163) (pc := 106) F dL_minute_106 kl_163 ks_163 g33 ?_
              refine a_nmm fun m34 em34 => ?_
              replace h := nm_at em34 h
              clear em34
              obtain ⟨x35, ex35⟩ : ∃ x35 : Int32, x35 = x7 + 1 := ⟨_, rfl⟩
              refine a_iinc (v := x35) (lv' := [(6, .int x35), (5, .int ((m8.1 162 7) + x30)), (0, .ref (ga X.G 162)), (1, .ref (ga X.G 163)), (2, .ref (ga X.G 164)), (3, .ref (ga X.G 165)), (4, .int x2)]) (pc := 107) F dL_minute_107 6 rfl (by rw [ex35]; rfl) (by decide) rfl ?_
              replace h := nm_at ex35 h
              clear ex35
              refine a_goto (tgt := 21) (pc := 110) F dL_minute_110 (by decide) ?_
              refine a_lv F [2, 3, 4, 5, 6, 1, 0] rfl ?_
              exact hP5 _ (Option.some.inj h).symm
            clear h
            have h := hR28
            clear hR28
            refine a_icmp_le (tgt := 90) (pc := 80) F dL_minute_80 (by decide) (fun q29 => ?_) (fun q29 => ?_)
            · replace h := ite_t q29 h
              clear q29
              refine a_iconst (v := 0) (pc := 90) F dL_minute_90 (by decide) ?_
              refine a_lv F [0, 1, 2, 3, 4, 6] rfl ?_
              cases h
              exact hJ28
            · replace h := ite_f q29 h
              clear q29
              refine a_aload_n (pc := 83) F dL_minute_83 0 rfl ?_
              refine a_bipush (v := 8) (pc := 84) F dL_minute_84 (by decide) ?_
              refine a_ialc (k := 162) (pc := 86) F dL_minute_86 kl_162 ks_162 rfl rfl ?_
              refine a_goto (tgt := 91) (pc := 87) F dL_minute_87 (by decide) ?_
              refine a_lv F [0, 1, 2, 3, 4, 6] rfl ?_
              cases h
              exact hJ28
