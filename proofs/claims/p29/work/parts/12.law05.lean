def f_L_agree_L198 (m0 : Mem) (x28 : Int32) : (Int32 × Int32) → Option ((Int32 × Int32) ⊕ Int32)
  | (x51, x52) => (if (m0.1 162 1) ≤ x52 then some (.inr x51) else (if x52 = x28 then nm (x52 + 1) fun x55 => some (.inl (x51, x55)) else gIn ((6 * x52) + 4) 48 <| nm (m0.1 164 ((6 * x52) + 4).toNatClampNeg) fun x57 => (if x57 = 0 then gIn ((6 * x28) + 4) 48 <| nm (m0.1 164 ((6 * x28) + 4).toNatClampNeg) fun x61 => (if x61 = 0 then bnd (f_L_clash x52 x28 m0) fun x65 => (if x65 = 0 then nm (x52 + 1) fun x67 => some (.inl (x51, x67)) else nm (x51 + 1) fun x68 => nm (x52 + 1) fun x69 => some (.inl (x68, x69))) else nm (x52 + 1) fun x63 => some (.inl (x51, x63))) else nm (x52 + 1) fun x59 => some (.inl (x51, x59)))))
def f_L_agree_L154 (m0 : Mem) (x28 : Int32) : Int32 → Option (Int32 ⊕ (Unit ⊕ ((Int32 × Int32 × Int32) ⊕ ((Int32 × Int32) ⊕ Int32))))
  | x40 => (if 3 ≤ x40 then some (.inr (.inl ())) else bnd (f_X7_hearing x28 (6 + x40) m0) fun x43 => gIn x28 8 <| nm (m0.1 165 x28.toNatClampNeg) fun x45 => bnd (f_L_who x45 x40 m0) fun x47 => (if x43 = x47 then nm (x40 + 1) fun x49 => some (.inl x49) else some (.inr (.inr (.inr (.inr 0))))))
def f_L_agree_L116 (m0 : Mem) (x28 : Int32) : Int32 → Option (Int32 ⊕ (Unit ⊕ ((Int32 × Int32 × Int32) ⊕ ((Int32 × Int32) ⊕ Int32))))
  | x31 => (if 5 ≤ x31 then some (.inr (.inl ())) else bnd (f_X7_hearing x28 x31 m0) fun x34 => gIn ((6 * x28) + x31) 48 <| nm (m0.1 164 ((6 * x28) + x31).toNatClampNeg) fun x36 => (if x34 = x36 then nm (x31 + 1) fun x38 => some (.inl x38) else some (.inr (.inr (.inr (.inr 0))))))
def f_L_agree_L105 (m0 : Mem) : (Int32 × Int32 × Int32) → Option ((Int32 × Int32 × Int32) ⊕ ((Int32 × Int32) ⊕ Int32))
  | (x26, x27, x28) => (if (m0.1 162 1) ≤ x28 then some (.inr (.inl (x26, x27))) else jn (lp (f_L_agree_L116 m0 x28) 1000000 0) (fun _ => jn (lp (f_L_agree_L154 m0 x28) 1000000 0) (fun _ => bnd (lp (f_L_agree_L198 m0 x28) 1000000 (0, 0)) (fun x70 => bnd (f_X7_hearing x28 5 m0) fun x72 => gIn x28 8 <| nm (m0.1 165 x28.toNatClampNeg) fun x74 => bnd (f_L_size x74 m0) fun x76 => (if x72 = x76 then bnd (f_X7_hearing x28 9 m0) fun x79 => bnd (f_L_together x28 2 m0) fun x81 => (if x79 = x81 then bnd (f_X7_hearing x28 10 m0) fun x84 => gIn ((6 * x28) + 5) 48 <| nm (m0.1 164 ((6 * x28) + 5).toNatClampNeg) fun x86 => (if x84 = x86 then bnd (f_X7_hearing x28 11 m0) fun x89 => (if x89 = x70 then gIn ((6 * x28) + 4) 48 <| nm (m0.1 164 ((6 * x28) + 4).toNatClampNeg) fun x92 => (if x92 = 0 then nm (x26 + 1) fun x95 => gIn x28 8 <| nm (m0.1 165 x28.toNatClampNeg) fun x97 => (if x97 ≤ 0 then nm (x28 + 1) fun x99 => some (.inl (x95, x27, x99)) else nm (x27 + 1) fun x100 => nm (x28 + 1) fun x101 => some (.inl (x95, x100, x101))) else nm (x28 + 1) fun x94 => some (.inl (x26, x27, x94))) else some (.inr (.inr 0))) else some (.inr (.inr 0))) else some (.inr (.inr 0))) else some (.inr (.inr 0)))))))
def f_L_agree_L3 (m0 : Mem) : Int32 → Option (Int32 ⊕ (Unit ⊕ Int32))
  | x2 => (if (m0.1 162 0) ≤ x2 then some (.inr (.inl ())) else bnd (f_X7_interpreter x2 1 m0) fun x5 => gIn ((6 * x2) + 1) 30 <| nm (m0.1 163 ((6 * x2) + 1).toNatClampNeg) fun x7 => (if x5 = x7 then bnd (f_X7_interpreter x2 3 m0) fun x10 => gIn ((6 * x2) + 3) 30 <| nm (m0.1 163 ((6 * x2) + 3).toNatClampNeg) fun x12 => (if x10 = x12 then bnd (f_X7_interpreter x2 4 m0) fun x15 => gIn ((6 * x2) + 4) 30 <| nm (m0.1 163 ((6 * x2) + 4).toNatClampNeg) fun x17 => (if x15 = x17 then bnd (f_X7_interpreter x2 7 m0) fun x20 => gIn ((6 * x2) + 5) 30 <| nm (m0.1 163 ((6 * x2) + 5).toNatClampNeg) fun x22 => (if x20 = x22 then nm (x2 + 1) fun x24 => some (.inl x24) else some (.inr (.inr 0))) else some (.inr (.inr 0))) else some (.inr (.inr 0))) else some (.inr (.inr 0))))
def f_L_agree (m0 : Mem) : Option Int32 :=
  jn (lp (f_L_agree_L3 m0) 1000000 0) (fun _ => jn (lp (f_L_agree_L105 m0) 1000000 (0, 0, 0)) (fun (x102, x103) => bnd (f_X7_count 2 m0) fun x105 => (if x105 = (m0.1 162 2) then bnd (f_X7_count 3 m0) fun x108 => (if x108 = x102 then bnd (f_X7_count 4 m0) fun x111 => (if x111 = x103 then bnd (f_X7_count 8 m0) fun x114 => (if x114 = (m0.1 162 3) then bnd (f_X7_count 9 m0) fun x117 => (if x117 = (m0.1 162 4) then bnd (f_X7_count 10 m0) fun x120 => (if x120 = (m0.1 162 5) then bnd (f_X7_count 12 m0) fun x123 => (if x123 = (m0.1 162 6) then some 1 else some 0) else some 0) else some 0) else some 0) else some 0) else some 0) else some 0)))
set_option maxRecDepth 100000 in
set_option maxHeartbeats 4000000 in
theorem m_L_agree {m0 : Mem} {rr : Int32} (h : f_L_agree m0 = some rr) : Con yL_agree cL_agree 10 (some Jvm.ClassFile.FieldType.boolean) 5 115 (fun G => [.ref (ga G 0), .ref (ga G 162), .ref (ga G 163), .ref (ga G 164), .ref (ga G 165)]) m0 (some (.int rr)) m0 := by
  refine con_of (by decide) (fun G => Nat.le_of_ble_eq_true rfl) (fun X F => ?_)
  show WA X 0 0 0 [(0, .ref (ga X.G 0)), (1, .ref (ga X.G 162)), (2, .ref (ga X.G 163)), (3, .ref (ga X.G 164)), (4, .ref (ga X.G 165))] [] m0 (EQ X (some (.int rr)) m0)
  rw [f_L_agree] at h
  refine a_iconst (v := 0) (pc := 0) F dL_agree_0 (by decide) ?_
  refine a_istore (lv' := [(5, .int 0), (0, .ref (ga X.G 0)), (1, .ref (ga X.G 162)), (2, .ref (ga X.G 163)), (3, .ref (ga X.G 164)), (4, .ref (ga X.G 165))]) (pc := 1) F dL_agree_1 (by decide) rfl ?_
  refine a_lv F [1, 2, 3, 4, 5, 0] rfl ?_
  replace h := jn_some h
  obtain ⟨t1, hL1, hK1, hB1⟩ := h
  have hE1 : ∀ (u : Unit), t1 = .inl u → WA X 0 0 96 [(0, .ref (ga X.G 0)), (1, .ref (ga X.G 162)), (2, .ref (ga X.G 163)), (3, .ref (ga X.G 164)), (4, .ref (ga X.G 165))] [] m0 (EQ X (some (.int rr)) m0) := by
    intro u eo
    have h := hK1 _ eo
    clear hK1 eo
    refine a_iconst (v := 0) (pc := 96) F dL_agree_96 (by decide) ?_
    refine a_istore (lv' := [(5, .int 0), (0, .ref (ga X.G 0)), (1, .ref (ga X.G 162)), (2, .ref (ga X.G 163)), (3, .ref (ga X.G 164)), (4, .ref (ga X.G 165))]) (pc := 97) F dL_agree_97 (by decide) rfl ?_
    refine a_iconst (v := 0) (pc := 99) F dL_agree_99 (by decide) ?_
    refine a_istore (lv' := [(6, .int 0), (5, .int 0), (0, .ref (ga X.G 0)), (1, .ref (ga X.G 162)), (2, .ref (ga X.G 163)), (3, .ref (ga X.G 164)), (4, .ref (ga X.G 165))]) (pc := 100) F dL_agree_100 (by decide) rfl ?_
    refine a_iconst (v := 0) (pc := 102) F dL_agree_102 (by decide) ?_
    refine a_istore (lv' := [(7, .int 0), (6, .int 0), (5, .int 0), (0, .ref (ga X.G 0)), (1, .ref (ga X.G 162)), (2, .ref (ga X.G 163)), (3, .ref (ga X.G 164)), (4, .ref (ga X.G 165))]) (pc := 103) F dL_agree_103 (by decide) rfl ?_
    refine a_lv F [3, 4, 5, 6, 7, 2, 1, 0] rfl ?_
    replace h := jn_some h
    obtain ⟨t25, hL25, hK25, hB25⟩ := h
    have hE25 : ∀ (x102 : Int32) (x103 : Int32), t25 = .inl (x102, x103) → WA X 0 0 364 [(0, .ref (ga X.G 0)), (1, .ref (ga X.G 162)), (5, .int x102), (6, .int x103)] [] m0 (EQ X (some (.int rr)) m0) := by
      intro x102 x103 eo
      have h := hK25 _ eo
      clear hK25 eo
      refine a_aload_n (pc := 364) F dL_agree_364 0 rfl ?_
      refine a_iconst (v := 2) (pc := 365) F dL_agree_365 (by decide) ?_
      replace h := bnd_some h
      obtain ⟨x105, hc104, h⟩ := h
      refine a_callV (pc := 366) (k := 0) (As := [.int 2]) (st := []) F dL_agree_366 (m_X7_count hc104) cv_RL_91 kl_0 ks_0 ⟨_, _, rfl⟩ rfl rfl rfl (Nat.le_of_ble_eq_true rfl) ⟨Nat.le_of_ble_eq_true rfl, Nat.le_of_ble_eq_true rfl⟩ ?_ rfl rfl
      clear hc104
      refine a_aload_n (pc := 369) F dL_agree_369 1 rfl ?_
      refine a_iconst (v := 2) (pc := 370) F dL_agree_370 (by decide) ?_
      refine a_ialc (k := 162) (pc := 371) F dL_agree_371 kl_162 ks_162 rfl rfl ?_
      refine a_icmp_ne (tgt := 448) (pc := 372) F dL_agree_372 (by decide) (fun q106 => ?_) (fun q106 => ?_)
      · replace h := ite_f q106 h
        clear q106
        refine a_iconst (v := 0) (pc := 448) F dL_agree_448 (by decide) ?_
        cases h
        exact a_iret (pc := 449) F dL_agree_449 ⟨_, rfl, rfl⟩
      · replace h := ite_t (Decidable.not_not.mp q106) h
        clear q106
        refine a_aload_n (pc := 375) F dL_agree_375 0 rfl ?_
        refine a_iconst (v := 3) (pc := 376) F dL_agree_376 (by decide) ?_
        replace h := bnd_some h
        obtain ⟨x108, hc107, h⟩ := h
        refine a_callV (pc := 377) (k := 0) (As := [.int 3]) (st := []) F dL_agree_377 (m_X7_count hc107) cv_RL_91 kl_0 ks_0 ⟨_, _, rfl⟩ rfl rfl rfl (Nat.le_of_ble_eq_true rfl) ⟨Nat.le_of_ble_eq_true rfl, Nat.le_of_ble_eq_true rfl⟩ ?_ rfl rfl
        clear hc107
        refine a_iload (pc := 380) F dL_agree_380 2 rfl ?_
        refine a_icmp_ne (tgt := 448) (pc := 382) F dL_agree_382 (by decide) (fun q109 => ?_) (fun q109 => ?_)
        · replace h := ite_f q109 h
          clear q109
          refine a_iconst (v := 0) (pc := 448) F dL_agree_448 (by decide) ?_
          cases h
          exact a_iret (pc := 449) F dL_agree_449 ⟨_, rfl, rfl⟩
        · replace h := ite_t (Decidable.not_not.mp q109) h
          clear q109
          refine a_aload_n (pc := 385) F dL_agree_385 0 rfl ?_
          refine a_iconst (v := 4) (pc := 386) F dL_agree_386 (by decide) ?_
          replace h := bnd_some h
          obtain ⟨x111, hc110, h⟩ := h
          refine a_callV (pc := 387) (k := 0) (As := [.int 4]) (st := []) F dL_agree_387 (m_X7_count hc110) cv_RL_91 kl_0 ks_0 ⟨_, _, rfl⟩ rfl rfl rfl (Nat.le_of_ble_eq_true rfl) ⟨Nat.le_of_ble_eq_true rfl, Nat.le_of_ble_eq_true rfl⟩ ?_ rfl rfl
          clear hc110
          refine a_iload (pc := 390) F dL_agree_390 3 rfl ?_
          refine a_icmp_ne (tgt := 448) (pc := 392) F dL_agree_392 (by decide) (fun q112 => ?_) (fun q112 => ?_)
          · replace h := ite_f q112 h
            clear q112
            refine a_iconst (v := 0) (pc := 448) F dL_agree_448 (by decide) ?_
            cases h
            exact a_iret (pc := 449) F dL_agree_449 ⟨_, rfl, rfl⟩
          · replace h := ite_t (Decidable.not_not.mp q112) h
            clear q112
            refine a_aload_n (pc := 395) F dL_agree_395 0 rfl ?_
            refine a_bipush (v := 8) (pc := 396) F dL_agree_396 (by decide) ?_
            replace h := bnd_some h
            obtain ⟨x114, hc113, h⟩ := h
            refine a_callV (pc := 398) (k := 0) (As := [.int 8]) (st := []) F dL_agree_398 (m_X7_count hc113) cv_RL_91 kl_0 ks_0 ⟨_, _, rfl⟩ rfl rfl rfl (Nat.le_of_ble_eq_true rfl) ⟨Nat.le_of_ble_eq_true rfl, Nat.le_of_ble_eq_true rfl⟩ ?_ rfl rfl
            clear hc113
            refine a_aload_n (pc := 401) F dL_agree_401 1 rfl ?_
            refine a_iconst (v := 3) (pc := 402) F dL_agree_402 (by decide) ?_
            refine a_ialc (k := 162) (pc := 403) F dL_agree_403 kl_162 ks_162 rfl rfl ?_
            refine a_icmp_ne (tgt := 448) (pc := 404) F dL_agree_404 (by decide) (fun q115 => ?_) (fun q115 => ?_)
            · replace h := ite_f q115 h
              clear q115
              refine a_iconst (v := 0) (pc := 448) F dL_agree_448 (by decide) ?_
              cases h
              exact a_iret (pc := 449) F dL_agree_449 ⟨_, rfl, rfl⟩
            · replace h := ite_t (Decidable.not_not.mp q115) h
              clear q115
              refine a_aload_n (pc := 407) F dL_agree_407 0 rfl ?_
              refine a_bipush (v := 9) (pc := 408) F dL_agree_408 (by decide) ?_
              replace h := bnd_some h
              obtain ⟨x117, hc116, h⟩ := h
              refine a_callV (pc := 410) (k := 0) (As := [.int 9]) (st := []) F dL_agree_410 (m_X7_count hc116) cv_RL_91 kl_0 ks_0 ⟨_, _, rfl⟩ rfl rfl rfl (Nat.le_of_ble_eq_true rfl) ⟨Nat.le_of_ble_eq_true rfl, Nat.le_of_ble_eq_true rfl⟩ ?_ rfl rfl
              clear hc116
              refine a_aload_n (pc := 413) F dL_agree_413 1 rfl ?_
              refine a_iconst (v := 4) (pc := 414) F dL_agree_414 (by decide) ?_
              refine a_ialc (k := 162) (pc := 415) F dL_agree_415 kl_162 ks_162 rfl rfl ?_
              refine a_icmp_ne (tgt := 448) (pc := 416) F dL_agree_416 (by decide) (fun q118 => ?_) (fun q118 => ?_)
              · replace h := ite_f q118 h
                clear q118
                refine a_iconst (v := 0) (pc := 448) F dL_agree_448 (by decide) ?_
                cases h
                exact a_iret (pc := 449) F dL_agree_449 ⟨_, rfl, rfl⟩
              · replace h := ite_t (Decidable.not_not.mp q118) h
                clear q118
                refine a_aload_n (pc := 419) F dL_agree_419 0 rfl ?_
                refine a_bipush (v := 10) (pc := 420) F dL_agree_420 (by decide) ?_
                replace h := bnd_some h
                obtain ⟨x120, hc119, h⟩ := h
                refine a_callV (pc := 422) (k := 0) (As := [.int 10]) (st := []) F dL_agree_422 (m_X7_count hc119) cv_RL_91 kl_0 ks_0 ⟨_, _, rfl⟩ rfl rfl rfl (Nat.le_of_ble_eq_true rfl) ⟨Nat.le_of_ble_eq_true rfl, Nat.le_of_ble_eq_true rfl⟩ ?_ rfl rfl
                clear hc119
                refine a_aload_n (pc := 425) F dL_agree_425 1 rfl ?_
                refine a_iconst (v := 5) (pc := 426) F dL_agree_426 (by decide) ?_
                refine a_ialc (k := 162) (pc := 427) F dL_agree_427 kl_162 ks_162 rfl rfl ?_
                refine a_icmp_ne (tgt := 448) (pc := 428) F dL_agree_428 (by decide) (fun q121 => ?_) (fun q121 => ?_)
                · replace h := ite_f q121 h
                  clear q121
                  refine a_iconst (v := 0) (pc := 448) F dL_agree_448 (by decide) ?_
                  cases h
                  exact a_iret (pc := 449) F dL_agree_449 ⟨_, rfl, rfl⟩
                · replace h := ite_t (Decidable.not_not.mp q121) h
                  clear q121
                  refine a_aload_n (pc := 431) F dL_agree_431 0 rfl ?_
                  refine a_bipush (v := 12) (pc := 432) F dL_agree_432 (by decide) ?_
                  replace h := bnd_some h
                  obtain ⟨x123, hc122, h⟩ := h
                  refine a_callV (pc := 434) (k := 0) (As := [.int 12]) (st := []) F dL_agree_434 (m_X7_count hc122) cv_RL_91 kl_0 ks_0 ⟨_, _, rfl⟩ rfl rfl rfl (Nat.le_of_ble_eq_true rfl) ⟨Nat.le_of_ble_eq_true rfl, Nat.le_of_ble_eq_true rfl⟩ ?_ rfl rfl
                  clear hc122
                  refine a_aload_n (pc := 437) F dL_agree_437 1 rfl ?_
                  refine a_bipush (v := 6) (pc := 438) F dL_agree_438 (by decide) ?_
                  refine a_ialc (k := 162) (pc := 440) F dL_agree_440 kl_162 ks_162 rfl rfl ?_
                  refine a_icmp_ne (tgt := 448) (pc := 441) F dL_agree_441 (by decide) (fun q124 => ?_) (fun q124 => ?_)
                  · replace h := ite_f q124 h
                    clear q124
                    refine a_iconst (v := 0) (pc := 448) F dL_agree_448 (by decide) ?_
                    cases h
                    exact a_iret (pc := 449) F dL_agree_449 ⟨_, rfl, rfl⟩
                  · replace h := ite_t (Decidable.not_not.mp q124) h
                    clear q124
                    refine a_iconst (v := 1) (pc := 444) F dL_agree_444 (by decide) ?_
                    refine a_goto (tgt := 449) (pc := 445) F dL_agree_445 (by decide) ?_
                    cases h
                    exact a_iret (pc := 449) F dL_agree_449 ⟨_, rfl, rfl⟩
    clear hK25
    refine lp_run (P := fun (s : (Int32 × Int32 × Int32)) => WA X 0 0 105 [(0, .ref (ga X.G 0)), (1, .ref (ga X.G 162)), (2, .ref (ga X.G 163)), (3, .ref (ga X.G 164)), (4, .ref (ga X.G 165)), (5, .int s.1), (6, .int s.2.1), (7, .int s.2.2)] [] m0 (EQ X (some (.int rr)) m0)) ?_ _ _ hL25
    clear hL25
    rintro ⟨x26, x27, x28⟩ xo h hP25 hT25
    show WA X 0 0 105 [(0, .ref (ga X.G 0)), (1, .ref (ga X.G 162)), (2, .ref (ga X.G 163)), (3, .ref (ga X.G 164)), (4, .ref (ga X.G 165)), (5, .int x26), (6, .int x27), (7, .int x28)] [] m0 (EQ X (some (.int rr)) m0)
    rw [f_L_agree_L105] at h
    refine a_iload (pc := 105) F dL_agree_105 7 rfl ?_
    refine a_aload_n (pc := 107) F dL_agree_107 1 rfl ?_
    refine a_iconst (v := 1) (pc := 108) F dL_agree_108 (by decide) ?_
    refine a_ialc (k := 162) (pc := 109) F dL_agree_109 kl_162 ks_162 rfl rfl ?_
    refine a_icmp_ge (tgt := 364) (pc := 110) F dL_agree_110 (by decide) (fun q29 => ?_) (fun q29 => ?_)
    · replace h := ite_t q29 h
      clear q29
      refine a_lv F [0, 1, 5, 6] rfl ?_
      exact hE25 _ _ (hT25 _ (Option.some.inj h).symm).symm
    · replace h := ite_f q29 h
      clear q29
      refine a_iconst (v := 0) (pc := 113) F dL_agree_113 (by decide) ?_
      refine a_istore (lv' := [(8, .int 0), (0, .ref (ga X.G 0)), (1, .ref (ga X.G 162)), (2, .ref (ga X.G 163)), (3, .ref (ga X.G 164)), (4, .ref (ga X.G 165)), (5, .int x26), (6, .int x27), (7, .int x28)]) (pc := 114) F dL_agree_114 (by decide) rfl ?_
      refine a_lv F [1, 2, 3, 4, 5, 6, 7, 8, 0] rfl ?_
      replace h := jn_some h
      obtain ⟨t30, hL30, hK30, hB30⟩ := h
      have hE30 : ∀ (u : Unit), t30 = .inl u → WA X 0 0 151 [(0, .ref (ga X.G 0)), (1, .ref (ga X.G 162)), (2, .ref (ga X.G 163)), (3, .ref (ga X.G 164)), (4, .ref (ga X.G 165)), (5, .int x26), (6, .int x27), (7, .int x28)] [] m0 (EQ X (some (.int rr)) m0) := by
        intro u eo
        have h := hK30 _ eo
        clear hK30 eo
        refine a_iconst (v := 0) (pc := 151) F dL_agree_151 (by decide) ?_
        refine a_istore (lv' := [(8, .int 0), (0, .ref (ga X.G 0)), (1, .ref (ga X.G 162)), (2, .ref (ga X.G 163)), (3, .ref (ga X.G 164)), (4, .ref (ga X.G 165)), (5, .int x26), (6, .int x27), (7, .int x28)]) (pc := 152) F dL_agree_152 (by decide) rfl ?_
        refine a_lv F [1, 2, 3, 4, 5, 6, 7, 8, 0] rfl ?_
        replace h := jn_some h
        obtain ⟨t39, hL39, hK39, hB39⟩ := h
        have hE39 : ∀ (u : Unit), t39 = .inl u → WA X 0 0 192 [(0, .ref (ga X.G 0)), (1, .ref (ga X.G 162)), (2, .ref (ga X.G 163)), (3, .ref (ga X.G 164)), (4, .ref (ga X.G 165)), (5, .int x26), (6, .int x27), (7, .int x28)] [] m0 (EQ X (some (.int rr)) m0) := by
          intro u eo
          have h := hK39 _ eo
          clear hK39 eo
          refine a_iconst (v := 0) (pc := 192) F dL_agree_192 (by decide) ?_
          refine a_istore (lv' := [(8, .int 0), (0, .ref (ga X.G 0)), (1, .ref (ga X.G 162)), (2, .ref (ga X.G 163)), (3, .ref (ga X.G 164)), (4, .ref (ga X.G 165)), (5, .int x26), (6, .int x27), (7, .int x28)]) (pc := 193) F dL_agree_193 (by decide) rfl ?_
          refine a_iconst (v := 0) (pc := 195) F dL_agree_195 (by decide) ?_
          refine a_istore (lv' := [(9, .int 0), (8, .int 0), (0, .ref (ga X.G 0)), (1, .ref (ga X.G 162)), (2, .ref (ga X.G 163)), (3, .ref (ga X.G 164)), (4, .ref (ga X.G 165)), (5, .int x26), (6, .int x27), (7, .int x28)]) (pc := 196) F dL_agree_196 (by decide) rfl ?_
          refine a_lv F [2, 3, 4, 5, 6, 7, 8, 9, 1, 0] rfl ?_
          replace h := bnd_some h
          obtain ⟨x70, hL50, h⟩ := h
          have hE50 : WA X 0 0 257 [(0, .ref (ga X.G 0)), (1, .ref (ga X.G 162)), (2, .ref (ga X.G 163)), (3, .ref (ga X.G 164)), (4, .ref (ga X.G 165)), (5, .int x26), (6, .int x27), (7, .int x28), (8, .int x70)] [] m0 (EQ X (some (.int rr)) m0) := by
            refine a_aload_n (pc := 257) F dL_agree_257 0 rfl ?_
            refine a_iload (pc := 258) F dL_agree_258 7 rfl ?_
            refine a_iconst (v := 5) (pc := 260) F dL_agree_260 (by decide) ?_
            replace h := bnd_some h
            obtain ⟨x72, hc71, h⟩ := h
            refine a_callV (pc := 261) (k := 0) (As := [.int x28, .int 5]) (st := []) F dL_agree_261 (m_X7_hearing hc71) cv_RL_88 kl_0 ks_0 ⟨_, _, rfl⟩ rfl rfl rfl (Nat.le_of_ble_eq_true rfl) ⟨Nat.le_of_ble_eq_true rfl, Nat.le_of_ble_eq_true rfl⟩ ?_ rfl rfl
            clear hc71
            refine a_aload (pc := 264) F dL_agree_264 4 rfl ?_
            refine a_iload (pc := 266) F dL_agree_266 7 rfl ?_
            replace h := gIn_some h
            obtain ⟨g73, h⟩ := h
            refine a_ial (k := 165) (pc := 268) F dL_agree_268 kl_165 ks_165 g73 ?_
            refine a_nmi fun x74 ex74 => ?_
            replace h := nm_at ex74 h
            clear ex74
            replace h := bnd_some h
            obtain ⟨x76, hc75, h⟩ := h
            refine a_callS (pc := 269) (As := [.int x74]) (st := [.int x72]) F dL_agree_269 (m_L_size hc75) cs_RL_14 rfl rfl rfl (Nat.le_of_ble_eq_true rfl) ⟨Nat.le_of_ble_eq_true rfl, Nat.le_of_ble_eq_true rfl⟩ ?_ rfl rfl
            clear hc75
            refine a_icmp_ne (tgt := 330) (pc := 272) F dL_agree_272 (by decide) (fun q77 => ?_) (fun q77 => ?_)
            · replace h := ite_f q77 h
              clear q77
              refine a_iconst (v := 0) (pc := 330) F dL_agree_330 (by decide) ?_
              replace h := hB25 _ (hT25 _ (Option.some.inj h).symm).symm
              cases h
              exact a_iret (pc := 331) F dL_agree_331 ⟨_, rfl, rfl⟩
            · replace h := ite_t (Decidable.not_not.mp q77) h
              clear q77
              refine a_aload_n (pc := 275) F dL_agree_275 0 rfl ?_
              refine a_iload (pc := 276) F dL_agree_276 7 rfl ?_
              refine a_bipush (v := 9) (pc := 278) F dL_agree_278 (by decide) ?_
              replace h := bnd_some h
              obtain ⟨x79, hc78, h⟩ := h
              refine a_callV (pc := 280) (k := 0) (As := [.int x28, .int 9]) (st := []) F dL_agree_280 (m_X7_hearing hc78) cv_RL_88 kl_0 ks_0 ⟨_, _, rfl⟩ rfl rfl rfl (Nat.le_of_ble_eq_true rfl) ⟨Nat.le_of_ble_eq_true rfl, Nat.le_of_ble_eq_true rfl⟩ ?_ rfl rfl
              clear hc78
              refine a_aload_n (pc := 283) F dL_agree_283 1 rfl ?_
              refine a_aload_n (pc := 284) F dL_agree_284 2 rfl ?_
              refine a_aload_n (pc := 285) F dL_agree_285 3 rfl ?_
              refine a_aload (pc := 286) F dL_agree_286 4 rfl ?_
              refine a_iload (pc := 288) F dL_agree_288 7 rfl ?_
              refine a_iconst (v := 2) (pc := 290) F dL_agree_290 (by decide) ?_
              replace h := bnd_some h
              obtain ⟨x81, hc80, h⟩ := h
              refine a_callS (pc := 291) (As := [.ref (ga X.G 162), .ref (ga X.G 163), .ref (ga X.G 164), .ref (ga X.G 165), .int x28, .int 2]) (st := [.int x79]) F dL_agree_291 (m_L_together hc80) cs_RL_22 rfl rfl rfl (Nat.le_of_ble_eq_true rfl) ⟨Nat.le_of_ble_eq_true rfl, Nat.le_of_ble_eq_true rfl⟩ ?_ rfl rfl
              clear hc80
              refine a_icmp_ne (tgt := 330) (pc := 294) F dL_agree_294 (by decide) (fun q82 => ?_) (fun q82 => ?_)
              · replace h := ite_f q82 h
                clear q82
                refine a_iconst (v := 0) (pc := 330) F dL_agree_330 (by decide) ?_
                replace h := hB25 _ (hT25 _ (Option.some.inj h).symm).symm
                cases h
                exact a_iret (pc := 331) F dL_agree_331 ⟨_, rfl, rfl⟩
              · replace h := ite_t (Decidable.not_not.mp q82) h
                clear q82
                refine a_aload_n (pc := 297) F dL_agree_297 0 rfl ?_
                refine a_iload (pc := 298) F dL_agree_298 7 rfl ?_
                refine a_bipush (v := 10) (pc := 300) F dL_agree_300 (by decide) ?_
                replace h := bnd_some h
                obtain ⟨x84, hc83, h⟩ := h
                refine a_callV (pc := 302) (k := 0) (As := [.int x28, .int 10]) (st := []) F dL_agree_302 (m_X7_hearing hc83) cv_RL_88 kl_0 ks_0 ⟨_, _, rfl⟩ rfl rfl rfl (Nat.le_of_ble_eq_true rfl) ⟨Nat.le_of_ble_eq_true rfl, Nat.le_of_ble_eq_true rfl⟩ ?_ rfl rfl
                clear hc83
                refine a_aload_n (pc := 305) F dL_agree_305 3 rfl ?_
                refine a_bipush (v := 6) (pc := 306) F dL_agree_306 (by decide) ?_
                refine a_iload (pc := 308) F dL_agree_308 7 rfl ?_
                refine a_imul (pc := 310) F dL_agree_310 ?_
                refine a_iconst (v := 5) (pc := 311) F dL_agree_311 (by decide) ?_
                refine a_iadd (pc := 312) F dL_agree_312 ?_
                replace h := gIn_some h
                obtain ⟨g85, h⟩ := h
                refine a_ial (k := 164) (pc := 313) F dL_agree_313 kl_164 ks_164 g85 ?_
                refine a_nmi fun x86 ex86 => ?_
                replace h := nm_at ex86 h
                clear ex86
                refine a_icmp_ne (tgt := 330) (pc := 314) F dL_agree_314 (by decide) (fun q87 => ?_) (fun q87 => ?_)
                · replace h := ite_f q87 h
                  clear q87
                  refine a_iconst (v := 0) (pc := 330) F dL_agree_330 (by decide) ?_
                  replace h := hB25 _ (hT25 _ (Option.some.inj h).symm).symm
                  cases h
                  exact a_iret (pc := 331) F dL_agree_331 ⟨_, rfl, rfl⟩
                · replace h := ite_t (Decidable.not_not.mp q87) h
                  clear q87
                  refine a_aload_n (pc := 317) F dL_agree_317 0 rfl ?_
                  refine a_iload (pc := 318) F dL_agree_318 7 rfl ?_
                  refine a_bipush (v := 11) (pc := 320) F dL_agree_320 (by decide) ?_
                  replace h := bnd_some h
                  obtain ⟨x89, hc88, h⟩ := h
                  refine a_callV (pc := 322) (k := 0) (As := [.int x28, .int 11]) (st := []) F dL_agree_322 (m_X7_hearing hc88) cv_RL_88 kl_0 ks_0 ⟨_, _, rfl⟩ rfl rfl rfl (Nat.le_of_ble_eq_true rfl) ⟨Nat.le_of_ble_eq_true rfl, Nat.le_of_ble_eq_true rfl⟩ ?_ rfl rfl
                  clear hc88
                  refine a_iload (pc := 325) F dL_agree_325 8 rfl ?_
                  refine a_icmp_eq (tgt := 332) (pc := 327) F dL_agree_327 (by decide) (fun q90 => ?_) (fun q90 => ?_)
                  · replace h := ite_t q90 h
                    clear q90
                    refine a_aload_n (pc := 332) F dL_agree_332 3 rfl ?_
                    refine a_bipush (v := 6) (pc := 333) F dL_agree_333 (by decide) ?_
                    refine a_iload (pc := 335) F dL_agree_335 7 rfl ?_
                    refine a_imul (pc := 337) F dL_agree_337 ?_
                    refine a_iconst (v := 4) (pc := 338) F dL_agree_338 (by decide) ?_
                    refine a_iadd (pc := 339) F dL_agree_339 ?_
                    replace h := gIn_some h
                    obtain ⟨g91, h⟩ := h
                    refine a_ial (k := 164) (pc := 340) F dL_agree_340 kl_164 ks_164 g91 ?_
                    refine a_nmi fun x92 ex92 => ?_
                    replace h := nm_at ex92 h
                    clear ex92
                    refine a_if_ne (tgt := 358) (pc := 341) F dL_agree_341 (by decide) (fun q93 => ?_) (fun q93 => ?_)
                    · replace h := ite_f q93 h
                      clear q93
                      obtain ⟨x94, ex94⟩ : ∃ x94 : Int32, x94 = x28 + 1 := ⟨_, rfl⟩
                      refine a_iinc (v := x94) (lv' := [(7, .int x94), (0, .ref (ga X.G 0)), (1, .ref (ga X.G 162)), (2, .ref (ga X.G 163)), (3, .ref (ga X.G 164)), (4, .ref (ga X.G 165)), (5, .int x26), (6, .int x27), (8, .int x70)]) (pc := 358) F dL_agree_358 7 rfl (by rw [ex94]; rfl) (by decide) rfl ?_
                      replace h := nm_at ex94 h
                      clear ex94
                      refine a_goto (tgt := 105) (pc := 361) F dL_agree_361 (by decide) ?_
                      refine a_lv F [1, 2, 3, 4, 5, 6, 7, 0] rfl ?_
                      exact hP25 _ (Option.some.inj h).symm
                    · replace h := ite_t (Decidable.not_not.mp q93) h
                      clear q93
                      obtain ⟨x95, ex95⟩ : ∃ x95 : Int32, x95 = x26 + 1 := ⟨_, rfl⟩
                      refine a_iinc (v := x95) (lv' := [(5, .int x95), (0, .ref (ga X.G 0)), (1, .ref (ga X.G 162)), (2, .ref (ga X.G 163)), (3, .ref (ga X.G 164)), (4, .ref (ga X.G 165)), (6, .int x27), (7, .int x28), (8, .int x70)]) (pc := 344) F dL_agree_344 5 rfl (by rw [ex95]; rfl) (by decide) rfl ?_
                      replace h := nm_at ex95 h
                      clear ex95
                      refine a_aload (pc := 347) F dL_agree_347 5 rfl ?_
                      refine a_iload (pc := 349) F dL_agree_349 7 rfl ?_
                      replace h := gIn_some h
                      obtain ⟨g96, h⟩ := h
                      refine a_ial (k := 165) (pc := 351) F dL_agree_351 kl_165 ks_165 g96 ?_
                      refine a_nmi fun x97 ex97 => ?_
                      replace h := nm_at ex97 h
                      clear ex97
                      refine a_if_le (tgt := 358) (pc := 352) F dL_agree_352 (by decide) (fun q98 => ?_) (fun q98 => ?_)
                      · replace h := ite_t q98 h
                        clear q98
                        obtain ⟨x99, ex99⟩ : ∃ x99 : Int32, x99 = x28 + 1 := ⟨_, rfl⟩
                        refine a_iinc (v := x99) (lv' := [(7, .int x99), (5, .int x95), (0, .ref (ga X.G 0)), (1, .ref (ga X.G 162)), (2, .ref (ga X.G 163)), (3, .ref (ga X.G 164)), (4, .ref (ga X.G 165)), (6, .int x27), (8, .int x70)]) (pc := 358) F dL_agree_358 7 rfl (by rw [ex99]; rfl) (by decide) rfl ?_
                        replace h := nm_at ex99 h
                        clear ex99
                        refine a_goto (tgt := 105) (pc := 361) F dL_agree_361 (by decide) ?_
                        refine a_lv F [2, 3, 4, 5, 6, 1, 7, 0] rfl ?_
                        exact hP25 _ (Option.some.inj h).symm
                      · replace h := ite_f q98 h
                        clear q98
                        obtain ⟨x100, ex100⟩ : ∃ x100 : Int32, x100 = x27 + 1 := ⟨_, rfl⟩
                        refine a_iinc (v := x100) (lv' := [(6, .int x100), (5, .int x95), (0, .ref (ga X.G 0)), (1, .ref (ga X.G 162)), (2, .ref (ga X.G 163)), (3, .ref (ga X.G 164)), (4, .ref (ga X.G 165)), (7, .int x28), (8, .int x70)]) (pc := 355) F dL_agree_355 6 rfl (by rw [ex100]; rfl) (by decide) rfl ?_
                        replace h := nm_at ex100 h
                        clear ex100
                        obtain ⟨x101, ex101⟩ : ∃ x101 : Int32, x101 = x28 + 1 := ⟨_, rfl⟩
                        refine a_iinc (v := x101) (lv' := [(7, .int x101), (6, .int x100), (5, .int x95), (0, .ref (ga X.G 0)), (1, .ref (ga X.G 162)), (2, .ref (ga X.G 163)), (3, .ref (ga X.G 164)), (4, .ref (ga X.G 165)), (8, .int x70)]) (pc := 358) F dL_agree_358 7 rfl (by rw [ex101]; rfl) (by decide) rfl ?_
                        replace h := nm_at ex101 h
                        clear ex101
                        refine a_goto (tgt := 105) (pc := 361) F dL_agree_361 (by decide) ?_
                        refine a_lv F [3, 4, 5, 6, 7, 2, 1, 0] rfl ?_
                        exact hP25 _ (Option.some.inj h).symm
                  · replace h := ite_f q90 h
                    clear q90
                    refine a_iconst (v := 0) (pc := 330) F dL_agree_330 (by decide) ?_
                    replace h := hB25 _ (hT25 _ (Option.some.inj h).symm).symm
                    cases h
                    exact a_iret (pc := 331) F dL_agree_331 ⟨_, rfl, rfl⟩
          clear h
          refine lp_run (P := fun (s : (Int32 × Int32)) => WA X 0 0 198 [(0, .ref (ga X.G 0)), (1, .ref (ga X.G 162)), (2, .ref (ga X.G 163)), (3, .ref (ga X.G 164)), (4, .ref (ga X.G 165)), (5, .int x26), (6, .int x27), (7, .int x28), (8, .int s.1), (9, .int s.2)] [] m0 (EQ X (some (.int rr)) m0)) ?_ _ _ hL50
          clear hL50
          rintro ⟨x51, x52⟩ xo h hP50 hT50
          show WA X 0 0 198 [(0, .ref (ga X.G 0)), (1, .ref (ga X.G 162)), (2, .ref (ga X.G 163)), (3, .ref (ga X.G 164)), (4, .ref (ga X.G 165)), (5, .int x26), (6, .int x27), (7, .int x28), (8, .int x51), (9, .int x52)] [] m0 (EQ X (some (.int rr)) m0)
          rw [f_L_agree_L198] at h
          refine a_iload (pc := 198) F dL_agree_198 9 rfl ?_
          refine a_aload_n (pc := 200) F dL_agree_200 1 rfl ?_
          refine a_iconst (v := 1) (pc := 201) F dL_agree_201 (by decide) ?_
          refine a_ialc (k := 162) (pc := 202) F dL_agree_202 kl_162 ks_162 rfl rfl ?_
          refine a_icmp_ge (tgt := 257) (pc := 203) F dL_agree_203 (by decide) (fun q53 => ?_) (fun q53 => ?_)
          · replace h := ite_t q53 h
            clear q53
            refine a_lv F [0, 1, 2, 3, 4, 5, 6, 7, 8] rfl ?_
            cases hT50 _ (Option.some.inj h).symm
            exact hE50
          · replace h := ite_f q53 h
            clear q53
            refine a_iload (pc := 206) F dL_agree_206 9 rfl ?_
            refine a_iload (pc := 208) F dL_agree_208 7 rfl ?_
            refine a_icmp_eq (tgt := 251) (pc := 210) F dL_agree_210 (by decide) (fun q54 => ?_) (fun q54 => ?_)
            · replace h := ite_t q54 h
              clear q54
              obtain ⟨x55, ex55⟩ : ∃ x55 : Int32, x55 = x52 + 1 := ⟨_, rfl⟩
              refine a_iinc (v := x55) (lv' := [(9, .int x55), (0, .ref (ga X.G 0)), (1, .ref (ga X.G 162)), (2, .ref (ga X.G 163)), (3, .ref (ga X.G 164)), (4, .ref (ga X.G 165)), (5, .int x26), (6, .int x27), (7, .int x28), (8, .int x51)]) (pc := 251) F dL_agree_251 9 rfl (by rw [ex55]; rfl) (by decide) rfl ?_
              replace h := nm_at ex55 h
              clear ex55
              refine a_goto (tgt := 198) (pc := 254) F dL_agree_254 (by decide) ?_
              refine a_lv F [1, 2, 3, 4, 5, 6, 7, 8, 9, 0] rfl ?_
              exact hP50 _ (Option.some.inj h).symm
            · replace h := ite_f q54 h
              clear q54
              refine a_aload_n (pc := 213) F dL_agree_213 3 rfl ?_
              refine a_bipush (v := 6) (pc := 214) F dL_agree_214 (by decide) ?_
              refine a_iload (pc := 216) F dL_agree_216 9 rfl ?_
              refine a_imul (pc := 218) F dL_agree_218 ?_
              refine a_iconst (v := 4) (pc := 219) F dL_agree_219 (by decide) ?_
              refine a_iadd (pc := 220) F dL_agree_220 ?_
              replace h := gIn_some h
              obtain ⟨g56, h⟩ := h
              refine a_ial (k := 164) (pc := 221) F dL_agree_221 kl_164 ks_164 g56 ?_
              refine a_nmi fun x57 ex57 => ?_
              replace h := nm_at ex57 h
              clear ex57
              refine a_if_ne (tgt := 251) (pc := 222) F dL_agree_222 (by decide) (fun q58 => ?_) (fun q58 => ?_)
              · replace h := ite_f q58 h
                clear q58
                obtain ⟨x59, ex59⟩ : ∃ x59 : Int32, x59 = x52 + 1 := ⟨_, rfl⟩
                refine a_iinc (v := x59) (lv' := [(9, .int x59), (0, .ref (ga X.G 0)), (1, .ref (ga X.G 162)), (2, .ref (ga X.G 163)), (3, .ref (ga X.G 164)), (4, .ref (ga X.G 165)), (5, .int x26), (6, .int x27), (7, .int x28), (8, .int x51)]) (pc := 251) F dL_agree_251 9 rfl (by rw [ex59]; rfl) (by decide) rfl ?_
                replace h := nm_at ex59 h
                clear ex59
                refine a_goto (tgt := 198) (pc := 254) F dL_agree_254 (by decide) ?_
                refine a_lv F [1, 2, 3, 4, 5, 6, 7, 8, 9, 0] rfl ?_
                exact hP50 _ (Option.some.inj h).symm
              · replace h := ite_t (Decidable.not_not.mp q58) h
                clear q58
                refine a_aload_n (pc := 225) F dL_agree_225 3 rfl ?_
                refine a_bipush (v := 6) (pc := 226) F dL_agree_226 (by decide) ?_
                refine a_iload (pc := 228) F dL_agree_228 7 rfl ?_
                refine a_imul (pc := 230) F dL_agree_230 ?_
                refine a_iconst (v := 4) (pc := 231) F dL_agree_231 (by decide) ?_
                refine a_iadd (pc := 232) F dL_agree_232 ?_
                replace h := gIn_some h
                obtain ⟨g60, h⟩ := h
                refine a_ial (k := 164) (pc := 233) F dL_agree_233 kl_164 ks_164 g60 ?_
                refine a_nmi fun x61 ex61 => ?_
                replace h := nm_at ex61 h
                clear ex61
                refine a_if_ne (tgt := 251) (pc := 234) F dL_agree_234 (by decide) (fun q62 => ?_) (fun q62 => ?_)
                · replace h := ite_f q62 h
                  clear q62
                  obtain ⟨x63, ex63⟩ : ∃ x63 : Int32, x63 = x52 + 1 := ⟨_, rfl⟩
                  refine a_iinc (v := x63) (lv' := [(9, .int x63), (0, .ref (ga X.G 0)), (1, .ref (ga X.G 162)), (2, .ref (ga X.G 163)), (3, .ref (ga X.G 164)), (4, .ref (ga X.G 165)), (5, .int x26), (6, .int x27), (7, .int x28), (8, .int x51)]) (pc := 251) F dL_agree_251 9 rfl (by rw [ex63]; rfl) (by decide) rfl ?_
                  replace h := nm_at ex63 h
                  clear ex63
                  refine a_goto (tgt := 198) (pc := 254) F dL_agree_254 (by decide) ?_
                  refine a_lv F [1, 2, 3, 4, 5, 6, 7, 8, 9, 0] rfl ?_
                  exact hP50 _ (Option.some.inj h).symm
                · replace h := ite_t (Decidable.not_not.mp q62) h
                  clear q62
                  refine a_aload_n (pc := 237) F dL_agree_237 3 rfl ?_
                  refine a_iload (pc := 238) F dL_agree_238 9 rfl ?_
                  refine a_iload (pc := 240) F dL_agree_240 7 rfl ?_
                  replace h := bnd_some h
                  obtain ⟨x65, hc64, h⟩ := h
                  refine a_callS (pc := 242) (As := [.ref (ga X.G 164), .int x52, .int x28]) (st := []) F dL_agree_242 (m_L_clash hc64) cs_RL_30 rfl rfl rfl (Nat.le_of_ble_eq_true rfl) ⟨Nat.le_of_ble_eq_true rfl, Nat.le_of_ble_eq_true rfl⟩ ?_ rfl rfl
                  clear hc64
                  refine a_if_eq (tgt := 251) (pc := 245) F dL_agree_245 (by decide) (fun q66 => ?_) (fun q66 => ?_)
                  · replace h := ite_t q66 h
                    clear q66
                    obtain ⟨x67, ex67⟩ : ∃ x67 : Int32, x67 = x52 + 1 := ⟨_, rfl⟩
                    refine a_iinc (v := x67) (lv' := [(9, .int x67), (0, .ref (ga X.G 0)), (1, .ref (ga X.G 162)), (2, .ref (ga X.G 163)), (3, .ref (ga X.G 164)), (4, .ref (ga X.G 165)), (5, .int x26), (6, .int x27), (7, .int x28), (8, .int x51)]) (pc := 251) F dL_agree_251 9 rfl (by rw [ex67]; rfl) (by decide) rfl ?_
                    replace h := nm_at ex67 h
                    clear ex67
                    refine a_goto (tgt := 198) (pc := 254) F dL_agree_254 (by decide) ?_
                    refine a_lv F [1, 2, 3, 4, 5, 6, 7, 8, 9, 0] rfl ?_
                    exact hP50 _ (Option.some.inj h).symm
                  · replace h := ite_f q66 h
                    clear q66
                    obtain ⟨x68, ex68⟩ : ∃ x68 : Int32, x68 = x51 + 1 := ⟨_, rfl⟩
                    refine a_iinc (v := x68) (lv' := [(8, .int x68), (0, .ref (ga X.G 0)), (1, .ref (ga X.G 162)), (2, .ref (ga X.G 163)), (3, .ref (ga X.G 164)), (4, .ref (ga X.G 165)), (5, .int x26), (6, .int x27), (7, .int x28), (9, .int x52)]) (pc := 248) F dL_agree_248 8 rfl (by rw [ex68]; rfl) (by decide) rfl ?_
                    replace h := nm_at ex68 h
                    clear ex68
                    obtain ⟨x69, ex69⟩ : ∃ x69 : Int32, x69 = x52 + 1 := ⟨_, rfl⟩
                    refine a_iinc (v := x69) (lv' := [(9, .int x69), (8, .int x68), (0, .ref (ga X.G 0)), (1, .ref (ga X.G 162)), (2, .ref (ga X.G 163)), (3, .ref (ga X.G 164)), (4, .ref (ga X.G 165)), (5, .int x26), (6, .int x27), (7, .int x28)]) (pc := 251) F dL_agree_251 9 rfl (by rw [ex69]; rfl) (by decide) rfl ?_
                    replace h := nm_at ex69 h
                    clear ex69
                    refine a_goto (tgt := 198) (pc := 254) F dL_agree_254 (by decide) ?_
                    refine a_lv F [2, 3, 4, 5, 6, 7, 8, 9, 1, 0] rfl ?_
                    exact hP50 _ (Option.some.inj h).symm
        clear hK39
        refine lp_run (P := fun (s : Int32) => WA X 0 0 154 [(0, .ref (ga X.G 0)), (1, .ref (ga X.G 162)), (2, .ref (ga X.G 163)), (3, .ref (ga X.G 164)), (4, .ref (ga X.G 165)), (5, .int x26), (6, .int x27), (7, .int x28), (8, .int s)] [] m0 (EQ X (some (.int rr)) m0)) ?_ _ _ hL39
        clear hL39
        rintro x40 xo h hP39 hT39
        show WA X 0 0 154 [(0, .ref (ga X.G 0)), (1, .ref (ga X.G 162)), (2, .ref (ga X.G 163)), (3, .ref (ga X.G 164)), (4, .ref (ga X.G 165)), (5, .int x26), (6, .int x27), (7, .int x28), (8, .int x40)] [] m0 (EQ X (some (.int rr)) m0)
        rw [f_L_agree_L154] at h
        refine a_iload (pc := 154) F dL_agree_154 8 rfl ?_
        refine a_iconst (v := 3) (pc := 156) F dL_agree_156 (by decide) ?_
        refine a_icmp_ge (tgt := 192) (pc := 157) F dL_agree_157 (by decide) (fun q41 => ?_) (fun q41 => ?_)
        · replace h := ite_t q41 h
          clear q41
          refine a_lv F [0, 1, 2, 3, 4, 5, 6, 7] rfl ?_
          exact hE39 _ (hT39 _ (Option.some.inj h).symm).symm
        · replace h := ite_f q41 h
          clear q41
          refine a_aload_n (pc := 160) F dL_agree_160 0 rfl ?_
          refine a_iload (pc := 161) F dL_agree_161 7 rfl ?_
          refine a_bipush (v := 6) (pc := 163) F dL_agree_163 (by decide) ?_
          refine a_iload (pc := 165) F dL_agree_165 8 rfl ?_
          refine a_iadd (pc := 167) F dL_agree_167 ?_
          replace h := bnd_some h
          obtain ⟨x43, hc42, h⟩ := h
          refine a_callV (pc := 168) (k := 0) (As := [.int x28, .int (6 + x40)]) (st := []) F dL_agree_168 (m_X7_hearing hc42) cv_RL_88 kl_0 ks_0 ⟨_, _, rfl⟩ rfl rfl rfl (Nat.le_of_ble_eq_true rfl) ⟨Nat.le_of_ble_eq_true rfl, Nat.le_of_ble_eq_true rfl⟩ ?_ rfl rfl
          clear hc42
          refine a_aload (pc := 171) F dL_agree_171 4 rfl ?_
          refine a_iload (pc := 173) F dL_agree_173 7 rfl ?_
          replace h := gIn_some h
          obtain ⟨g44, h⟩ := h
          refine a_ial (k := 165) (pc := 175) F dL_agree_175 kl_165 ks_165 g44 ?_
          refine a_nmi fun x45 ex45 => ?_
          replace h := nm_at ex45 h
          clear ex45
          refine a_iload (pc := 176) F dL_agree_176 8 rfl ?_
          replace h := bnd_some h
          obtain ⟨x47, hc46, h⟩ := h
          refine a_callS (pc := 178) (As := [.int x45, .int x40]) (st := [.int x43]) F dL_agree_178 (m_L_who hc46) cs_RL_8 rfl rfl rfl (Nat.le_of_ble_eq_true rfl) ⟨Nat.le_of_ble_eq_true rfl, Nat.le_of_ble_eq_true rfl⟩ ?_ rfl rfl
          clear hc46
          refine a_icmp_eq (tgt := 186) (pc := 181) F dL_agree_181 (by decide) (fun q48 => ?_) (fun q48 => ?_)
          · replace h := ite_t q48 h
            clear q48
            obtain ⟨x49, ex49⟩ : ∃ x49 : Int32, x49 = x40 + 1 := ⟨_, rfl⟩
            refine a_iinc (v := x49) (lv' := [(8, .int x49), (0, .ref (ga X.G 0)), (1, .ref (ga X.G 162)), (2, .ref (ga X.G 163)), (3, .ref (ga X.G 164)), (4, .ref (ga X.G 165)), (5, .int x26), (6, .int x27), (7, .int x28)]) (pc := 186) F dL_agree_186 8 rfl (by rw [ex49]; rfl) (by decide) rfl ?_
            replace h := nm_at ex49 h
            clear ex49
            refine a_goto (tgt := 154) (pc := 189) F dL_agree_189 (by decide) ?_
            refine a_lv F [1, 2, 3, 4, 5, 6, 7, 8, 0] rfl ?_
            exact hP39 _ (Option.some.inj h).symm
          · replace h := ite_f q48 h
            clear q48
            refine a_iconst (v := 0) (pc := 184) F dL_agree_184 (by decide) ?_
            replace h := hB39 _ (hT39 _ (Option.some.inj h).symm).symm
            replace h := hB25 _ (hT25 _ (Option.some.inj h).symm).symm
            cases h
            exact a_iret (pc := 185) F dL_agree_185 ⟨_, rfl, rfl⟩
      clear hK30
      refine lp_run (P := fun (s : Int32) => WA X 0 0 116 [(0, .ref (ga X.G 0)), (1, .ref (ga X.G 162)), (2, .ref (ga X.G 163)), (3, .ref (ga X.G 164)), (4, .ref (ga X.G 165)), (5, .int x26), (6, .int x27), (7, .int x28), (8, .int s)] [] m0 (EQ X (some (.int rr)) m0)) ?_ _ _ hL30
      clear hL30
      rintro x31 xo h hP30 hT30
      show WA X 0 0 116 [(0, .ref (ga X.G 0)), (1, .ref (ga X.G 162)), (2, .ref (ga X.G 163)), (3, .ref (ga X.G 164)), (4, .ref (ga X.G 165)), (5, .int x26), (6, .int x27), (7, .int x28), (8, .int x31)] [] m0 (EQ X (some (.int rr)) m0)
      rw [f_L_agree_L116] at h
      refine a_iload (pc := 116) F dL_agree_116 8 rfl ?_
      refine a_iconst (v := 5) (pc := 118) F dL_agree_118 (by decide) ?_
      refine a_icmp_ge (tgt := 151) (pc := 119) F dL_agree_119 (by decide) (fun q32 => ?_) (fun q32 => ?_)
      · replace h := ite_t q32 h
        clear q32
        refine a_lv F [0, 1, 2, 3, 4, 5, 6, 7] rfl ?_
        exact hE30 _ (hT30 _ (Option.some.inj h).symm).symm
      · replace h := ite_f q32 h
        clear q32
        refine a_aload_n (pc := 122) F dL_agree_122 0 rfl ?_
        refine a_iload (pc := 123) F dL_agree_123 7 rfl ?_
        refine a_iload (pc := 125) F dL_agree_125 8 rfl ?_
        replace h := bnd_some h
        obtain ⟨x34, hc33, h⟩ := h
        refine a_callV (pc := 127) (k := 0) (As := [.int x28, .int x31]) (st := []) F dL_agree_127 (m_X7_hearing hc33) cv_RL_88 kl_0 ks_0 ⟨_, _, rfl⟩ rfl rfl rfl (Nat.le_of_ble_eq_true rfl) ⟨Nat.le_of_ble_eq_true rfl, Nat.le_of_ble_eq_true rfl⟩ ?_ rfl rfl
        clear hc33
        refine a_aload_n (pc := 130) F dL_agree_130 3 rfl ?_
        refine a_bipush (v := 6) (pc := 131) F dL_agree_131 (by decide) ?_
        refine a_iload (pc := 133) F dL_agree_133 7 rfl ?_
        refine a_imul (pc := 135) F dL_agree_135 ?_
        refine a_iload (pc := 136) F dL_agree_136 8 rfl ?_
        refine a_iadd (pc := 138) F dL_agree_138 ?_
        replace h := gIn_some h
        obtain ⟨g35, h⟩ := h
        refine a_ial (k := 164) (pc := 139) F dL_agree_139 kl_164 ks_164 g35 ?_
        refine a_nmi fun x36 ex36 => ?_
        replace h := nm_at ex36 h
        clear ex36
        refine a_icmp_eq (tgt := 145) (pc := 140) F dL_agree_140 (by decide) (fun q37 => ?_) (fun q37 => ?_)
        · replace h := ite_t q37 h
          clear q37
          obtain ⟨x38, ex38⟩ : ∃ x38 : Int32, x38 = x31 + 1 := ⟨_, rfl⟩
          refine a_iinc (v := x38) (lv' := [(8, .int x38), (0, .ref (ga X.G 0)), (1, .ref (ga X.G 162)), (2, .ref (ga X.G 163)), (3, .ref (ga X.G 164)), (4, .ref (ga X.G 165)), (5, .int x26), (6, .int x27), (7, .int x28)]) (pc := 145) F dL_agree_145 8 rfl (by rw [ex38]; rfl) (by decide) rfl ?_
          replace h := nm_at ex38 h
          clear ex38
          refine a_goto (tgt := 116) (pc := 148) F dL_agree_148 (by decide) ?_
          refine a_lv F [1, 2, 3, 4, 5, 6, 7, 8, 0] rfl ?_
          exact hP30 _ (Option.some.inj h).symm
        · replace h := ite_f q37 h
          clear q37
          refine a_iconst (v := 0) (pc := 143) F dL_agree_143 (by decide) ?_
          replace h := hB30 _ (hT30 _ (Option.some.inj h).symm).symm
          replace h := hB25 _ (hT25 _ (Option.some.inj h).symm).symm
          cases h
          exact a_iret (pc := 144) F dL_agree_144 ⟨_, rfl, rfl⟩
  clear hK1
  refine lp_run (P := fun (s : Int32) => WA X 0 0 3 [(0, .ref (ga X.G 0)), (1, .ref (ga X.G 162)), (2, .ref (ga X.G 163)), (3, .ref (ga X.G 164)), (4, .ref (ga X.G 165)), (5, .int s)] [] m0 (EQ X (some (.int rr)) m0)) ?_ _ _ hL1
  clear hL1
  rintro x2 xo h hP1 hT1
  show WA X 0 0 3 [(0, .ref (ga X.G 0)), (1, .ref (ga X.G 162)), (2, .ref (ga X.G 163)), (3, .ref (ga X.G 164)), (4, .ref (ga X.G 165)), (5, .int x2)] [] m0 (EQ X (some (.int rr)) m0)
  rw [f_L_agree_L3] at h
  refine a_iload (pc := 3) F dL_agree_3 5 rfl ?_
  refine a_aload_n (pc := 5) F dL_agree_5 1 rfl ?_
  refine a_iconst (v := 0) (pc := 6) F dL_agree_6 (by decide) ?_
  refine a_ialc (k := 162) (pc := 7) F dL_agree_7 kl_162 ks_162 rfl rfl ?_
  refine a_icmp_ge (tgt := 96) (pc := 8) F dL_agree_8 (by decide) (fun q3 => ?_) (fun q3 => ?_)
  · replace h := ite_t q3 h
    clear q3
    refine a_lv F [0, 1, 2, 3, 4] rfl ?_
    exact hE1 _ (hT1 _ (Option.some.inj h).symm).symm
  · replace h := ite_f q3 h
    clear q3
    refine a_aload_n (pc := 11) F dL_agree_11 0 rfl ?_
    refine a_iload (pc := 12) F dL_agree_12 5 rfl ?_
    refine a_iconst (v := 1) (pc := 14) F dL_agree_14 (by decide) ?_
    replace h := bnd_some h
    obtain ⟨x5, hc4, h⟩ := h
    refine a_callV (pc := 15) (k := 0) (As := [.int x2, .int 1]) (st := []) F dL_agree_15 (m_X7_interpreter hc4) cv_RL_85 kl_0 ks_0 ⟨_, _, rfl⟩ rfl rfl rfl (Nat.le_of_ble_eq_true rfl) ⟨Nat.le_of_ble_eq_true rfl, Nat.le_of_ble_eq_true rfl⟩ ?_ rfl rfl
    clear hc4
    refine a_aload_n (pc := 18) F dL_agree_18 2 rfl ?_
    refine a_bipush (v := 6) (pc := 19) F dL_agree_19 (by decide) ?_
    refine a_iload (pc := 21) F dL_agree_21 5 rfl ?_
    refine a_imul (pc := 23) F dL_agree_23 ?_
    refine a_iconst (v := 1) (pc := 24) F dL_agree_24 (by decide) ?_
    refine a_iadd (pc := 25) F dL_agree_25 ?_
    replace h := gIn_some h
    obtain ⟨g6, h⟩ := h
    refine a_ial (k := 163) (pc := 26) F dL_agree_26 kl_163 ks_163 g6 ?_
    refine a_nmi fun x7 ex7 => ?_
    replace h := nm_at ex7 h
    clear ex7
    refine a_icmp_ne (tgt := 88) (pc := 27) F dL_agree_27 (by decide) (fun q8 => ?_) (fun q8 => ?_)
    · replace h := ite_f q8 h
      clear q8
      refine a_iconst (v := 0) (pc := 88) F dL_agree_88 (by decide) ?_
      replace h := hB1 _ (hT1 _ (Option.some.inj h).symm).symm
      cases h
      exact a_iret (pc := 89) F dL_agree_89 ⟨_, rfl, rfl⟩
    · replace h := ite_t (Decidable.not_not.mp q8) h
      clear q8
      refine a_aload_n (pc := 30) F dL_agree_30 0 rfl ?_
      refine a_iload (pc := 31) F dL_agree_31 5 rfl ?_
      refine a_iconst (v := 3) (pc := 33) F dL_agree_33 (by decide) ?_
      replace h := bnd_some h
      obtain ⟨x10, hc9, h⟩ := h
      refine a_callV (pc := 34) (k := 0) (As := [.int x2, .int 3]) (st := []) F dL_agree_34 (m_X7_interpreter hc9) cv_RL_85 kl_0 ks_0 ⟨_, _, rfl⟩ rfl rfl rfl (Nat.le_of_ble_eq_true rfl) ⟨Nat.le_of_ble_eq_true rfl, Nat.le_of_ble_eq_true rfl⟩ ?_ rfl rfl
      clear hc9
      refine a_aload_n (pc := 37) F dL_agree_37 2 rfl ?_
      refine a_bipush (v := 6) (pc := 38) F dL_agree_38 (by decide) ?_
      refine a_iload (pc := 40) F dL_agree_40 5 rfl ?_
      refine a_imul (pc := 42) F dL_agree_42 ?_
      refine a_iconst (v := 3) (pc := 43) F dL_agree_43 (by decide) ?_
      refine a_iadd (pc := 44) F dL_agree_44 ?_
      replace h := gIn_some h
      obtain ⟨g11, h⟩ := h
      refine a_ial (k := 163) (pc := 45) F dL_agree_45 kl_163 ks_163 g11 ?_
      refine a_nmi fun x12 ex12 => ?_
      replace h := nm_at ex12 h
      clear ex12
      refine a_icmp_ne (tgt := 88) (pc := 46) F dL_agree_46 (by decide) (fun q13 => ?_) (fun q13 => ?_)
      · replace h := ite_f q13 h
        clear q13
        refine a_iconst (v := 0) (pc := 88) F dL_agree_88 (by decide) ?_
        replace h := hB1 _ (hT1 _ (Option.some.inj h).symm).symm
        cases h
        exact a_iret (pc := 89) F dL_agree_89 ⟨_, rfl, rfl⟩
      · replace h := ite_t (Decidable.not_not.mp q13) h
        clear q13
        refine a_aload_n (pc := 49) F dL_agree_49 0 rfl ?_
        refine a_iload (pc := 50) F dL_agree_50 5 rfl ?_
        refine a_iconst (v := 4) (pc := 52) F dL_agree_52 (by decide) ?_
        replace h := bnd_some h
        obtain ⟨x15, hc14, h⟩ := h
        refine a_callV (pc := 53) (k := 0) (As := [.int x2, .int 4]) (st := []) F dL_agree_53 (m_X7_interpreter hc14) cv_RL_85 kl_0 ks_0 ⟨_, _, rfl⟩ rfl rfl rfl (Nat.le_of_ble_eq_true rfl) ⟨Nat.le_of_ble_eq_true rfl, Nat.le_of_ble_eq_true rfl⟩ ?_ rfl rfl
        clear hc14
        refine a_aload_n (pc := 56) F dL_agree_56 2 rfl ?_
        refine a_bipush (v := 6) (pc := 57) F dL_agree_57 (by decide) ?_
        refine a_iload (pc := 59) F dL_agree_59 5 rfl ?_
        refine a_imul (pc := 61) F dL_agree_61 ?_
        refine a_iconst (v := 4) (pc := 62) F dL_agree_62 (by decide) ?_
        refine a_iadd (pc := 63) F dL_agree_63 ?_
        replace h := gIn_some h
        obtain ⟨g16, h⟩ := h
        refine a_ial (k := 163) (pc := 64) F dL_agree_64 kl_163 ks_163 g16 ?_
        refine a_nmi fun x17 ex17 => ?_
        replace h := nm_at ex17 h
        clear ex17
        refine a_icmp_ne (tgt := 88) (pc := 65) F dL_agree_65 (by decide) (fun q18 => ?_) (fun q18 => ?_)
        · replace h := ite_f q18 h
          clear q18
          refine a_iconst (v := 0) (pc := 88) F dL_agree_88 (by decide) ?_
          replace h := hB1 _ (hT1 _ (Option.some.inj h).symm).symm
          cases h
          exact a_iret (pc := 89) F dL_agree_89 ⟨_, rfl, rfl⟩
        · replace h := ite_t (Decidable.not_not.mp q18) h
          clear q18
          refine a_aload_n (pc := 68) F dL_agree_68 0 rfl ?_
          refine a_iload (pc := 69) F dL_agree_69 5 rfl ?_
          refine a_bipush (v := 7) (pc := 71) F dL_agree_71 (by decide) ?_
          replace h := bnd_some h
          obtain ⟨x20, hc19, h⟩ := h
          refine a_callV (pc := 73) (k := 0) (As := [.int x2, .int 7]) (st := []) F dL_agree_73 (m_X7_interpreter hc19) cv_RL_85 kl_0 ks_0 ⟨_, _, rfl⟩ rfl rfl rfl (Nat.le_of_ble_eq_true rfl) ⟨Nat.le_of_ble_eq_true rfl, Nat.le_of_ble_eq_true rfl⟩ ?_ rfl rfl
          clear hc19
          refine a_aload_n (pc := 76) F dL_agree_76 2 rfl ?_
          refine a_bipush (v := 6) (pc := 77) F dL_agree_77 (by decide) ?_
          refine a_iload (pc := 79) F dL_agree_79 5 rfl ?_
          refine a_imul (pc := 81) F dL_agree_81 ?_
          refine a_iconst (v := 5) (pc := 82) F dL_agree_82 (by decide) ?_
          refine a_iadd (pc := 83) F dL_agree_83 ?_
          replace h := gIn_some h
          obtain ⟨g21, h⟩ := h
          refine a_ial (k := 163) (pc := 84) F dL_agree_84 kl_163 ks_163 g21 ?_
          refine a_nmi fun x22 ex22 => ?_
          replace h := nm_at ex22 h
          clear ex22
          refine a_icmp_eq (tgt := 90) (pc := 85) F dL_agree_85 (by decide) (fun q23 => ?_) (fun q23 => ?_)
          · replace h := ite_t q23 h
            clear q23
            obtain ⟨x24, ex24⟩ : ∃ x24 : Int32, x24 = x2 + 1 := ⟨_, rfl⟩
            refine a_iinc (v := x24) (lv' := [(5, .int x24), (0, .ref (ga X.G 0)), (1, .ref (ga X.G 162)), (2, .ref (ga X.G 163)), (3, .ref (ga X.G 164)), (4, .ref (ga X.G 165))]) (pc := 90) F dL_agree_90 5 rfl (by rw [ex24]; rfl) (by decide) rfl ?_
            replace h := nm_at ex24 h
            clear ex24
            refine a_goto (tgt := 3) (pc := 93) F dL_agree_93 (by decide) ?_
            refine a_lv F [1, 2, 3, 4, 5, 0] rfl ?_
            exact hP1 _ (Option.some.inj h).symm
          · replace h := ite_f q23 h
            clear q23
            refine a_iconst (v := 0) (pc := 88) F dL_agree_88 (by decide) ?_
            replace h := hB1 _ (hT1 _ (Option.some.inj h).symm).symm
            cases h
            exact a_iret (pc := 89) F dL_agree_89 ⟨_, rfl, rfl⟩
