/-! the law's own start and loop -/
section NROWS5
variable {X : Cx} {cc : ByteArray} {own : String} {rt : Option FieldType} {fr lo nL : Nat} {c n ce sl pc : Nat} {ov : Nat → va_E} {lv : List (Nat × Value)} {st : List Value} {Q : State → Prop}
theorem n_newal (F : Fm X cc own rt fr lo nL) (N0 : FN0 X) {N : Nat} (hro : RO X (ce + 1) (sl + N)) {v : Int32} (hd : decode cc pc = .ok (.newarray .long, 2)) (hw : Cond.arrayClass .long ∈ lw_all) (hv : ¬ v < 0) (hN : v.toNatClampNeg = N) (h8 : N * 8 ≤ 536870912) (hn : n < NC) (K : WN X c (n + 1) (upE ov n (.inl ((gT X.G).2.2, N, .inr (.inl (fun _ => 0))))) (ce + 1) (sl + N) (pc + 2) lv (.ref (ga X.G n) :: st) Q) : WN X c n ov ce sl pc lv (.int v :: st) Q := by
  obtain ⟨p, l, e, R, s, m, args, below, meth, cd, G, nn⟩ := X
  obtain ⟨hx, hb, hml, hown, hts, hK, hA, hO, hsz, hr, hlk, hfr, hlo, hnn, hfl, hNW⟩ := F
  obtain ⟨hG, hFS, hAO⟩ := N0
  intro H locs ls hH hS hl
  have an : ga G n = H.size := by rw [hG n hn, hH.1]
  refine va_newaK hx hb (atype := .long) (hts _ hw) (g := F0 m pc ls (.int v :: st)) rfl hd rfl hv hN h8 hro.1 hro.2 rfl fun H1 cA e1 z1 o1 hAr hNm => ?_
  have r1 : s.vm.findClass ("[" ++ FieldType.long.toString) = some (gT G).2.2 := (hK.2 2 ((gT G).2.2, .long) rfl).2
  have hcA : cA = (gT G).2.2 := Option.some.inj (hNm.symm.trans r1)
  subst hcA
  have k1 := K H1 locs ls (hH.push hG hn z1 o1 (by
    show H1[ga G n]? = some (vp_cell _ _)
    rw [an, vp_cell_l]
    exact e1)) (pushS hS z1 o1) hl
  rw [an] at k1
  exact k1
theorem WA_of {ov : Nat → va_E} (ho : ∀ k, k < NC → ov k = cel X.G mu0 k) (K : WA X ce sl pc lv st mu0 Q) : WN X 0 NC ov ce sl pc lv st Q := by
  obtain ⟨p, l, e, R, s, m, args, below, meth, cd, G, nn⟩ := X
  intro H locs ls hH hS hl
  refine K H locs ls (fun k hk => ?_) hS hl
  have h := hH.2 k (Nat.zero_le k) hk
  rw [ho k hk] at h
  exact h
end NROWS5
/-- the law's loop: the cells that it takes are counted -/
theorem law_loop {X : Cx} {b L : Nat} {xs : Nat → Int32} {rt : Option FieldType} (F : Fm X cL_law RL rt 11 250 9) (S : LSc X b L xs) (hL : L ≤ 2560) (hro : RO X 601024 7293034) {Q : State → Prop} (hE : ∀ (m : Mem) (ce sl : Nat), ce ≤ 601024 → sl ≤ 7293034 → WA X ce sl 1648 [] [] m Q) : ∀ (d j : Nat), j + d = L / 5 → ∀ (m : Mem) (A : Ab), AC m A → AM m A → Ok A → ∀ ce sl : Nat, ce ≤ 171 + j → sl ≤ 7000 + 6 * j → WA X ce sl 23 [(0, .ref b), (1, .ref (ga X.G 0)), (2, .ref (ga X.G 162)), (3, .ref (ga X.G 170)), (4, .int (nI (5 * j)))] [] m Q := by
  intro d
  induction d with
  | zero =>
    intro j hj m A hC hM ok ce sl h1 h2
    refine law_step F S (hro.le (by omega) (by omega)) (law_end (m := m) (xs := xs) (i := 5 * j) hL (by omega) (by omega)) (fun i m3 ce2 sl2 he => by cases he) (fun m2 ce2 sl2 he g1 g2 => hE m2 ce2 sl2 (by omega) (by omega))
  | succ d ih =>
    intro j hj m A hC hM ok ce sl h1 h2
    obtain ⟨m2, A2, h, c2, a2, o2⟩ := law_body (xs := xs) (i := 5 * j) hL (by omega) hC hM ok
    refine law_step F S (hro.le (by omega) (by omega)) h (fun i m3 ce2 sl2 he g1 g2 => ?_) (fun m3 ce2 sl2 he => by cases he)
    cases he
    have r := ih (j + 1) (by omega) m2 A2 c2 a2 o2 ce2 sl2 (by omega) (by omega)
    have e : nI (5 * j) + 5 = nI (5 * (j + 1)) := by
      rw [show (5 : Int32) = nI 5 from rfl, pz_add]
      rfl
    rw [← e] at r
    exact r
set_option maxRecDepth 20000 in
/-- from the law's entry to its loop -/
theorem law_entry {X : Cx} {b L : Nat} {xs : Nat → Int32} {rt : Option FieldType} (F : Fm X cL_law RL rt 11 250 9) (N0 : FN0 X) (S : LSc X b L xs) (hL : L ≤ 2560) (hro : RO X 601024 7293034) {Q : State → Prop} (hE : ∀ (m : Mem) (ce sl : Nat), ce ≤ 601024 → sl ≤ 7293034 → WA X ce sl 1648 [] [] m Q) : WN X 0 0 (fun k => cel X.G mu0 k) 0 0 0 [(0, .ref b)] [] Q := by
  refine n_new (n := 0) F N0 (hro.le (by decide) (by decide)) dL_law_0 nw_L_7 (by decide) ?_
  refine n_dup F dL_law_3 ?_
  refine n_callI (a := 0) (mc := 161) (ms := 3486) F N0 (hro.le (by decide) (by decide)) dL_law_4 con_X7 ml_L_83 ci_7 (by decide) (by decide) (upE_at _ _ _) (Nat.le_of_ble_eq_true rfl) ⟨by decide, by decide⟩ ?_
  refine n_astore_n (lv' := [(1, .ref (ga X.G 0)), (0, .ref b)]) F dL_law_7 (by decide) rfl ?_
  refine n_new (n := 162) F N0 (hro.le (by decide) (by decide)) dL_law_8 nw_L_8 (by decide) ?_
  refine n_dup F dL_law_11 ?_
  refine n_callI (a := 162) (mc := 7) (ms := 3090) F N0 (hro.le (by decide) (by decide)) dL_law_12 con_X8 ml_L_86 ci_8 (by decide) (by decide) (upE_at _ _ _) (Nat.le_of_ble_eq_true rfl) ⟨by decide, by decide⟩ ?_
  refine n_astore_n (lv' := [(2, .ref (ga X.G 162)), (1, .ref (ga X.G 0)), (0, .ref b)]) F dL_law_15 (by decide) rfl ?_
  refine n_iconst (v := 1) F dL_law_16 (by decide) ?_
  refine n_newal (n := 170) (N := 1) F N0 (hro.le (by decide) (by decide)) dL_law_17 ac_long (by decide) (by decide) (by decide) (by decide) ?_
  refine n_astore_n (lv' := [(3, .ref (ga X.G 170)), (2, .ref (ga X.G 162)), (1, .ref (ga X.G 0)), (0, .ref b)]) F dL_law_19 (by decide) rfl ?_
  refine n_iconst (v := 0) F dL_law_20 (by decide) ?_
  refine n_istore (lv' := [(4, .int 0), (3, .ref (ga X.G 170)), (2, .ref (ga X.G 162)), (1, .ref (ga X.G 0)), (0, .ref b)]) F dL_law_21 (by decide) rfl ?_
  refine WA_of (fun k hk => ?_) ?_
  · by_cases h : k = 170
    · subst h
      exact upE_at _ _ _
    · rw [upE_ne h]
      by_cases h2 : k < 162
      · rw [if_pos h2, upE_ne (by omega), if_neg (Nat.not_lt_zero k)]
      · rw [if_neg h2]
  · refine a_lv F [4, 3, 2, 1, 0] rfl ?_
    exact law_loop F S hL hro hE (L / 5) 0 (by omega) mu0 ab0 AC0 AM0 Ok0 _ _ (by decide) (by decide)
