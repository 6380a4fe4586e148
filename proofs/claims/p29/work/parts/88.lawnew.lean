/-! the law's own start and loop -/
section NROWS5
variable {X : Cx} {cc : ByteArray} {own : String} {rt : Option FieldType} {fr lo nL : Nat} {c n ce sl pc : Nat} {ov : Nat → va_E} {lv : List (Nat × Value)} {st : List Value} {Q : State → Prop}
theorem WA_of {ov : Nat → va_E} (ho : ∀ k, k < NC → ov k = cel X.G mu0 k) (K : WA X ce sl pc lv st mu0 Q) : WN X 0 NC ov ce sl pc lv st Q := by
  obtain ⟨p, l, e, R, s, m, args, below, meth, cd, G, nn⟩ := X
  intro H locs ls hH hS hl
  refine K H locs ls (fun k hk => ?_) hS hl
  have h := hH.2 k (Nat.zero_le k) hk
  rw [ho k hk] at h
  exact h
end NROWS5
def mu1 : Mem := si (si (si (si (si (si (si mu0 162 7 2) 162 8 1) 162 9 1) 162 10 600) 162 11 60) 162 12 1440) 162 13 20
theorem mu1_ne {a : Nat} (ha : a ≠ 162) : mu1.1 a = mu0.1 a := by
  unfold mu1
  rw [si_ne ha, si_ne ha, si_ne ha, si_ne ha, si_ne ha, si_ne ha, si_ne ha]
theorem LZ0 : LZ mu1 fs1 0 := by
  have p0 : ppl fs1 = 0 := by decide
  have h0 : hrs fs1 = 0 := by decide
  refine ⟨fun i hi => ?_, fun p j hp hj => ?_, fun h j hh hj => ?_, fun h hh => ?_⟩
  · rcases (show i = 0 ∨ i = 1 ∨ i = 2 ∨ i = 3 ∨ i = 4 ∨ i = 5 ∨ i = 6 ∨ i = 7 ∨ i = 8 ∨ i = 9 ∨ i = 10 ∨ i = 11 ∨ i = 12 ∨ i = 13 by omega) with rfl | rfl | rfl | rfl | rfl | rfl | rfl | rfl | rfl | rfl | rfl | rfl | rfl | rfl <;> rfl
  · rw [mu1_ne (by omega)]
    unfold pvL
    rw [if_neg (by omega)]
    rfl
  · rw [mu1_ne (by omega)]
    unfold hvL
    rw [if_neg (by omega)]
    rfl
  · rw [mu1_ne (by omega)]
    unfold cvL
    rw [if_neg (by omega)]
    rfl
theorem INV0 : INV 0 mu1 ab0 := by
  have p0 : ppl fs1 = 0 := by decide
  have h0 : hrs fs1 = 0 := by decide
  exact ⟨AC0.low (fun a ha => mu1_ne (by omega)), Ok0, LZ0, ⟨by show ppl fs1 ≤ 5; omega, by show hrs fs1 ≤ 8; omega⟩, fun h hh => absurd (show h < hrs fs1 from hh) (by omega), 0, by omega, by decide⟩
/-- the law's loop: 48 acts -/
theorem law_loop {X : Cx} {b L : Nat} {xs : Nat → Int32} {rt : Option FieldType} (F : Fm X cL_law RL rt 7 194 7) (S : LSc X b L xs) (hL : L ≤ 260) {ce sl : Nat} (hro : RO X ce sl) {Q : State → Prop} (hE : ∀ (m : Mem), WA X ce sl 133 [] [] m Q) : ∀ (d j : Nat), j + d = 48 → ∀ (m : Mem) (A : Ab), INV j m A → WA X ce sl 74 [(0, .ref b), (1, .ref (ga X.G 0)), (2, .ref (ga X.G 162)), (3, .ref (ga X.G 163)), (4, .ref (ga X.G 164)), (5, .ref (ga X.G 165)), (6, .int (nI j))] [] m Q := by
  intro d
  induction d with
  | zero =>
    intro j hj m A I
    have hj : j = 48 := by omega
    subst hj
    exact law_step F S hro (l_end (L := L) (xs := xs)) (fun i m3 he => by cases he) (fun m2 he => hE m2)
  | succ d ih =>
    intro j hj m A I
    obtain ⟨m2, A2, h, I2⟩ := l_body (xs := xs) hL I (by omega)
    refine law_step F S hro h (fun i m3 he => ?_) (fun m3 he => by cases he)
    cases he
    exact ih (j + 1) (by omega) m2 A2 I2
set_option maxRecDepth 20000 in
/-- from the law's entry to its loop -/
theorem law_entry {X : Cx} {b L : Nat} {xs : Nat → Int32} {rt : Option FieldType} (F : Fm X cL_law RL rt 7 194 7) (N0 : FN0 X) (S : LSc X b L xs) (hL : L ≤ 260) (hro : RO X 600104 7301314) {Q : State → Prop} (hE : ∀ (m : Mem), WA X 166 3592 133 [] [] m Q) : WN X 0 0 (fun k => cel X.G mu0 k) 0 0 0 [(0, .ref b)] [] Q := by
  refine n_new (n := 0) F N0 (hro.le (by decide) (by decide)) dL_law_0 nw_L_7 (by decide) ?_
  refine n_dup F dL_law_3 ?_
  refine n_callI (a := 0) (mc := 161) (ms := 3486) F N0 (hro.le (by decide) (by decide)) dL_law_4 con_X7 ml_L_94 ci_7 (by decide) (by decide) (upE_at _ _ _) (Nat.le_of_ble_eq_true rfl) ⟨by decide, by decide⟩ ?_
  refine n_astore_n (lv' := [(1, .ref (ga X.G 0)), (0, .ref b)]) F dL_law_7 (by decide) rfl ?_
  refine n_bipush (v := 14) F dL_law_8 (by decide) ?_
  refine n_newa (n := 162) (N := 14) F N0 (hro.le (by decide) (by decide)) dL_law_10 ac_int (by decide) (by decide) (by decide) (by decide) ?_
  refine n_astore_n (lv' := [(2, .ref (ga X.G 162)), (1, .ref (ga X.G 0)), (0, .ref b)]) F dL_law_12 (by decide) rfl ?_
  refine n_bipush (v := 30) F dL_law_13 (by decide) ?_
  refine n_newa (n := 163) (N := 30) F N0 (hro.le (by decide) (by decide)) dL_law_15 ac_int (by decide) (by decide) (by decide) (by decide) ?_
  refine n_astore_n (lv' := [(3, .ref (ga X.G 163)), (2, .ref (ga X.G 162)), (1, .ref (ga X.G 0)), (0, .ref b)]) F dL_law_17 (by decide) rfl ?_
  refine n_bipush (v := 48) F dL_law_18 (by decide) ?_
  refine n_newa (n := 164) (N := 48) F N0 (hro.le (by decide) (by decide)) dL_law_20 ac_int (by decide) (by decide) (by decide) (by decide) ?_
  refine n_astore (lv' := [(4, .ref (ga X.G 164)), (3, .ref (ga X.G 163)), (2, .ref (ga X.G 162)), (1, .ref (ga X.G 0)), (0, .ref b)]) F dL_law_22 (by decide) rfl ?_
  refine n_bipush (v := 8) F dL_law_24 (by decide) ?_
  refine n_newa (n := 165) (N := 8) F N0 (hro.le (by decide) (by decide)) dL_law_26 ac_int (by decide) (by decide) (by decide) (by decide) ?_
  refine n_astore (lv' := [(5, .ref (ga X.G 165)), (4, .ref (ga X.G 164)), (3, .ref (ga X.G 163)), (2, .ref (ga X.G 162)), (1, .ref (ga X.G 0)), (0, .ref b)]) F dL_law_28 (by decide) rfl ?_
  refine WA_of (fun k hk => ?_) ?_
  · by_cases h5 : k = 165
    · subst h5
      exact upE_at _ _ _
    rw [upE_ne h5]
    by_cases h4 : k = 164
    · subst h4
      exact upE_at _ _ _
    rw [upE_ne h4]
    by_cases h3 : k = 163
    · subst h3
      exact upE_at _ _ _
    rw [upE_ne h3]
    by_cases h2 : k = 162
    · subst h2
      exact upE_at _ _ _
    rw [upE_ne h2]
    have hk : k < 166 := hk
    by_cases h0 : k < 0
    · omega
    · rw [if_neg h0]
  · refine a_lv F [5, 4, 3, 2, 1, 0] rfl ?_
    refine a_aload_n (pc := 30) F dL_law_30 2 rfl ?_
    refine a_bipush (v := 7) (pc := 31) F dL_law_31 (by decide) ?_
    refine a_iconst (v := 2) (pc := 33) F dL_law_33 (by decide) ?_
    refine a_iasc (k := 162) (pc := 34) F dL_law_34 kl_162 ks_162 rfl rfl ?_
    refine a_aload_n (pc := 35) F dL_law_35 2 rfl ?_
    refine a_bipush (v := 8) (pc := 36) F dL_law_36 (by decide) ?_
    refine a_iconst (v := 1) (pc := 38) F dL_law_38 (by decide) ?_
    refine a_iasc (k := 162) (pc := 39) F dL_law_39 kl_162 ks_162 rfl rfl ?_
    refine a_aload_n (pc := 40) F dL_law_40 2 rfl ?_
    refine a_bipush (v := 9) (pc := 41) F dL_law_41 (by decide) ?_
    refine a_iconst (v := 1) (pc := 43) F dL_law_43 (by decide) ?_
    refine a_iasc (k := 162) (pc := 44) F dL_law_44 kl_162 ks_162 rfl rfl ?_
    refine a_aload_n (pc := 45) F dL_law_45 2 rfl ?_
    refine a_bipush (v := 10) (pc := 46) F dL_law_46 (by decide) ?_
    refine a_sipush (v := 600) (pc := 48) F dL_law_48 (by decide) ?_
    refine a_iasc (k := 162) (pc := 51) F dL_law_51 kl_162 ks_162 rfl rfl ?_
    refine a_aload_n (pc := 52) F dL_law_52 2 rfl ?_
    refine a_bipush (v := 11) (pc := 53) F dL_law_53 (by decide) ?_
    refine a_bipush (v := 60) (pc := 55) F dL_law_55 (by decide) ?_
    refine a_iasc (k := 162) (pc := 57) F dL_law_57 kl_162 ks_162 rfl rfl ?_
    refine a_aload_n (pc := 58) F dL_law_58 2 rfl ?_
    refine a_bipush (v := 12) (pc := 59) F dL_law_59 (by decide) ?_
    refine a_sipush (v := 1440) (pc := 61) F dL_law_61 (by decide) ?_
    refine a_iasc (k := 162) (pc := 64) F dL_law_64 kl_162 ks_162 rfl rfl ?_
    refine a_aload_n (pc := 65) F dL_law_65 2 rfl ?_
    refine a_bipush (v := 13) (pc := 66) F dL_law_66 (by decide) ?_
    refine a_bipush (v := 20) (pc := 68) F dL_law_68 (by decide) ?_
    refine a_iasc (k := 162) (pc := 70) F dL_law_70 kl_162 ks_162 rfl rfl ?_
    refine a_iconst (v := 0) (pc := 71) F dL_law_71 (by decide) ?_
    refine a_istore (lv' := [(6, .int 0), (0, .ref b), (1, .ref (ga X.G 0)), (2, .ref (ga X.G 162)), (3, .ref (ga X.G 163)), (4, .ref (ga X.G 164)), (5, .ref (ga X.G 165))]) (pc := 72) F dL_law_72 (by decide) rfl ?_
    refine a_lv F [1, 2, 3, 4, 5, 6, 0] rfl ?_
    exact law_loop F S hL (hro.le (by decide) (by decide)) hE 48 0 (by omega) mu1 ab0 INV0
