/-! contracts of the constructors -/
theorem con_X6 {c : Nat} (h : isC c) : ConN yX6_init cX6_init 1 1 12 6 60 (c + 1) (c + 8) (.inr (6, [.int 0, .null, .null, .null, .null, .null, .null])) (fun G => cel G mu0) := by
  have hc : (c + 8) ≤ NC := by have := klC_18 h; omega
  refine conN_of (by decide) rfl (by decide) (fun X F N0 hro => ?_)
  refine WN.cong (ov' := Sf X.G (c + 1) 6 [.int 0, .null, .null, .null, .null, .null, .null] (fun _ => 10)) ?_ (fun k k1 k2 => by rw [show k = c + 1 by omega]; exact (if_pos rfl).symm)
  refine n_aload_n F dX6_init_0 0 rfl ?_
  refine n_objInit F dX6_init_1 oi_6 (by decide) (by decide) ?_
  refine n_aload_n F dX6_init_4 0 rfl ?_
  refine n_bipush (v := 10) F dX6_init_5 (by decide) ?_
  refine n_fld (N := 10) (j := 1) F N0 (hro.le (by decide) (by decide)) dX6_init_7 dX6_init_9 ac_int pf_6_1 (by decide) (by decide) (by decide) (by omega) (by omega) (by rfl) (Nat.le_of_ble_eq_true rfl) rfl ?_
  refine n_aload_n F dX6_init_12 0 rfl ?_
  refine n_bipush (v := 10) F dX6_init_13 (by decide) ?_
  refine n_fld (N := 10) (j := 2) F N0 (hro.le (by decide) (by decide)) dX6_init_15 dX6_init_17 ac_int pf_6_2 (by decide) (by decide) (by decide) (by omega) (by omega) (by rfl) (Nat.le_of_ble_eq_true rfl) rfl ?_
  refine n_aload_n F dX6_init_20 0 rfl ?_
  refine n_bipush (v := 10) F dX6_init_21 (by decide) ?_
  refine n_fld (N := 10) (j := 3) F N0 (hro.le (by decide) (by decide)) dX6_init_23 dX6_init_25 ac_int pf_6_3 (by decide) (by decide) (by decide) (by omega) (by omega) (by rfl) (Nat.le_of_ble_eq_true rfl) rfl ?_
  refine n_aload_n F dX6_init_28 0 rfl ?_
  refine n_bipush (v := 10) F dX6_init_29 (by decide) ?_
  refine n_fld (N := 10) (j := 4) F N0 (hro.le (by decide) (by decide)) dX6_init_31 dX6_init_33 ac_int pf_6_4 (by decide) (by decide) (by decide) (by omega) (by omega) (by rfl) (Nat.le_of_ble_eq_true rfl) rfl ?_
  refine n_aload_n F dX6_init_36 0 rfl ?_
  refine n_bipush (v := 10) F dX6_init_37 (by decide) ?_
  refine n_fld (N := 10) (j := 5) F N0 (hro.le (by decide) (by decide)) dX6_init_39 dX6_init_41 ac_int pf_6_5 (by decide) (by decide) (by decide) (by omega) (by omega) (by rfl) (Nat.le_of_ble_eq_true rfl) rfl ?_
  refine n_aload_n F dX6_init_44 0 rfl ?_
  refine n_bipush (v := 10) F dX6_init_45 (by decide) ?_
  refine n_fld (N := 10) (j := 6) F N0 (hro.le (by decide) (by decide)) dX6_init_47 dX6_init_49 ac_int pf_6_6 (by decide) (by decide) (by decide) (by omega) (by omega) (by rfl) (Nat.le_of_ble_eq_true rfl) rfl ?_
  refine n_vret F dX6_init_52 (fun k k1 k2 => ?_)
  by_cases z : k = c + 1
  · rw [z]
    exact (if_pos rfl).trans (celC_1 h).symm
  · obtain ⟨j, hj, rfl⟩ : ∃ j, j < 6 ∧ k = c + 2 + j := ⟨k - (c + 2), by omega, by omega⟩
    rw [celC_a h j hj]
    exact if_neg (by omega)
theorem con_X3 {c : Nat} (h : isC c) : ConN yX3_init cX3_init 1 1 12 9 330 (c + 8) (c + 18) (.inr (3, [.int 0, .null, .null, .null, .null, .null, .null, .null, .null, .null])) (fun G => cel G mu0) := by
  have hc : (c + 18) ≤ NC := by have := klC_18 h; omega
  refine conN_of (by decide) rfl (by decide) (fun X F N0 hro => ?_)
  refine WN.cong (ov' := Sf X.G (c + 8) 3 [.int 0, .null, .null, .null, .null, .null, .null, .null, .null, .null] (fun d => if d = 9 then 90 else 30)) ?_ (fun k k1 k2 => by rw [show k = c + 8 by omega]; exact (if_pos rfl).symm)
  refine n_aload_n F dX3_init_0 0 rfl ?_
  refine n_objInit F dX3_init_1 oi_3 (by decide) (by decide) ?_
  refine n_aload_n F dX3_init_4 0 rfl ?_
  refine n_bipush (v := 30) F dX3_init_5 (by decide) ?_
  refine n_fld (N := 30) (j := 1) F N0 (hro.le (by decide) (by decide)) dX3_init_7 dX3_init_9 ac_int pf_3_1 (by decide) (by decide) (by decide) (by omega) (by omega) (by first | exact if_neg (by omega) | exact if_pos (by omega)) (Nat.le_of_ble_eq_true rfl) rfl ?_
  refine n_aload_n F dX3_init_12 0 rfl ?_
  refine n_bipush (v := 30) F dX3_init_13 (by decide) ?_
  refine n_fld (N := 30) (j := 2) F N0 (hro.le (by decide) (by decide)) dX3_init_15 dX3_init_17 ac_int pf_3_2 (by decide) (by decide) (by decide) (by omega) (by omega) (by first | exact if_neg (by omega) | exact if_pos (by omega)) (Nat.le_of_ble_eq_true rfl) rfl ?_
  refine n_aload_n F dX3_init_20 0 rfl ?_
  refine n_bipush (v := 30) F dX3_init_21 (by decide) ?_
  refine n_fld (N := 30) (j := 3) F N0 (hro.le (by decide) (by decide)) dX3_init_23 dX3_init_25 ac_int pf_3_3 (by decide) (by decide) (by decide) (by omega) (by omega) (by first | exact if_neg (by omega) | exact if_pos (by omega)) (Nat.le_of_ble_eq_true rfl) rfl ?_
  refine n_aload_n F dX3_init_28 0 rfl ?_
  refine n_bipush (v := 30) F dX3_init_29 (by decide) ?_
  refine n_fld (N := 30) (j := 4) F N0 (hro.le (by decide) (by decide)) dX3_init_31 dX3_init_33 ac_int pf_3_4 (by decide) (by decide) (by decide) (by omega) (by omega) (by first | exact if_neg (by omega) | exact if_pos (by omega)) (Nat.le_of_ble_eq_true rfl) rfl ?_
  refine n_aload_n F dX3_init_36 0 rfl ?_
  refine n_bipush (v := 30) F dX3_init_37 (by decide) ?_
  refine n_fld (N := 30) (j := 5) F N0 (hro.le (by decide) (by decide)) dX3_init_39 dX3_init_41 ac_int pf_3_5 (by decide) (by decide) (by decide) (by omega) (by omega) (by first | exact if_neg (by omega) | exact if_pos (by omega)) (Nat.le_of_ble_eq_true rfl) rfl ?_
  refine n_aload_n F dX3_init_44 0 rfl ?_
  refine n_bipush (v := 30) F dX3_init_45 (by decide) ?_
  refine n_fld (N := 30) (j := 6) F N0 (hro.le (by decide) (by decide)) dX3_init_47 dX3_init_49 ac_int pf_3_6 (by decide) (by decide) (by decide) (by omega) (by omega) (by first | exact if_neg (by omega) | exact if_pos (by omega)) (Nat.le_of_ble_eq_true rfl) rfl ?_
  refine n_aload_n F dX3_init_52 0 rfl ?_
  refine n_bipush (v := 30) F dX3_init_53 (by decide) ?_
  refine n_fld (N := 30) (j := 7) F N0 (hro.le (by decide) (by decide)) dX3_init_55 dX3_init_57 ac_int pf_3_7 (by decide) (by decide) (by decide) (by omega) (by omega) (by first | exact if_neg (by omega) | exact if_pos (by omega)) (Nat.le_of_ble_eq_true rfl) rfl ?_
  refine n_aload_n F dX3_init_60 0 rfl ?_
  refine n_bipush (v := 30) F dX3_init_61 (by decide) ?_
  refine n_fld (N := 30) (j := 8) F N0 (hro.le (by decide) (by decide)) dX3_init_63 dX3_init_65 ac_int pf_3_8 (by decide) (by decide) (by decide) (by omega) (by omega) (by first | exact if_neg (by omega) | exact if_pos (by omega)) (Nat.le_of_ble_eq_true rfl) rfl ?_
  refine n_aload_n F dX3_init_68 0 rfl ?_
  refine n_bipush (v := 90) F dX3_init_69 (by decide) ?_
  refine n_fld (N := 90) (j := 9) F N0 (hro.le (by decide) (by decide)) dX3_init_71 dX3_init_73 ac_int pf_3_9 (by decide) (by decide) (by decide) (by omega) (by omega) (by first | exact if_neg (by omega) | exact if_pos (by omega)) (Nat.le_of_ble_eq_true rfl) rfl ?_
  refine n_vret F dX3_init_76 (fun k k1 k2 => ?_)
  by_cases z : k = c + 8
  · rw [z]
    exact (if_pos rfl).trans (celC_8 h).symm
  by_cases y : k = c + 17
  · rw [y, celC_17 h]
    unfold Sf
    rw [if_neg (by omega)]
    dsimp only
    rw [if_pos (by omega)]
  · obtain ⟨j, hj, rfl⟩ : ∃ j, j < 8 ∧ k = c + 9 + j := ⟨k - (c + 9), by omega, by omega⟩
    rw [celC_b h j hj]
    unfold Sf
    rw [if_neg (by omega)]
    dsimp only
    rw [if_neg (by omega)]
theorem con_X0 : ConN yX0_init cX0_init 1 1 12 1 60 (155) (157) (.inr (0, [.int 0, .null])) (fun G => cel G mu0) := by
  have hc : (157) ≤ NC := by decide
  refine conN_of (by decide) rfl (by decide) (fun X F N0 hro => ?_)
  refine WN.cong (ov' := Sf X.G (155) 0 [.int 0, .null] (fun _ => 60)) ?_ (fun k k1 k2 => by rw [show k = 155 by omega]; exact (if_pos rfl).symm)
  refine n_aload_n F dX0_init_0 0 rfl ?_
  refine n_objInit F dX0_init_1 oi_0 (by decide) (by decide) ?_
  refine n_aload_n F dX0_init_4 0 rfl ?_
  refine n_bipush (v := 60) F dX0_init_5 (by decide) ?_
  refine n_fld (N := 60) (j := 1) F N0 (hro.le (by decide) (by decide)) dX0_init_7 dX0_init_9 ac_int pf_0_1 (by decide) (by decide) (by decide) (by omega) (by omega) (by rfl) (Nat.le_of_ble_eq_true rfl) rfl ?_
  refine n_vret F dX0_init_12 (fun k k1 k2 => ?_)
  rcases (show k = 155 ∨ k = 156 by omega) with rfl | rfl <;> rfl
theorem con_X5 : ConN yX5_init cX5_init 1 1 12 0 0 (157) (158) (.inr (5, [.int 0, .int 0, .int 0, .int 0, .int 0, .int 0])) (fun G => cel G mu0) := by
  have hc : (158) ≤ NC := by decide
  refine conN_of (by decide) rfl (by decide) (fun X F N0 hro => ?_)
  refine WN.cong (ov' := Sf X.G (157) 5 [.int 0, .int 0, .int 0, .int 0, .int 0, .int 0] (fun _ => 0)) ?_ (fun k k1 k2 => by rw [show k = 157 by omega]; exact (if_pos rfl).symm)
  refine n_aload_n F dX5_init_0 0 rfl ?_
  refine n_objInit F dX5_init_1 oi_5 (by decide) (by decide) ?_
  refine n_vret F dX5_init_4 (fun k k1 k2 => ?_)
  rw [show k = 157 by omega]
  rfl
theorem con_X1 : ConN yX1_init cX1_init 1 1 12 3 30 (158) (162) (.inr (1, [.int 0, .int 0, .int 0, .int 0, .int 0, .int 0, .int 0, .int 0, .null, .null, .null])) (fun G => cel G mu0) := by
  have hc : (162) ≤ NC := by decide
  refine conN_of (by decide) rfl (by decide) (fun X F N0 hro => ?_)
  refine WN.cong (ov' := Sf X.G (158) 1 [.int 0, .int 0, .int 0, .int 0, .int 0, .int 0, .int 0, .int 0, .null, .null, .null] (fun _ => 10)) ?_ (fun k k1 k2 => by rw [show k = 158 by omega]; exact (if_pos rfl).symm)
  refine n_aload_n F dX1_init_0 0 rfl ?_
  refine n_objInit F dX1_init_1 oi_1 (by decide) (by decide) ?_
  refine n_aload_n F dX1_init_4 0 rfl ?_
  refine n_bipush (v := 10) F dX1_init_5 (by decide) ?_
  refine n_fld (N := 10) (j := 8) F N0 (hro.le (by decide) (by decide)) dX1_init_7 dX1_init_9 ac_int pf_1_8 (by decide) (by decide) (by decide) (by omega) (by omega) (by rfl) (Nat.le_of_ble_eq_true rfl) rfl ?_
  refine n_aload_n F dX1_init_12 0 rfl ?_
  refine n_bipush (v := 10) F dX1_init_13 (by decide) ?_
  refine n_fld (N := 10) (j := 9) F N0 (hro.le (by decide) (by decide)) dX1_init_15 dX1_init_17 ac_int pf_1_9 (by decide) (by decide) (by decide) (by omega) (by omega) (by rfl) (Nat.le_of_ble_eq_true rfl) rfl ?_
  refine n_aload_n F dX1_init_20 0 rfl ?_
  refine n_bipush (v := 10) F dX1_init_21 (by decide) ?_
  refine n_fld (N := 10) (j := 10) F N0 (hro.le (by decide) (by decide)) dX1_init_23 dX1_init_25 ac_int pf_1_10 (by decide) (by decide) (by decide) (by omega) (by omega) (by rfl) (Nat.le_of_ble_eq_true rfl) rfl ?_
  refine n_vret F dX1_init_28 (fun k k1 k2 => ?_)
  rcases (show k = 158 ∨ k = 159 ∨ k = 160 ∨ k = 161 by omega) with rfl | rfl | rfl | rfl <;> rfl
