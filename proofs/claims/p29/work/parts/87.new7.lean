/-! the constructors of a court, of the history, of the class and of the model -/
theorem ref_fit (a : Nat) : narrow (.object "CourtRelays$Staff") (.ref a) = .ref a ∧ fits (.object "CourtRelays$Staff") (.ref a) = true := ⟨rfl, rfl⟩
theorem con_X2 {c : Nat} (h : isC c) : ConN yX2_init cX2_init 1 2 32 18 414 c (c + 19) (.inr (2, [.null, .null, .null, .int 0, .int 0, .int 0, .int 0])) (fun G => cel G mu0) := by
  have hc : c + 19 ≤ NC := by have := klC_18 h; omega
  refine conN_of (by decide) rfl (by decide) (fun X F N0 hro => ?_)
  refine WN.cong (ov' := Of X.G c 2 [.null, .null, .null, .int 0, .int 0, .int 0, .int 0]) ?_ (fun k k1 k2 => by rw [show k = c by omega]; exact (if_pos rfl).symm)
  refine n_aload_n F dX2_init_0 0 rfl ?_
  refine n_objInit F dX2_init_1 oi_2 (by decide) (by decide) ?_
  refine n_aload_n F dX2_init_4 0 rfl ?_
  refine n_mk (n := c + 1) (n' := c + 8) (N := 7) (mc := 6) (ms := 60) (j := 0) F N0 (hro.le (by decide) (by decide)) dX2_init_5 dX2_init_8 dX2_init_9 dX2_init_12 nw_2_6 (con_X6 h) (Or.inl ⟨_, ne_2_11⟩) ci_6 pf_2_0 (fun a => ⟨rfl, rfl⟩) (by omega) (by omega) (by omega) (by omega) (Nat.le_of_ble_eq_true rfl) rfl ⟨by decide, by decide⟩ ?_
  refine n_aload_n F dX2_init_15 0 rfl ?_
  refine n_mk (n := c + 8) (n' := c + 18) (N := 10) (mc := 9) (ms := 330) (j := 1) F N0 (hro.le (by decide) (by decide)) dX2_init_16 dX2_init_19 dX2_init_20 dX2_init_23 nw_2_3 (con_X3 h) (Or.inl ⟨_, ne_2_20⟩) ci_3 pf_2_1 (fun a => ⟨rfl, rfl⟩) (by omega) (by omega) (by omega) (by omega) (Nat.le_of_ble_eq_true rfl) rfl ⟨by decide, by decide⟩ ?_
  refine n_aload_n F dX2_init_26 0 rfl ?_
  refine n_gets F dX2_init_27 gs_2 ?_
  refine n_clone F N0.f0 (hro.le (by decide) (by decide)) dX2_init_30 cl_2 (by omega) (by decide) (by simp [Value.category]) ?_
  refine n_castI (k := c + 18) F dX2_init_33 cc_2 (by omega) (by omega) (upE_at _ _ _) ?_
  refine n_putF (ci := 2) (j := 2) (ty := .array .int) F N0 dX2_init_36 pf_2_2 (by rw [upE_ne (by omega)]; exact if_pos rfl) (by omega) (by omega) rfl rfl (Nat.le_of_ble_eq_true rfl) ?_
  refine n_vret F dX2_init_39 (fun k k1 k2 => ?_)
  by_cases z : k = c
  · rw [z, upE_at]
    exact (celC_0 h).symm
  · rw [upE_ne z]
    by_cases y : k = c + 18
    · rw [y, upE_at]
      exact (celC_18 h).symm
    · rw [upE_ne y]
      exact if_neg z
/-- the history with its first i courts -/
def hvF (G : GG) (i : Nat) : Nat → va_E := fun k => if k = 39 then .inr (4, [.int 0, .int 0, .ref (ga G 40)]) else if k = 40 then .inl ((gT G).2.1, 6, .inr (.inr (.inr (.inr (fun j => if j < i then some (ga G (41 + 19 * j)) else none))))) else cel G mu0 k
theorem isC_s {i : Nat} (h : i < 6) : isC (41 + 19 * i) := by
  unfold isC
  omega
theorem hv_loop {X : Cx} (F : Fm X cX4_init yX4_init.cls none 3 52 2) (N0 : FN X) (hro : RO X 115 2532) : ∀ d i, i + d = 6 → WN X 39 (41 + 19 * i) (hvF X.G i) (1 + 19 * i) (6 + 421 * i) 15 [(1, .int (nI i)), (0, .ref (ga X.G 39))] [] (NQ X 39 155 (cel X.G mu0) 115 2532) := by
  intro d
  induction d with
  | zero =>
    intro i hi
    have hi : i = 6 := by omega
    subst hi
    refine n_iload_n F dX4_init_15 0 rfl ?_
    refine n_bipush (v := 6) F dX4_init_16 (by decide) ?_
    refine n_icmp_ge (tgt := 40) F dX4_init_18 (by decide) (fun _ => ?_) (fun g => absurd (by decide) g)
    exact n_vret2 F dX4_init_40 (fun H k k1 k2 h => by
      by_cases y : k = 40
      · subst y
        have h : H[ga X.G 40]? = some (vp_cell _ _) := h
        show H[ga X.G 40]? = some (vp_cell _ _)
        rw [h, vp_cell_q, vp_cell_q]
        exact congrArg some (arrV_cg fun j hj => by
          show va_rf (if j < 6 then some (ga X.G (41 + 19 * j)) else none) = va_rf (some (ga X.G (savedOff j)))
          rw [if_pos hj]
          rfl)
      · by_cases z : k = 39
        · subst z
          exact h
        · have e : hvF X.G 6 k = cel X.G mu0 k := by
            unfold hvF
            rw [if_neg z, if_neg y]
          rw [← e]
          exact h)
  | succ d ih =>
    intro i hi
    have hc := isC_s (i := i) (by omega)
    have vin : vp_in (nI i) 6 := vp_in_nI (by omega) (by omega)
    refine n_iload_n F dX4_init_15 0 rfl ?_
    refine n_bipush (v := 6) F dX4_init_16 (by decide) ?_
    refine n_icmp_ge (tgt := 40) F dX4_init_18 (by decide) (fun g => absurd g ?_) (fun _ => ?_)
    · have e6 : (6 ≤ nI i) = (6 ≤ i) := pz_le (a := (6 : Nat)) (by decide) (by omega)
      rw [e6]
      omega
    refine n_aload_n F dX4_init_21 1 rfl ?_
    refine n_get (k := 39) (ci := 4) (j := 2) (fs := [.int 0, .int 0, .ref (ga X.G 40)]) F dX4_init_22 fl_RX4_11 (by decide) (by omega) (if_pos rfl) rfl ?_
    refine n_iload_n F dX4_init_25 0 rfl ?_
    refine n_new (N := 7) F N0.f0 (hro.le (by omega) (by omega)) dX4_init_26 nw_4_2 (by unfold NC; omega) ?_
    refine n_dup F dX4_init_29 ?_
    refine n_callIN (mc := 18) (ms := 414) F N0.f0 (hro.le (by omega) (by omega)) dX4_init_30 (con_X2 hc) ne_4_17 ci_2 (by omega) (by unfold NC; omega) (upE_at _ _ _) (by simp [Value.category]) ⟨by decide, by decide⟩ ?_
    refine n_aast (k := 40) (vk := 41 + 19 * i) (vs := [.ref (ga X.G (41 + 19 * i + 1)), .ref (ga X.G (41 + 19 * i + 8)), .ref (ga X.G (41 + 19 * i + 18)), .int 0, .int 0, .int 0, .int 0]) (f := fun j => if j < i then some (ga X.G (41 + 19 * j)) else none) F N0.f0 dX4_init_33 (by decide) (by omega) (by omega) (by omega) (by unfold NC; omega) ?_ ?_ vin ?_
    · show (if 40 < 41 + 19 * i then upE (hvF X.G i) (41 + 19 * i) _ 40 else cel X.G mu0 40) = _
      rw [if_pos (by omega), upE_ne (by omega)]
      rfl
    · show (if 41 + 19 * i < 41 + 19 * i then upE (hvF X.G i) (41 + 19 * i) _ (41 + 19 * i) else cel X.G mu0 (41 + 19 * i)) = _
      rw [if_neg (by omega)]
      exact celC_0 hc
    refine n_iinc (v := nI (i + 1)) (lv' := [(1, .int (nI (i + 1))), (0, .ref (ga X.G 39))]) F dX4_init_34 0 rfl (pz_s i) (by decide) rfl ?_
    refine n_goto (tgt := 15) F dX4_init_37 (by decide) ?_
    have r := ih (i + 1) (by omega)
    rw [show 41 + 19 * (i + 1) = 41 + 19 * i + 19 by omega, show 1 + 19 * (i + 1) = 1 + 19 * i + 1 + 18 by omega, show 6 + 421 * (i + 1) = 6 + 421 * i + 7 + 414 by omega] at r
    refine WN.cong r fun k k1 k2 => ?_
    by_cases y : k = 40
    · rw [y, upE_at]
      show _ = (Sum.inl ((gT X.G).2.1, 6, Sum.inr (Sum.inr (Sum.inr (Sum.inr (fun j => if j < i + 1 then some (ga X.G (41 + 19 * j)) else none))))) : va_E)
      have : (fun j => if j = (nI i).toNatClampNeg then some (ga X.G (41 + 19 * i)) else (if j < i then some (ga X.G (41 + 19 * j)) else none)) = (fun j => if j < i + 1 then some (ga X.G (41 + 19 * j)) else none) := by
        funext j
        rw [pz_cl (by omega)]
        by_cases q : j = i
        · rw [if_pos q, if_pos (by omega), q]
        · rw [if_neg q]
          by_cases w : j < i
          · rw [if_pos w, if_pos (by omega)]
          · rw [if_neg w, if_neg (by omega)]
      rw [this]
    · rw [upE_ne y]
      show (if k < 41 + 19 * i then upE (hvF X.G i) (41 + 19 * i) _ k else cel X.G mu0 k) = _
      unfold hvF
      by_cases q : k < 41 + 19 * i
      · rw [if_pos q, upE_ne (by omega)]
        by_cases z : k = 39
        · rw [if_pos z, if_pos z]
        · rw [if_neg z, if_neg z, if_neg y, if_neg y]
      · rw [if_neg q, if_neg (by omega), if_neg y]
theorem con_X4 : ConN yX4_init cX4_init 2 3 52 115 2532 39 155 (.inr (4, [.int 0, .int 0, .null])) (fun G => cel G mu0) := by
  refine conN_of (by decide) rfl (by decide) (fun X F N0 hro => ?_)
  refine n_aload_n F dX4_init_0 0 rfl ?_
  refine n_objInit F dX4_init_1 oi_4 (by decide) (by decide) ?_
  refine n_aload_n F dX4_init_4 0 rfl ?_
  refine n_bipush (v := 6) F dX4_init_5 (by decide) ?_
  refine n_anew (N := 6) F N0.f0 (hro.le (by decide) (by decide)) dX4_init_7 cc_4 (by decide) (by decide) (by decide) (by decide) ?_
  refine n_putF (ci := 4) (j := 2) (fs := [.int 0, .int 0, .null]) (ty := .array (.object "CourtRelays$Court")) F N0 dX4_init_10 pf_4_2 rfl (by decide) (by decide) rfl rfl (by decide) ?_
  refine n_iconst (v := 0) F dX4_init_13 (by decide) ?_
  refine n_istore_n (lv' := [(1, .int 0), (0, .ref (ga X.G 39))]) F dX4_init_14 (by decide) rfl ?_
  have r := hv_loop F N0 hro 6 0 rfl
  refine WN.cong r fun k k1 k2 => ?_
  rcases (show k = 39 ∨ k = 40 by omega) with rfl | rfl
  · rfl
  · show (Sum.inl ((gT X.G).2.1, 6, Sum.inr (Sum.inr (Sum.inr (Sum.inr (fun _ => none))))) : va_E) = Sum.inl ((gT X.G).2.1, 6, Sum.inr (Sum.inr (Sum.inr (Sum.inr (fun j => if j < 0 then some (ga X.G (41 + 19 * j)) else none)))))
    have : (fun j => if j < 0 then some (ga X.G (41 + 19 * j)) else none) = (fun _ => none) := by
      funext j
      exact if_neg (Nat.not_lt_zero j)
    rw [this]

theorem con_X7 : ConN yX7_init cX7_init 1 4 73 161 3486 0 162 (.inr (7, [.null, .null, .null, .null, .null, .null])) (fun G => cel G mu0) := by
  refine conN_of (by decide) rfl (by decide) (fun X F N0 hro => ?_)
  refine WN.cong (ov' := Of X.G 0 7 [.null, .null, .null, .null, .null, .null]) ?_ (fun k k1 k2 => by rw [show k = 0 by omega]; rfl)
  refine n_aload_n F dX7_init_0 0 rfl ?_
  refine n_objInit F dX7_init_1 oi_7 (by decide) (by decide) ?_
  refine n_aload_n F dX7_init_4 0 rfl ?_
  refine n_mk (n := 1) (n' := 20) (N := 7) (mc := 18) (ms := 414) (j := 0) F N0 (hro.le (by decide) (by decide)) dX7_init_5 dX7_init_8 dX7_init_9 dX7_init_12 nw_7_2 (con_X2 isC_1) (Or.inl ⟨_, ne_7_9⟩) ci_2 pf_7_0 (fun a => ⟨rfl, rfl⟩) (by decide) (by decide) (by decide) (by decide) (Nat.le_of_ble_eq_true rfl) rfl ⟨by decide, by decide⟩ ?_
  refine n_aload_n F dX7_init_15 0 rfl ?_
  refine n_mk (n := 20) (n' := 39) (N := 7) (mc := 18) (ms := 414) (j := 1) F N0 (hro.le (by decide) (by decide)) dX7_init_16 dX7_init_19 dX7_init_20 dX7_init_23 nw_7_2 (con_X2 isC_20) (Or.inl ⟨_, ne_7_9⟩) ci_2 pf_7_1 (fun a => ⟨rfl, rfl⟩) (by decide) (by decide) (by decide) (by decide) (Nat.le_of_ble_eq_true rfl) rfl ⟨by decide, by decide⟩ ?_
  refine n_aload_n F dX7_init_26 0 rfl ?_
  refine n_mk (n := 39) (n' := 155) (N := 3) (mc := 115) (ms := 2532) (j := 2) F N0 (hro.le (by decide) (by decide)) dX7_init_27 dX7_init_30 dX7_init_31 dX7_init_34 nw_7_4 con_X4 (Or.inr ml_7_21) ci_4 pf_7_2 (fun a => ⟨rfl, rfl⟩) (by decide) (by decide) (by decide) (by decide) (Nat.le_of_ble_eq_true rfl) rfl ⟨by decide, by decide⟩ ?_
  refine n_aload_n F dX7_init_37 0 rfl ?_
  refine n_mk (n := 155) (n' := 157) (N := 2) (mc := 1) (ms := 60) (j := 3) F N0 (hro.le (by decide) (by decide)) dX7_init_38 dX7_init_41 dX7_init_42 dX7_init_45 nw_7_0 con_X0 (Or.inl ⟨_, ne_7_28⟩) ci_0 pf_7_3 (fun a => ⟨rfl, rfl⟩) (by decide) (by decide) (by decide) (by decide) (Nat.le_of_ble_eq_true rfl) rfl ⟨by decide, by decide⟩ ?_
  refine n_aload_n F dX7_init_48 0 rfl ?_
  refine n_mk (n := 157) (n' := 158) (N := 6) (mc := 0) (ms := 0) (j := 4) F N0 (hro.le (by decide) (by decide)) dX7_init_49 dX7_init_52 dX7_init_53 dX7_init_56 nw_7_5 con_X5 (Or.inl ⟨_, ne_7_35⟩) ci_5 pf_7_4 (fun a => ⟨rfl, rfl⟩) (by decide) (by decide) (by decide) (by decide) (Nat.le_of_ble_eq_true rfl) rfl ⟨by decide, by decide⟩ ?_
  refine n_aload_n F dX7_init_59 0 rfl ?_
  refine n_mk (n := 158) (n' := 162) (N := 11) (mc := 3) (ms := 30) (j := 5) F N0 (hro.le (by decide) (by decide)) dX7_init_60 dX7_init_63 dX7_init_64 dX7_init_67 nw_7_1 con_X1 (Or.inl ⟨_, ne_7_42⟩) ci_1 pf_7_5 (fun a => ⟨rfl, rfl⟩) (by decide) (by decide) (by decide) (by decide) (Nat.le_of_ble_eq_true rfl) rfl ⟨by decide, by decide⟩ ?_
  refine n_vret F dX7_init_70 (fun k k1 k2 => ?_)
  by_cases z : k = 0
  · subst z
    rfl
  · exact if_neg z
