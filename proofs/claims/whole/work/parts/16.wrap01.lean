def w_L_addInterpreter (p1 : Int32) (p2 : Int32) (p3 : Int32) (m0 : Mem) : Option (Int32 × Mem) :=
  bnd (e_X7_addInterpreter p1 p2 p3 m0) fun o => match o with
    | .inl (v, m1) => some (0, slm m1 170 0 v.toInt64)
    | .inr (k, m1) => if k = 1 then some (1, m1) else if k = 2 then some (2, m1) else  none
set_option maxRecDepth 100000 in
set_option maxHeartbeats 4000000 in
theorem mw_L_addInterpreter {p1 : Int32} {p2 : Int32} {p3 : Int32} {m0 : Mem} {rr : Int32} {mm : Mem} (h : w_L_addInterpreter p1 p2 p3 m0 = some (rr, mm)) : ConW yL_addInterpreter cL_addInterpreter 6 (some .int) [((0 : Nat), (12 : Nat), (15 : Nat), (13 : Nat)), ((0 : Nat), (12 : Nat), (19 : Nat), (15 : Nat))] 7 127 (fun G => [.ref (ga G 0), .int p1, .int p2, .int p3, .ref (ga G 170)]) m0 (some (.int rr)) mm := by
  refine conw_of (by decide) (fun G => Nat.le_of_ble_eq_true rfl) (fun X F FT => ?_)
  show WA X 0 0 0 [(0, .ref (ga X.G 0)), (1, .int p1), (2, .int p2), (3, .int p3), (4, .ref (ga X.G 170))] [] m0 (EQW X (some (.int rr)) mm)
  rw [w_L_addInterpreter] at h
  replace h := bnd_some h
  obtain ⟨o, hc1, h⟩ := h
  refine a_aload (pc := 0) F dL_addInterpreter_0 4 rfl ?_
  refine a_iconst (v := 0) (pc := 2) F dL_addInterpreter_2 (by decide) ?_
  refine a_aload_n (pc := 3) F dL_addInterpreter_3 0 rfl ?_
  refine a_iload_n (pc := 4) F dL_addInterpreter_4 1 rfl ?_
  refine a_iload_n (pc := 5) F dL_addInterpreter_5 2 rfl ?_
  refine a_iload_n (pc := 6) F dL_addInterpreter_6 3 rfl ?_
  refine w_call (pc := 7) (k := 0) (As := [.int p1, .int p2, .int p3]) (st := [.int 0, .ref (ga X.G 170)]) F FT dL_addInterpreter_7 (mx_X7_addInterpreter hc1) cv_RL_7 kl_0 ks_0 ⟨_, _, rfl⟩ rfl rfl rfl (Nat.le_of_ble_eq_true rfl) ⟨Nat.le_of_ble_eq_true rfl, Nat.le_of_ble_eq_true rfl⟩ (fun r m1 ho => ?_) (fun E m1 ho => ?_)
  · obtain ⟨v, m2⟩ | ⟨k, m2⟩ := o
    · cases ho
      cases h
      refine a_i2l (pc := 10) F dL_addInterpreter_10 ?_
      refine a_lasc (k := 170) (j := 0) (pc := 11) F dL_addInterpreter_11 kl_170 ks_170 rfl rfl ?_
      refine a_goto (tgt := 23) (pc := 12) F dL_addInterpreter_12 (by decide) ?_
      refine a_iconst (v := 0) (pc := 23) F dL_addInterpreter_23 (by decide) ?_
      exact w_iret (pc := 24) F dL_addInterpreter_24 rfl
    · cases ho
  · obtain ⟨v, m2⟩ | ⟨k, m2⟩ := o
    · cases ho
    · cases ho
      dsimp only at h
      by_cases q0 : k = 1
      · subst q0
        simp only [reduceIte, Nat.reduceEqDiff, if_true, if_false] at h
        cases h
        refine w_catch (E := xIAE) F FT [] (0, 12, 15, 13) [(0, 12, 19, 15)] rfl (fun z hz => ?_) (by decide) (by decide) cl_L_1 (by decide +kernel) (fun q => ?_)
        · cases hz
        · refine a_astore (lv' := [(5, .ref q), (0, .ref (ga X.G 0)), (1, .int p1), (2, .int p2), (3, .int p3), (4, .ref (ga X.G 170))]) (pc := 15) F dL_addInterpreter_15 (by decide) rfl ?_
          refine a_iconst (v := 1) (pc := 17) F dL_addInterpreter_17 (by decide) ?_
          exact w_iret (pc := 18) F dL_addInterpreter_18 rfl
      by_cases q1 : k = 2
      · subst q1
        simp only [reduceIte, Nat.reduceEqDiff, if_true, if_false] at h
        cases h
        refine w_catch (E := xISE) F FT [((0, 12, 15, 13), xIAE)] (0, 12, 19, 15) [] rfl (fun z hz => ?_) (by decide) (by decide) cl_L_2 (by decide +kernel) (fun q => ?_)
        · simp only [List.mem_cons, List.not_mem_nil, or_false] at hz
          rcases hz with rfl
          · exact ⟨by decide, cl_L_1, by decide⟩
        · refine a_astore (lv' := [(5, .ref q), (0, .ref (ga X.G 0)), (1, .int p1), (2, .int p2), (3, .int p3), (4, .ref (ga X.G 170))]) (pc := 19) F dL_addInterpreter_19 (by decide) rfl ?_
          refine a_iconst (v := 2) (pc := 21) F dL_addInterpreter_21 (by decide) ?_
          exact w_iret (pc := 22) F dL_addInterpreter_22 rfl
      · simp only [if_neg q0, if_neg q1] at h
        cases h
def w_L_addHearing (p1 : Int32) (p2 : Int32) (p3 : Int32) (p4 : Int32) (m0 : Mem) : Option (Int32 × Mem) :=
  bnd (e_X7_addHearing p1 p2 p3 p4 m0) fun o => match o with
    | .inl (v, m1) => some (0, slm m1 170 0 v.toInt64)
    | .inr (k, m1) => if k = 1 then some (1, m1) else if k = 2 then some (2, m1) else  none
set_option maxRecDepth 100000 in
set_option maxHeartbeats 4000000 in
theorem mw_L_addHearing {p1 : Int32} {p2 : Int32} {p3 : Int32} {p4 : Int32} {m0 : Mem} {rr : Int32} {mm : Mem} (h : w_L_addHearing p1 p2 p3 p4 m0 = some (rr, mm)) : ConW yL_addHearing cL_addHearing 7 (some .int) [((0 : Nat), (14 : Nat), (17 : Nat), (13 : Nat)), ((0 : Nat), (14 : Nat), (21 : Nat), (15 : Nat))] 7 128 (fun G => [.ref (ga G 0), .int p1, .int p2, .int p3, .int p4, .ref (ga G 170)]) m0 (some (.int rr)) mm := by
  refine conw_of (by decide) (fun G => Nat.le_of_ble_eq_true rfl) (fun X F FT => ?_)
  show WA X 0 0 0 [(0, .ref (ga X.G 0)), (1, .int p1), (2, .int p2), (3, .int p3), (4, .int p4), (5, .ref (ga X.G 170))] [] m0 (EQW X (some (.int rr)) mm)
  rw [w_L_addHearing] at h
  replace h := bnd_some h
  obtain ⟨o, hc1, h⟩ := h
  refine a_aload (pc := 0) F dL_addHearing_0 5 rfl ?_
  refine a_iconst (v := 0) (pc := 2) F dL_addHearing_2 (by decide) ?_
  refine a_aload_n (pc := 3) F dL_addHearing_3 0 rfl ?_
  refine a_iload_n (pc := 4) F dL_addHearing_4 1 rfl ?_
  refine a_iload_n (pc := 5) F dL_addHearing_5 2 rfl ?_
  refine a_iload_n (pc := 6) F dL_addHearing_6 3 rfl ?_
  refine a_iload (pc := 7) F dL_addHearing_7 4 rfl ?_
  refine w_call (pc := 9) (k := 0) (As := [.int p1, .int p2, .int p3, .int p4]) (st := [.int 0, .ref (ga X.G 170)]) F FT dL_addHearing_9 (mx_X7_addHearing hc1) cv_RL_17 kl_0 ks_0 ⟨_, _, rfl⟩ rfl rfl rfl (Nat.le_of_ble_eq_true rfl) ⟨Nat.le_of_ble_eq_true rfl, Nat.le_of_ble_eq_true rfl⟩ (fun r m1 ho => ?_) (fun E m1 ho => ?_)
  · obtain ⟨v, m2⟩ | ⟨k, m2⟩ := o
    · cases ho
      cases h
      refine a_i2l (pc := 12) F dL_addHearing_12 ?_
      refine a_lasc (k := 170) (j := 0) (pc := 13) F dL_addHearing_13 kl_170 ks_170 rfl rfl ?_
      refine a_goto (tgt := 25) (pc := 14) F dL_addHearing_14 (by decide) ?_
      refine a_iconst (v := 0) (pc := 25) F dL_addHearing_25 (by decide) ?_
      exact w_iret (pc := 26) F dL_addHearing_26 rfl
    · cases ho
  · obtain ⟨v, m2⟩ | ⟨k, m2⟩ := o
    · cases ho
    · cases ho
      dsimp only at h
      by_cases q0 : k = 1
      · subst q0
        simp only [reduceIte, Nat.reduceEqDiff, if_true, if_false] at h
        cases h
        refine w_catch (E := xIAE) F FT [] (0, 14, 17, 13) [(0, 14, 21, 15)] rfl (fun z hz => ?_) (by decide) (by decide) cl_L_1 (by decide +kernel) (fun q => ?_)
        · cases hz
        · refine a_astore (lv' := [(6, .ref q), (0, .ref (ga X.G 0)), (1, .int p1), (2, .int p2), (3, .int p3), (4, .int p4), (5, .ref (ga X.G 170))]) (pc := 17) F dL_addHearing_17 (by decide) rfl ?_
          refine a_iconst (v := 1) (pc := 19) F dL_addHearing_19 (by decide) ?_
          exact w_iret (pc := 20) F dL_addHearing_20 rfl
      by_cases q1 : k = 2
      · subst q1
        simp only [reduceIte, Nat.reduceEqDiff, if_true, if_false] at h
        cases h
        refine w_catch (E := xISE) F FT [((0, 14, 17, 13), xIAE)] (0, 14, 21, 15) [] rfl (fun z hz => ?_) (by decide) (by decide) cl_L_2 (by decide +kernel) (fun q => ?_)
        · simp only [List.mem_cons, List.not_mem_nil, or_false] at hz
          rcases hz with rfl
          · exact ⟨by decide, cl_L_1, by decide⟩
        · refine a_astore (lv' := [(6, .ref q), (0, .ref (ga X.G 0)), (1, .int p1), (2, .int p2), (3, .int p3), (4, .int p4), (5, .ref (ga X.G 170))]) (pc := 21) F dL_addHearing_21 (by decide) rfl ?_
          refine a_iconst (v := 2) (pc := 23) F dL_addHearing_23 (by decide) ?_
          exact w_iret (pc := 24) F dL_addHearing_24 rfl
      · simp only [if_neg q0, if_neg q1] at h
        cases h
def w_L_certify (p1 : Int32) (p2 : Int32) (m0 : Mem) : Option (Int32 × Mem) :=
  bnd (e_X7_certify p1 p2 m0) fun o => match o with
    | .inl (v, m1) => some (0, slm m1 170 0 v.toInt64)
    | .inr (k, m1) => if k = 3 then some (1, m1) else if k = 1 then some (2, m1) else  none
set_option maxRecDepth 100000 in
set_option maxHeartbeats 4000000 in
theorem mw_L_certify {p1 : Int32} {p2 : Int32} {m0 : Mem} {rr : Int32} {mm : Mem} (h : w_L_certify p1 p2 m0 = some (rr, mm)) : ConW yL_certify cL_certify 5 (some .int) [((0 : Nat), (10 : Nat), (13 : Nat), (25 : Nat)), ((0 : Nat), (10 : Nat), (17 : Nat), (13 : Nat))] 7 127 (fun G => [.ref (ga G 0), .int p1, .int p2, .ref (ga G 170)]) m0 (some (.int rr)) mm := by
  refine conw_of (by decide) (fun G => Nat.le_of_ble_eq_true rfl) (fun X F FT => ?_)
  show WA X 0 0 0 [(0, .ref (ga X.G 0)), (1, .int p1), (2, .int p2), (3, .ref (ga X.G 170))] [] m0 (EQW X (some (.int rr)) mm)
  rw [w_L_certify] at h
  replace h := bnd_some h
  obtain ⟨o, hc1, h⟩ := h
  refine a_aload_n (pc := 0) F dL_certify_0 3 rfl ?_
  refine a_iconst (v := 0) (pc := 1) F dL_certify_1 (by decide) ?_
  refine a_aload_n (pc := 2) F dL_certify_2 0 rfl ?_
  refine a_iload_n (pc := 3) F dL_certify_3 1 rfl ?_
  refine a_iload_n (pc := 4) F dL_certify_4 2 rfl ?_
  refine w_call (pc := 5) (k := 0) (As := [.int p1, .int p2]) (st := [.int 0, .ref (ga X.G 170)]) F FT dL_certify_5 (mx_X7_certify hc1) cv_RL_21 kl_0 ks_0 ⟨_, _, rfl⟩ rfl rfl rfl (Nat.le_of_ble_eq_true rfl) ⟨Nat.le_of_ble_eq_true rfl, Nat.le_of_ble_eq_true rfl⟩ (fun r m1 ho => ?_) (fun E m1 ho => ?_)
  · obtain ⟨v, m2⟩ | ⟨k, m2⟩ := o
    · cases ho
      cases h
      refine a_i2l (pc := 8) F dL_certify_8 ?_
      refine a_lasc (k := 170) (j := 0) (pc := 9) F dL_certify_9 kl_170 ks_170 rfl rfl ?_
      refine a_goto (tgt := 21) (pc := 10) F dL_certify_10 (by decide) ?_
      refine a_iconst (v := 0) (pc := 21) F dL_certify_21 (by decide) ?_
      exact w_iret (pc := 22) F dL_certify_22 rfl
    · cases ho
  · obtain ⟨v, m2⟩ | ⟨k, m2⟩ := o
    · cases ho
    · cases ho
      dsimp only at h
      by_cases q0 : k = 3
      · subst q0
        simp only [reduceIte, Nat.reduceEqDiff, if_true, if_false] at h
        cases h
        refine w_catch (E := xIOB) F FT [] (0, 10, 13, 25) [(0, 10, 17, 13)] rfl (fun z hz => ?_) (by decide) (by decide) cl_L_3 (by decide +kernel) (fun q => ?_)
        · cases hz
        · refine a_astore (lv' := [(4, .ref q), (0, .ref (ga X.G 0)), (1, .int p1), (2, .int p2), (3, .ref (ga X.G 170))]) (pc := 13) F dL_certify_13 (by decide) rfl ?_
          refine a_iconst (v := 1) (pc := 15) F dL_certify_15 (by decide) ?_
          exact w_iret (pc := 16) F dL_certify_16 rfl
      by_cases q1 : k = 1
      · subst q1
        simp only [reduceIte, Nat.reduceEqDiff, if_true, if_false] at h
        cases h
        refine w_catch (E := xIAE) F FT [((0, 10, 13, 25), xIOB)] (0, 10, 17, 13) [] rfl (fun z hz => ?_) (by decide) (by decide) cl_L_1 (by decide +kernel) (fun q => ?_)
        · simp only [List.mem_cons, List.not_mem_nil, or_false] at hz
          rcases hz with rfl
          · exact ⟨by decide, cl_L_3, by decide⟩
        · refine a_astore (lv' := [(4, .ref q), (0, .ref (ga X.G 0)), (1, .int p1), (2, .int p2), (3, .ref (ga X.G 170))]) (pc := 17) F dL_certify_17 (by decide) rfl ?_
          refine a_iconst (v := 2) (pc := 19) F dL_certify_19 (by decide) ?_
          exact w_iret (pc := 20) F dL_certify_20 rfl
      · simp only [if_neg q0, if_neg q1] at h
        cases h
def w_L_set (p1 : Int32) (p2 : Int32) (m0 : Mem) : Option (Int32 × Mem) :=
  bnd (e_X7_set p1 p2 m0) fun o => match o with
    | .inl (v, m1) => some (0, slm m1 170 0 v.toInt64)
    | .inr (k, m1) => if k = 3 then some (1, m1) else if k = 1 then some (2, m1) else  none
set_option maxRecDepth 100000 in
set_option maxHeartbeats 4000000 in
theorem mw_L_set {p1 : Int32} {p2 : Int32} {m0 : Mem} {rr : Int32} {mm : Mem} (h : w_L_set p1 p2 m0 = some (rr, mm)) : ConW yL_set cL_set 5 (some .int) [((0 : Nat), (10 : Nat), (13 : Nat), (25 : Nat)), ((0 : Nat), (10 : Nat), (17 : Nat), (13 : Nat))] 7 127 (fun G => [.ref (ga G 0), .int p1, .int p2, .ref (ga G 170)]) m0 (some (.int rr)) mm := by
  refine conw_of (by decide) (fun G => Nat.le_of_ble_eq_true rfl) (fun X F FT => ?_)
  show WA X 0 0 0 [(0, .ref (ga X.G 0)), (1, .int p1), (2, .int p2), (3, .ref (ga X.G 170))] [] m0 (EQW X (some (.int rr)) mm)
  rw [w_L_set] at h
  replace h := bnd_some h
  obtain ⟨o, hc1, h⟩ := h
  refine a_aload_n (pc := 0) F dL_set_0 3 rfl ?_
  refine a_iconst (v := 0) (pc := 1) F dL_set_1 (by decide) ?_
  refine a_aload_n (pc := 2) F dL_set_2 0 rfl ?_
  refine a_iload_n (pc := 3) F dL_set_3 1 rfl ?_
  refine a_iload_n (pc := 4) F dL_set_4 2 rfl ?_
  refine w_call (pc := 5) (k := 0) (As := [.int p1, .int p2]) (st := [.int 0, .ref (ga X.G 170)]) F FT dL_set_5 (mx_X7_set hc1) cv_RL_27 kl_0 ks_0 ⟨_, _, rfl⟩ rfl rfl rfl (Nat.le_of_ble_eq_true rfl) ⟨Nat.le_of_ble_eq_true rfl, Nat.le_of_ble_eq_true rfl⟩ (fun r m1 ho => ?_) (fun E m1 ho => ?_)
  · obtain ⟨v, m2⟩ | ⟨k, m2⟩ := o
    · cases ho
      cases h
      refine a_i2l (pc := 8) F dL_set_8 ?_
      refine a_lasc (k := 170) (j := 0) (pc := 9) F dL_set_9 kl_170 ks_170 rfl rfl ?_
      refine a_goto (tgt := 21) (pc := 10) F dL_set_10 (by decide) ?_
      refine a_iconst (v := 0) (pc := 21) F dL_set_21 (by decide) ?_
      exact w_iret (pc := 22) F dL_set_22 rfl
    · cases ho
  · obtain ⟨v, m2⟩ | ⟨k, m2⟩ := o
    · cases ho
    · cases ho
      dsimp only at h
      by_cases q0 : k = 3
      · subst q0
        simp only [reduceIte, Nat.reduceEqDiff, if_true, if_false] at h
        cases h
        refine w_catch (E := xIOB) F FT [] (0, 10, 13, 25) [(0, 10, 17, 13)] rfl (fun z hz => ?_) (by decide) (by decide) cl_L_3 (by decide +kernel) (fun q => ?_)
        · cases hz
        · refine a_astore (lv' := [(4, .ref q), (0, .ref (ga X.G 0)), (1, .int p1), (2, .int p2), (3, .ref (ga X.G 170))]) (pc := 13) F dL_set_13 (by decide) rfl ?_
          refine a_iconst (v := 1) (pc := 15) F dL_set_15 (by decide) ?_
          exact w_iret (pc := 16) F dL_set_16 rfl
      by_cases q1 : k = 1
      · subst q1
        simp only [reduceIte, Nat.reduceEqDiff, if_true, if_false] at h
        cases h
        refine w_catch (E := xIAE) F FT [((0, 10, 13, 25), xIOB)] (0, 10, 17, 13) [] rfl (fun z hz => ?_) (by decide) (by decide) cl_L_1 (by decide +kernel) (fun q => ?_)
        · simp only [List.mem_cons, List.not_mem_nil, or_false] at hz
          rcases hz with rfl
          · exact ⟨by decide, cl_L_3, by decide⟩
        · refine a_astore (lv' := [(4, .ref q), (0, .ref (ga X.G 0)), (1, .int p1), (2, .int p2), (3, .ref (ga X.G 170))]) (pc := 17) F dL_set_17 (by decide) rfl ?_
          refine a_iconst (v := 2) (pc := 19) F dL_set_19 (by decide) ?_
          exact w_iret (pc := 20) F dL_set_20 rfl
      · simp only [if_neg q0, if_neg q1] at h
        cases h
def w_L_assign (p1 : Int32) (p2 : Int32) (p3 : Int32) (p4 : Int32) (m0 : Mem) : Option (Int32 × Mem) :=
  bnd (e_X7_assign p1 p2 p3 p4 m0) fun o => match o with
    | .inl (v, m1) => some (0, slm m1 170 0 v.toInt64)
    | .inr (k, m1) => if k = 3 then some (1, m1) else if k = 1 then some (2, m1) else if k = 2 then some (3, m1) else  none
set_option maxRecDepth 100000 in
set_option maxHeartbeats 4000000 in
theorem mw_L_assign {p1 : Int32} {p2 : Int32} {p3 : Int32} {p4 : Int32} {m0 : Mem} {rr : Int32} {mm : Mem} (h : w_L_assign p1 p2 p3 p4 m0 = some (rr, mm)) : ConW yL_assign cL_assign 7 (some .int) [((0 : Nat), (14 : Nat), (17 : Nat), (25 : Nat)), ((0 : Nat), (14 : Nat), (21 : Nat), (13 : Nat)), ((0 : Nat), (14 : Nat), (25 : Nat), (15 : Nat))] 7 128 (fun G => [.ref (ga G 0), .int p1, .int p2, .int p3, .int p4, .ref (ga G 170)]) m0 (some (.int rr)) mm := by
  refine conw_of (by decide) (fun G => Nat.le_of_ble_eq_true rfl) (fun X F FT => ?_)
  show WA X 0 0 0 [(0, .ref (ga X.G 0)), (1, .int p1), (2, .int p2), (3, .int p3), (4, .int p4), (5, .ref (ga X.G 170))] [] m0 (EQW X (some (.int rr)) mm)
  rw [w_L_assign] at h
  replace h := bnd_some h
  obtain ⟨o, hc1, h⟩ := h
  refine a_aload (pc := 0) F dL_assign_0 5 rfl ?_
  refine a_iconst (v := 0) (pc := 2) F dL_assign_2 (by decide) ?_
  refine a_aload_n (pc := 3) F dL_assign_3 0 rfl ?_
  refine a_iload_n (pc := 4) F dL_assign_4 1 rfl ?_
  refine a_iload_n (pc := 5) F dL_assign_5 2 rfl ?_
  refine a_iload_n (pc := 6) F dL_assign_6 3 rfl ?_
  refine a_iload (pc := 7) F dL_assign_7 4 rfl ?_
  refine w_call (pc := 9) (k := 0) (As := [.int p1, .int p2, .int p3, .int p4]) (st := [.int 0, .ref (ga X.G 170)]) F FT dL_assign_9 (mx_X7_assign hc1) cv_RL_30 kl_0 ks_0 ⟨_, _, rfl⟩ rfl rfl rfl (Nat.le_of_ble_eq_true rfl) ⟨Nat.le_of_ble_eq_true rfl, Nat.le_of_ble_eq_true rfl⟩ (fun r m1 ho => ?_) (fun E m1 ho => ?_)
  · obtain ⟨v, m2⟩ | ⟨k, m2⟩ := o
    · cases ho
      cases h
      refine a_i2l (pc := 12) F dL_assign_12 ?_
      refine a_lasc (k := 170) (j := 0) (pc := 13) F dL_assign_13 kl_170 ks_170 rfl rfl ?_
      refine a_goto (tgt := 29) (pc := 14) F dL_assign_14 (by decide) ?_
      refine a_iconst (v := 0) (pc := 29) F dL_assign_29 (by decide) ?_
      exact w_iret (pc := 30) F dL_assign_30 rfl
    · cases ho
  · obtain ⟨v, m2⟩ | ⟨k, m2⟩ := o
    · cases ho
    · cases ho
      dsimp only at h
      by_cases q0 : k = 3
      · subst q0
        simp only [reduceIte, Nat.reduceEqDiff, if_true, if_false] at h
        cases h
        refine w_catch (E := xIOB) F FT [] (0, 14, 17, 25) [(0, 14, 21, 13), (0, 14, 25, 15)] rfl (fun z hz => ?_) (by decide) (by decide) cl_L_3 (by decide +kernel) (fun q => ?_)
        · cases hz
        · refine a_astore (lv' := [(6, .ref q), (0, .ref (ga X.G 0)), (1, .int p1), (2, .int p2), (3, .int p3), (4, .int p4), (5, .ref (ga X.G 170))]) (pc := 17) F dL_assign_17 (by decide) rfl ?_
          refine a_iconst (v := 1) (pc := 19) F dL_assign_19 (by decide) ?_
          exact w_iret (pc := 20) F dL_assign_20 rfl
      by_cases q1 : k = 1
      · subst q1
        simp only [reduceIte, Nat.reduceEqDiff, if_true, if_false] at h
        cases h
        refine w_catch (E := xIAE) F FT [((0, 14, 17, 25), xIOB)] (0, 14, 21, 13) [(0, 14, 25, 15)] rfl (fun z hz => ?_) (by decide) (by decide) cl_L_1 (by decide +kernel) (fun q => ?_)
        · simp only [List.mem_cons, List.not_mem_nil, or_false] at hz
          rcases hz with rfl
          · exact ⟨by decide, cl_L_3, by decide⟩
        · refine a_astore (lv' := [(6, .ref q), (0, .ref (ga X.G 0)), (1, .int p1), (2, .int p2), (3, .int p3), (4, .int p4), (5, .ref (ga X.G 170))]) (pc := 21) F dL_assign_21 (by decide) rfl ?_
          refine a_iconst (v := 2) (pc := 23) F dL_assign_23 (by decide) ?_
          exact w_iret (pc := 24) F dL_assign_24 rfl
      by_cases q2 : k = 2
      · subst q2
        simp only [reduceIte, Nat.reduceEqDiff, if_true, if_false] at h
        cases h
        refine w_catch (E := xISE) F FT [((0, 14, 17, 25), xIOB), ((0, 14, 21, 13), xIAE)] (0, 14, 25, 15) [] rfl (fun z hz => ?_) (by decide) (by decide) cl_L_2 (by decide +kernel) (fun q => ?_)
        · simp only [List.mem_cons, List.not_mem_nil, or_false] at hz
          rcases hz with rfl | rfl
          · exact ⟨by decide, cl_L_3, by decide⟩
          · exact ⟨by decide, cl_L_1, by decide⟩
        · refine a_astore (lv' := [(6, .ref q), (0, .ref (ga X.G 0)), (1, .int p1), (2, .int p2), (3, .int p3), (4, .int p4), (5, .ref (ga X.G 170))]) (pc := 25) F dL_assign_25 (by decide) rfl ?_
          refine a_iconst (v := 3) (pc := 27) F dL_assign_27 (by decide) ?_
          exact w_iret (pc := 28) F dL_assign_28 rfl
      · simp only [if_neg q0, if_neg q1, if_neg q2] at h
        cases h
def w_L_release (p1 : Int32) (m0 : Mem) : Option (Int32 × Mem) :=
  bnd (e_X7_release p1 m0) fun o => match o with
    | .inl (v, m1) => some (0, slm m1 170 0 v.toInt64)
    | .inr (k, m1) => if k = 3 then some (1, m1) else if k = 2 then some (2, m1) else  none
set_option maxRecDepth 100000 in
set_option maxHeartbeats 4000000 in
theorem mw_L_release {p1 : Int32} {m0 : Mem} {rr : Int32} {mm : Mem} (h : w_L_release p1 m0 = some (rr, mm)) : ConW yL_release cL_release 4 (some .int) [((0 : Nat), (9 : Nat), (12 : Nat), (25 : Nat)), ((0 : Nat), (9 : Nat), (15 : Nat), (15 : Nat))] 7 126 (fun G => [.ref (ga G 0), .int p1, .ref (ga G 170)]) m0 (some (.int rr)) mm := by
  refine conw_of (by decide) (fun G => Nat.le_of_ble_eq_true rfl) (fun X F FT => ?_)
  show WA X 0 0 0 [(0, .ref (ga X.G 0)), (1, .int p1), (2, .ref (ga X.G 170))] [] m0 (EQW X (some (.int rr)) mm)
  rw [w_L_release] at h
  replace h := bnd_some h
  obtain ⟨o, hc1, h⟩ := h
  refine a_aload_n (pc := 0) F dL_release_0 2 rfl ?_
  refine a_iconst (v := 0) (pc := 1) F dL_release_1 (by decide) ?_
  refine a_aload_n (pc := 2) F dL_release_2 0 rfl ?_
  refine a_iload_n (pc := 3) F dL_release_3 1 rfl ?_
  refine w_call (pc := 4) (k := 0) (As := [.int p1]) (st := [.int 0, .ref (ga X.G 170)]) F FT dL_release_4 (mx_X7_release hc1) cv_RL_33 kl_0 ks_0 ⟨_, _, rfl⟩ rfl rfl rfl (Nat.le_of_ble_eq_true rfl) ⟨Nat.le_of_ble_eq_true rfl, Nat.le_of_ble_eq_true rfl⟩ (fun r m1 ho => ?_) (fun E m1 ho => ?_)
  · obtain ⟨v, m2⟩ | ⟨k, m2⟩ := o
    · cases ho
      cases h
      refine a_i2l (pc := 7) F dL_release_7 ?_
      refine a_lasc (k := 170) (j := 0) (pc := 8) F dL_release_8 kl_170 ks_170 rfl rfl ?_
      refine a_goto (tgt := 18) (pc := 9) F dL_release_9 (by decide) ?_
      refine a_iconst (v := 0) (pc := 18) F dL_release_18 (by decide) ?_
      exact w_iret (pc := 19) F dL_release_19 rfl
    · cases ho
  · obtain ⟨v, m2⟩ | ⟨k, m2⟩ := o
    · cases ho
    · cases ho
      dsimp only at h
      by_cases q0 : k = 3
      · subst q0
        simp only [reduceIte, Nat.reduceEqDiff, if_true, if_false] at h
        cases h
        refine w_catch (E := xIOB) F FT [] (0, 9, 12, 25) [(0, 9, 15, 15)] rfl (fun z hz => ?_) (by decide) (by decide) cl_L_3 (by decide +kernel) (fun q => ?_)
        · cases hz
        · refine a_astore_n (lv' := [(3, .ref q), (0, .ref (ga X.G 0)), (1, .int p1), (2, .ref (ga X.G 170))]) (pc := 12) F dL_release_12 (by decide) rfl ?_
          refine a_iconst (v := 1) (pc := 13) F dL_release_13 (by decide) ?_
          exact w_iret (pc := 14) F dL_release_14 rfl
      by_cases q1 : k = 2
      · subst q1
        simp only [reduceIte, Nat.reduceEqDiff, if_true, if_false] at h
        cases h
        refine w_catch (E := xISE) F FT [((0, 9, 12, 25), xIOB)] (0, 9, 15, 15) [] rfl (fun z hz => ?_) (by decide) (by decide) cl_L_2 (by decide +kernel) (fun q => ?_)
        · simp only [List.mem_cons, List.not_mem_nil, or_false] at hz
          rcases hz with rfl
          · exact ⟨by decide, cl_L_3, by decide⟩
        · refine a_astore_n (lv' := [(3, .ref q), (0, .ref (ga X.G 0)), (1, .int p1), (2, .ref (ga X.G 170))]) (pc := 15) F dL_release_15 (by decide) rfl ?_
          refine a_iconst (v := 2) (pc := 16) F dL_release_16 (by decide) ?_
          exact w_iret (pc := 17) F dL_release_17 rfl
      · simp only [if_neg q0, if_neg q1] at h
        cases h
def w_L_swap (p1 : Int32) (p2 : Int32) (p3 : Int32) (m0 : Mem) : Option (Int32 × Mem) :=
  bnd (e_X7_swap p1 p2 p3 m0) fun o => match o with
    | .inl (v, m1) => some (0, slm m1 170 0 v.toInt64)
    | .inr (k, m1) => if k = 3 then some (1, m1) else if k = 1 then some (2, m1) else if k = 2 then some (3, m1) else  none
set_option maxRecDepth 100000 in
set_option maxHeartbeats 4000000 in
theorem mw_L_swap {p1 : Int32} {p2 : Int32} {p3 : Int32} {m0 : Mem} {rr : Int32} {mm : Mem} (h : w_L_swap p1 p2 p3 m0 = some (rr, mm)) : ConW yL_swap cL_swap 6 (some .int) [((0 : Nat), (12 : Nat), (15 : Nat), (25 : Nat)), ((0 : Nat), (12 : Nat), (19 : Nat), (13 : Nat)), ((0 : Nat), (12 : Nat), (23 : Nat), (15 : Nat))] 7 131 (fun G => [.ref (ga G 0), .int p1, .int p2, .int p3, .ref (ga G 170)]) m0 (some (.int rr)) mm := by
  refine conw_of (by decide) (fun G => Nat.le_of_ble_eq_true rfl) (fun X F FT => ?_)
  show WA X 0 0 0 [(0, .ref (ga X.G 0)), (1, .int p1), (2, .int p2), (3, .int p3), (4, .ref (ga X.G 170))] [] m0 (EQW X (some (.int rr)) mm)
  rw [w_L_swap] at h
  replace h := bnd_some h
  obtain ⟨o, hc1, h⟩ := h
  refine a_aload (pc := 0) F dL_swap_0 4 rfl ?_
  refine a_iconst (v := 0) (pc := 2) F dL_swap_2 (by decide) ?_
  refine a_aload_n (pc := 3) F dL_swap_3 0 rfl ?_
  refine a_iload_n (pc := 4) F dL_swap_4 1 rfl ?_
  refine a_iload_n (pc := 5) F dL_swap_5 2 rfl ?_
  refine a_iload_n (pc := 6) F dL_swap_6 3 rfl ?_
  refine w_call (pc := 7) (k := 0) (As := [.int p1, .int p2, .int p3]) (st := [.int 0, .ref (ga X.G 170)]) F FT dL_swap_7 (mx_X7_swap hc1) cv_RL_37 kl_0 ks_0 ⟨_, _, rfl⟩ rfl rfl rfl (Nat.le_of_ble_eq_true rfl) ⟨Nat.le_of_ble_eq_true rfl, Nat.le_of_ble_eq_true rfl⟩ (fun r m1 ho => ?_) (fun E m1 ho => ?_)
  · obtain ⟨v, m2⟩ | ⟨k, m2⟩ := o
    · cases ho
      cases h
      refine a_i2l (pc := 10) F dL_swap_10 ?_
      refine a_lasc (k := 170) (j := 0) (pc := 11) F dL_swap_11 kl_170 ks_170 rfl rfl ?_
      refine a_goto (tgt := 27) (pc := 12) F dL_swap_12 (by decide) ?_
      refine a_iconst (v := 0) (pc := 27) F dL_swap_27 (by decide) ?_
      exact w_iret (pc := 28) F dL_swap_28 rfl
    · cases ho
  · obtain ⟨v, m2⟩ | ⟨k, m2⟩ := o
    · cases ho
    · cases ho
      dsimp only at h
      by_cases q0 : k = 3
      · subst q0
        simp only [reduceIte, Nat.reduceEqDiff, if_true, if_false] at h
        cases h
        refine w_catch (E := xIOB) F FT [] (0, 12, 15, 25) [(0, 12, 19, 13), (0, 12, 23, 15)] rfl (fun z hz => ?_) (by decide) (by decide) cl_L_3 (by decide +kernel) (fun q => ?_)
        · cases hz
        · refine a_astore (lv' := [(5, .ref q), (0, .ref (ga X.G 0)), (1, .int p1), (2, .int p2), (3, .int p3), (4, .ref (ga X.G 170))]) (pc := 15) F dL_swap_15 (by decide) rfl ?_
          refine a_iconst (v := 1) (pc := 17) F dL_swap_17 (by decide) ?_
          exact w_iret (pc := 18) F dL_swap_18 rfl
      by_cases q1 : k = 1
      · subst q1
        simp only [reduceIte, Nat.reduceEqDiff, if_true, if_false] at h
        cases h
        refine w_catch (E := xIAE) F FT [((0, 12, 15, 25), xIOB)] (0, 12, 19, 13) [(0, 12, 23, 15)] rfl (fun z hz => ?_) (by decide) (by decide) cl_L_1 (by decide +kernel) (fun q => ?_)
        · simp only [List.mem_cons, List.not_mem_nil, or_false] at hz
          rcases hz with rfl
          · exact ⟨by decide, cl_L_3, by decide⟩
        · refine a_astore (lv' := [(5, .ref q), (0, .ref (ga X.G 0)), (1, .int p1), (2, .int p2), (3, .int p3), (4, .ref (ga X.G 170))]) (pc := 19) F dL_swap_19 (by decide) rfl ?_
          refine a_iconst (v := 2) (pc := 21) F dL_swap_21 (by decide) ?_
          exact w_iret (pc := 22) F dL_swap_22 rfl
      by_cases q2 : k = 2
      · subst q2
        simp only [reduceIte, Nat.reduceEqDiff, if_true, if_false] at h
        cases h
        refine w_catch (E := xISE) F FT [((0, 12, 15, 25), xIOB), ((0, 12, 19, 13), xIAE)] (0, 12, 23, 15) [] rfl (fun z hz => ?_) (by decide) (by decide) cl_L_2 (by decide +kernel) (fun q => ?_)
        · simp only [List.mem_cons, List.not_mem_nil, or_false] at hz
          rcases hz with rfl | rfl
          · exact ⟨by decide, cl_L_3, by decide⟩
          · exact ⟨by decide, cl_L_1, by decide⟩
        · refine a_astore (lv' := [(5, .ref q), (0, .ref (ga X.G 0)), (1, .int p1), (2, .int p2), (3, .int p3), (4, .ref (ga X.G 170))]) (pc := 23) F dL_swap_23 (by decide) rfl ?_
          refine a_iconst (v := 3) (pc := 25) F dL_swap_25 (by decide) ?_
          exact w_iret (pc := 26) F dL_swap_26 rfl
      · simp only [if_neg q0, if_neg q1, if_neg q2] at h
        cases h
def w_L_vacate (p1 : Int32) (m0 : Mem) : Option (Int32 × Mem) :=
  bnd (e_X7_vacate p1 m0) fun o => match o with
    | .inl (v, m1) => some (0, slm m1 170 0 v.toInt64)
    | .inr (k, m1) => if k = 3 then some (1, m1) else if k = 2 then some (2, m1) else  none
set_option maxRecDepth 100000 in
set_option maxHeartbeats 4000000 in
theorem mw_L_vacate {p1 : Int32} {m0 : Mem} {rr : Int32} {mm : Mem} (h : w_L_vacate p1 m0 = some (rr, mm)) : ConW yL_vacate cL_vacate 4 (some .int) [((0 : Nat), (9 : Nat), (12 : Nat), (25 : Nat)), ((0 : Nat), (9 : Nat), (15 : Nat), (15 : Nat))] 7 125 (fun G => [.ref (ga G 0), .int p1, .ref (ga G 170)]) m0 (some (.int rr)) mm := by
  refine conw_of (by decide) (fun G => Nat.le_of_ble_eq_true rfl) (fun X F FT => ?_)
  show WA X 0 0 0 [(0, .ref (ga X.G 0)), (1, .int p1), (2, .ref (ga X.G 170))] [] m0 (EQW X (some (.int rr)) mm)
  rw [w_L_vacate] at h
  replace h := bnd_some h
  obtain ⟨o, hc1, h⟩ := h
  refine a_aload_n (pc := 0) F dL_vacate_0 2 rfl ?_
  refine a_iconst (v := 0) (pc := 1) F dL_vacate_1 (by decide) ?_
  refine a_aload_n (pc := 2) F dL_vacate_2 0 rfl ?_
  refine a_iload_n (pc := 3) F dL_vacate_3 1 rfl ?_
  refine w_call (pc := 4) (k := 0) (As := [.int p1]) (st := [.int 0, .ref (ga X.G 170)]) F FT dL_vacate_4 (mx_X7_vacate hc1) cv_RL_40 kl_0 ks_0 ⟨_, _, rfl⟩ rfl rfl rfl (Nat.le_of_ble_eq_true rfl) ⟨Nat.le_of_ble_eq_true rfl, Nat.le_of_ble_eq_true rfl⟩ (fun r m1 ho => ?_) (fun E m1 ho => ?_)
  · obtain ⟨v, m2⟩ | ⟨k, m2⟩ := o
    · cases ho
      cases h
      refine a_i2l (pc := 7) F dL_vacate_7 ?_
      refine a_lasc (k := 170) (j := 0) (pc := 8) F dL_vacate_8 kl_170 ks_170 rfl rfl ?_
      refine a_goto (tgt := 18) (pc := 9) F dL_vacate_9 (by decide) ?_
      refine a_iconst (v := 0) (pc := 18) F dL_vacate_18 (by decide) ?_
      exact w_iret (pc := 19) F dL_vacate_19 rfl
    · cases ho
  · obtain ⟨v, m2⟩ | ⟨k, m2⟩ := o
    · cases ho
    · cases ho
      dsimp only at h
      by_cases q0 : k = 3
      · subst q0
        simp only [reduceIte, Nat.reduceEqDiff, if_true, if_false] at h
        cases h
        refine w_catch (E := xIOB) F FT [] (0, 9, 12, 25) [(0, 9, 15, 15)] rfl (fun z hz => ?_) (by decide) (by decide) cl_L_3 (by decide +kernel) (fun q => ?_)
        · cases hz
        · refine a_astore_n (lv' := [(3, .ref q), (0, .ref (ga X.G 0)), (1, .int p1), (2, .ref (ga X.G 170))]) (pc := 12) F dL_vacate_12 (by decide) rfl ?_
          refine a_iconst (v := 1) (pc := 13) F dL_vacate_13 (by decide) ?_
          exact w_iret (pc := 14) F dL_vacate_14 rfl
      by_cases q1 : k = 2
      · subst q1
        simp only [reduceIte, Nat.reduceEqDiff, if_true, if_false] at h
        cases h
        refine w_catch (E := xISE) F FT [((0, 9, 12, 25), xIOB)] (0, 9, 15, 15) [] rfl (fun z hz => ?_) (by decide) (by decide) cl_L_2 (by decide +kernel) (fun q => ?_)
        · simp only [List.mem_cons, List.not_mem_nil, or_false] at hz
          rcases hz with rfl
          · exact ⟨by decide, cl_L_3, by decide⟩
        · refine a_astore_n (lv' := [(3, .ref q), (0, .ref (ga X.G 0)), (1, .int p1), (2, .ref (ga X.G 170))]) (pc := 15) F dL_vacate_15 (by decide) rfl ?_
          refine a_iconst (v := 2) (pc := 16) F dL_vacate_16 (by decide) ?_
          exact w_iret (pc := 17) F dL_vacate_17 rfl
      · simp only [if_neg q0, if_neg q1] at h
        cases h
def w_L_pass (p1 : Int32) (m0 : Mem) : Option (Int32 × Mem) :=
  bnd (e_X7_pass p1 m0) fun o => match o with
    | .inl (v, m1) => some (0, slm m1 170 0 v.toInt64)
    | .inr (k, m1) => if k = 1 then some (1, m1) else if k = 2 then some (2, m1) else  none
set_option maxRecDepth 100000 in
set_option maxHeartbeats 4000000 in
theorem mw_L_pass {p1 : Int32} {m0 : Mem} {rr : Int32} {mm : Mem} (h : w_L_pass p1 m0 = some (rr, mm)) : ConW yL_pass cL_pass 4 (some .int) [((0 : Nat), (9 : Nat), (12 : Nat), (13 : Nat)), ((0 : Nat), (9 : Nat), (15 : Nat), (15 : Nat))] 7 141 (fun G => [.ref (ga G 0), .int p1, .ref (ga G 170)]) m0 (some (.int rr)) mm := by
  refine conw_of (by decide) (fun G => Nat.le_of_ble_eq_true rfl) (fun X F FT => ?_)
  show WA X 0 0 0 [(0, .ref (ga X.G 0)), (1, .int p1), (2, .ref (ga X.G 170))] [] m0 (EQW X (some (.int rr)) mm)
  rw [w_L_pass] at h
  replace h := bnd_some h
  obtain ⟨o, hc1, h⟩ := h
  refine a_aload_n (pc := 0) F dL_pass_0 2 rfl ?_
  refine a_iconst (v := 0) (pc := 1) F dL_pass_1 (by decide) ?_
  refine a_aload_n (pc := 2) F dL_pass_2 0 rfl ?_
  refine a_iload_n (pc := 3) F dL_pass_3 1 rfl ?_
  refine w_call (pc := 4) (k := 0) (As := [.int p1]) (st := [.int 0, .ref (ga X.G 170)]) F FT dL_pass_4 (mx_X7_pass hc1) cv_RL_43 kl_0 ks_0 ⟨_, _, rfl⟩ rfl rfl rfl (Nat.le_of_ble_eq_true rfl) ⟨Nat.le_of_ble_eq_true rfl, Nat.le_of_ble_eq_true rfl⟩ (fun r m1 ho => ?_) (fun E m1 ho => ?_)
  · obtain ⟨v, m2⟩ | ⟨k, m2⟩ := o
    · cases ho
      cases h
      refine a_i2l (pc := 7) F dL_pass_7 ?_
      refine a_lasc (k := 170) (j := 0) (pc := 8) F dL_pass_8 kl_170 ks_170 rfl rfl ?_
      refine a_goto (tgt := 18) (pc := 9) F dL_pass_9 (by decide) ?_
      refine a_iconst (v := 0) (pc := 18) F dL_pass_18 (by decide) ?_
      exact w_iret (pc := 19) F dL_pass_19 rfl
    · cases ho
  · obtain ⟨v, m2⟩ | ⟨k, m2⟩ := o
    · cases ho
    · cases ho
      dsimp only at h
      by_cases q0 : k = 1
      · subst q0
        simp only [reduceIte, Nat.reduceEqDiff, if_true, if_false] at h
        cases h
        refine w_catch (E := xIAE) F FT [] (0, 9, 12, 13) [(0, 9, 15, 15)] rfl (fun z hz => ?_) (by decide) (by decide) cl_L_1 (by decide +kernel) (fun q => ?_)
        · cases hz
        · refine a_astore_n (lv' := [(3, .ref q), (0, .ref (ga X.G 0)), (1, .int p1), (2, .ref (ga X.G 170))]) (pc := 12) F dL_pass_12 (by decide) rfl ?_
          refine a_iconst (v := 1) (pc := 13) F dL_pass_13 (by decide) ?_
          exact w_iret (pc := 14) F dL_pass_14 rfl
      by_cases q1 : k = 2
      · subst q1
        simp only [reduceIte, Nat.reduceEqDiff, if_true, if_false] at h
        cases h
        refine w_catch (E := xISE) F FT [((0, 9, 12, 13), xIAE)] (0, 9, 15, 15) [] rfl (fun z hz => ?_) (by decide) (by decide) cl_L_2 (by decide +kernel) (fun q => ?_)
        · simp only [List.mem_cons, List.not_mem_nil, or_false] at hz
          rcases hz with rfl
          · exact ⟨by decide, cl_L_1, by decide⟩
        · refine a_astore_n (lv' := [(3, .ref q), (0, .ref (ga X.G 0)), (1, .int p1), (2, .ref (ga X.G 170))]) (pc := 15) F dL_pass_15 (by decide) rfl ?_
          refine a_iconst (v := 2) (pc := 16) F dL_pass_16 (by decide) ?_
          exact w_iret (pc := 17) F dL_pass_17 rfl
      · simp only [if_neg q0, if_neg q1] at h
        cases h
def w_L_append (p1 : Int32) (m0 : Mem) : Option (Int32 × Mem) :=
  bnd (e_X7_append p1 m0) fun o => match o with
    | .inl (v, m1) => some (0, slm m1 170 0 v.toInt64)
    | .inr (k, m1) => if k = 1 then some (1, m1) else if k = 2 then some (2, m1) else  none
set_option maxRecDepth 100000 in
set_option maxHeartbeats 4000000 in
theorem mw_L_append {p1 : Int32} {m0 : Mem} {rr : Int32} {mm : Mem} (h : w_L_append p1 m0 = some (rr, mm)) : ConW yL_append cL_append 4 (some .int) [((0 : Nat), (9 : Nat), (12 : Nat), (13 : Nat)), ((0 : Nat), (9 : Nat), (15 : Nat), (15 : Nat))] 7 103 (fun G => [.ref (ga G 0), .int p1, .ref (ga G 170)]) m0 (some (.int rr)) mm := by
  refine conw_of (by decide) (fun G => Nat.le_of_ble_eq_true rfl) (fun X F FT => ?_)
  show WA X 0 0 0 [(0, .ref (ga X.G 0)), (1, .int p1), (2, .ref (ga X.G 170))] [] m0 (EQW X (some (.int rr)) mm)
  rw [w_L_append] at h
  replace h := bnd_some h
  obtain ⟨o, hc1, h⟩ := h
  refine a_aload_n (pc := 0) F dL_append_0 2 rfl ?_
  refine a_iconst (v := 0) (pc := 1) F dL_append_1 (by decide) ?_
  refine a_aload_n (pc := 2) F dL_append_2 0 rfl ?_
  refine a_iload_n (pc := 3) F dL_append_3 1 rfl ?_
  refine w_call (pc := 4) (k := 0) (As := [.int p1]) (st := [.int 0, .ref (ga X.G 170)]) F FT dL_append_4 (mx_X7_append hc1) cv_RL_46 kl_0 ks_0 ⟨_, _, rfl⟩ rfl rfl rfl (Nat.le_of_ble_eq_true rfl) ⟨Nat.le_of_ble_eq_true rfl, Nat.le_of_ble_eq_true rfl⟩ (fun r m1 ho => ?_) (fun E m1 ho => ?_)
  · obtain ⟨v, m2⟩ | ⟨k, m2⟩ := o
    · cases ho
      cases h
      refine a_i2l (pc := 7) F dL_append_7 ?_
      refine a_lasc (k := 170) (j := 0) (pc := 8) F dL_append_8 kl_170 ks_170 rfl rfl ?_
      refine a_goto (tgt := 18) (pc := 9) F dL_append_9 (by decide) ?_
      refine a_iconst (v := 0) (pc := 18) F dL_append_18 (by decide) ?_
      exact w_iret (pc := 19) F dL_append_19 rfl
    · cases ho
  · obtain ⟨v, m2⟩ | ⟨k, m2⟩ := o
    · cases ho
    · cases ho
      dsimp only at h
      by_cases q0 : k = 1
      · subst q0
        simp only [reduceIte, Nat.reduceEqDiff, if_true, if_false] at h
        cases h
        refine w_catch (E := xIAE) F FT [] (0, 9, 12, 13) [(0, 9, 15, 15)] rfl (fun z hz => ?_) (by decide) (by decide) cl_L_1 (by decide +kernel) (fun q => ?_)
        · cases hz
        · refine a_astore_n (lv' := [(3, .ref q), (0, .ref (ga X.G 0)), (1, .int p1), (2, .ref (ga X.G 170))]) (pc := 12) F dL_append_12 (by decide) rfl ?_
          refine a_iconst (v := 1) (pc := 13) F dL_append_13 (by decide) ?_
          exact w_iret (pc := 14) F dL_append_14 rfl
      by_cases q1 : k = 2
      · subst q1
        simp only [reduceIte, Nat.reduceEqDiff, if_true, if_false] at h
        cases h
        refine w_catch (E := xISE) F FT [((0, 9, 12, 13), xIAE)] (0, 9, 15, 15) [] rfl (fun z hz => ?_) (by decide) (by decide) cl_L_2 (by decide +kernel) (fun q => ?_)
        · simp only [List.mem_cons, List.not_mem_nil, or_false] at hz
          rcases hz with rfl
          · exact ⟨by decide, cl_L_1, by decide⟩
        · refine a_astore_n (lv' := [(3, .ref q), (0, .ref (ga X.G 0)), (1, .int p1), (2, .ref (ga X.G 170))]) (pc := 15) F dL_append_15 (by decide) rfl ?_
          refine a_iconst (v := 2) (pc := 16) F dL_append_16 (by decide) ?_
          exact w_iret (pc := 17) F dL_append_17 rfl
      · simp only [if_neg q0, if_neg q1] at h
        cases h
def w_L_addList (m0 : Mem) : Option (Int32 × Mem) :=
  bnd (e_X7_addList m0) fun o => match o with
    | .inl (v, m1) => some (0, slm m1 170 0 v.toInt64)
    | .inr (k, m1) => if k = 1 then some (1, m1) else if k = 2 then some (2, m1) else  none
set_option maxRecDepth 100000 in
set_option maxHeartbeats 4000000 in
theorem mw_L_addList {m0 : Mem} {rr : Int32} {mm : Mem} (h : w_L_addList m0 = some (rr, mm)) : ConW yL_addList cL_addList 3 (some .int) [((0 : Nat), (8 : Nat), (11 : Nat), (13 : Nat)), ((0 : Nat), (8 : Nat), (14 : Nat), (15 : Nat))] 7 154 (fun G => [.ref (ga G 0), .ref (ga G 170)]) m0 (some (.int rr)) mm := by
  refine conw_of (by decide) (fun G => Nat.le_of_ble_eq_true rfl) (fun X F FT => ?_)
  show WA X 0 0 0 [(0, .ref (ga X.G 0)), (1, .ref (ga X.G 170))] [] m0 (EQW X (some (.int rr)) mm)
  rw [w_L_addList] at h
  replace h := bnd_some h
  obtain ⟨o, hc1, h⟩ := h
  refine a_aload_n (pc := 0) F dL_addList_0 1 rfl ?_
  refine a_iconst (v := 0) (pc := 1) F dL_addList_1 (by decide) ?_
  refine a_aload_n (pc := 2) F dL_addList_2 0 rfl ?_
  refine w_call (pc := 3) (k := 0) (As := []) (st := [.int 0, .ref (ga X.G 170)]) F FT dL_addList_3 (mx_X7_addList hc1) cv_RL_49 kl_0 ks_0 ⟨_, _, rfl⟩ rfl rfl rfl (Nat.le_of_ble_eq_true rfl) ⟨Nat.le_of_ble_eq_true rfl, Nat.le_of_ble_eq_true rfl⟩ (fun r m1 ho => ?_) (fun E m1 ho => ?_)
  · obtain ⟨v, m2⟩ | ⟨k, m2⟩ := o
    · cases ho
      cases h
      refine a_i2l (pc := 6) F dL_addList_6 ?_
      refine a_lasc (k := 170) (j := 0) (pc := 7) F dL_addList_7 kl_170 ks_170 rfl rfl ?_
      refine a_goto (tgt := 17) (pc := 8) F dL_addList_8 (by decide) ?_
      refine a_iconst (v := 0) (pc := 17) F dL_addList_17 (by decide) ?_
      exact w_iret (pc := 18) F dL_addList_18 rfl
    · cases ho
  · obtain ⟨v, m2⟩ | ⟨k, m2⟩ := o
    · cases ho
    · cases ho
      dsimp only at h
      by_cases q0 : k = 1
      · subst q0
        simp only [reduceIte, Nat.reduceEqDiff, if_true, if_false] at h
        cases h
        refine w_catch (E := xIAE) F FT [] (0, 8, 11, 13) [(0, 8, 14, 15)] rfl (fun z hz => ?_) (by decide) (by decide) cl_L_1 (by decide +kernel) (fun q => ?_)
        · cases hz
        · refine a_astore_n (lv' := [(2, .ref q), (0, .ref (ga X.G 0)), (1, .ref (ga X.G 170))]) (pc := 11) F dL_addList_11 (by decide) rfl ?_
          refine a_iconst (v := 1) (pc := 12) F dL_addList_12 (by decide) ?_
          exact w_iret (pc := 13) F dL_addList_13 rfl
      by_cases q1 : k = 2
      · subst q1
        simp only [reduceIte, Nat.reduceEqDiff, if_true, if_false] at h
        cases h
        refine w_catch (E := xISE) F FT [((0, 8, 11, 13), xIAE)] (0, 8, 14, 15) [] rfl (fun z hz => ?_) (by decide) (by decide) cl_L_2 (by decide +kernel) (fun q => ?_)
        · simp only [List.mem_cons, List.not_mem_nil, or_false] at hz
          rcases hz with rfl
          · exact ⟨by decide, cl_L_1, by decide⟩
        · refine a_astore_n (lv' := [(2, .ref q), (0, .ref (ga X.G 0)), (1, .ref (ga X.G 170))]) (pc := 14) F dL_addList_14 (by decide) rfl ?_
          refine a_iconst (v := 2) (pc := 15) F dL_addList_15 (by decide) ?_
          exact w_iret (pc := 16) F dL_addList_16 rfl
      · simp only [if_neg q0, if_neg q1] at h
        cases h
def w_L_undo (m0 : Mem) : Option (Int32 × Mem) :=
  bnd (e_X7_undo m0) fun o => match o with
    | .inl (v, m1) => some (0, slm m1 170 0 v.toInt64)
    | .inr (k, m1) => if k = 2 then some (1, m1) else  none
set_option maxRecDepth 100000 in
set_option maxHeartbeats 4000000 in
theorem mw_L_undo {m0 : Mem} {rr : Int32} {mm : Mem} (h : w_L_undo m0 = some (rr, mm)) : ConW yL_undo cL_undo 3 (some .int) [((0 : Nat), (8 : Nat), (11 : Nat), (15 : Nat))] 7 124 (fun G => [.ref (ga G 0), .ref (ga G 170)]) m0 (some (.int rr)) mm := by
  refine conw_of (by decide) (fun G => Nat.le_of_ble_eq_true rfl) (fun X F FT => ?_)
  show WA X 0 0 0 [(0, .ref (ga X.G 0)), (1, .ref (ga X.G 170))] [] m0 (EQW X (some (.int rr)) mm)
  rw [w_L_undo] at h
  replace h := bnd_some h
  obtain ⟨o, hc1, h⟩ := h
  refine a_aload_n (pc := 0) F dL_undo_0 1 rfl ?_
  refine a_iconst (v := 0) (pc := 1) F dL_undo_1 (by decide) ?_
  refine a_aload_n (pc := 2) F dL_undo_2 0 rfl ?_
  refine w_call (pc := 3) (k := 0) (As := []) (st := [.int 0, .ref (ga X.G 170)]) F FT dL_undo_3 (mx_X7_undo hc1) cv_RL_53 kl_0 ks_0 ⟨_, _, rfl⟩ rfl rfl rfl (Nat.le_of_ble_eq_true rfl) ⟨Nat.le_of_ble_eq_true rfl, Nat.le_of_ble_eq_true rfl⟩ (fun r m1 ho => ?_) (fun E m1 ho => ?_)
  · obtain ⟨v, m2⟩ | ⟨k, m2⟩ := o
    · cases ho
      cases h
      refine a_i2l (pc := 6) F dL_undo_6 ?_
      refine a_lasc (k := 170) (j := 0) (pc := 7) F dL_undo_7 kl_170 ks_170 rfl rfl ?_
      refine a_goto (tgt := 14) (pc := 8) F dL_undo_8 (by decide) ?_
      refine a_iconst (v := 0) (pc := 14) F dL_undo_14 (by decide) ?_
      exact w_iret (pc := 15) F dL_undo_15 rfl
    · cases ho
  · obtain ⟨v, m2⟩ | ⟨k, m2⟩ := o
    · cases ho
    · cases ho
      dsimp only at h
      by_cases q0 : k = 2
      · subst q0
        simp only [reduceIte, Nat.reduceEqDiff, if_true, if_false] at h
        cases h
        refine w_catch (E := xISE) F FT [] (0, 8, 11, 15) [] rfl (fun z hz => ?_) (by decide) (by decide) cl_L_2 (by decide +kernel) (fun q => ?_)
        · cases hz
        · refine a_astore_n (lv' := [(2, .ref q), (0, .ref (ga X.G 0)), (1, .ref (ga X.G 170))]) (pc := 11) F dL_undo_11 (by decide) rfl ?_
          refine a_iconst (v := 1) (pc := 12) F dL_undo_12 (by decide) ?_
          exact w_iret (pc := 13) F dL_undo_13 rfl
      · simp only [if_neg q0] at h
        cases h
def w_L_interpreter (p1 : Int32) (p2 : Int32) (m0 : Mem) : Option (Int32 × Mem) :=
  bnd (e_X7_interpreter p1 p2 m0) fun o => match o with
    | .inl (v, m1) => some (0, slm m1 170 0 v.toInt64)
    | .inr (k, m1) => if k = 3 then some (1, m1) else if k = 1 then some (2, m1) else  none
set_option maxRecDepth 100000 in
set_option maxHeartbeats 4000000 in
theorem mw_L_interpreter {p1 : Int32} {p2 : Int32} {m0 : Mem} {rr : Int32} {mm : Mem} (h : w_L_interpreter p1 p2 m0 = some (rr, mm)) : ConW yL_interpreter cL_interpreter 5 (some .int) [((0 : Nat), (10 : Nat), (13 : Nat), (25 : Nat)), ((0 : Nat), (10 : Nat), (17 : Nat), (13 : Nat))] 7 109 (fun G => [.ref (ga G 0), .int p1, .int p2, .ref (ga G 170)]) m0 (some (.int rr)) mm := by
  refine conw_of (by decide) (fun G => Nat.le_of_ble_eq_true rfl) (fun X F FT => ?_)
  show WA X 0 0 0 [(0, .ref (ga X.G 0)), (1, .int p1), (2, .int p2), (3, .ref (ga X.G 170))] [] m0 (EQW X (some (.int rr)) mm)
  rw [w_L_interpreter] at h
  replace h := bnd_some h
  obtain ⟨o, hc1, h⟩ := h
  refine a_aload_n (pc := 0) F dL_interpreter_0 3 rfl ?_
  refine a_iconst (v := 0) (pc := 1) F dL_interpreter_1 (by decide) ?_
  refine a_aload_n (pc := 2) F dL_interpreter_2 0 rfl ?_
  refine a_iload_n (pc := 3) F dL_interpreter_3 1 rfl ?_
  refine a_iload_n (pc := 4) F dL_interpreter_4 2 rfl ?_
  refine w_call (pc := 5) (k := 0) (As := [.int p1, .int p2]) (st := [.int 0, .ref (ga X.G 170)]) F FT dL_interpreter_5 (mx_X7_interpreter hc1) cv_RL_56 kl_0 ks_0 ⟨_, _, rfl⟩ rfl rfl rfl (Nat.le_of_ble_eq_true rfl) ⟨Nat.le_of_ble_eq_true rfl, Nat.le_of_ble_eq_true rfl⟩ (fun r m1 ho => ?_) (fun E m1 ho => ?_)
  · obtain ⟨v, m2⟩ | ⟨k, m2⟩ := o
    · cases ho
      cases h
      refine a_i2l (pc := 8) F dL_interpreter_8 ?_
      refine a_lasc (k := 170) (j := 0) (pc := 9) F dL_interpreter_9 kl_170 ks_170 rfl rfl ?_
      refine a_goto (tgt := 21) (pc := 10) F dL_interpreter_10 (by decide) ?_
      refine a_iconst (v := 0) (pc := 21) F dL_interpreter_21 (by decide) ?_
      exact w_iret (pc := 22) F dL_interpreter_22 rfl
    · cases ho
  · obtain ⟨v, m2⟩ | ⟨k, m2⟩ := o
    · cases ho
    · cases ho
      dsimp only at h
      by_cases q0 : k = 3
      · subst q0
        simp only [reduceIte, Nat.reduceEqDiff, if_true, if_false] at h
        cases h
        refine w_catch (E := xIOB) F FT [] (0, 10, 13, 25) [(0, 10, 17, 13)] rfl (fun z hz => ?_) (by decide) (by decide) cl_L_3 (by decide +kernel) (fun q => ?_)
        · cases hz
        · refine a_astore (lv' := [(4, .ref q), (0, .ref (ga X.G 0)), (1, .int p1), (2, .int p2), (3, .ref (ga X.G 170))]) (pc := 13) F dL_interpreter_13 (by decide) rfl ?_
          refine a_iconst (v := 1) (pc := 15) F dL_interpreter_15 (by decide) ?_
          exact w_iret (pc := 16) F dL_interpreter_16 rfl
      by_cases q1 : k = 1
      · subst q1
        simp only [reduceIte, Nat.reduceEqDiff, if_true, if_false] at h
        cases h
        refine w_catch (E := xIAE) F FT [((0, 10, 13, 25), xIOB)] (0, 10, 17, 13) [] rfl (fun z hz => ?_) (by decide) (by decide) cl_L_1 (by decide +kernel) (fun q => ?_)
        · simp only [List.mem_cons, List.not_mem_nil, or_false] at hz
          rcases hz with rfl
          · exact ⟨by decide, cl_L_3, by decide⟩
        · refine a_astore (lv' := [(4, .ref q), (0, .ref (ga X.G 0)), (1, .int p1), (2, .int p2), (3, .ref (ga X.G 170))]) (pc := 17) F dL_interpreter_17 (by decide) rfl ?_
          refine a_iconst (v := 2) (pc := 19) F dL_interpreter_19 (by decide) ?_
          exact w_iret (pc := 20) F dL_interpreter_20 rfl
      · simp only [if_neg q0, if_neg q1] at h
        cases h
def w_L_hearing (p1 : Int32) (p2 : Int32) (m0 : Mem) : Option (Int32 × Mem) :=
  bnd (e_X7_hearing p1 p2 m0) fun o => match o with
    | .inl (v, m1) => some (0, slm m1 170 0 v.toInt64)
    | .inr (k, m1) => if k = 3 then some (1, m1) else if k = 1 then some (2, m1) else  none
set_option maxRecDepth 100000 in
set_option maxHeartbeats 4000000 in
theorem mw_L_hearing {p1 : Int32} {p2 : Int32} {m0 : Mem} {rr : Int32} {mm : Mem} (h : w_L_hearing p1 p2 m0 = some (rr, mm)) : ConW yL_hearing cL_hearing 5 (some .int) [((0 : Nat), (10 : Nat), (13 : Nat), (25 : Nat)), ((0 : Nat), (10 : Nat), (17 : Nat), (13 : Nat))] 7 115 (fun G => [.ref (ga G 0), .int p1, .int p2, .ref (ga G 170)]) m0 (some (.int rr)) mm := by
  refine conw_of (by decide) (fun G => Nat.le_of_ble_eq_true rfl) (fun X F FT => ?_)
  show WA X 0 0 0 [(0, .ref (ga X.G 0)), (1, .int p1), (2, .int p2), (3, .ref (ga X.G 170))] [] m0 (EQW X (some (.int rr)) mm)
  rw [w_L_hearing] at h
  replace h := bnd_some h
  obtain ⟨o, hc1, h⟩ := h
  refine a_aload_n (pc := 0) F dL_hearing_0 3 rfl ?_
  refine a_iconst (v := 0) (pc := 1) F dL_hearing_1 (by decide) ?_
  refine a_aload_n (pc := 2) F dL_hearing_2 0 rfl ?_
  refine a_iload_n (pc := 3) F dL_hearing_3 1 rfl ?_
  refine a_iload_n (pc := 4) F dL_hearing_4 2 rfl ?_
  refine w_call (pc := 5) (k := 0) (As := [.int p1, .int p2]) (st := [.int 0, .ref (ga X.G 170)]) F FT dL_hearing_5 (mx_X7_hearing hc1) cv_RL_59 kl_0 ks_0 ⟨_, _, rfl⟩ rfl rfl rfl (Nat.le_of_ble_eq_true rfl) ⟨Nat.le_of_ble_eq_true rfl, Nat.le_of_ble_eq_true rfl⟩ (fun r m1 ho => ?_) (fun E m1 ho => ?_)
  · obtain ⟨v, m2⟩ | ⟨k, m2⟩ := o
    · cases ho
      cases h
      refine a_i2l (pc := 8) F dL_hearing_8 ?_
      refine a_lasc (k := 170) (j := 0) (pc := 9) F dL_hearing_9 kl_170 ks_170 rfl rfl ?_
      refine a_goto (tgt := 21) (pc := 10) F dL_hearing_10 (by decide) ?_
      refine a_iconst (v := 0) (pc := 21) F dL_hearing_21 (by decide) ?_
      exact w_iret (pc := 22) F dL_hearing_22 rfl
    · cases ho
  · obtain ⟨v, m2⟩ | ⟨k, m2⟩ := o
    · cases ho
    · cases ho
      dsimp only at h
      by_cases q0 : k = 3
      · subst q0
        simp only [reduceIte, Nat.reduceEqDiff, if_true, if_false] at h
        cases h
        refine w_catch (E := xIOB) F FT [] (0, 10, 13, 25) [(0, 10, 17, 13)] rfl (fun z hz => ?_) (by decide) (by decide) cl_L_3 (by decide +kernel) (fun q => ?_)
        · cases hz
        · refine a_astore (lv' := [(4, .ref q), (0, .ref (ga X.G 0)), (1, .int p1), (2, .int p2), (3, .ref (ga X.G 170))]) (pc := 13) F dL_hearing_13 (by decide) rfl ?_
          refine a_iconst (v := 1) (pc := 15) F dL_hearing_15 (by decide) ?_
          exact w_iret (pc := 16) F dL_hearing_16 rfl
      by_cases q1 : k = 1
      · subst q1
        simp only [reduceIte, Nat.reduceEqDiff, if_true, if_false] at h
        cases h
        refine w_catch (E := xIAE) F FT [((0, 10, 13, 25), xIOB)] (0, 10, 17, 13) [] rfl (fun z hz => ?_) (by decide) (by decide) cl_L_1 (by decide +kernel) (fun q => ?_)
        · simp only [List.mem_cons, List.not_mem_nil, or_false] at hz
          rcases hz with rfl
          · exact ⟨by decide, cl_L_3, by decide⟩
        · refine a_astore (lv' := [(4, .ref q), (0, .ref (ga X.G 0)), (1, .int p1), (2, .int p2), (3, .ref (ga X.G 170))]) (pc := 17) F dL_hearing_17 (by decide) rfl ?_
          refine a_iconst (v := 2) (pc := 19) F dL_hearing_19 (by decide) ?_
          exact w_iret (pc := 20) F dL_hearing_20 rfl
      · simp only [if_neg q0, if_neg q1] at h
        cases h
def w_L_count (p1 : Int32) (m0 : Mem) : Option (Int32 × Mem) :=
  bnd (e_X7_count p1 m0) fun o => match o with
    | .inl (v, m1) => some (0, slm m1 170 0 v.toInt64)
    | .inr (k, m1) => if k = 1 then some (1, m1) else  none
set_option maxRecDepth 100000 in
set_option maxHeartbeats 4000000 in
theorem mw_L_count {p1 : Int32} {m0 : Mem} {rr : Int32} {mm : Mem} (h : w_L_count p1 m0 = some (rr, mm)) : ConW yL_count cL_count 4 (some .int) [((0 : Nat), (9 : Nat), (12 : Nat), (13 : Nat))] 7 106 (fun G => [.ref (ga G 0), .int p1, .ref (ga G 170)]) m0 (some (.int rr)) mm := by
  refine conw_of (by decide) (fun G => Nat.le_of_ble_eq_true rfl) (fun X F FT => ?_)
  show WA X 0 0 0 [(0, .ref (ga X.G 0)), (1, .int p1), (2, .ref (ga X.G 170))] [] m0 (EQW X (some (.int rr)) mm)
  rw [w_L_count] at h
  replace h := bnd_some h
  obtain ⟨o, hc1, h⟩ := h
  refine a_aload_n (pc := 0) F dL_count_0 2 rfl ?_
  refine a_iconst (v := 0) (pc := 1) F dL_count_1 (by decide) ?_
  refine a_aload_n (pc := 2) F dL_count_2 0 rfl ?_
  refine a_iload_n (pc := 3) F dL_count_3 1 rfl ?_
  refine w_call (pc := 4) (k := 0) (As := [.int p1]) (st := [.int 0, .ref (ga X.G 170)]) F FT dL_count_4 (mx_X7_count hc1) cv_RL_62 kl_0 ks_0 ⟨_, _, rfl⟩ rfl rfl rfl (Nat.le_of_ble_eq_true rfl) ⟨Nat.le_of_ble_eq_true rfl, Nat.le_of_ble_eq_true rfl⟩ (fun r m1 ho => ?_) (fun E m1 ho => ?_)
  · obtain ⟨v, m2⟩ | ⟨k, m2⟩ := o
    · cases ho
      cases h
      refine a_i2l (pc := 7) F dL_count_7 ?_
      refine a_lasc (k := 170) (j := 0) (pc := 8) F dL_count_8 kl_170 ks_170 rfl rfl ?_
      refine a_goto (tgt := 15) (pc := 9) F dL_count_9 (by decide) ?_
      refine a_iconst (v := 0) (pc := 15) F dL_count_15 (by decide) ?_
      exact w_iret (pc := 16) F dL_count_16 rfl
    · cases ho
  · obtain ⟨v, m2⟩ | ⟨k, m2⟩ := o
    · cases ho
    · cases ho
      dsimp only at h
      by_cases q0 : k = 1
      · subst q0
        simp only [reduceIte, Nat.reduceEqDiff, if_true, if_false] at h
        cases h
        refine w_catch (E := xIAE) F FT [] (0, 9, 12, 13) [] rfl (fun z hz => ?_) (by decide) (by decide) cl_L_1 (by decide +kernel) (fun q => ?_)
        · cases hz
        · refine a_astore_n (lv' := [(3, .ref q), (0, .ref (ga X.G 0)), (1, .int p1), (2, .ref (ga X.G 170))]) (pc := 12) F dL_count_12 (by decide) rfl ?_
          refine a_iconst (v := 1) (pc := 13) F dL_count_13 (by decide) ?_
          exact w_iret (pc := 14) F dL_count_14 rfl
      · simp only [if_neg q0] at h
        cases h
def w_L_setting (p1 : Int32) (m0 : Mem) : Option (Int32 × Mem) :=
  bnd (e_X7_setting p1 m0) fun o => match o with
    | .inl (v, m1) => some (0, slm m1 170 0 v.toInt64)
    | .inr (k, m1) => if k = 3 then some (1, m1) else  none
set_option maxRecDepth 100000 in
set_option maxHeartbeats 4000000 in
theorem mw_L_setting {p1 : Int32} {m0 : Mem} {rr : Int32} {mm : Mem} (h : w_L_setting p1 m0 = some (rr, mm)) : ConW yL_setting cL_setting 4 (some .int) [((0 : Nat), (9 : Nat), (12 : Nat), (25 : Nat))] 7 103 (fun G => [.ref (ga G 0), .int p1, .ref (ga G 170)]) m0 (some (.int rr)) mm := by
  refine conw_of (by decide) (fun G => Nat.le_of_ble_eq_true rfl) (fun X F FT => ?_)
  show WA X 0 0 0 [(0, .ref (ga X.G 0)), (1, .int p1), (2, .ref (ga X.G 170))] [] m0 (EQW X (some (.int rr)) mm)
  rw [w_L_setting] at h
  replace h := bnd_some h
  obtain ⟨o, hc1, h⟩ := h
  refine a_aload_n (pc := 0) F dL_setting_0 2 rfl ?_
  refine a_iconst (v := 0) (pc := 1) F dL_setting_1 (by decide) ?_
  refine a_aload_n (pc := 2) F dL_setting_2 0 rfl ?_
  refine a_iload_n (pc := 3) F dL_setting_3 1 rfl ?_
  refine w_call (pc := 4) (k := 0) (As := [.int p1]) (st := [.int 0, .ref (ga X.G 170)]) F FT dL_setting_4 (mx_X7_setting hc1) cv_RL_65 kl_0 ks_0 ⟨_, _, rfl⟩ rfl rfl rfl (Nat.le_of_ble_eq_true rfl) ⟨Nat.le_of_ble_eq_true rfl, Nat.le_of_ble_eq_true rfl⟩ (fun r m1 ho => ?_) (fun E m1 ho => ?_)
  · obtain ⟨v, m2⟩ | ⟨k, m2⟩ := o
    · cases ho
      cases h
      refine a_i2l (pc := 7) F dL_setting_7 ?_
      refine a_lasc (k := 170) (j := 0) (pc := 8) F dL_setting_8 kl_170 ks_170 rfl rfl ?_
      refine a_goto (tgt := 15) (pc := 9) F dL_setting_9 (by decide) ?_
      refine a_iconst (v := 0) (pc := 15) F dL_setting_15 (by decide) ?_
      exact w_iret (pc := 16) F dL_setting_16 rfl
    · cases ho
  · obtain ⟨v, m2⟩ | ⟨k, m2⟩ := o
    · cases ho
    · cases ho
      dsimp only at h
      by_cases q0 : k = 3
      · subst q0
        simp only [reduceIte, Nat.reduceEqDiff, if_true, if_false] at h
        cases h
        refine w_catch (E := xIOB) F FT [] (0, 9, 12, 25) [] rfl (fun z hz => ?_) (by decide) (by decide) cl_L_3 (by decide +kernel) (fun q => ?_)
        · cases hz
        · refine a_astore_n (lv' := [(3, .ref q), (0, .ref (ga X.G 0)), (1, .int p1), (2, .ref (ga X.G 170))]) (pc := 12) F dL_setting_12 (by decide) rfl ?_
          refine a_iconst (v := 1) (pc := 13) F dL_setting_13 (by decide) ?_
          exact w_iret (pc := 14) F dL_setting_14 rfl
      · simp only [if_neg q0] at h
        cases h
def w_L_whyNot (p1 : Int32) (p2 : Int32) (p3 : Int32) (p4 : Int32) (m0 : Mem) : Option (Int32 × Mem) :=
  bnd (e_X7_whyNot p1 p2 p3 p4 m0) fun o => match o with
    | .inl (v, m1) => some (0, slm m1 170 0 v.toInt64)
    | .inr (k, m1) => if k = 3 then some (1, m1) else if k = 1 then some (2, m1) else  none
set_option maxRecDepth 100000 in
set_option maxHeartbeats 4000000 in
theorem mw_L_whyNot {p1 : Int32} {p2 : Int32} {p3 : Int32} {p4 : Int32} {m0 : Mem} {rr : Int32} {mm : Mem} (h : w_L_whyNot p1 p2 p3 p4 m0 = some (rr, mm)) : ConW yL_whyNot cL_whyNot 7 (some .int) [((0 : Nat), (14 : Nat), (17 : Nat), (25 : Nat)), ((0 : Nat), (14 : Nat), (21 : Nat), (13 : Nat))] 7 117 (fun G => [.ref (ga G 0), .int p1, .int p2, .int p3, .int p4, .ref (ga G 170)]) m0 (some (.int rr)) mm := by
  refine conw_of (by decide) (fun G => Nat.le_of_ble_eq_true rfl) (fun X F FT => ?_)
  show WA X 0 0 0 [(0, .ref (ga X.G 0)), (1, .int p1), (2, .int p2), (3, .int p3), (4, .int p4), (5, .ref (ga X.G 170))] [] m0 (EQW X (some (.int rr)) mm)
  rw [w_L_whyNot] at h
  replace h := bnd_some h
  obtain ⟨o, hc1, h⟩ := h
  refine a_aload (pc := 0) F dL_whyNot_0 5 rfl ?_
  refine a_iconst (v := 0) (pc := 2) F dL_whyNot_2 (by decide) ?_
  refine a_aload_n (pc := 3) F dL_whyNot_3 0 rfl ?_
  refine a_iload_n (pc := 4) F dL_whyNot_4 1 rfl ?_
  refine a_iload_n (pc := 5) F dL_whyNot_5 2 rfl ?_
  refine a_iload_n (pc := 6) F dL_whyNot_6 3 rfl ?_
  refine a_iload (pc := 7) F dL_whyNot_7 4 rfl ?_
  refine w_call (pc := 9) (k := 0) (As := [.int p1, .int p2, .int p3, .int p4]) (st := [.int 0, .ref (ga X.G 170)]) F FT dL_whyNot_9 (mx_X7_whyNot hc1) cv_RL_68 kl_0 ks_0 ⟨_, _, rfl⟩ rfl rfl rfl (Nat.le_of_ble_eq_true rfl) ⟨Nat.le_of_ble_eq_true rfl, Nat.le_of_ble_eq_true rfl⟩ (fun r m1 ho => ?_) (fun E m1 ho => ?_)
  · obtain ⟨v, m2⟩ | ⟨k, m2⟩ := o
    · cases ho
      cases h
      refine a_i2l (pc := 12) F dL_whyNot_12 ?_
      refine a_lasc (k := 170) (j := 0) (pc := 13) F dL_whyNot_13 kl_170 ks_170 rfl rfl ?_
      refine a_goto (tgt := 25) (pc := 14) F dL_whyNot_14 (by decide) ?_
      refine a_iconst (v := 0) (pc := 25) F dL_whyNot_25 (by decide) ?_
      exact w_iret (pc := 26) F dL_whyNot_26 rfl
    · cases ho
  · obtain ⟨v, m2⟩ | ⟨k, m2⟩ := o
    · cases ho
    · cases ho
      dsimp only at h
      by_cases q0 : k = 3
      · subst q0
        simp only [reduceIte, Nat.reduceEqDiff, if_true, if_false] at h
        cases h
        refine w_catch (E := xIOB) F FT [] (0, 14, 17, 25) [(0, 14, 21, 13)] rfl (fun z hz => ?_) (by decide) (by decide) cl_L_3 (by decide +kernel) (fun q => ?_)
        · cases hz
        · refine a_astore (lv' := [(6, .ref q), (0, .ref (ga X.G 0)), (1, .int p1), (2, .int p2), (3, .int p3), (4, .int p4), (5, .ref (ga X.G 170))]) (pc := 17) F dL_whyNot_17 (by decide) rfl ?_
          refine a_iconst (v := 1) (pc := 19) F dL_whyNot_19 (by decide) ?_
          exact w_iret (pc := 20) F dL_whyNot_20 rfl
      by_cases q1 : k = 1
      · subst q1
        simp only [reduceIte, Nat.reduceEqDiff, if_true, if_false] at h
        cases h
        refine w_catch (E := xIAE) F FT [((0, 14, 17, 25), xIOB)] (0, 14, 21, 13) [] rfl (fun z hz => ?_) (by decide) (by decide) cl_L_1 (by decide +kernel) (fun q => ?_)
        · simp only [List.mem_cons, List.not_mem_nil, or_false] at hz
          rcases hz with rfl
          · exact ⟨by decide, cl_L_3, by decide⟩
        · refine a_astore (lv' := [(6, .ref q), (0, .ref (ga X.G 0)), (1, .int p1), (2, .int p2), (3, .int p3), (4, .int p4), (5, .ref (ga X.G 170))]) (pc := 21) F dL_whyNot_21 (by decide) rfl ?_
          refine a_iconst (v := 2) (pc := 23) F dL_whyNot_23 (by decide) ?_
          exact w_iret (pc := 24) F dL_whyNot_24 rfl
      · simp only [if_neg q0, if_neg q1] at h
        cases h
def w_L_cheapest (p1 : Int32) (p2 : Int32) (m0 : Mem) : Option (Int32 × Mem) :=
  bnd (e_X7_cheapest p1 p2 m0) fun o => match o with
    | .inl (v, m1) => some (0, slm m1 170 0 v.toInt64)
    | .inr (k, m1) => if k = 3 then some (1, m1) else if k = 1 then some (2, m1) else  none
set_option maxRecDepth 100000 in
set_option maxHeartbeats 4000000 in
theorem mw_L_cheapest {p1 : Int32} {p2 : Int32} {m0 : Mem} {rr : Int32} {mm : Mem} (h : w_L_cheapest p1 p2 m0 = some (rr, mm)) : ConW yL_cheapest cL_cheapest 5 (some .int) [((0 : Nat), (10 : Nat), (13 : Nat), (25 : Nat)), ((0 : Nat), (10 : Nat), (17 : Nat), (13 : Nat))] 7 145 (fun G => [.ref (ga G 0), .int p1, .int p2, .ref (ga G 170)]) m0 (some (.int rr)) mm := by
  refine conw_of (by decide) (fun G => Nat.le_of_ble_eq_true rfl) (fun X F FT => ?_)
  show WA X 0 0 0 [(0, .ref (ga X.G 0)), (1, .int p1), (2, .int p2), (3, .ref (ga X.G 170))] [] m0 (EQW X (some (.int rr)) mm)
  rw [w_L_cheapest] at h
  replace h := bnd_some h
  obtain ⟨o, hc1, h⟩ := h
  refine a_aload_n (pc := 0) F dL_cheapest_0 3 rfl ?_
  refine a_iconst (v := 0) (pc := 1) F dL_cheapest_1 (by decide) ?_
  refine a_aload_n (pc := 2) F dL_cheapest_2 0 rfl ?_
  refine a_iload_n (pc := 3) F dL_cheapest_3 1 rfl ?_
  refine a_iload_n (pc := 4) F dL_cheapest_4 2 rfl ?_
  refine w_call (pc := 5) (k := 0) (As := [.int p1, .int p2]) (st := [.int 0, .ref (ga X.G 170)]) F FT dL_cheapest_5 (mx_X7_cheapest hc1) cv_RL_71 kl_0 ks_0 ⟨_, _, rfl⟩ rfl rfl rfl (Nat.le_of_ble_eq_true rfl) ⟨Nat.le_of_ble_eq_true rfl, Nat.le_of_ble_eq_true rfl⟩ (fun r m1 ho => ?_) (fun E m1 ho => ?_)
  · obtain ⟨v, m2⟩ | ⟨k, m2⟩ := o
    · cases ho
      cases h
      refine a_i2l (pc := 8) F dL_cheapest_8 ?_
      refine a_lasc (k := 170) (j := 0) (pc := 9) F dL_cheapest_9 kl_170 ks_170 rfl rfl ?_
      refine a_goto (tgt := 21) (pc := 10) F dL_cheapest_10 (by decide) ?_
      refine a_iconst (v := 0) (pc := 21) F dL_cheapest_21 (by decide) ?_
      exact w_iret (pc := 22) F dL_cheapest_22 rfl
    · cases ho
  · obtain ⟨v, m2⟩ | ⟨k, m2⟩ := o
    · cases ho
    · cases ho
      dsimp only at h
      by_cases q0 : k = 3
      · subst q0
        simp only [reduceIte, Nat.reduceEqDiff, if_true, if_false] at h
        cases h
        refine w_catch (E := xIOB) F FT [] (0, 10, 13, 25) [(0, 10, 17, 13)] rfl (fun z hz => ?_) (by decide) (by decide) cl_L_3 (by decide +kernel) (fun q => ?_)
        · cases hz
        · refine a_astore (lv' := [(4, .ref q), (0, .ref (ga X.G 0)), (1, .int p1), (2, .int p2), (3, .ref (ga X.G 170))]) (pc := 13) F dL_cheapest_13 (by decide) rfl ?_
          refine a_iconst (v := 1) (pc := 15) F dL_cheapest_15 (by decide) ?_
          exact w_iret (pc := 16) F dL_cheapest_16 rfl
      by_cases q1 : k = 1
      · subst q1
        simp only [reduceIte, Nat.reduceEqDiff, if_true, if_false] at h
        cases h
        refine w_catch (E := xIAE) F FT [((0, 10, 13, 25), xIOB)] (0, 10, 17, 13) [] rfl (fun z hz => ?_) (by decide) (by decide) cl_L_1 (by decide +kernel) (fun q => ?_)
        · simp only [List.mem_cons, List.not_mem_nil, or_false] at hz
          rcases hz with rfl
          · exact ⟨by decide, cl_L_3, by decide⟩
        · refine a_astore (lv' := [(4, .ref q), (0, .ref (ga X.G 0)), (1, .int p1), (2, .int p2), (3, .ref (ga X.G 170))]) (pc := 17) F dL_cheapest_17 (by decide) rfl ?_
          refine a_iconst (v := 2) (pc := 19) F dL_cheapest_19 (by decide) ?_
          exact w_iret (pc := 20) F dL_cheapest_20 rfl
      · simp only [if_neg q0, if_neg q1] at h
        cases h
def w_L_tiredIn (p1 : Int32) (p2 : Int32) (m0 : Mem) : Option (Int32 × Mem) :=
  bnd (e_X7_tiredIn p1 p2 m0) fun o => match o with
    | .inl (v, m1) => some (0, slm m1 170 0 v.toInt64)
    | .inr (k, m1) => if k = 3 then some (1, m1) else if k = 1 then some (2, m1) else  none
set_option maxRecDepth 100000 in
set_option maxHeartbeats 4000000 in
theorem mw_L_tiredIn {p1 : Int32} {p2 : Int32} {m0 : Mem} {rr : Int32} {mm : Mem} (h : w_L_tiredIn p1 p2 m0 = some (rr, mm)) : ConW yL_tiredIn cL_tiredIn 5 (some .int) [((0 : Nat), (10 : Nat), (13 : Nat), (25 : Nat)), ((0 : Nat), (10 : Nat), (17 : Nat), (13 : Nat))] 7 162 (fun G => [.ref (ga G 0), .int p1, .int p2, .ref (ga G 170)]) m0 (some (.int rr)) mm := by
  refine conw_of (by decide) (fun G => Nat.le_of_ble_eq_true rfl) (fun X F FT => ?_)
  show WA X 0 0 0 [(0, .ref (ga X.G 0)), (1, .int p1), (2, .int p2), (3, .ref (ga X.G 170))] [] m0 (EQW X (some (.int rr)) mm)
  rw [w_L_tiredIn] at h
  replace h := bnd_some h
  obtain ⟨o, hc1, h⟩ := h
  refine a_aload_n (pc := 0) F dL_tiredIn_0 3 rfl ?_
  refine a_iconst (v := 0) (pc := 1) F dL_tiredIn_1 (by decide) ?_
  refine a_aload_n (pc := 2) F dL_tiredIn_2 0 rfl ?_
  refine a_iload_n (pc := 3) F dL_tiredIn_3 1 rfl ?_
  refine a_iload_n (pc := 4) F dL_tiredIn_4 2 rfl ?_
  refine w_call (pc := 5) (k := 0) (As := [.int p1, .int p2]) (st := [.int 0, .ref (ga X.G 170)]) F FT dL_tiredIn_5 (mx_X7_tiredIn hc1) cv_RL_74 kl_0 ks_0 ⟨_, _, rfl⟩ rfl rfl rfl (Nat.le_of_ble_eq_true rfl) ⟨Nat.le_of_ble_eq_true rfl, Nat.le_of_ble_eq_true rfl⟩ (fun r m1 ho => ?_) (fun E m1 ho => ?_)
  · obtain ⟨v, m2⟩ | ⟨k, m2⟩ := o
    · cases ho
      cases h
      refine a_i2l (pc := 8) F dL_tiredIn_8 ?_
      refine a_lasc (k := 170) (j := 0) (pc := 9) F dL_tiredIn_9 kl_170 ks_170 rfl rfl ?_
      refine a_goto (tgt := 21) (pc := 10) F dL_tiredIn_10 (by decide) ?_
      refine a_iconst (v := 0) (pc := 21) F dL_tiredIn_21 (by decide) ?_
      exact w_iret (pc := 22) F dL_tiredIn_22 rfl
    · cases ho
  · obtain ⟨v, m2⟩ | ⟨k, m2⟩ := o
    · cases ho
    · cases ho
      dsimp only at h
      by_cases q0 : k = 3
      · subst q0
        simp only [reduceIte, Nat.reduceEqDiff, if_true, if_false] at h
        cases h
        refine w_catch (E := xIOB) F FT [] (0, 10, 13, 25) [(0, 10, 17, 13)] rfl (fun z hz => ?_) (by decide) (by decide) cl_L_3 (by decide +kernel) (fun q => ?_)
        · cases hz
        · refine a_astore (lv' := [(4, .ref q), (0, .ref (ga X.G 0)), (1, .int p1), (2, .int p2), (3, .ref (ga X.G 170))]) (pc := 13) F dL_tiredIn_13 (by decide) rfl ?_
          refine a_iconst (v := 1) (pc := 15) F dL_tiredIn_15 (by decide) ?_
          exact w_iret (pc := 16) F dL_tiredIn_16 rfl
      by_cases q1 : k = 1
      · subst q1
        simp only [reduceIte, Nat.reduceEqDiff, if_true, if_false] at h
        cases h
        refine w_catch (E := xIAE) F FT [((0, 10, 13, 25), xIOB)] (0, 10, 17, 13) [] rfl (fun z hz => ?_) (by decide) (by decide) cl_L_1 (by decide +kernel) (fun q => ?_)
        · simp only [List.mem_cons, List.not_mem_nil, or_false] at hz
          rcases hz with rfl
          · exact ⟨by decide, cl_L_3, by decide⟩
        · refine a_astore (lv' := [(4, .ref q), (0, .ref (ga X.G 0)), (1, .int p1), (2, .int p2), (3, .ref (ga X.G 170))]) (pc := 17) F dL_tiredIn_17 (by decide) rfl ?_
          refine a_iconst (v := 2) (pc := 19) F dL_tiredIn_19 (by decide) ?_
          exact w_iret (pc := 20) F dL_tiredIn_20 rfl
      · simp only [if_neg q0, if_neg q1] at h
        cases h
def w_L_ifVacated (p1 : Int32) (p2 : Int32) (m0 : Mem) : Option (Int32 × Mem) :=
  bnd (e_X7_ifVacated p1 p2 m0) fun o => match o with
    | .inl (v, m1) => some (0, slm m1 170 0 v.toInt64)
    | .inr (k, m1) => if k = 3 then some (1, m1) else if k = 1 then some (2, m1) else  none
set_option maxRecDepth 100000 in
set_option maxHeartbeats 4000000 in
theorem mw_L_ifVacated {p1 : Int32} {p2 : Int32} {m0 : Mem} {rr : Int32} {mm : Mem} (h : w_L_ifVacated p1 p2 m0 = some (rr, mm)) : ConW yL_ifVacated cL_ifVacated 5 (some .int) [((0 : Nat), (10 : Nat), (13 : Nat), (25 : Nat)), ((0 : Nat), (10 : Nat), (17 : Nat), (13 : Nat))] 7 116 (fun G => [.ref (ga G 0), .int p1, .int p2, .ref (ga G 170)]) m0 (some (.int rr)) mm := by
  refine conw_of (by decide) (fun G => Nat.le_of_ble_eq_true rfl) (fun X F FT => ?_)
  show WA X 0 0 0 [(0, .ref (ga X.G 0)), (1, .int p1), (2, .int p2), (3, .ref (ga X.G 170))] [] m0 (EQW X (some (.int rr)) mm)
  rw [w_L_ifVacated] at h
  replace h := bnd_some h
  obtain ⟨o, hc1, h⟩ := h
  refine a_aload_n (pc := 0) F dL_ifVacated_0 3 rfl ?_
  refine a_iconst (v := 0) (pc := 1) F dL_ifVacated_1 (by decide) ?_
  refine a_aload_n (pc := 2) F dL_ifVacated_2 0 rfl ?_
  refine a_iload_n (pc := 3) F dL_ifVacated_3 1 rfl ?_
  refine a_iload_n (pc := 4) F dL_ifVacated_4 2 rfl ?_
  refine w_call (pc := 5) (k := 0) (As := [.int p1, .int p2]) (st := [.int 0, .ref (ga X.G 170)]) F FT dL_ifVacated_5 (mx_X7_ifVacated hc1) cv_RL_77 kl_0 ks_0 ⟨_, _, rfl⟩ rfl rfl rfl (Nat.le_of_ble_eq_true rfl) ⟨Nat.le_of_ble_eq_true rfl, Nat.le_of_ble_eq_true rfl⟩ (fun r m1 ho => ?_) (fun E m1 ho => ?_)
  · obtain ⟨v, m2⟩ | ⟨k, m2⟩ := o
    · cases ho
      cases h
      refine a_i2l (pc := 8) F dL_ifVacated_8 ?_
      refine a_lasc (k := 170) (j := 0) (pc := 9) F dL_ifVacated_9 kl_170 ks_170 rfl rfl ?_
      refine a_goto (tgt := 21) (pc := 10) F dL_ifVacated_10 (by decide) ?_
      refine a_iconst (v := 0) (pc := 21) F dL_ifVacated_21 (by decide) ?_
      exact w_iret (pc := 22) F dL_ifVacated_22 rfl
    · cases ho
  · obtain ⟨v, m2⟩ | ⟨k, m2⟩ := o
    · cases ho
    · cases ho
      dsimp only at h
      by_cases q0 : k = 3
      · subst q0
        simp only [reduceIte, Nat.reduceEqDiff, if_true, if_false] at h
        cases h
        refine w_catch (E := xIOB) F FT [] (0, 10, 13, 25) [(0, 10, 17, 13)] rfl (fun z hz => ?_) (by decide) (by decide) cl_L_3 (by decide +kernel) (fun q => ?_)
        · cases hz
        · refine a_astore (lv' := [(4, .ref q), (0, .ref (ga X.G 0)), (1, .int p1), (2, .int p2), (3, .ref (ga X.G 170))]) (pc := 13) F dL_ifVacated_13 (by decide) rfl ?_
          refine a_iconst (v := 1) (pc := 15) F dL_ifVacated_15 (by decide) ?_
          exact w_iret (pc := 16) F dL_ifVacated_16 rfl
      by_cases q1 : k = 1
      · subst q1
        simp only [reduceIte, Nat.reduceEqDiff, if_true, if_false] at h
        cases h
        refine w_catch (E := xIAE) F FT [((0, 10, 13, 25), xIOB)] (0, 10, 17, 13) [] rfl (fun z hz => ?_) (by decide) (by decide) cl_L_1 (by decide +kernel) (fun q => ?_)
        · simp only [List.mem_cons, List.not_mem_nil, or_false] at hz
          rcases hz with rfl
          · exact ⟨by decide, cl_L_3, by decide⟩
        · refine a_astore (lv' := [(4, .ref q), (0, .ref (ga X.G 0)), (1, .int p1), (2, .int p2), (3, .ref (ga X.G 170))]) (pc := 17) F dL_ifVacated_17 (by decide) rfl ?_
          refine a_iconst (v := 2) (pc := 19) F dL_ifVacated_19 (by decide) ?_
          exact w_iret (pc := 20) F dL_ifVacated_20 rfl
      · simp only [if_neg q0, if_neg q1] at h
        cases h
def w_L_missing (p1 : Int32) (m0 : Mem) : Option (Int32 × Mem) :=
  bnd (e_X7_missing p1 m0) fun o => match o with
    | .inl (v, m1) => some (0, slm m1 170 0 v.toInt64)
    | .inr (k, m1) => if k = 1 then some (1, m1) else  none
set_option maxRecDepth 100000 in
set_option maxHeartbeats 4000000 in
theorem mw_L_missing {p1 : Int32} {m0 : Mem} {rr : Int32} {mm : Mem} (h : w_L_missing p1 m0 = some (rr, mm)) : ConW yL_missing cL_missing 4 (some .int) [((0 : Nat), (9 : Nat), (12 : Nat), (13 : Nat))] 7 103 (fun G => [.ref (ga G 0), .int p1, .ref (ga G 170)]) m0 (some (.int rr)) mm := by
  refine conw_of (by decide) (fun G => Nat.le_of_ble_eq_true rfl) (fun X F FT => ?_)
  show WA X 0 0 0 [(0, .ref (ga X.G 0)), (1, .int p1), (2, .ref (ga X.G 170))] [] m0 (EQW X (some (.int rr)) mm)
  rw [w_L_missing] at h
  replace h := bnd_some h
  obtain ⟨o, hc1, h⟩ := h
  refine a_aload_n (pc := 0) F dL_missing_0 2 rfl ?_
  refine a_iconst (v := 0) (pc := 1) F dL_missing_1 (by decide) ?_
  refine a_aload_n (pc := 2) F dL_missing_2 0 rfl ?_
  refine a_iload_n (pc := 3) F dL_missing_3 1 rfl ?_
  refine w_call (pc := 4) (k := 0) (As := [.int p1]) (st := [.int 0, .ref (ga X.G 170)]) F FT dL_missing_4 (mx_X7_missing hc1) cv_RL_80 kl_0 ks_0 ⟨_, _, rfl⟩ rfl rfl rfl (Nat.le_of_ble_eq_true rfl) ⟨Nat.le_of_ble_eq_true rfl, Nat.le_of_ble_eq_true rfl⟩ (fun r m1 ho => ?_) (fun E m1 ho => ?_)
  · obtain ⟨v, m2⟩ | ⟨k, m2⟩ := o
    · cases ho
      cases h
      refine a_i2l (pc := 7) F dL_missing_7 ?_
      refine a_lasc (k := 170) (j := 0) (pc := 8) F dL_missing_8 kl_170 ks_170 rfl rfl ?_
      refine a_goto (tgt := 15) (pc := 9) F dL_missing_9 (by decide) ?_
      refine a_iconst (v := 0) (pc := 15) F dL_missing_15 (by decide) ?_
      exact w_iret (pc := 16) F dL_missing_16 rfl
    · cases ho
  · obtain ⟨v, m2⟩ | ⟨k, m2⟩ := o
    · cases ho
    · cases ho
      dsimp only at h
      by_cases q0 : k = 1
      · subst q0
        simp only [reduceIte, Nat.reduceEqDiff, if_true, if_false] at h
        cases h
        refine w_catch (E := xIAE) F FT [] (0, 9, 12, 13) [] rfl (fun z hz => ?_) (by decide) (by decide) cl_L_1 (by decide +kernel) (fun q => ?_)
        · cases hz
        · refine a_astore_n (lv' := [(3, .ref q), (0, .ref (ga X.G 0)), (1, .int p1), (2, .ref (ga X.G 170))]) (pc := 12) F dL_missing_12 (by decide) rfl ?_
          refine a_iconst (v := 1) (pc := 13) F dL_missing_13 (by decide) ?_
          exact w_iret (pc := 14) F dL_missing_14 rfl
      · simp only [if_neg q0] at h
        cases h
