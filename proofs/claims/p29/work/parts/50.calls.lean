/-! the calls, as the class answers them where nothing is refused -/
theorem wth_nI {k a b : Nat} (ha : a ≤ k) (hb : k ≤ b) (h : b < 1000000) : wth (nI k) (nI a) (nI b) = true := by
  simp only [wth, Bool.and_eq_true, decide_eq_true_eq]
  exact ⟨by rw [pz_lt (by omega) (by omega)]; omega, by rw [pz_lt (by omega) (by omega)]; omega⟩
section KCALLS
variable {m : Mem} {A : Ab}
theorem k_mut (hC : AC m A) (ok : Ok A) {r' : Row} {y : Int32} {f : Option (Int32 × Mem)} (hw : ∀ m8, f_X4_save 1 m = some m8 → AC m8 A.push → ∃ m12, f = some (y, m12) ∧ CR 1 m12 r' ∧ FrC 1 m8 m12) : ∃ m', f = some (y, m') ∧ AC m' (A.push.now r') ∧ FrX m m' := by
  obtain ⟨m8, e, a8, x8⟩ := s4_save hC ok.1 ok.h30
  obtain ⟨m12, ew, c12, f12⟩ := hw m8 e a8
  exact ⟨m12, ew, a8.now c12 f12 (push_n ok), x8.tr (f12.x (by omega))⟩
theorem k_certify (hC : AC m A) (ok : Ok A) {p v : Nat} (hpl : p < ppl A.r) (hv : v < 8) : ∃ m', f_X7_certify (nI p) (nI v) m = some (A.r (23 + p), m') ∧ AC m' (A.push.now (upd A.r (23 + p) (nI v))) ∧ FrX m m' := by
  have gd := ok.2.2.1
  have hn := gd.1.1.1
  have h10 := hn.1
  have hp := isp_nI hn hpl
  have hv' : wth (nI v) 0 7 = true := wth_nI (a := 0) (b := 7) (by omega) (by omega) (by omega)
  have l3 : loc 3 p = some (23 + p) := by
    have : p < 10 := by omega
    simp [loc, this]
  refine k_mut hC ok (fun m8 e8 a8 => ?_)
  have c8 : CR 1 m8 A.r := a8.1
  refine ⟨si m8 (1 + 3) p (nI v), ?_, c8.put0 l3 (by omega) (by omega) _ (by omega), FrC.rf.put (by omega)⟩
  rw [f_X7_certify, s6_has hC.1.1, pz_bnd, bI_ite, if_pos hp, s7_wth, pz_bnd, bI_ite, if_pos hv', e8, pz_bnd, pz_in (by omega) (by omega), pz_cl (by omega), c8.1.may (by omega)]
  simp only [pz_nm]
  rw [pz_in (by omega) (by omega)]
theorem k_set (hC : AC m A) (ok : Ok A) {i v : Nat} (hi : i < 7) (hv : v ≤ sBd i) (hs : sBd i ≤ 5000) : ∃ m', f_X7_set (nI i) (nI v) m = some (A.r i, m') ∧ AC m' (A.push.now (upd A.r i (nI v))) ∧ FrX m m' := by
  have hp : wth (nI i) 0 6 = true := wth_nI (a := 0) (b := 6) (by omega) (by omega) (by omega)
  have hv' : wth (nI v) 0 (nI (sBd i)) = true := wth_nI (a := 0) (by omega) hv (by omega)
  have l18 : loc 18 i = some i := by simp [loc, hi]
  refine k_mut hC ok (fun m8 e8 a8 => ?_)
  have c8 : CR 1 m8 A.r := a8.1
  refine ⟨si m8 (1 + 18) i (nI v), ?_, c8.put0 l18 (by omega) (by omega) _ (by omega), FrC.rf.put (by omega)⟩
  rw [f_X7_set, s7_isSetting, pz_bnd, bI_ite, if_pos hp, pz_in (by omega) (by omega), pz_cl (by omega), sBd_fs i (by omega), s7_wth, pz_bnd, bI_ite, if_pos hv', e8, pz_bnd, pz_in (by omega) (by omega), c8.1.setting (by omega)]
  simp only [pz_nm]
  rw [pz_in (by omega) (by omega)]
theorem k_addInterpreter (hC : AC m A) (ok : Ok A) {L c q : Nat} (hL1 : 1 ≤ L) (hL : L ≤ 1023) (hb : 2 ≤ ct (fun p => L.testBit p) 10) (hc : c < 8) (hq1 : 1 ≤ q) (hq : q ≤ 100) (h5 : ppl A.r < 10) : ∃ m', f_X7_addInterpreter (nI L) (nI c) (nI q) m = some (nI (ppl A.r), m') ∧ AC m' (A.push.now (hireR A.r (nI L) (nI c) (nI q))) ∧ FrX m m' := by
  have hn := ok.2.2.1.1.1.1
  have h10 := hn.1
  have h1 : wth (nI L) 1 1023 = true := wth_nI (a := 1) (b := 1023) hL1 hL (by omega)
  have h3 : wth (nI c) 0 7 = true := wth_nI (a := 0) (b := 7) (by omega) (by omega) (by omega)
  have h4 : wth (nI q) 1 100 = true := wth_nI (a := 1) (b := 100) hq1 hq (by omega)
  have cl := ct_le (fun p => L.testBit p) 10
  have hpc := popc_dec L (by omega)
  have q1 : (nI (ct (fun p => L.testBit p) 10) < 2) = (ct (fun p => L.testBit p) 10 < 2) := pz_lt (b := (2 : Nat)) (by omega) (by decide)
  have hp : m.1 (1 + 1) 0 = nI (ppl A.r) := by rw [hC.1.1.people]; exact hn.2.1
  have q3 : (nI (ppl A.r) < 10) = (ppl A.r < 10) := pz_lt (b := (10 : Nat)) (by omega) (by decide)
  refine k_mut hC ok (fun m8 e8 a8 => ?_)
  have c8 : CR 1 m8 A.r := a8.1
  obtain ⟨m12, e12, c12, f12⟩ := s6_hire (x := nI L) (y := nI c) (z := nI q) c8 hn (by omega)
  refine ⟨m12, ?_, c12, f12⟩
  rw [f_X7_addInterpreter, s7_wth, pz_bnd, bI_ite, if_pos h1, s6_bitCount, pz_bnd, hpc, if_neg (by rw [q1]; omega), s7_wth, pz_bnd, bI_ite, if_pos h3, s7_wth, pz_bnd, bI_ite, if_pos h4, hp, if_pos (by rw [q3]; omega), e8, pz_bnd, e12, pz_bnd2, pz_jr]
theorem k_addHearing (hC : AC m A) (ok : Ok A) {kd lg s len t : Nat} (hk : kd < 3) (hl1 : 1 ≤ lg) (hl : lg ≤ 9) (hs1 : 1 ≤ s) (hs : s ≤ 2000) (hn1 : 10 ≤ len) (hn2 : len ≤ 240) (h5 : hrs A.r < 30) (t2 : A.r 9 = nI t) : ∃ m', f_X7_addHearing (nI kd) (nI lg) (nI s) (nI len) m = some (nI (hrs A.r), m') ∧ AC m' (A.push.now (entR A.r (nI kd) (nI lg) (nI (t + s)) (nI len))) ∧ FrX m m' := by
  have hn := ok.2.2.1.1.1.1
  have h30 := hn.2.2.1
  have h1 : wth (nI kd) 0 2 = true := wth_nI (a := 0) (b := 2) (by omega) (by omega) (by omega)
  have h2 : wth (nI lg) 1 9 = true := wth_nI (a := 1) (b := 9) (by omega) (by omega) (by omega)
  have h3 : wth (nI s) 1 2000 = true := wth_nI (a := 1) (b := 2000) (by omega) (by omega) (by omega)
  have h4 : wth (nI len) 10 240 = true := wth_nI (a := 10) (b := 240) (by omega) (by omega) (by omega)
  have hp : m.1 (1 + 8) 0 = nI (hrs A.r) := by rw [hC.1.1.hearings]; exact hn.2.2.2
  have q3 : (nI (hrs A.r) < 30) = (hrs A.r < 30) := pz_lt (b := (30 : Nat)) (by omega) (by decide)
  refine k_mut hC ok (fun m8 e8 a8 => ?_)
  have c8 : CR 1 m8 A.r := a8.1
  obtain ⟨m12, e12, c12, f12⟩ := s3_enter (kd := nI kd) (lg := nI lg) (s := nI (t + s)) (len := nI len) c8 hn (by omega)
  refine ⟨m12, ?_, c12, f12⟩
  rw [f_X7_addHearing, s7_wth, pz_bnd, bI_ite, if_pos h1, s7_wth, pz_bnd, bI_ite, if_pos h2, s7_wth, pz_bnd, bI_ite, if_pos h3, s7_wth, pz_bnd, bI_ite, if_pos h4, hp, if_pos (by rw [q3]; omega), e8, pz_bnd, c8.1.minute, t2, pz_add, e12, pz_bnd2, pz_jr]
theorem k_release (hC : AC m A) (ok : Ok A) {h : Nat} (hh : h < hrs A.r) (h2 : (lst A.r h && !std A.r h) = true) : ∃ m', f_X7_release (nI h) m = some (nI (szN A.r h), m') ∧ AC m' (A.push.now (giveR A.r h 0 (fun _ => 0))) ∧ FrX m m' := by
  have gd := ok.2.2.1
  have hn := gd.1.1.1
  have h30 := hn.2.2.1
  have h1 := ish_nI hn hh
  have hc := gd.1.1.2.1 h hh
  refine k_mut hC ok (fun m8 e8 a8 => ?_)
  have c8 : CR 1 m8 A.r := a8.1
  obtain ⟨m12, e12, c12, f12⟩ := s3_giveChain (h := h) (n := 0) (t := fun _ => 0) c8 hn hh (Or.inl rfl)
  rw [tri_0, tri_0, tri_0] at e12
  refine ⟨m12, ?_, c12, f12⟩
  rw [f_X7_release, s3_has hC.1.1, pz_bnd, bI_ite, if_pos h1, s2_isAhead hC.1.1 (by omega), pz_bnd, bI_ite, if_pos h2, e8, pz_bnd, pz_in (by omega) (by omega), pz_cl (by omega), c8.1.size (by omega), hc.2.1, pz_nm, e12, pz_bnd]
theorem k_vacate (hC : AC m A) (ok : Ok A) {h v : Nat} (hh : h < hrs A.r) (h2 : (lst A.r h && !std A.r h) = true) (ev : halv A.r (A.r (73 + 10 * h + 2) - A.r 9) = nI v) : ∃ m', f_X7_vacate (nI h) m = some (payR A.r h (nI v), m') ∧ AC m' (A.push.now (closeR A.r h 3 (nI v))) ∧ FrX m m' := by
  have gd := ok.2.2.1
  have hn := gd.1.1.1
  have h30 := hn.2.2.1
  have h1 := ish_nI hn hh
  have hc := gd.1.1.2.1 h hh
  refine k_mut hC ok (fun m8 e8 a8 => ?_)
  have c8 : CR 1 m8 A.r := a8.1
  obtain ⟨m12, e12, c12, f12⟩ := s2_close (st := 3) (hv := nI v) c8 hn hc hh (by omega)
  refine ⟨m12, ?_, c12, f12⟩
  rw [f_X7_vacate, s3_has hC.1.1, pz_bnd, bI_ite, if_pos h1, s2_isAhead hC.1.1 (by omega), pz_bnd, bI_ite, if_pos h2, e8, pz_bnd, pz_in (by omega) (by omega), pz_cl (by omega), c8.1.start (by omega), c8.1.minute, pz_nm, s2_payByNotice c8.1, pz_bnd, ev, show (3 : Int32) = nI 3 from rfl, e12, pz_bnd2]
theorem tri_prs {r : Row} {n : Nat} {t : Nat → Nat} (hn : NumW r) (ht : Tri r n t) : prs r (nI (t 0)) (tri n t 1) (tri n t 2) = true ∧ rwo (nI (t 0)) (tri n t 1) (tri n t 2) = true := by
  obtain ⟨n1, n3, tp, inj⟩ := ht
  have h10 := hn.1
  have i0 := isp_nI hn (tp 0 (by omega))
  have neq : ∀ i j, i < n → j < n → i ≠ j → nI (t i) ≠ nI (t j) := fun i j hi hj hij e => by
    have := tp i hi
    have := tp j hj
    rw [pz_eq (by omega) (by omega)] at e
    exact hij (inj i j hi hj e)
  have ne1 : ∀ i, i < n → nI (t i) ≠ -1 := fun i hi e => by
    have := tp i hi
    have q := pz_ne1 (a := t i) (by omega)
    rw [q] at e
    exact e
  unfold prs rwo isq
  rcases (show n = 1 ∨ n = 2 ∨ n = 3 by omega) with rfl | rfl | rfl
  · simp only [tri, show ¬ 1 < 1 by omega, show ¬ 2 < 1 by omega, if_false, i0]
    exact ⟨by simp, by simp⟩
  · have i1 := isp_nI hn (tp 1 (by omega))
    simp only [tri, show (1 : Nat) < 2 by omega, show ¬ 2 < 2 by omega, if_false, if_true, i0, i1]
    refine ⟨by simp, ?_⟩
    rw [if_neg (ne1 1 (by omega))]
    simp [neq 0 1 (by omega) (by omega) (by omega)]
  · have i1 := isp_nI hn (tp 1 (by omega))
    have i2 := isp_nI hn (tp 2 (by omega))
    simp only [tri, show (1 : Nat) < 3 by omega, show (2 : Nat) < 3 by omega, if_true, i0, i1, i2]
    refine ⟨by simp, ?_⟩
    rw [if_neg (ne1 1 (by omega))]
    simp [neq 0 1 (by omega) (by omega) (by omega), neq 2 0 (by omega) (by omega) (by omega), neq 2 1 (by omega) (by omega) (by omega)]
theorem k_whyNot (hC : AC m A) (ok : Ok A) {h n : Nat} {t : Nat → Nat} (hh : h < hrs A.r) (ht : Tri A.r n t) : f_X7_whyNot (nI h) (nI (t 0)) (tri n t 1) (tri n t 2) m = some (rsnR A.r h n t) := by
  have gd := ok.2.2.1
  have hn := gd.1.1.1
  have h1 := ish_nI hn hh
  obtain ⟨h2, rw0⟩ := tri_prs hn ht
  have xne := isp_ne hn (isp_nI hn (ht.2.2.1 0 (by have := ht.1; omega)))
  have rsC := s2_reason hC.1 hn gd.1.1.2.1 (gd.1.2.1 h hh) hh ht
  rw [f_X7_whyNot, s3_has hC.1.1, pz_bnd, bI_ite, if_pos h1, s7_names hC.1.1, pz_bnd, bI_ite, if_pos h2, s7_row xne, pz_bnd, bI_ite, if_pos rw0, rsC, pz_bnd, pz_jr]
theorem k_assign (hC : AC m A) (ok : Ok A) {h n : Nat} {t : Nat → Nat} (hh : h < hrs A.r) (ht : Tri A.r n t) (z0 : rsnR A.r h n t = 0) : ∃ m', f_X7_assign (nI h) (nI (t 0)) (tri n t 1) (tri n t 2) m = some (payR (giveR A.r h n t) h 2, m') ∧ AC m' (A.push.now (giveR A.r h n t)) ∧ FrX m m' := by
  have gd := ok.2.2.1
  have hn := gd.1.1.1
  have h1 := ish_nI hn hh
  obtain ⟨h2, rw0⟩ := tri_prs hn ht
  have xne := isp_ne hn (isp_nI hn (ht.2.2.1 0 (by have := ht.1; omega)))
  have rsC := s2_reason hC.1 hn gd.1.1.2.1 (gd.1.2.1 h hh) hh ht
  have gd' : GD (giveR A.r h n t) := GD_give gd hh (Or.inr ⟨ht, rsn_bu z0⟩)
  have hg8 : hrs (giveR A.r h n t) = hrs A.r := by unfold hrs; rw [giveR_ne (by omega)]
  refine k_mut hC ok (fun m8 e8 a8 => ?_)
  have c8 : CR 1 m8 A.r := a8.1
  obtain ⟨m12, e12, c12, f12⟩ := s3_giveChain (h := h) (n := n) (t := t) c8 hn hh (Or.inr ht)
  have t0 : tri n t 0 = nI (t 0) := by unfold tri; rw [if_pos (by have := ht.1; omega)]
  rw [t0] at e12
  refine ⟨m12, ?_, c12, f12⟩
  rw [f_X7_assign, s3_has hC.1.1, pz_bnd, bI_ite, if_pos h1, s7_names hC.1.1, pz_bnd, bI_ite, if_pos h2, s7_row xne, pz_bnd, bI_ite, if_pos rw0, rsC, pz_bnd, if_pos z0, e8, pz_bnd, e12, pz_bnd, s2_chainPay c12.1 gd'.1.1.1 (gd'.1.1.2.1 h (by omega)) (by omega), pz_bnd, pz_jr]
theorem k_swap (hC : AC m A) (ok : Ok A) {h j q : Nat} (hh : h < hrs A.r) (hj : j < szN A.r h) (hq : q < ppl A.r) (h5 : inCh A.r (nI q) h = false) (z0 : rsnR A.r h (szN A.r h) (swp A.r h j q) = 0) : ∃ m', f_X7_swap (nI h) (nI j) (nI q) m = some (A.r (79 + 10 * h + j), m') ∧ AC m' (A.push.now (giveR A.r h (szN A.r h) (swp A.r h j q))) ∧ FrX m m' := by
  have gd := ok.2.2.1
  have hn := gd.1.1.1
  have h30 := hn.2.2.1
  have h10 := hn.1
  have h1 := ish_nI hn hh
  have hc := gd.1.1.2.1 h hh
  have h3 := hc.1
  have h4 := isp_nI hn hq
  have h2 : wth (nI j) 0 (nI (szN A.r h) - 1) = true := by
    have e : nI (szN A.r h) - 1 = nI (szN A.r h - 1) := by
      have : szN A.r h = szN A.r h - 1 + 1 := by omega
      rw [this, ← pz_s, Int32.add_sub_cancel]
      rfl
    rw [e]
    exact wth_nI (a := 0) (by omega) (by omega) (by omega)
  have ht := swp_tri hc hj hq h10 h5
  have cws := gd.1.1.2.1
  have t0 : nI (swp A.r h j q 0) = if 0 = j then nI q else A.r (79 + 10 * h + 0) := by
    rw [← swp_k hc hj (by omega)]
    unfold tri
    rw [if_pos (by omega)]
  have mm : ∀ (mx : Mem) (k : Nat), CR 1 mx A.r → k < 3 → f_X3_member 1 (nI h) (nI k) mx = some (A.r (79 + 10 * h + k)) := fun mx k hx hk => s3_member hx.1 hn hh hk
  have cl : ∀ {β : Type} (K : Int32 → Int32 → Int32 → Option β), (bnd ((if bI false = 0 then (if nI j = 0 then some (nI q) else bnd (f_X3_member 1 (nI h) 0 m) fun x19 => some x19) else none)) (fun (x20 : Int32) => bnd ((if nI j = 1 then some (nI q) else bnd (f_X3_member 1 (nI h) 1 m) fun x24 => some x24)) (fun (x25 : Int32) => bnd ((if nI j = 2 then some (nI q) else bnd (f_X3_member 1 (nI h) 2 m) fun x29 => some x29)) (fun (x30 : Int32) => K x20 x25 x30)))) = K (nI (swp A.r h j q 0)) (tri (szN A.r h) (swp A.r h j q) 1) (tri (szN A.r h) (swp A.r h j q) 2) := by
    intro β K
    rw [show (0 : Int32) = nI 0 from rfl, show (1 : Int32) = nI 1 from rfl, show (2 : Int32) = nI 2 from rfl, mm m 0 hC.1 (by omega), mm m 1 hC.1 (by omega), mm m 2 hC.1 (by omega), pz_bnd, pz_bnd, pz_bnd, if_pos (show bI false = nI 0 from rfl), t0, swp_k hc hj (by omega), swp_k hc hj (by omega)]
    rcases (show j = 0 ∨ j = 1 ∨ j = 2 by omega) with rfl | rfl | rfl <;> rfl
  have rsC := s2_reason hC.1 hn cws (gd.1.2.1 h hh) hh ht
  refine k_mut hC ok (fun m8 e8 a8 => ?_)
  have c8 : CR 1 m8 A.r := a8.1
  obtain ⟨m12, e12, c12, f12⟩ := s3_giveChain (h := h) (n := szN A.r h) (t := swp A.r h j q) c8 hn hh (Or.inr ht)
  have t00 : tri (szN A.r h) (swp A.r h j q) 0 = nI (swp A.r h j q 0) := by unfold tri; rw [if_pos (by omega)]
  rw [t00] at e12
  refine ⟨m12, ?_, c12, f12⟩
  rw [f_X7_swap, s3_has hC.1.1, pz_bnd, bI_ite, if_pos h1, pz_in (by omega) (by omega), pz_cl (by omega), hC.1.1.size (by omega), hc.2.1, pz_nm, s7_wth, pz_bnd, bI_ite, if_pos h2, s6_has hC.1.1, pz_bnd, bI_ite, if_pos h4, s3_holds hC.1 hn hc hh (by omega), pz_bnd, h5, cl, rsC, pz_bnd, if_pos z0, e8, pz_bnd, mm m8 j c8 (by omega), pz_bnd, e12, pz_bnd, pz_jr]
theorem e7_passL {r : Row} {n : Nat} (hC : CR 1 m r) (K : KW r) (hn : n ≤ 1000) : ∃ q : Int32 × Mem, lp (f_X7_pass_L61 (nI n)) 1000000 (0, 0, m) = some q ∧ (q.1 = (goR r n).2 ∧ CR 1 q.2 (goR r n).1 ∧ FrC 1 m q.2) := by
  refine lp_inv (fun k (s : Int32 × Int32 × Mem) => s.1 = (goR r k).2 ∧ s.2.1 = nI k ∧ CR 1 s.2.2 (goR r k).1 ∧ FrC 1 m s.2.2) (N := n) (fun k s hk hI => ?_) (fun s hI => ?_) _ ⟨rfl, rfl, hC, FrC.rf⟩ (by omega)
  · obtain ⟨a, b, m1⟩ := s
    obtain ⟨rfl, rfl, h1, h2⟩ := hI
    dsimp only at h1 h2
    obtain ⟨m', e1, e2, e3⟩ := s2_passMinute h1 (goR_KW K k)
    rw [f_X7_pass_L61, if_neg (by rw [pz_le (by omega) (by omega)]; omega), e1, pz_bnd2, pz_s, pz_nm]
    exact ⟨_, rfl, rfl, rfl, e2, h2.tr e3⟩
  · obtain ⟨a, b, m1⟩ := s
    obtain ⟨rfl, rfl, h1, h2⟩ := hI
    rw [f_X7_pass_L61, if_pos (by rw [pz_le (by omega) (by omega)]; omega)]
    exact ⟨_, rfl, rfl, h1, h2⟩
theorem k_pass (hC : AC m A) (ok : Ok A) {n t : Nat} (h1 : 1 ≤ n) (h5 : n ≤ 500) (t2 : A.r 9 = nI t) (ht : t + n ≤ 20000) : ∃ m', f_X7_pass (nI n) m = some ((goR A.r n).2, m') ∧ AC m' (A.push.now (goR A.r n).1) ∧ FrX m m' := by
  have K := ok.2.2.1.1.1
  have hw : wth (nI n) 1 500 = true := wth_nI (a := 1) (b := 500) h1 h5 (by omega)
  have q3 : (nI (t + n) ≤ 20000) = (t + n ≤ 20000) := pz_le (b := (20000 : Nat)) (by omega) (by decide)
  have m3 : m.1 1 3 = nI t := by rw [hC.1.1.minute, t2]
  refine k_mut hC ok (fun m8 e8 a8 => ?_)
  have c8 : CR 1 m8 A.r := a8.1
  obtain ⟨⟨v, m12⟩, e12, e5, c12, f12⟩ := e7_passL (n := n) c8 K (by omega)
  dsimp only at e5 c12 f12
  refine ⟨m12, ?_, c12, f12⟩
  rw [f_X7_pass, s7_wth, pz_bnd, bI_ite, if_pos hw, m3, pz_add, if_pos (by rw [q3]; exact ht), e8, pz_bnd, e12, pz_bnd]
  dsimp only
  rw [e5]
theorem k_interpreter (hC : AC m A) (ok : Ok A) {p k : Nat} (hp : p < ppl A.r) (hk : k < 8) : f_X7_interpreter (nI p) (nI k) m = some (pvR A.r p k) := by
  have gd := ok.2.2.1
  have hn := gd.1.1.1
  have h10 := hn.1
  have hv : wth (nI k) 0 7 = true := wth_nI (a := 0) (b := 7) (by omega) (by omega) (by omega)
  rw [f_X7_interpreter, s6_has hC.1.1, pz_bnd, bI_ite, if_pos (isp_nI hn hp), s7_wth, pz_bnd, bI_ite, if_pos hv, s2_ofInt hC.1 hn gd.1.1.2.1 (by omega) (by omega), pz_bnd]
theorem k_hearing (hC : AC m A) (ok : Ok A) {h k : Nat} (hh : h < hrs A.r) (hk : k < 12) : f_X7_hearing (nI h) (nI k) m = some (hvR A.r h k) := by
  have gd := ok.2.2.1
  have hn := gd.1.1.1
  have hv : wth (nI k) 0 11 = true := wth_nI (a := 0) (b := 11) (by omega) (by omega) (by omega)
  rw [f_X7_hearing, s3_has hC.1.1, pz_bnd, bI_ite, if_pos (ish_nI hn hh), s7_wth, pz_bnd, bI_ite, if_pos hv, s2_ofHear hC.1 hn gd.1.1.2.1 hh (by omega), pz_bnd]
theorem k_count (hC : AC m A) (ok : Ok A) {k : Nat} (hk : k < 13) : f_X7_count (nI k) m = some (cvR A.r A.n k) := by
  have gd := ok.2.2.1
  have hn := gd.1.1.1
  have hv : wth (nI k) 0 12 = true := wth_nI (a := 0) (b := 12) (by omega) (by omega) (by omega)
  have k0 : m.1 39 0 = nI A.n := by
    obtain ⟨-, ⟨f, -, -, q, -⟩, -⟩ := hC
    exact q
  have e12 : (nI k = 12) = (k = 12) := pz_eq (b := (12 : Nat)) (by omega) (by decide)
  rw [f_X7_count, s7_wth, pz_bnd, bI_ite, if_pos hv]
  by_cases u : k = 12
  · rw [if_pos (by rw [e12]; exact u), k0, u]
    rfl
  · rw [if_neg (by rw [e12]; exact u), s2_numOf (n := A.n) hC.1 hn gd.1.1.2.1 (by omega), pz_bnd]
end KCALLS
