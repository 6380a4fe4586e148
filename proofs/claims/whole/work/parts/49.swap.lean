/-! calls: swap -/
section SWAP
variable {m : Mem} {A : Ab} {r : Row} {h j q : Nat} {x y z w : Int32}
theorem wth_pred {n : Nat} (hn : n < 1000000) (e : wth y 0 (nI n - 1) = true) : ∃ j, j < n ∧ y = nI j := by
  simp only [wth, Bool.and_eq_true, decide_eq_true_eq] at e
  obtain ⟨h1, h2⟩ := e
  rw [i32_pred hn] at h2
  have h2' : y < nI n := by rw [← Int32.not_le]; exact h2
  obtain ⟨j, j1, rfl⟩ := nI_of h1
  refine ⟨j, ?_, rfl⟩
  rw [Int32.lt_iff_toInt_lt, nI_toInt j1, nI_toInt (by omega)] at h2'
  omega
theorem mem_tri (hc : ChW r h) {k : Nat} (hk : k < 3) : r (79 + 10 * h + k) = tri (szN r h) (mbN r h) k := by
  unfold tri
  by_cases u : k < szN r h
  · rw [if_pos u]; exact (hc.2.2.1 k u).2
  · rw [if_neg u]; exact hc.2.2.2.1 k (by omega) hk
def swp (r : Row) (h j q : Nat) : Nat → Nat := fun k => if k = j then q else mbN r h k
theorem swp_tri (hc : ChW r h) (hj : j < szN r h) (hq : q < ppl r) (h10 : ppl r ≤ 10) (hi : inCh r (nI q) h = false) : Tri r (szN r h) (swp r h j q) := by
  have nq : ∀ k, k < szN r h → mbN r h k ≠ q := fun k hk e => by
    have : inCh r (nI q) h = true := (inCh_iff hc (by omega)).mpr ⟨k, hk, e⟩
    rw [this] at hi; cases hi
  refine ⟨by omega, hc.1, fun k hk => ?_, fun a b ha hb e => ?_⟩
  · unfold swp
    split
    · exact hq
    · exact (hc.2.2.1 k hk).1
  · unfold swp at e
    by_cases ea : a = j
    · by_cases eb : b = j
      · omega
      · rw [if_pos ea, if_neg eb] at e
        exact absurd e.symm (nq b hb)
    · by_cases eb : b = j
      · rw [if_neg ea, if_pos eb] at e
        exact absurd e (nq a ha)
      · rw [if_neg ea, if_neg eb] at e
        exact hc.2.2.2.2 a b ha hb e
theorem swp_k (hc : ChW r h) (hj : j < szN r h) {k : Nat} (hk : k < 3) : tri (szN r h) (swp r h j q) k = if k = j then nI q else r (79 + 10 * h + k) := by
  rw [mem_tri hc hk]
  unfold tri swp
  by_cases e : k = j
  · rw [if_pos e, if_pos e, if_pos (by omega)]
  · rw [if_neg e, if_neg e]
theorem swp_row (hc : ChW r h) (hj : j < szN r h) : giveR r h (szN r h) (swp r h j q) = upd r (73 + 10 * h + (6 + j)) (nI q) := by
  have h3 := hc.1
  funext i
  by_cases e : i < 78 + 10 * h ∨ 82 + 10 * h ≤ i
  · rw [giveR_ne e, upd_ne (by omega)]
  · by_cases e5 : i = 73 + 10 * h + 5
    · rw [e5, giveR_0, upd_ne (by omega)]
      exact hc.2.1.symm
    · obtain ⟨k, hk, rfl⟩ : ∃ k, k < 3 ∧ i = 79 + 10 * h + k := ⟨i - (79 + 10 * h), by omega, by omega⟩
      rw [giveR_k k hk, swp_k hc hj hk]
      by_cases z : k = j
      · rw [if_pos z, upd_is (by omega)]
      · rw [if_neg z, upd_ne (by omega)]
theorem o_swap (hC : AC m A) (hM : AM m A) (ok : Ok A) : OPS (w_L_swap x y z m) (f_X8_swap x y z) := by
  have gd := ok.2.2.1
  have hn := gd.1.1.1
  have h30 := hn.2.2.1
  have h10 := hn.1
  cases h1 : ish A.r x
  · refine ops_throw hC hM ok (c := 1) (by decide) ?_ ?_
    · rw [w_L_swap, e_X7_swap, s3_has hC.1.1, pz_bnd, bI_ite, if_neg (by rw [h1]; simp), pz_jl, pz_bnd]
      rfl
    · rw [f_X8_swap, s8_isHearing hM.1 hn, pz_bnd, bI_ite, if_neg (by rw [h1]; simp), pz_bnd, if_pos rfl, pz_bnd, pz_nm, si_at, if_neg (by decide), pz_bnd, si_at, if_neg (by decide)]
  obtain ⟨h, hh, rfl⟩ := ish_of hn h1
  have hc := gd.1.1.2.1 h hh
  have h3 := hc.1
  have c5 : f_X8_of (nI h) 5 m = some (nI (szN A.r h)) := by rw [show (5 : Int32) = nI 5 from rfl, s8_of hM.1 (by omega) (by omega), hc.2.1]
  cases h2 : wth y 0 (nI (szN A.r h) - 1)
  · refine ops_throw hC hM ok (c := 1) (by decide) ?_ ?_
    · rw [w_L_swap, e_X7_swap, s3_has hC.1.1, pz_bnd, bI_ite, if_pos h1, pz_in (by omega) (by omega), pz_cl (by omega), hC.1.1.size (by omega), hc.2.1, pz_nm, s7_wth, pz_bnd, bI_ite, if_neg (by rw [h2]; simp), pz_jl, pz_bnd]
      rfl
    · rw [f_X8_swap, s8_isHearing hM.1 hn, pz_bnd, bI_ite, if_pos h1, c5, pz_bnd, s8_wth, pz_bnd, bI_ite, if_neg (by rw [h2]; simp), pz_bnd, if_pos rfl, pz_bnd, pz_nm, si_at, if_neg (by decide), pz_bnd, si_at, if_neg (by decide)]
  obtain ⟨j, hj, rfl⟩ := wth_pred (by omega) h2
  cases h4 : isp A.r z
  · refine ops_throw hC hM ok (c := 1) (by decide) ?_ ?_
    · rw [w_L_swap, e_X7_swap, s3_has hC.1.1, pz_bnd, bI_ite, if_pos h1, pz_in (by omega) (by omega), pz_cl (by omega), hC.1.1.size (by omega), hc.2.1, pz_nm, s7_wth, pz_bnd, bI_ite, if_pos h2, s6_has hC.1.1, pz_bnd, bI_ite, if_neg (by rw [h4]; simp), pz_jl, pz_bnd]
      rfl
    · rw [f_X8_swap, s8_isHearing hM.1 hn, pz_bnd, bI_ite, if_pos h1, c5, pz_bnd, s8_wth, pz_bnd, bI_ite, if_pos h2, s8_isPerson hM.1 hn, pz_bnd, bI_ite, if_neg (by rw [h4]; simp), pz_bnd, if_pos rfl, pz_bnd, pz_nm, si_at, if_neg (by decide), pz_bnd, si_at, if_neg (by decide)]
  obtain ⟨q, hq, rfl⟩ := isp_of hn h4
  cases h5 : inCh A.r (nI q) h
  case true =>
    refine ops_throw hC hM ok (c := 2) (by decide) ?_ ?_
    · rw [w_L_swap, e_X7_swap, s3_has hC.1.1, pz_bnd, bI_ite, if_pos h1, pz_in (by omega) (by omega), pz_cl (by omega), hC.1.1.size (by omega), hc.2.1, pz_nm, s7_wth, pz_bnd, bI_ite, if_pos h2, s6_has hC.1.1, pz_bnd, bI_ite, if_pos h4, s3_holds hC.1 hn hc hh (by omega), pz_bnd, bI_ite, if_pos h5, pz_jr, pz_jr, pz_bnd]
      rfl
    · rw [f_X8_swap, s8_isHearing hM.1 hn, pz_bnd, bI_ite, if_pos h1, c5, pz_bnd, s8_wth, pz_bnd, bI_ite, if_pos h2, s8_isPerson hM.1 hn, pz_bnd, bI_ite, if_pos h4, pz_bnd, if_neg (by decide), s8_isIn hM.1 (by omega) hc, pz_bnd, bI_ite, if_pos h5, pz_bnd, pz_nm, si_at, if_neg (by decide), pz_bnd, si_at, if_neg (by decide)]
  have ht := swp_tri hc hj hq h10 h5
  have hw := gd.1.2.1
  have cws := gd.1.1.2.1
  have q0 : (nI j = 0) = (j = 0) := pz_eq (b := (0 : Nat)) (by omega) (by decide)
  have q1 : (nI j = 1) = (j = 1) := pz_eq (b := (1 : Nat)) (by omega) (by decide)
  have q2 : (nI j = 2) = (j = 2) := pz_eq (b := (2 : Nat)) (by omega) (by decide)
  have t0 : nI (swp A.r h j q 0) = if 0 = j then nI q else A.r (79 + 10 * h + 0) := by
    rw [← swp_k hc hj (by omega)]
    unfold tri
    rw [if_pos (by omega)]
  have mm : ∀ (mx : Mem) (k : Nat), CR 1 mx A.r → k < 3 → f_X3_member 1 (nI h) (nI k) mx = some (A.r (79 + 10 * h + k)) := fun mx k hx hk => s3_member hx.1 hn hh hk
  have cl : ∀ {β : Type} (K : Int32 → Int32 → Int32 → Option (β ⊕ ((Int32 × Mem) ⊕ (Nat × Mem)))), (jn ((if bI false = 0 then (if nI j = 0 then some (.inl (nI q)) else bnd (f_X3_member 1 (nI h) 0 m) fun x19 => some (.inl x19)) else some (.inr (.inr (.inr (1, m)))))) (fun (x20 : Int32) => bnd ((if nI j = 1 then some (nI q) else bnd (f_X3_member 1 (nI h) 1 m) fun x24 => some x24)) (fun (x25 : Int32) => bnd ((if nI j = 2 then some (nI q) else bnd (f_X3_member 1 (nI h) 2 m) fun x29 => some x29)) (fun (x30 : Int32) => K x20 x25 x30)))) = K (nI (swp A.r h j q 0)) (tri (szN A.r h) (swp A.r h j q) 1) (tri (szN A.r h) (swp A.r h j q) 2) := by
    intro β K
    rw [show (0 : Int32) = nI 0 from rfl, show (1 : Int32) = nI 1 from rfl, show (2 : Int32) = nI 2 from rfl, mm m 0 hC.1 (by omega), mm m 1 hC.1 (by omega), mm m 2 hC.1 (by omega), pz_bnd, pz_bnd, pz_bnd, if_pos (show bI false = nI 0 from rfl), t0, swp_k hc hj (by omega), swp_k hc hj (by omega)]
    rcases (show j = 0 ∨ j = 1 ∨ j = 2 by omega) with rfl | rfl | rfl <;> rfl
  have rsC : f_X2_reasonAgainst 1 (nI h) (nI (swp A.r h j q 0)) (tri (szN A.r h) (swp A.r h j q) 1) (tri (szN A.r h) (swp A.r h j q) 2) m = some (rsnR A.r h (szN A.r h) (swp A.r h j q)) := s2_reason hC.1 hn cws (hw h hh) hh ht
  have mod : ∀ m1, AM m1 A → ∃ m4, f_X8_swap (nI h) (nI j) (nI q) m1 = (if ((si m4 162 5 (if rsnR A.r h (szN A.r h) (swp A.r h j q) = 0 then 0 else 3)).1 162 5) ≤ 0 then bnd (f_X8_save (si m4 162 5 (if rsnR A.r h (szN A.r h) (swp A.r h j q) = 0 then 0 else 3))) fun m41 => bnd (f_X8_of (nI h) (6 + nI j) m41) fun x43 => bnd (f_X8_put (nI h) (6 + nI j) (nI q) m41) fun m45 => some (x43, m45) else some (0, si m4 162 5 (if rsnR A.r h (szN A.r h) (swp A.r h j q) = 0 then 0 else 3))) ∧ AM m4 A ∧ FrM m1 m4 := by
    intro m1 am
    have c5 : f_X8_of (nI h) 5 m1 = some (nI (szN A.r h)) := by rw [show (5 : Int32) = nI 5 from rfl, s8_of am.1 (by omega) (by omega), hc.2.1]
    have am5 := am.set5 (j := 5) (by decide) (by decide) 0
    obtain ⟨m', l1, l2, l3, l4, l5, l6, l7, l8⟩ := s8_lay (m := si m1 162 5 0) (x := A.r (79 + 10 * h + 0)) (y := A.r (79 + 10 * h + 1)) (z := A.r (79 + 10 * h + 2))
    have ly : LY (si m1 162 5 0) m' := ⟨l6, l7, l8⟩
    have am' := (ly.am am5).scr (a := 166) (j := j) (by omega) (nI q)
    have h9 : f_X8_of (nI h) 6 (si m1 162 5 0) = some (A.r (79 + 10 * h + 0)) := by rw [show (6 : Int32) = nI 6 from rfl, s8_of am5.1 (by omega) (by omega), show 73 + 10 * h + 6 = 79 + 10 * h + 0 by omega]
    have h8 : f_X8_of (nI h) 7 (si m1 162 5 0) = some (A.r (79 + 10 * h + 1)) := by rw [show (7 : Int32) = nI 7 from rfl, s8_of am5.1 (by omega) (by omega), show 73 + 10 * h + 7 = 79 + 10 * h + 1 by omega]
    have h7 : f_X8_of (nI h) 8 (si m1 162 5 0) = some (A.r (79 + 10 * h + 2)) := by rw [show (8 : Int32) = nI 8 from rfl, s8_of am5.1 (by omega) (by omega), show 73 + 10 * h + 8 = 79 + 10 * h + 2 by omega]
    have trm : TR m' (szN A.r h) (mbN A.r h) := by
      have tri' : Tri A.r (szN A.r h) (mbN A.r h) := ⟨by omega, h3, fun k hk => (hc.2.2.1 k hk).1, hc.2.2.2.2⟩
      rw [mem_tri hc (by omega)] at l2
      rw [mem_tri hc (by omega)] at l3
      rw [mem_tri hc (by omega)] at l4
      rw [mem_tri hc (by omega), mem_tri hc (by omega)] at l5
      refine lay_TR tri' h10 ?_ l3 l4 l5
      rw [l2]
      unfold tri
      rw [if_pos (by omega)]
    have tr4 : TR (si m' 166 j (nI q)) (szN A.r h) (swp A.r h j q) := by
      refine ⟨by rw [si_ne (by omega)]; exact trm.1, fun k hk => ?_⟩
      unfold swp
      by_cases e : k = j
      · rw [if_pos e, e, si_at]
      · rw [if_neg e, si_off (Or.inr e)]
        exact trm.2 k hk
    refine ⟨si m' 166 j (nI q), ?_, am', (((FrM.rf.put (by omega)).tr ly.fr).put (by omega))⟩
    rw [f_X8_swap, s8_isHearing am.1 hn, pz_bnd, bI_ite, if_pos h1, c5, pz_bnd, s8_wth, pz_bnd, bI_ite, if_pos h2, s8_isPerson am.1 hn, pz_bnd, bI_ite, if_pos h4, pz_bnd, if_neg (by decide), s8_isIn am.1 (by omega) hc, pz_bnd, bI_ite, if_neg (by rw [h5]; simp), pz_bnd, pz_nm, si_at, if_pos rfl, h9, pz_bnd, h8, pz_bnd, h7, pz_bnd, l1, pz_bnd, pz_in (by omega) (by omega), pz_cl (by omega), pz_nm, s8_reason am'.1 hn cws (hw h hh) hh ht tr4, pz_bnd]
    by_cases z0 : rsnR A.r h (szN A.r h) (swp A.r h j q) = 0
    · rw [if_pos z0, if_pos z0, pz_nm, pz_bnd]
    · rw [if_neg z0, if_neg z0, pz_nm, pz_bnd]
  by_cases z0 : rsnR A.r h (szN A.r h) (swp A.r h j q) = 0
  case neg =>
    obtain ⟨m4, e4, a4, g4⟩ := mod m hM
    rw [if_neg z0] at e4
    refine ops_throw2 hC (a4.set5 (j := 5) (by decide) (by decide) 3) ok (g4.put (by omega)) (c := 3) (v := 0) (by decide) ?_ ?_ (si_at _ _ _ _)
    · rw [w_L_swap, e_X7_swap, s3_has hC.1.1, pz_bnd, bI_ite, if_pos h1, pz_in (by omega) (by omega), pz_cl (by omega), hC.1.1.size (by omega), hc.2.1, pz_nm, s7_wth, pz_bnd, bI_ite, if_pos h2, s6_has hC.1.1, pz_bnd, bI_ite, if_pos h4, s3_holds hC.1 hn hc hh (by omega), pz_bnd, h5, cl, rsC, pz_bnd, if_neg z0, pz_jr, pz_bnd]
      rfl
    · rw [e4, si_at, if_neg (by decide)]
  have gd' : GD (giveR A.r h (szN A.r h) (swp A.r h j q)) := GD_give gd hh (Or.inr ⟨ht, rsn_bu z0⟩)
  refine ops_mut hC hM ok (r' := giveR A.r h (szN A.r h) (swp A.r h j q)) gd' (y := A.r (79 + 10 * h + j)) (fun m8 e8 a8 => ?_) (fun m1 am => ?_)
  · have c8 : CR 1 m8 A.r := a8.1
    obtain ⟨m12, e12, c12, f12⟩ := s3_giveChain (h := h) (n := szN A.r h) (t := swp A.r h j q) c8 hn hh (Or.inr ht)
    have t00 : tri (szN A.r h) (swp A.r h j q) 0 = nI (swp A.r h j q 0) := by unfold tri; rw [if_pos (by omega)]
    rw [t00] at e12
    refine ⟨m12, ?_, c12, f12⟩
    rw [w_L_swap, e_X7_swap, s3_has hC.1.1, pz_bnd, bI_ite, if_pos h1, pz_in (by omega) (by omega), pz_cl (by omega), hC.1.1.size (by omega), hc.2.1, pz_nm, s7_wth, pz_bnd, bI_ite, if_pos h2, s6_has hC.1.1, pz_bnd, bI_ite, if_pos h4, s3_holds hC.1 hn hc hh (by omega), pz_bnd, h5, cl, rsC, pz_bnd, if_pos z0, e8, pz_bnd, mm m8 j c8 (by omega), pz_bnd, e12, pz_bnd, pz_jr, pz_bnd]
  · obtain ⟨m4, e4, a4, g4⟩ := mod m1 am
    rw [if_pos z0, si_at, if_pos (by decide)] at e4
    obtain ⟨m2, e2, a2, g2, k2⟩ := m_save (a4.set5 (j := 5) (by decide) (by decide) 0) ok (si_at _ _ _ _) (r' := giveR A.r h (szN A.r h) (swp A.r h j q)) (y := A.r (79 + 10 * h + j)) (K := fun m41 => bnd (f_X8_of (nI h) (6 + nI j) m41) fun x43 => bnd (f_X8_put (nI h) (6 + nI j) (nI q) m41) fun m45 => some (x43, m45)) (fun m9 z9 _ _ => by
      rw [show (6 : Int32) = nI 6 from rfl, pz_add, s8_of z9 (by omega) (by omega), pz_bnd, s8_put (by omega) (by omega), pz_bnd, show 73 + 10 * h + (6 + j) = 79 + 10 * h + j by omega]
      refine ⟨_, rfl, ?_, fun a h1 _ => si_ne h1, FrM.rf.put (by omega)⟩
      rw [sa_si, sa_self, z9, swp_row hc hj, show 73 + 10 * h + (6 + j) = 79 + 10 * h + j by omega])
    exact ⟨m2, by rw [e4]; exact e2, a2, (g4.put (by omega)).tr g2, k2⟩
end SWAP
