/-! acts: chains -/
theorem sw_dec0 : ∀ a, a < 5 → ∀ b, b < 6 → ∀ c, c < 6 → ∀ p, p < 5 → nI (a + 1 + 16 * b + 256 * c) + ((nI p - nI a) <<< ((4 * nI 0) &&& 31)) = nI (p + 1 + 16 * b + 256 * c) := by decide +kernel
theorem sw_dec1 : ∀ a, a < 6 → ∀ b, b < 5 → ∀ c, c < 6 → ∀ p, p < 5 → nI (a + 16 * (b + 1) + 256 * c) + ((nI p - nI b) <<< ((4 * nI 1) &&& 31)) = nI (a + 16 * (p + 1) + 256 * c) := by decide +kernel
theorem sw_dec2 : ∀ a, a < 6 → ∀ b, b < 6 → ∀ c, c < 5 → ∀ p, p < 5 → nI (a + 16 * b + 256 * (c + 1)) + ((nI p - nI c) <<< ((4 * nI 2) &&& 31)) = nI (a + 16 * b + 256 * (p + 1)) := by decide +kernel
section CHN
variable {m : Mem} {A : Ab} {r : Row} {k h n j p : Nat} {t : Nat → Nat} {x y : Int32}
theorem sw_enc (hc : ChW r h) (B : LZB r) (hj : j < szN r h) (hp : p < 5) : nI (encT (szN r h) (mbN r h)) + ((nI p - nI (mbN r h j)) <<< ((4 * nI j) &&& 31)) = nI (encT (szN r h) (swp r h j p)) := by
  have tb := B.mb hc
  have h3 := hc.1
  have dj : dg (szN r h) (mbN r h) j = mbN r h j + 1 := if_pos hj
  have dn : ∀ i, i ≠ j → dg (szN r h) (swp r h j p) i = dg (szN r h) (mbN r h) i := fun i hi => by
    unfold dg swp
    rw [if_neg hi]
  have ds : dg (szN r h) (swp r h j p) j = p + 1 := by
    unfold dg swp
    rw [if_pos hj, if_pos rfl]
  unfold encT
  rcases (show j = 0 ∨ j = 1 ∨ j = 2 by omega) with rfl | rfl | rfl
  · rw [ds, dn 1 (by omega), dn 2 (by omega), dj]
    exact sw_dec0 _ (tb 0 hj) _ (dg_lt tb 1) _ (dg_lt tb 2) p hp
  · rw [ds, dn 0 (by omega), dn 2 (by omega), dj]
    exact sw_dec1 _ (dg_lt tb 0) _ (tb 1 hj) _ (dg_lt tb 2) p hp
  · rw [ds, dn 0 (by omega), dn 1 (by omega), dj]
    exact sw_dec2 _ (dg_lt tb 0) _ (dg_lt tb 1) _ (tb 2 hj) p hp
theorem tri_dg (i : Nat) : tri n t i + 1 = nI (dg n t i) := by
  rw [← dg_tri, Int32.sub_add_cancel]
theorem enc_val (ht : Tri r n t) : nI (t 0) + 1 + 16 * (tri n t 1 + 1) + 256 * (tri n t 2 + 1) = nI (encT n t) := by
  have t0 : nI (t 0) = tri n t 0 := by
    unfold tri
    rw [if_pos (by have := ht.1; omega)]
  rw [t0, tri_dg, tri_dg, tri_dg, show (16 : Int32) = nI 16 from rfl, show (256 : Int32) = nI 256 from rfl, pz_mul, pz_mul, pz_add, pz_add]
  rfl
theorem rsn_n (r : Row) (h n : Nat) (t : Nat → Nat) : ∃ s, s ≤ 5 ∧ rsnR r h n t = nI s := by
  unfold rsnR
  cases lst r h
  · exact ⟨1, by omega, rfl⟩
  cases std r h
  case true => exact ⟨2, by omega, rfl⟩
  cases chOK r (lngR r h) n t
  · exact ⟨3, by omega, rfl⟩
  cases ceN r (kndR r h) t n
  · exact ⟨4, by omega, rfl⟩
  cases buN r h t n
  · exact ⟨0, by omega, rfl⟩
  · exact ⟨5, by omega, rfl⟩
theorem rsn_le (r : Row) (h n : Nat) (t : Nat → Nat) : (rsnR r h n t ≤ 0) = (rsnR r h n t = 0) := by
  obtain ⟨s, s5, e⟩ := rsn_n r h n t
  rw [e, i32_le0 (by omega), show (nI s = 0) = (s = 0) from pz_eq (b := (0 : Nat)) (by omega) (by decide)]
theorem l_asg (I : INV k m A) (hh : h < hrs A.r) (ht : Tri A.r n t) : ∃ m' A', tt_asg (nI h) (nI (t 0)) (tri n t 1) (tri n t 2) m = some (1, m') ∧ INV (k + 1) m' A' := by
  obtain ⟨hC, ok, L, B, S, u, u1, u2⟩ := id I
  have gd := ok.2.2.1
  have hn := gd.1.1.1
  have b8 := B.2
  have wy := l_why L B hn gd.1.1.2.1 (gd.1.2.1 h hh) S hh ht
  have wn := k_whyNot hC ok hh ht
  by_cases z0 : rsnR A.r h n t = 0
  case neg =>
    refine ⟨m, A, ?_, I.succ⟩
    unfold tt_asg
    rw [pz_nm, pz_nm, enc_val ht, wy, pz_bnd, wn, pz_bnd, if_pos rfl, if_neg (by rw [rsn_le]; exact z0), pz_jr]
  have gd' := GD_give (h := h) (n := n) (t := t) gd hh (Or.inr ⟨ht, rsn_bu z0⟩)
  obtain ⟨L2, ep, eh⟩ := LZ_give (k := n) (t := t) L B hh ht.2.1 (fun i hi => by have := ht.2.2.1 i hi; have := B.1; omega)
  have B2 : LZB (giveR A.r h n t) := ⟨by rw [ep]; exact B.1, by rw [eh]; exact B.2⟩
  generalize hM : si m 165 h (nI (encT n t)) = M at L2
  have lo : ∀ a, a < 162 → (inc6 M).1 a = m.1 a := fun a ha => by rw [inc6_a _ (by omega), ← hM, si_ne (by omega)]
  have L3 := inc6_L L2 ok.1
  obtain ⟨m2, k1, k2, k3⟩ := k_assign (hC.low lo) ok hh ht z0
  have L4 : LZ m2 (giveR A.r h n t) (if A.n = 6 then 6 else A.n + 1) := L3.cong (fun a ha => k3 a ha)
  have tg : f_L_together (nI h) 2 m2 = some (payR (giveR A.r h n t) h 2) := l_together (v := 2) (L4.le B2) B2 gd'.1.2.2.1 gd'.1.2.2.2.1 gd'.1.1.2.2.1 (by rw [eh]; exact hh) (gd'.1.1.2.1 h (by rw [eh]; exact hh)) (by omega)
  refine ⟨m2, A.push.now (giveR A.r h n t), ?_, I.mut L3 k2 k3 gd' B2 (STG_give S) ⟨u, by omega, by rw [giveR_ne (by omega)]; exact u2⟩⟩
  unfold tt_asg
  rw [pz_nm, pz_nm, enc_val ht, wy, pz_bnd, wn, pz_bnd, if_pos rfl, if_pos (by rw [rsn_le]; exact z0), pz_in (by omega) (by omega), pz_cl (by omega), pz_nm, hM, inc6_K (K := fun z => some (Sum.inl z)), pz_jl, k1, pz_bnd2, tg, pz_bnd, if_pos rfl]
theorem l_swap (I : INV k m A) (hh : h < hrs A.r) (h3 : 3 ≤ ppl A.r) : ∃ m' A', tt_swap y (nI h) m = some (.inr (1, m')) ∧ INV (k + 1) m' A' := by
  obtain ⟨hC, ok, L, B, S, u, u1, u2⟩ := id I
  have gd := ok.2.2.1
  have hn := gd.1.1.1
  have b8 := B.2
  have b5 := B.1
  have hc := gd.1.1.2.1 h hh
  have tb := B.mb hc
  have s3 := hc.1
  have e0 : m.1 162 0 = nI (ppl A.r) := by rw [L.n0, hn.2.1]
  obtain ⟨p, hp, ep⟩ := l_atA (y >>> (4 &&& 31)) (n := ppl A.r) (by omega) (by omega)
  have dc := L.ch B hh
  have q0 : (nI (szN A.r h) = 0) = (szN A.r h = 0) := pz_eq (b := (0 : Nat)) (by omega) (by decide)
  by_cases z : szN A.r h = 0
  · refine ⟨m, A, ?_, I.succ⟩
    unfold tt_swap
    rw [pz_in (by omega) (by omega), pz_cl (by omega), dc, pz_nm, l_size tb s3, pz_bnd, e0, ep, pz_bnd, if_pos (by rw [q0]; exact z)]
  cases hi : inCh A.r (nI p) h
  case true =>
    refine ⟨m, A, ?_, I.succ⟩
    unfold tt_swap
    rw [pz_in (by omega) (by omega), pz_cl (by omega), dc, pz_nm, l_size tb s3, pz_bnd, e0, ep, pz_bnd, if_neg (by rw [q0]; exact z), pz_in (by omega) (by omega), pz_nm, l_has tb s3 (by omega), hasT_in hc (by omega), pz_bnd, bI_ite, if_pos hi, pz_jr]
  obtain ⟨j, hj, ej⟩ := l_atA (y >>> (8 &&& 31)) (n := szN A.r h) (by omega) (by omega)
  have ht := swp_tri hc hj hp (by omega) hi
  have wy := l_why L B hn gd.1.1.2.1 (gd.1.2.1 h hh) S hh ht
  have se := sw_enc hc B hj (show p < 5 by omega)
  by_cases z0 : rsnR A.r h (szN A.r h) (swp A.r h j p) = 0
  case neg =>
    refine ⟨m, A, ?_, I.succ⟩
    unfold tt_swap
    rw [pz_in (by omega) (by omega), pz_cl (by omega), dc, pz_nm, l_size tb s3, pz_bnd, e0, ep, pz_bnd, if_neg (by rw [q0]; exact z), pz_in (by omega) (by omega), pz_nm, l_has tb s3 (by omega), hasT_in hc (by omega), pz_bnd, bI_ite, if_neg (by rw [hi]; simp), ej, pz_bnd, pz_in (by omega) (by omega), pz_nm, l_whoN tb s3 hj, pz_bnd, pz_in (by omega) (by omega), pz_nm, pz_nm, se, wy, pz_bnd, if_neg (by rw [rsn_le]; exact z0), pz_jr]
  have gd' := GD_give (h := h) (n := szN A.r h) (t := swp A.r h j p) gd hh (Or.inr ⟨ht, rsn_bu z0⟩)
  obtain ⟨L2, epp, eh⟩ := LZ_give (k := szN A.r h) (t := swp A.r h j p) L B hh s3 (fun i hi => by have := ht.2.2.1 i hi; omega)
  generalize hM : si m 165 h (nI (encT (szN A.r h) (swp A.r h j p))) = M at L2
  have lo : ∀ a, a < 162 → (inc6 M).1 a = m.1 a := fun a ha => by rw [inc6_a _ (by omega), ← hM, si_ne (by omega)]
  have L3 := inc6_L L2 ok.1
  obtain ⟨m2, k1, k2, k3⟩ := k_swap (hC.low lo) ok hh hj hp hi z0
  have was : A.r (79 + 10 * h + j) = nI (mbN A.r h j) := (hc.2.2.1 j hj).2
  refine ⟨m2, A.push.now (giveR A.r h (szN A.r h) (swp A.r h j p)), ?_, I.mut L3 k2 k3 gd' ⟨by rw [epp]; exact B.1, by rw [eh]; exact B.2⟩ (STG_give S) ⟨u, by omega, by rw [giveR_ne (by omega)]; exact u2⟩⟩
  unfold tt_swap
  rw [pz_in (by omega) (by omega), pz_cl (by omega), dc, pz_nm, l_size tb s3, pz_bnd, e0, ep, pz_bnd, if_neg (by rw [q0]; exact z), pz_in (by omega) (by omega), pz_nm, l_has tb s3 (by omega), hasT_in hc (by omega), pz_bnd, bI_ite, if_neg (by rw [hi]; simp), ej, pz_bnd, pz_in (by omega) (by omega), pz_nm, l_whoN tb s3 hj, pz_bnd, pz_in (by omega) (by omega), pz_nm, pz_nm, se, wy, pz_bnd, if_pos (by rw [rsn_le]; exact z0), pz_in (by omega) (by omega), pz_nm, hM, inc6_K (K := fun z => some (Sum.inl (nI j, nI (mbN A.r h j), z))), pz_jl]
  dsimp only
  rw [k1, pz_bnd2, if_pos was]
theorem l_rv (I : INV k m A) (hh : h < hrs A.r) : ∃ m' A', tt_rv (nI h) x m = some (.inr (1, m')) ∧ INV (k + 1) m' A' := by
  obtain ⟨hC, ok, L, B, S, u, u1, u2⟩ := id I
  have gd := ok.2.2.1
  have hn := gd.1.1.1
  have b8 := B.2
  have b5 := B.1
  have hc := gd.1.1.2.1 h hh
  have tb := B.mb hc
  have s3 := hc.1
  obtain ⟨s, s4, es⟩ := S h hh
  have d4 : m.1 164 (6 * h + 4) = A.r (73 + 10 * h + 4) := L.he B hh (j := 4) (by omega)
  have d2 : m.1 164 (6 * h + 2) = A.r (73 + 10 * h + 2) := L.he B hh (j := 2) (by omega)
  have g0 : (0 < nI s) = (0 < s) := pz_lt (a := (0 : Nat)) (by decide) (by omega)
  by_cases z : 0 < s
  · refine ⟨m, A, ?_, I.succ⟩
    unfold tt_rv
    rw [x6, pl4, pz_in (by omega) (by omega), pz_cl (by omega), d4, pz_nm, es, if_pos (by rw [g0]; exact z)]
  by_cases z2 : A.r 9 < A.r (73 + 10 * h + 2)
  case neg =>
    refine ⟨m, A, ?_, I.succ⟩
    unfold tt_rv
    rw [x6, pl4, pz_in (by omega) (by omega), pz_cl (by omega), d4, pz_nm, es, if_neg (by rw [g0]; exact z), pl2, pz_in (by omega) (by omega), pz_cl (by omega), d2, pz_nm, L.n2, if_neg z2, pz_jr]
  have h2 : (lst A.r h && !std A.r h) = true := by
    have s0 : s = 0 := by omega
    have l1 : lst A.r h = true := by
      unfold lst
      rw [es, s0]
      rfl
    have l2 : std A.r h = false := by
      unfold std
      simp [z2]
    rw [l1, l2]
    rfl
  have hl : lst A.r h = true := by rw [Bool.and_eq_true] at h2; exact h2.1
  have L1 := inc6_L L ok.1
  have dc1 := L1.ch B hh
  have d21 : (inc6 m).1 164 (6 * h + 2) = A.r (73 + 10 * h + 2) := L1.he B hh (j := 2) (by omega)
  by_cases z7 : x = 7
  · obtain ⟨L2, epp, eh⟩ := LZ_give (k := 0) (t := fun _ => 0) L1 B hh (by omega) (fun i hi => by omega)
    have e0 : nI (encT 0 (fun _ => 0)) = (0 : Int32) := rfl
    rw [e0] at L2
    have lo : ∀ a, a < 162 → (si (inc6 m) 165 h 0).1 a = m.1 a := fun a ha => by rw [si_ne (by omega), inc6_a _ (by omega)]
    obtain ⟨m2, k1, k2, k3⟩ := k_release (hC.low lo) ok hh h2
    refine ⟨m2, A.push.now (giveR A.r h 0 (fun _ => 0)), ?_, I.mut L2 k2 k3 (GD_give gd hh (Or.inl rfl)) ⟨by rw [epp]; exact B.1, by rw [eh]; exact B.2⟩ (STG_give S) ⟨u, by omega, by rw [giveR_ne (by omega)]; exact u2⟩⟩
    unfold tt_rv
    rw [x6, pl4, pz_in (by omega) (by omega), pz_cl (by omega), d4, pz_nm, es, if_neg (by rw [g0]; exact z), pl2, pz_in (by omega) (by omega), pz_cl (by omega), d2, pz_nm, L.n2, if_pos z2, inc6_K (K := fun z => some (Sum.inl z)), pz_jl, if_pos z7, pz_in (by omega) (by omega), pz_cl (by omega), dc1, pz_nm, l_size tb s3, pz_bnd, pz_in (by omega) (by omega), pz_nm, k1, pz_bnd2, if_pos rfl]
  · obtain ⟨v, v2, ev⟩ := halv_n A.r (A.r (73 + 10 * h + 2) - A.r 9)
    have R0 : RW0 A.r := ⟨gd.1.1.1, gd.1.1.2.1, gd.1.1.2.2.1, gd.1.2.2.1, gd.1.2.2.2.1, gd.1.2.2.2.2⟩
    obtain ⟨m3, p1, L2, c2⟩ := l_vac L1 B R0 hh v2
    have lo : ∀ a, a < 162 → (si (si m3 164 (6 * h + 4) (nI 3)) 162 4 (m3.1 162 4 + payR A.r h (nI v))).1 a = m.1 a := fun a ha => by rw [si_ne (by omega), si_ne (by omega), c2 a (by omega) (by omega) (by omega), inc6_a _ (by omega)]
    obtain ⟨m2, k1, k2, k3⟩ := k_vacate (hC.low lo) ok hh h2 ev
    have cs := closeR_SE (st := 3) (hv := nI v) hc hn.1
    have gd' : GD (closeR A.r h 3 (nI v)) := by
      obtain ⟨w, w1, w2⟩ := gd.2
      exact ⟨close_RW gd.1 hh hl v2 (by omega) (by omega), w, w1, by rw [closeR_CE hc hn.1 9 (by omega)]; exact w2⟩
    refine ⟨m2, A.push.now (closeR A.r h 3 (nI v)), ?_, I.mut L2 k2 k3 gd' ⟨by rw [cs.ePpl]; exact B.1, by rw [cs.eHrs]; exact B.2⟩ (STG_close S hc hn.1 (by omega)) ⟨u, by omega, by rw [closeR_CE hc hn.1 9 (by omega)]; exact u2⟩⟩
    have n4 : (inc6 m).1 162 11 = A.r 4 := L1.ns (k := 4) (by omega)
    have n5 : (inc6 m).1 162 12 = A.r 5 := L1.ns (k := 5) (by omega)
    have hv' : (if A.r 4 ≤ A.r (73 + 10 * h + 2) - A.r 9 then (if A.r 5 ≤ A.r (73 + 10 * h + 2) - A.r 9 then some (0 : Int32) else some 1) else some 2) = some (nI v) := by
      rw [← ev]
      unfold halv
      split
      · split <;> rfl
      · rfl
    unfold tt_rv
    rw [x6, pl4, pz_in (by omega) (by omega), pz_cl (by omega), d4, pz_nm, es, if_neg (by rw [g0]; exact z), pl2, pz_in (by omega) (by omega), pz_cl (by omega), d2, pz_nm, L.n2, if_pos z2, inc6_K (K := fun z => some (Sum.inl z)), pz_jl, if_neg z7, pz_in (by omega) (by omega), d21, pz_nm, L1.n2, n4, n5, hv', pz_bnd, p1, pz_bnd2, pz_in (by omega) (by omega), pz_nm, si_ne (a := 162) (by omega), pz_nm]
    rw [show (3 : Int32) = nI 3 from rfl, k1, pz_bnd2, if_pos rfl]
end CHN
