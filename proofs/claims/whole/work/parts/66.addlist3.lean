/-! the call addList -/
section ADDL3
variable {m : Mem} {A : Ab}
/-- the hearings of a complete text, the last with them -/
def fL (P : PT) (L : Nat → Nat → Nat) : Nat → Nat → Nat := fun k j => if k = P.2.1 then pent P j else L k j
theorem o_addList (hC : AC m A) (hM : AM m A) (ok : Ok A) : OPS (w_L_addList m) f_X8_addList := by
  have b60 := ok.2.1
  have gd := ok.2.2.1
  obtain ⟨t, t1, t2⟩ := gd.2
  have hn := gd.1.1.1
  obtain ⟨m1, e1, f1, p1⟩ := s5_read (b := cod A) (N := A.bl) hC.2.2.1 b60 (fun i hi => ⟨by rw [hC.2.2.2 i hi]; exact (cod_ok ok hi).1, (cod_ok ok hi).2⟩)
  have ac1 := f1.ac hC
  have mod : ∀ mx, AM mx A → ∃ m3, f_X8_rightUpTo mx = some (nI (pE (cod A) A.bl), m3) ∧ FrT mx m3 ∧ ∀ P, pR (cod A) A.bl = some P → PMd m3 P (rL (cod A) A.bl) := fun mx am => s8_rightUpTo (b := cod A) (N := A.bl) am.2.2.2.1 b60 (fun i hi => ⟨by rw [am.2.2.2.2 i hi]; exact (cod_ok ok hi).1, (cod_ok ok hi).2⟩)
  have b155 : m1.1 155 0 = nI A.bl := ac1.2.2.1
  cases hR : pR (cod A) A.bl with
  | none =>
    have lt := pE_lt hR
    obtain ⟨m3, g1, g2, -⟩ := mod m1 (f1.am hM)
    have k3 : m3.1 162 3 = nI A.bl := by rw [g2.2.1 3 (by omega) (by omega) (by omega)]; exact (f1.am hM).2.2.2.1
    refine ops_of (code := 1) (m1 := m1) (y := 0) (m2 := si m3 162 5 1) ?_ ?_ (si_at _ _ _ _) (fun q => absurd q (by decide)) ac1 ((g2.am (f1.am hM)).set5 (by decide) (by decide) 1) (g2.fr.put (by omega)) ok
    · rw [w_L_addList, e_X7_addList, e1, pz_bnd2, b155, if_pos (by rw [pz_lt (by omega) (by omega)]; exact lt), pz_jl, pz_bnd]
      rfl
    · rw [f_X8_addList, g1, pz_bnd2, k3, if_neg (by rw [pz_eq (by omega) (by omega)]; omega), pz_bnd, if_pos rfl, pz_bnd, pz_nm, si_at, if_neg (by decide)]
  | some P =>
    have pC := p1 P hR
    have eN := pE_some (b := cod A) (i := A.bl) (by rw [hR]; rfl)
    rw [eN] at e1
    have nlt : ¬ nI A.bl < nI A.bl := fun q => Int32.lt_irrefl q
    have s4 := (pR_PB hR).1
    have n9 : P.2.1 < 11 := by
      have := pR_wt hR
      unfold pwt at this
      omega
    by_cases hc : (decide (P.1 = 4) && decide (10 ≤ P.2.2.2.2.2)) = true
    case neg =>
      obtain ⟨m3, g1, g2, g3⟩ := mod m1 (f1.am hM)
      rw [eN] at g1
      have k3 : m3.1 162 3 = nI A.bl := by rw [g2.2.1 3 (by omega) (by omega) (by omega)]; exact (f1.am hM).2.2.2.1
      refine ops_of (code := 1) (m1 := m1) (y := 0) (m2 := si m3 162 5 1) ?_ ?_ (si_at _ _ _ _) (fun q => absurd q (by decide)) ac1 ((g2.am (f1.am hM)).set5 (by decide) (by decide) 1) (g2.fr.put (by omega)) ok
      · rw [w_L_addList, e_X7_addList, e1, pz_bnd2, b155, if_neg nlt, s5_complete pC, pz_bnd, bI_ite, if_neg hc, pz_jl, pz_bnd]
        rfl
      · rw [f_X8_addList, g1, pz_bnd2, k3, if_pos rfl, s8_complete (g3 P hR), pz_bnd, bI_ite, if_neg hc, pz_bnd, pz_nm, si_at, if_neg (by decide)]
    have hc' := hc
    rw [Bool.and_eq_true, decide_eq_true_eq, decide_eq_true_eq] at hc'
    obtain ⟨q4, q10⟩ := hc'
    have n10 : P.2.1 < 10 := by
      have := pR_wt hR
      unfold pwt at this
      rw [q4] at this
      rw [if_neg (by omega), if_neg (by omega), if_neg (by omega), if_neg (by omega), if_neg (by omega)] at this
      omega
    have h30' := hn.2.2.1
    have hH : m1.1 (1 + 8) 0 = nI (hrs A.r) := by rw [ac1.1.1.hearings]; exact hn.2.2.2
    have hF0 : m1.1 157 0 = nI (P.2.1 + 1) := by
      have := pC.2.2.2.2.1
      rw [if_neg (by omega)] at this
      exact this
    have e30 : (nI (hrs A.r + (P.2.1 + 1)) ≤ 30) = (hrs A.r + (P.2.1 + 1) ≤ 30) := pz_le (b := (30 : Nat)) (by omega) (by decide)
    have hEB : ∀ k, k < P.2.1 + 1 → EB (fL P (rL (cod A) A.bl) k) := fun k hk => by
      unfold fL
      by_cases z : k = P.2.1
      · simp only [if_pos z]
        exact EB_pent (pR_PB hR) q4 q10
      · simp only [if_neg z]
        exact rL_EB hR k (by omega)
    by_cases hh : hrs A.r + (P.2.1 + 1) ≤ 30
    case neg =>
      obtain ⟨m3, g1, g2, g3⟩ := mod m1 (f1.am hM)
      rw [eN] at g1
      have am3 := g2.am (f1.am hM)
      have k3 : m3.1 162 3 = nI A.bl := am3.2.2.2.1
      refine ops_of (code := 2) (m1 := m1) (y := 0) (m2 := si m3 162 5 2) ?_ ?_ (si_at _ _ _ _) (fun q => absurd q (by decide)) ac1 (am3.set5 (by decide) (by decide) 2) (g2.fr.put (by omega)) ok
      · rw [w_L_addList, e_X7_addList, e1, pz_bnd2, b155, if_neg nlt, s5_complete pC, pz_bnd, bI_ite, if_pos hc, hH, hF0, pz_add, pz_nm, if_neg (by rw [e30]; exact hh), pz_jr, pz_bnd]
        rfl
      · rw [f_X8_addList, g1, pz_bnd2, k3, if_pos rfl, s8_complete (g3 P hR), pz_bnd, bI_ite, if_pos hc, am3.1, hn.2.2.2, (g3 P hR).2.2.2.2.1, pz_add, pz_nm, pz_s, Nat.add_assoc, if_neg (by rw [e30]; exact hh), pz_bnd, pz_nm, si_at, if_neg (by decide)]
    -- both sides enter the hearings
    have rEn := rE_RW (L := fL P (rL (cod A) A.bl)) gd.1 t2 t1 (P.2.1 + 1) hh hEB
    have rE0 := rE_RW (L := rL (cod A) A.bl) gd.1 t2 t1 P.2.1 (by omega) (rL_EB hR)
    have okp : Ok (A.push.now (rE A.r t (fL P (rL (cod A) A.bl)) (P.2.1 + 1))) := ok.push ⟨rEn.1, t, t1, rEn.2.1⟩
    obtain ⟨m12, s1, s2, s3⟩ := s4_save ac1 ok.1 ok.h30
    obtain ⟨q, l1, l2, l3, l4⟩ := s5_enterL (m := si (si m12 157 1 0) 157 0 0) (b := cod A) (N := A.bl) (t := t) (r := A.r) (by rw [si_ne (by omega), si_ne (by omega)]; exact s2.2.2.1) b60 (fun i hi => ⟨by rw [si_ne (by omega), si_ne (by omega), s2.2.2.2 i hi]; exact (cod_ok ok hi).1, (cod_ok ok hi).2⟩) (s2.1.fr fun a _ _ => by rw [si_ne (by omega), si_ne (by omega)]) gd.1 t2 t1 ⟨by simp, by simp, by simp, by rw [si_off (by omega), si_at]; rfl, by rw [si_at]; rfl, fun h => absurd h (by simp), fun h => absurd h (by simp), fun h => absurd h (by simp), fun h => absurd h (by simp)⟩ hR (by omega)
    obtain ⟨m14, o1, o2, o3⟩ := s5_enterOne (t := t) l2 rE0.1.1.1 (by rw [rE0.2.2]; omega) rE0.2.1 l3 q4
    have er : rE A.r t (fL P (rL (cod A) A.bl)) (P.2.1 + 1) = entR (rE A.r t (rL (cod A) A.bl) P.2.1) (nI (pent P 0)) (nI (pent P 1)) (nI (t + pent P 2)) (nI (pent P 3)) := by
      have f1 : ∀ j, fL P (rL (cod A) A.bl) P.2.1 j = pent P j := fun j => if_pos rfl
      rw [rE, rE_cong (L' := rL (cod A) A.bl) (fun k hk => by
        funext j
        exact if_neg (by omega)), f1, f1, f1, f1]
    rw [← er] at o2
    have fr : ∀ a, 20 ≤ a → a ≠ 157 → m14.1 a = m12.1 a := fun a h1 h2 => by rw [o3.1 a (by omega), l4.1 a (by omega), si_ne (by omega), si_ne (by omega)]
    have acF : AC (si m14 155 0 0) (Ab.mk (rE A.r t (fL P (rL (cod A) A.bl)) (P.2.1 + 1)) A.push.n A.push.hs 0 A.bc) := by
      obtain ⟨-, ⟨f, hf, a1, a2, a3⟩, -, -⟩ := s2
      refine ⟨o2.fr fun a _ _ => si_ne (by omega), ⟨f, hf, ?_, ?_, fun k hk => ?_⟩, ?_, fun i hi => ?_⟩
      · rw [si_ne (by omega), fr 39 (by omega) (by omega)]; exact a1
      · rw [si_ne (by omega), fr 39 (by omega) (by omega)]; exact a2
      · exact (a3 k hk).fr fun a h1 h2 => by rw [si_ne (by omega), fr a (by omega) (by omega)]
      · rw [si_at]; rfl
      · exact absurd hi (Nat.not_lt_zero i)
    have x0 : FrX m (si m14 155 0 0) := fun a ha => by rw [si_ne (by omega), fr a (by omega) (by omega), s3 a ha, f1.1 a (by omega)]
    have am0 : AM (slm (si m14 155 0 0) 170 0 (rE A.r t (fL P (rL (cod A) A.bl)) (P.2.1 + 1) 8).toInt64) A := hM.frX x0
    obtain ⟨m3, g1, g2, g3⟩ := mod _ am0
    rw [eN] at g1
    have pM := g3 P hR
    have am3 := g2.am am0
    have k3 : m3.1 162 3 = nI A.bl := am3.2.2.2.1
    obtain ⟨m17, v1, v2, v3, v4, v5⟩ := s8_save (am3.set5 (j := 5) (by decide) (by decide) 0) ok.1
    have h9 : m17.1 162 9 = nI P.2.1 := by rw [v5 9 (by omega), si_off (by omega)]; exact pM.2.2.2.2.1
    have h10 : m17.1 162 10 = nI P.2.2.2.2.2 := by
      rw [v5 10 (by omega), si_off (by omega), pM.2.2.2.2.2.1, if_neg (by omega), if_pos q4]
      exact if_neg (by omega)
    have h167 : m17.1 167 = m3.1 167 := by rw [v4 167 (by omega) (by omega), si_ne (by omega)]
    have e3 : 4 * nI P.2.1 + 3 = nI (4 * P.2.1 + 3) := by rw [show (4 : Int32) = nI 4 from rfl, show (3 : Int32) = nI 3 from rfl, pz_mul, pz_add]
    have ee : f_X8_endHearing m17 = some (si (si (si m17 167 (4 * P.2.1 + 3) (nI P.2.2.2.2.2)) 162 10 (-1)) 162 9 (nI (P.2.1 + 1))) := by
      unfold f_X8_endHearing
      rw [h9, h10, e3, pz_in (by omega) (by omega), pz_cl (by omega)]
      simp only [pz_nm]
      rw [si_off (by omega), si_ne (by omega), h9, pz_s]
    have lo := s8_addL (m := si (si (si (si m17 167 (4 * P.2.1 + 3) (nI P.2.2.2.2.2)) 162 10 (-1)) 162 9 (nI (P.2.1 + 1))) 162 3 0) (t := t) (r := A.r) (L := fL P (rL (cod A) A.bl)) (n := P.2.1 + 1) (by rw [si_ne (by omega), si_ne (by omega), si_ne (by omega), si_ne (by omega)]; exact v2.1) gd.1 t2 t1 (by rw [si_off (by omega), si_at]) (by omega) hh (fun k hk j hj => by
      rw [si_ne (by omega), si_ne (by omega), si_ne (by omega)]
      have s4 := pM.2.2.2.2.2.2
      rw [q4] at s4
      by_cases z : k = P.2.1
      · subst z
        have f1 : fL P (rL (cod A) A.bl) P.2.1 j = pent P j := if_pos rfl
        rw [f1]
        rcases (show j = 0 ∨ j = 1 ∨ j = 2 ∨ j = 3 by omega) with rfl | rfl | rfl | rfl
        · rw [si_off (by omega), h167]; exact s4.1 (by omega)
        · rw [si_off (by omega), h167]; exact s4.2.1 (by omega)
        · rw [si_off (by omega), h167]; exact s4.2.2.1 rfl
        · rw [si_at]; rfl
      · have f1 : fL P (rL (cod A) A.bl) k j = rL (cod A) A.bl k j := if_neg z
        rw [f1, si_off (by omega), h167]
        exact s4.2.2.2 k (by omega) j hj) hEB
    refine ops_of (code := 0) (m1 := slm (si m14 155 0 0) 170 0 (rE A.r t (fL P (rL (cod A) A.bl)) (P.2.1 + 1) 8).toInt64) (y := rE A.r t (fL P (rL (cod A) A.bl)) (P.2.1 + 1) 8) (m2 := sa (si (si (si (si m17 167 (4 * P.2.1 + 3) (nI P.2.2.2.2.2)) 162 10 (-1)) 162 9 (nI (P.2.1 + 1))) 162 3 0) 163 (rE A.r t (fL P (rL (cod A) A.bl)) (P.2.1 + 1))) (A' := Ab.mk (rE A.r t (fL P (rL (cod A) A.bl)) (P.2.1 + 1)) A.push.n A.push.hs 0 A.bc) ?_ ?_ ?_ (fun _ => by simp [slm]) acF ?_ ?_ ⟨okp.1, Nat.zero_le _, okp.2.2.1, okp.2.2.2.1, fun i hi => absurd hi (Nat.not_lt_zero i)⟩
    · have en : f_X5_enterAll 1 m12 = some m14 := by
        unfold f_X5_enterAll f_X5_begin
        simp only [pz_nm, pz_bnd]
        rw [l1, pz_bnd, o1, pz_bnd]
      rw [w_L_addList, e_X7_addList, e1, pz_bnd2, b155, if_neg nlt, s5_complete pC, pz_bnd, bI_ite, if_pos hc, hH, hF0, pz_add, pz_nm, if_pos (by rw [e30]; exact hh), s1, pz_bnd, en, pz_bnd, pz_nm, pz_jr, pz_bnd, acF.1.1.hearings]
      rfl
    · rw [f_X8_addList, g1, pz_bnd2, k3, if_pos rfl, s8_complete pM, pz_bnd, bI_ite, if_pos hc, am3.1, hn.2.2.2, pM.2.2.2.2.1, pz_add, pz_nm, pz_s, Nat.add_assoc, if_pos (by rw [e30]; exact hh), pz_bnd, pz_nm, si_at, if_pos (by decide), v1, pz_bnd, ee, pz_bnd, pz_nm, lo, pz_bnd, sa_self]
    · rw [sa_ne _ (by omega), si_off (by omega), si_off (by omega), si_off (by omega), si_ne (by omega), v5 5 (by omega), si_at]
    · obtain ⟨-, b1, b2, -, -⟩ := v2
      refine ⟨sa_self _ _ _, ?_, fun k hk i hi => ?_, ?_, fun i hi => absurd hi (Nat.not_lt_zero i)⟩
      · rw [sa_ne _ (by omega), si_off (by omega), si_off (by omega), si_off (by omega), si_ne (by omega)]; exact b1
      · rw [sa_ne _ (by omega), si_ne (by omega), si_ne (by omega), si_ne (by omega), si_ne (by omega)]; exact b2 k hk i hi
      · rw [sa_ne _ (by omega), si_at]; rfl
    · exact (((((g2.fr.put (by omega)).tr v3).put (by omega)).put (by omega)).put (by omega)).put (by omega) |>.arr (by omega)
end ADDL3
