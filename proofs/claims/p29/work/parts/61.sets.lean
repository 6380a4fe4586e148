/-! acts: certify, set, pass -/
section SETS
variable {m : Mem} {A : Ab} {k : Nat} {x y : Int32}
theorem p7a (i : Nat) : (7 : Int32) + nI i = nI (7 + i) := nI_add 7 i
theorem l_cert (I : INV k m A) (h3 : 3 ≤ ppl A.r) : ∃ m' A', tt_rest x y 10 m = some (1, m') ∧ INV (k + 1) m' A' := by
  obtain ⟨hC, ok, L, B, S, t, t1, t2⟩ := id I
  have gd := ok.2.2.1
  have hn := gd.1.1.1
  have b5 := B.1
  have e0 : m.1 162 0 = nI (ppl A.r) := by rw [L.n0, hn.2.1]
  obtain ⟨p, hp, ep⟩ := l_atA y (n := ppl A.r) (by omega) (by omega)
  obtain ⟨v, hv, ev'⟩ := l_atA (y >>> (4 &&& 31)) (n := 8) (by omega) (by omega)
  have ev : ∀ m, f_L_at (y >>> (4 &&& 31)) 8 m = some (nI v) := ev'
  have d1 : m.1 163 (6 * p + 1) = A.r (23 + p) := L.pe B hp (j := 1) (by omega)
  have eh : hrs (upd A.r (23 + p) (nI v)) = hrs A.r := by unfold hrs; rw [upd_ne (by omega)]
  have epp : ppl (upd A.r (23 + p) (nI v)) = ppl A.r := by unfold ppl; rw [upd_ne (by omega)]
  have L2 : LZ (si m 163 (6 * p + 1) (nI v)) (upd A.r (23 + p) (nI v)) A.n := by
    refine LZ_row163 L (fun i hi => upd_ne (by omega)) (fun q j hq hj hql => ?_) (fun q j hq hj hql => si_off (Or.inr (by omega))) (fun a ha _ => si_ne ha)
    by_cases z : q = p ∧ j = 1
    · rw [z.1, z.2, si_at, upd_is (by omega)]
    · rw [si_off (Or.inr (by omega)), upd_ne (by omega)]
      exact L.pe B hql hj
  generalize hM : si m 163 (6 * p + 1) (nI v) = M at L2
  have r1 : (inc6 M).1 163 (6 * p + 1) = nI v := by rw [inc6_a _ (by omega), ← hM, si_at]
  have lo : ∀ a, a < 162 → (inc6 M).1 a = m.1 a := fun a ha => by rw [inc6_a _ (by omega), ← hM, si_ne (by omega)]
  obtain ⟨m2, k1, k2, k3⟩ := k_certify (hC.low lo) ok hp hv
  refine ⟨m2, A.push.now (upd A.r (23 + p) (nI v)), ?_, I.mut (inc6_L L2 ok.1) k2 k3 (GD_cert gd hp hv) ⟨by omega, by rw [eh]; exact B.2⟩ (S.same eh (fun o => upd_ne (by omega))) ⟨t, by omega, by rw [upd_ne (by omega)]; exact t2⟩⟩
  unfold tt_rest tt_cert
  rw [if_pos (by decide), if_pos rfl, e0, ep, pz_bnd, x6, pz_s, pz_in (by omega) (by omega), pz_cl (by omega), d1, pz_nm, ev, pz_bnd, pz_in (by omega) (by omega), pz_nm, hM, inc6_K (K := fun z => some (Sum.inl (nI p, A.r (23 + p), z))), pz_jl]
  dsimp only
  rw [x6, pz_s, pz_in (by omega) (by omega), pz_cl (by omega), pz_nm, r1, k1, pz_bnd2, if_pos rfl]
theorem l_set (I : INV k m A) : ∃ m' A', tt_rest x y 11 m = some (1, m') ∧ INV (k + 1) m' A' := by
  obtain ⟨hC, ok, L, B, S, t, t1, t2⟩ := id I
  have gd := ok.2.2.1
  have hn := gd.1.1.1
  obtain ⟨i, hi, ei'⟩ := l_atA y (n := 7) (by omega) (by omega)
  have ei : ∀ m, f_L_at y 7 m = some (nI i) := ei'
  obtain ⟨v1, hv1, e1'⟩ := l_atA (y >>> (3 &&& 31)) (n := 21) (by omega) (by omega)
  obtain ⟨v2, hv2, e2'⟩ := l_atA (y >>> (3 &&& 31)) (n := 300) (by omega) (by omega)
  obtain ⟨v3, hv3, e3'⟩ := l_atA (y >>> (3 &&& 31)) (n := 80) (by omega) (by omega)
  obtain ⟨v4, hv4, e4'⟩ := l_atA (y >>> (3 &&& 31)) (n := 101) (by omega) (by omega)
  have e1 : ∀ m, f_L_at (y >>> (3 &&& 31)) 21 m = some (nI v1) := e1'
  have e2 : ∀ m, f_L_at (y >>> (3 &&& 31)) 300 m = some (nI v2) := e2'
  have e3 : ∀ m, f_L_at (y >>> (3 &&& 31)) 80 m = some (nI v3) := e3'
  have e4 : ∀ m, f_L_at (y >>> (3 &&& 31)) 101 m = some (nI v4) := e4'
  have q3 : ((3 : Int32) ≤ nI i) = (3 ≤ i) := pz_le (a := (3 : Nat)) (by decide) (by omega)
  have q3' : (nI i = 3) = (i = 3) := pz_eq (b := (3 : Nat)) (by omega) (by decide)
  have q6 : ((6 : Int32) ≤ nI i) = (6 ≤ i) := pz_le (a := (6 : Nat)) (by decide) (by omega)
  obtain ⟨v, hv, hs, ev⟩ : ∃ v, v ≤ sBd i ∧ sBd i ≤ 5000 ∧ ∀ m, (if (3 : Int32) ≤ nI i then (if nI i = 3 then bnd (f_L_at (y >>> (3 &&& 31)) 300 m) fun x209 => some x209 else (if (6 : Int32) ≤ nI i then bnd (f_L_at (y >>> (3 &&& 31)) 101 m) fun x205 => some x205 else bnd (f_L_at (y >>> (3 &&& 31)) 80 m) fun x207 => some x207)) else bnd (f_L_at (y >>> (3 &&& 31)) 21 m) fun x211 => some x211) = some (nI v) := by
    by_cases z3 : 3 ≤ i
    · by_cases z : i = 3
      · refine ⟨v2, ?_, ?_, fun m => by rw [if_pos (by rw [q3]; exact z3), if_pos (by rw [q3']; exact z), e2, pz_bnd]⟩ <;> (rw [z]; simp [sBd] <;> omega)
      · by_cases z6 : 6 ≤ i
        · have : i = 6 := by omega
          refine ⟨v4, ?_, ?_, fun m => by rw [if_pos (by rw [q3]; exact z3), if_neg (by rw [q3']; exact z), if_pos (by rw [q6]; exact z6), e4, pz_bnd]⟩ <;> (rw [this]; simp [sBd] <;> omega)
        · refine ⟨v3, ?_, ?_, fun m => by rw [if_pos (by rw [q3]; exact z3), if_neg (by rw [q3']; exact z), if_neg (by rw [q6]; exact z6), e3, pz_bnd]⟩ <;> (rcases (show i = 4 ∨ i = 5 by omega) with rfl | rfl <;> simp [sBd] <;> omega)
    · refine ⟨v1, ?_, ?_, fun m => by rw [if_neg (by rw [q3]; exact z3), e1, pz_bnd]⟩ <;> (rcases (show i = 0 ∨ i = 1 ∨ i = 2 by omega) with rfl | rfl | rfl <;> simp [sBd] <;> omega)
  have L1 := inc6_L L ok.1
  have ds : (inc6 m).1 162 (7 + i) = A.r i := L1.ns hi
  have eh : hrs (upd A.r i (nI v)) = hrs A.r := by unfold hrs; rw [upd_ne (by omega)]
  have epp : ppl (upd A.r i (nI v)) = ppl A.r := by unfold ppl; rw [upd_ne (by omega)]
  have L2 : LZ (si (inc6 m) 162 (7 + i) (nI v)) (upd A.r i (nI v)) (if A.n = 6 then 6 else A.n + 1) := by
    refine LZ_row162 L1 (fun j hj => upd_ne (by omega)) (fun j hj => ?_) (fun a ha _ => si_ne ha)
    by_cases z : j = 7 + i
    · subst z
      rw [si_at]
      unfold nvR
      rw [if_neg (by omega), if_neg (by omega), upd_is (by omega)]
    · rw [si_off (Or.inr z), L1.1 j hj]
      unfold nvR
      by_cases j6 : j < 6
      · rw [if_pos j6, if_pos j6, upd_ne (by omega)]
      · rw [if_neg j6, if_neg j6]
        by_cases j7 : j = 6
        · rw [if_pos j7, if_pos j7]
        · rw [if_neg j7, if_neg j7, upd_ne (by omega)]
  have lo : ∀ a, a < 162 → (si (inc6 m) 162 (7 + i) (nI v)).1 a = m.1 a := fun a ha => by rw [si_ne (by omega), inc6_a _ (by omega)]
  obtain ⟨m2, k1, k2, k3⟩ := k_set (hC.low lo) ok hi hv hs
  refine ⟨m2, A.push.now (upd A.r i (nI v)), ?_, I.mut L2 k2 k3 (GD_set gd hi (by omega)) ⟨by rw [epp]; exact B.1, by rw [eh]; exact B.2⟩ (S.same eh (fun o => upd_ne (by omega))) ⟨t, by omega, by rw [upd_ne (by omega)]; exact t2⟩⟩
  unfold tt_rest
  rw [if_pos (by decide), if_neg (by decide), tt_sp_eq, inc6_K (K := fun z => some z), pz_bnd, if_pos rfl]
  unfold tt_set
  rw [ei, pz_bnd, p7a, pz_in (by omega) (by omega), pz_cl (by omega), ds, pz_nm, ev, pz_bnd, pz_in (by omega) (by omega), pz_nm, pz_in (by omega) (by omega), si_at, pz_nm, k1, pz_bnd2, if_pos rfl, pz_jr]
theorem l_pass (I : INV k m A) (hk : k < 48) {x2 : Int32} (h10 : (10 : Int32) ≤ x2) (hne : ¬ x2 = 10) (hne2 : ¬ x2 = 11) : ∃ m' A', tt_rest x y x2 m = some (1, m') ∧ INV (k + 1) m' A' := by
  obtain ⟨hC, ok, L, B, S, t, t1, t2⟩ := id I
  have gd := ok.2.2.1
  obtain ⟨j, hj, ej'⟩ := l_atA y (n := 40) (by omega) (by omega)
  have ej : ∀ m, f_L_at y 40 m = some (nI j) := ej'
  have L1 := inc6_L L ok.1
  obtain ⟨⟨v, m1⟩, e1, e2, L2, c2⟩ := l_go L1 gd.1 B (j := j) (by omega)
  dsimp only at e2 L2 c2
  have se := goR_SE gd.1.1 (1 + j)
  have p1 : (1 : Int32) + nI j = nI (1 + j) := nI_add 1 j
  have lo : ∀ a, a < 162 → m1.1 a = m.1 a := fun a ha => by rw [c2 a (by omega) (by omega) (by omega), inc6_a _ (by omega)]
  obtain ⟨m2, k1, k2, k3⟩ := k_pass (hC.low lo) ok (n := 1 + j) (t := t) (by omega) (by omega) t2 (by omega)
  have t9 := goR_9 gd.1.1 t2 (1 + j)
  refine ⟨m2, A.push.now (goR A.r (1 + j)).1, ?_, I.mut L2 k2 k3 ⟨goR_RW gd.1 _, t + (1 + j), by omega, t9⟩ ⟨by rw [se.ePpl]; exact B.1, by rw [se.eHrs]; exact B.2⟩ (STG_goR S gd.1 _) ⟨t + (1 + j), by omega, t9⟩⟩
  unfold tt_rest
  rw [if_pos h10, if_neg hne, tt_sp_eq, inc6_K (K := fun z => some z), pz_bnd, if_neg hne2]
  unfold tt_pass
  rw [ej, pz_bnd, e1, pz_bnd]
  dsimp only
  rw [p1, k1, pz_bnd2, if_pos e2.symm, pz_jr]
end SETS
