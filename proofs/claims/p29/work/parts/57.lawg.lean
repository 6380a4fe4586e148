/-! what the class says and what the law's rows say -/
section AGREE
variable {m : Mem} {A : Ab} {h p : Nat}
theorem p6a (k : Nat) : (6 : Int32) + nI k = nI (6 + k) := nI_add 6 k
theorem g_L3 (hC : AC m A) (ok : Ok A) (L : LZ m A.r A.n) (B : LZB A.r) : lp (f_L_agree_L3 m) 1000000 0 = some (.inl ()) := by
  have hn := ok.2.2.1.1.1.1
  have b5 := B.1
  have q0 : m.1 162 0 = nI (ppl A.r) := by rw [L.n0, hn.2.1]
  refine lp_cnt (fun k => nI k) (N := ppl A.r) (fun k hk => ?_) ?_ (by omega)
  · have i1 : f_X7_interpreter (nI k) 1 m = some (A.r (23 + k)) := k_interpreter (k := 1) hC ok hk (by omega)
    have i3 : f_X7_interpreter (nI k) 3 m = some (A.r (43 + k)) := k_interpreter (k := 3) hC ok hk (by omega)
    have i4 : f_X7_interpreter (nI k) 4 m = some (A.r (53 + k)) := k_interpreter (k := 4) hC ok hk (by omega)
    have i7 : f_X7_interpreter (nI k) 7 m = some (A.r (63 + k)) := k_interpreter (k := 7) hC ok hk (by omega)
    have d1 : m.1 163 (6 * k + 1) = A.r (23 + k) := L.pe B hk (j := 1) (by omega)
    have d3 : m.1 163 (6 * k + 3) = A.r (43 + k) := L.pe B hk (j := 3) (by omega)
    have d4 : m.1 163 (6 * k + 4) = A.r (53 + k) := L.pe B hk (j := 4) (by omega)
    have d5 : m.1 163 (6 * k + 5) = A.r (63 + k) := L.pe B hk (j := 5) (by omega)
    rw [f_L_agree_L3, q0, if_neg (by rw [pz_le (by omega) (by omega)]; omega), i1, i3, i4, i7, x6, pz_s, pl3, pl4, pl5]
    simp (disch := omega) only [pz_bnd, pz_in, pz_cl, pz_nm, d1, d3, d4, d5, if_true, pz_s]
  · rw [f_L_agree_L3, q0, if_pos (by rw [pz_le (by omega) (by omega)]; omega)]
theorem g_L116 (hC : AC m A) (ok : Ok A) (L : LZ m A.r A.n) (B : LZB A.r) (hh : h < hrs A.r) : lp (f_L_agree_L116 m (nI h)) 1000000 0 = some (.inl ()) := by
  have b8 := B.2
  refine lp_cnt (fun k => nI k) (N := 5) (fun k hk => ?_) ?_ (by omega)
  · have i1 := k_hearing (k := k) hC ok hh (by omega)
    have d1 := L.he B hh (j := k) (by omega)
    have e : hvR A.r h k = hfL A.r h k := by
      unfold hvR hfL
      rw [if_pos (by omega), if_pos (by omega)]
    have q : ((5 : Int32) ≤ nI k) = (5 ≤ k) := pz_le (a := (5 : Nat)) (by decide) (by omega)
    rw [f_L_agree_L116, if_neg (by rw [q]; omega), i1, pz_bnd, x6, pz_add, pz_in (by omega) (by omega), pz_cl (by omega), d1, pz_nm, e, if_pos rfl, pz_s, pz_nm]
  · rw [f_L_agree_L116, if_pos (by decide)]
theorem g_L154 (hC : AC m A) (ok : Ok A) (L : LZ m A.r A.n) (B : LZB A.r) (hh : h < hrs A.r) : lp (f_L_agree_L154 m (nI h)) 1000000 0 = some (.inl ()) := by
  have b8 := B.2
  have hc := ok.2.2.1.1.1.2.1 h hh
  refine lp_cnt (fun k => nI k) (N := 3) (fun k hk => ?_) ?_ (by omega)
  · have i1 := k_hearing (k := 6 + k) hC ok hh (by omega)
    have e : hvR A.r h (6 + k) = tri (szN A.r h) (mbN A.r h) k := by
      rw [← mem_tri hc hk]
      unfold hvR
      rw [if_pos (by omega), show 73 + 10 * h + (6 + k) = 79 + 10 * h + k by omega]
    have q : ((3 : Int32) ≤ nI k) = (3 ≤ k) := pz_le (a := (3 : Nat)) (by decide) (by omega)
    rw [f_L_agree_L154, if_neg (by rw [q]; omega), p6a, i1, pz_bnd, pz_in (by omega) (by omega), pz_cl (by omega), L.ch B hh, pz_nm, l_who (B.mb hc) hk, pz_bnd, e, if_pos rfl, pz_s, pz_nm]
  · rw [f_L_agree_L154, if_pos (by decide)]
theorem g_L198 (ok : Ok A) (L : LZ m A.r A.n) (B : LZB A.r) (hh : h < hrs A.r) : lp (f_L_agree_L198 m (nI h)) 1000000 (0, 0) = some (cnI (fun o => decide (o ≠ h) && (lst A.r o && (lst A.r h && clsh A.r o h))) (hrs A.r)) := by
  have hn := ok.2.2.1.1.1.1
  have b8 := B.2
  have q1 : m.1 162 1 = nI (hrs A.r) := by rw [L.n1, hn.2.2.2]
  refine lp_cn (fun o => decide (o ≠ h) && (lst A.r o && (lst A.r h && clsh A.r o h))) (N := hrs A.r) (fun k hk x => ?_) ?_ (by omega)
  · have d1 : m.1 164 (6 * k + 4) = A.r (73 + 10 * k + 4) := L.he B hk (j := 4) (by omega)
    have d2 : m.1 164 (6 * h + 4) = A.r (73 + 10 * h + 4) := L.he B hh (j := 4) (by omega)
    have e : (nI k = nI h) = (k = h) := pz_eq (by omega) (by omega)
    have el : ∀ o, lst A.r o = decide (A.r (73 + 10 * o + 4) = 0) := fun o => rfl
    rw [f_L_agree_L198, q1, if_neg (by rw [pz_le (by omega) (by omega)]; omega), x6, pl4, x6, pl4, pz_in (by omega) (by omega), pz_cl (by omega), d1, pz_cl (by omega), d2, l_clash L B hk hh, pz_bnd, bI_ite, pz_s]
    simp only [pz_nm]
    rw [pz_in (by omega) (by omega)]
    by_cases z : k = h
    · rw [if_pos (by rw [e]; exact z), if_neg (by simp [z])]
    rw [if_neg (by rw [e]; exact z)]
    by_cases s : A.r (73 + 10 * k + 4) = 0
    case neg => rw [if_neg s, if_neg (by rw [el k]; simp [s])]
    rw [if_pos s]
    by_cases s2 : A.r (73 + 10 * h + 4) = 0
    case neg => rw [if_neg s2, if_neg (by rw [el h]; simp [s2])]
    rw [if_pos s2]
    cases c : clsh A.r k h
    · rw [if_neg (by simp), if_neg (by simp)]
    · rw [if_pos rfl, if_pos (by rw [el k, el h]; simp [z, s, s2])]
  · rw [f_L_agree_L198, q1, if_pos (by rw [pz_le (by omega) (by omega)]; omega)]
theorem g_L105 (hC : AC m A) (ok : Ok A) (L : LZ m A.r A.n) (B : LZB A.r) : lp (f_L_agree_L105 m) 1000000 (0, 0, 0) = some (.inl (cnI (stg A.r 0) (hrs A.r), cnI (fun o => lst A.r o && decide (¬ A.r (73 + 10 * o + 5) ≤ 0)) (hrs A.r))) := by
  have hn := ok.2.2.1.1.1.1
  have b8 := B.2
  have q1 : m.1 162 1 = nI (hrs A.r) := by rw [L.n1, hn.2.2.2]
  refine lp_cnt (fun k => (cnI (stg A.r 0) k, cnI (fun o => lst A.r o && decide (¬ A.r (73 + 10 * o + 5) ≤ 0)) k, nI k)) (N := hrs A.r) (fun k hk => ?_) ?_ (by omega)
  · have gd := ok.2.2.1
    have hc := gd.1.1.2.1 k hk
    have tb := B.mb hc
    have tl := encT_lt tb
    have h5 : f_X7_hearing (nI k) 5 m = some (nI (szN A.r k)) := by
      rw [← hc.2.1]
      exact k_hearing (k := 5) hC ok hk (by omega)
    have h9 : f_X7_hearing (nI k) 9 m = some (payR A.r k 2) := k_hearing (k := 9) hC ok hk (by omega)
    have h10 : f_X7_hearing (nI k) 10 m = some (A.r (82 + 10 * k)) := k_hearing (k := 10) hC ok hk (by omega)
    have h11 : f_X7_hearing (nI k) 11 m = some (cnI (fun o => decide (o ≠ k) && (lst A.r o && (lst A.r k && clsh A.r o k))) (hrs A.r)) := k_hearing (k := 11) hC ok hk (by omega)
    have tg : f_L_together (nI k) 2 m = some (payR A.r k 2) := l_together (v := 2) (L.le B) B gd.1.2.2.1 gd.1.2.2.2.1 gd.1.1.2.2.1 hk hc (by omega)
    have d5 : m.1 164 (6 * k + 5) = A.r (82 + 10 * k) := L.he B hk (j := 5) (by omega)
    have d4 : m.1 164 (6 * k + 4) = A.r (73 + 10 * k + 4) := L.he B hk (j := 4) (by omega)
    have dc := L.ch B hk
    have ez : (nI (encT (szN A.r k) (mbN A.r k)) ≤ 0) = (szN A.r k = 0) := by rw [i32_le0 (by omega), encT_0]
    have e5 : (A.r (73 + 10 * k + 5) ≤ 0) = (szN A.r k = 0) := by rw [hc.2.1, i32_le0 (by have := hc.1; omega)]
    show f_L_agree_L105 m (cnI (stg A.r 0) k, cnI (fun o => lst A.r o && decide (¬ A.r (73 + 10 * o + 5) ≤ 0)) k, nI k) = some (.inl (cnI (stg A.r 0) (k + 1), cnI (fun o => lst A.r o && decide (¬ A.r (73 + 10 * o + 5) ≤ 0)) (k + 1), nI (k + 1)))
    rw [f_L_agree_L105, q1, if_neg (by rw [pz_le (by omega) (by omega)]; omega), g_L116 hC ok L B hk, pz_jl, g_L154 hC ok L B hk, pz_jl, g_L198 ok L B hk, pz_bnd, h5, pz_bnd, pz_in (by omega) (by omega), pz_cl (by omega), dc, pz_nm, l_size tb hc.1, pz_bnd, if_pos rfl, h9, pz_bnd, tg, pz_bnd, if_pos rfl, h10, pz_bnd, x6, pl5, pz_in (by omega) (by omega), pz_cl (by omega), d5, pz_nm, if_pos rfl, h11, pz_bnd, if_pos rfl, pl4, pz_in (by omega) (by omega), pz_cl (by omega), d4]
    simp (disch := omega) only [pz_nm, pz_in, pz_s]
    have el : stg A.r 0 k = decide (A.r (73 + 10 * k + 4) = 0) := rfl
    have el2 : lst A.r k = decide (A.r (73 + 10 * k + 4) = 0) := rfl
    by_cases s : A.r (73 + 10 * k + 4) = 0
    · rw [if_pos s]
      by_cases z : szN A.r k = 0
      · rw [if_pos (by rw [ez]; exact z)]
        simp only [cnI, el, el2, s, decide_true, if_true, Bool.true_and, e5, z, not_true_eq_false, decide_false, Bool.false_eq_true, if_false]
      · rw [if_neg (by rw [ez]; exact z)]
        simp only [cnI, el, el2, s, decide_true, if_true, Bool.true_and, e5, z, not_false_eq_true]
    · rw [if_neg s]
      simp only [cnI, el, el2, s, decide_false, Bool.false_and, Bool.false_eq_true, if_false]
  · show f_L_agree_L105 m (cnI (stg A.r 0) (hrs A.r), cnI (fun o => lst A.r o && decide (¬ A.r (73 + 10 * o + 5) ≤ 0)) (hrs A.r), nI (hrs A.r)) = _
    rw [f_L_agree_L105, q1, if_pos (by rw [pz_le (by omega) (by omega)]; omega)]
theorem l_agree (hC : AC m A) (ok : Ok A) (L : LZ m A.r A.n) (B : LZB A.r) : f_L_agree m = some 1 := by
  have c2 : f_X7_count 2 m = some (A.r 9) := k_count (k := 2) hC ok (by omega)
  have c3 : f_X7_count 3 m = some (cnI (stg A.r 0) (hrs A.r)) := k_count (k := 3) hC ok (by omega)
  have c4 : f_X7_count 4 m = some (cnI (fun o => lst A.r o && decide (¬ A.r (73 + 10 * o + 5) ≤ 0)) (hrs A.r)) := k_count (k := 4) hC ok (by omega)
  have c8 : f_X7_count 8 m = some (A.r 10) := k_count (k := 8) hC ok (by omega)
  have c9 : f_X7_count 9 m = some (A.r 11) := k_count (k := 9) hC ok (by omega)
  have c10 : f_X7_count 10 m = some (A.r 12) := k_count (k := 10) hC ok (by omega)
  have c12 : f_X7_count 12 m = some (nI A.n) := k_count (k := 12) hC ok (by omega)
  unfold f_L_agree
  rw [g_L3 hC ok L B, pz_jl, g_L105 hC ok L B, pz_jl]
  dsimp only
  rw [c2, pz_bnd, L.n2, if_pos rfl, c3, pz_bnd, if_pos rfl, c4, pz_bnd, if_pos rfl, c8, pz_bnd, L.n3, if_pos rfl, c9, pz_bnd, L.n4, if_pos rfl, c10, pz_bnd, L.n5, if_pos rfl, c12, pz_bnd, L.n6, if_pos rfl]
end AGREE
