/-! minutes: the law's row goes as the court's -/
section LMIN3
variable {m : Mem} {r : Row} {n : Nat}
theorem min_RW0 (R : RW r) : RW0 (upd (tireR r) 9 (tireR r 9 + 1)) ∧ SE r (upd (tireR r) 9 (tireR r 9 + 1)) := by
  obtain ⟨K, w, p, t, mo⟩ := R
  have ft := tirN_FA (r := r) (ppl r) K.1.1
  have kt := tireR_KW K
  have s1 : SE r (upd (tireR r) 9 (tireR r 9 + 1)) := ft.se.put (by unfold stat; omega)
  have lU : ∀ o, lst (upd (tireR r) 9 (tireR r 9 + 1)) o = lst r o := fun o => by
    have := ft.eLst (h := o)
    unfold lst at this ⊢
    rw [upd_ne (by omega)]
    exact this
  refine ⟨⟨s1.num K.1, s1.chws K.2.1, ⟨fun q hq => ?_, fun i hi => ?_⟩, s1.peo K.1.1 p, s1.tim t, ?_⟩, s1⟩
  · rw [s1.ePpl] at hq
    have hq2 : q < ppl (tireR r) := by rw [show ppl (tireR r) = ppl r from ft.se.ePpl]; exact hq
    rw [upd_ne (by omega)]
    exact kt.2.2.1.1 q hq2
  · rw [upd_ne (by omega)]
    exact kt.2.2.1.2 i hi
  · obtain ⟨P, V, Q, a, b, d, e, f⟩ := mo
    refine ⟨P, V, Q, ?_, ?_, ?_, e, ?_⟩
    · rw [upd_ne (by omega)]; exact (ft 10 (by omega)).trans a
    · rw [upd_ne (by omega)]; exact (ft 11 (by omega)).trans b
    · rw [upd_ne (by omega)]; exact (ft 12 (by omega)).trans d
    · rw [s1.eHrs, clo_cong (fun o _ => lU o)]
      exact f
/-- cells but the law's first three -/
def FrL (m m' : Mem) : Prop := ∀ a, a ≠ 162 → a ≠ 163 → a ≠ 164 → m'.1 a = m.1 a
theorem l_minute (L : LZ m r n) (R : RW r) (B : LZB r) : ∃ m', f_L_minute m = some ((minR r).2, m') ∧ LZ m' (minR r).1 n ∧ FrL m m' := by
  have K := R.1
  obtain ⟨m1, e1, L1, c1⟩ := l_min3 L K.1 K.2.1 (K.2.2.2.1.unq K.2.2.2.2) B
  obtain ⟨R0, s1⟩ := min_RW0 R
  have L2 : LZ (si m1 162 2 (tireR r 9 + 1)) (upd (tireR r) 9 (tireR r 9 + 1)) n := LZ_num (i := 2) L1 (by omega) (by omega)
  have B2 : LZB (upd (tireR r) 9 (tireR r 9 + 1)) := ⟨by rw [s1.ePpl]; exact B.1, by rw [s1.eHrs]; exact B.2⟩
  obtain ⟨⟨d, m3⟩, e3, e4, L3, c3⟩ := l_min195 L2 R0 B2
  have al := endN_all R0.1 R0.2.1 (hrs (upd (tireR r) 9 (tireR r 9 + 1))) (Nat.le_refl _)
  have R3 := endN_RW0 R0 (hrs (upd (tireR r) 9 (tireR r 9 + 1))) (Nat.le_refl _)
  dsimp only at e4 L3 c3
  obtain ⟨m5, e5, L5, c5⟩ := l_min292 L3 R3 ⟨by rw [al.1.se.ePpl]; exact B2.1, by rw [al.1.se.eHrs]; exact B2.2⟩
  refine ⟨m5, ?_, ?_, fun a a1 a2 a3 => ?_⟩
  · unfold f_L_minute
    rw [e1, pz_bnd, L1.n2, pz_nm, e3, pz_bnd]
    dsimp only
    rw [e5, pz_bnd, e4]
    unfold minR
    dsimp only
    rw [s1.eHrs]
  · unfold minR
    dsimp only
    rw [al.1.se.eHrs, s1.eHrs] at L5
    exact L5
  · rw [c5 a a1 a2 a3, c3 a a1 a2 a3, si_ne a1, c1 a a2]
theorem goR_SE (K : KW r) : ∀ k, SE r (goR r k).1
  | 0 => SE.rf
  | k + 1 => (goR_SE K k).tr (minR_SE9 (goR_KW K k)).1
theorem l_go (L : LZ m r n) (R : RW r) (B : LZB r) {j : Nat} (hj : j < 1000) : ∃ q : Int32 × Mem, lp (f_L_act_L607 (nI j)) 1000000 (0, 0, m) = some q ∧ (q.1 = (goR r (1 + j)).2 ∧ LZ q.2 (goR r (1 + j)).1 n ∧ FrL m q.2) := by
  have e1 : (1 : Int32) + nI j = nI (1 + j) := nI_add 1 j
  refine lp_inv (fun k (s : Int32 × Int32 × Mem) => s.1 = (goR r k).2 ∧ s.2.1 = nI k ∧ LZ s.2.2 (goR r k).1 n ∧ FrL m s.2.2) (N := 1 + j) (fun k s hk hI => ?_) (fun s hI => ?_) _ ⟨rfl, rfl, L, fun _ _ _ _ => rfl⟩ (by omega)
  · obtain ⟨a, b, m1⟩ := s
    obtain ⟨rfl, rfl, L1, c1⟩ := hI
    dsimp only at L1 c1
    have se := goR_SE R.1 k
    obtain ⟨m', e, L2, c2⟩ := l_minute L1 (goR_RW R k) ⟨by rw [se.ePpl]; exact B.1, by rw [se.eHrs]; exact B.2⟩
    rw [f_L_act_L607, e1, if_neg (by rw [pz_le (by omega) (by omega)]; omega), e, pz_bnd2, pz_s, pz_nm]
    exact ⟨_, rfl, rfl, rfl, L2, fun a a1 a2 a3 => by rw [c2 a a1 a2 a3]; exact c1 a a1 a2 a3⟩
  · obtain ⟨a, b, m1⟩ := s
    obtain ⟨rfl, rfl, L1, c1⟩ := hI
    rw [f_L_act_L607, e1, if_pos (by rw [pz_le (by omega) (by omega)]; omega)]
    exact ⟨_, rfl, rfl, L1, c1⟩
/-- one more that can be taken back -/
def inc6 (m : Mem) : Mem := if (6 : Int32) ≤ m.1 162 6 then m else si m 162 6 (m.1 162 6 + 1)
theorem inc6_K {α : Type} (m : Mem) (K : Mem → α) : (if (6 : Int32) ≤ m.1 162 6 then K m else nm (si m 162 6 ((m.1 162 6) + 1)) fun x => K x) = K (inc6 m) := by
  unfold inc6
  by_cases h : (6 : Int32) ≤ m.1 162 6
  · rw [if_pos h, if_pos h]
  · rw [if_neg h, if_neg h]
    rfl
theorem inc6_a (m : Mem) {a : Nat} (ha : a ≠ 162) : (inc6 m).1 a = m.1 a := by
  unfold inc6
  split
  · rfl
  · exact si_ne ha
theorem inc6_i (m : Mem) {i : Nat} (hi : i ≠ 6) : (inc6 m).1 162 i = m.1 162 i := by
  unfold inc6
  split
  · rfl
  · exact si_off (Or.inr hi)
theorem inc6_n (m : Mem) (h6 : m.1 162 6 = nI n) (hn : n ≤ 6) : (inc6 m).1 162 6 = nI (if n = 6 then 6 else n + 1) := by
  have e : ((6 : Int32) ≤ nI n) = (6 ≤ n) := pz_le (a := (6 : Nat)) (by decide) (by omega)
  unfold inc6
  by_cases h : n = 6
  · rw [if_pos (by rw [h6, e]; omega), if_pos h, h6, h]
  · rw [if_neg (by rw [h6, e]; omega), if_neg h, si_at, h6, pz_s]
theorem inc6_L (L : LZ m r n) (hn : n ≤ 6) : LZ (inc6 m) r (if n = 6 then 6 else n + 1) := by
  refine LZ_row162 L (fun _ _ => rfl) (fun i hi => ?_) (fun a ha _ => inc6_a m ha)
  by_cases h : i = 6
  · subst h
    rw [inc6_n m L.n6 hn]
    rfl
  · rw [inc6_i m h, L.1 i hi]
    unfold nvR
    rw [if_neg h]
    by_cases i6 : i < 6
    · rw [if_pos i6, if_pos i6]
    · rw [if_neg i6, if_neg i6, if_neg h]
end LMIN3
