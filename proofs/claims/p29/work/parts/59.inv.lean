/-! what holds between the law's acts -/
theorem AC.low {m m1 : Mem} {A : Ab} (h : AC m A) (g : ∀ a, a < 162 → m1.1 a = m.1 a) : AC m1 A := h.scr (fun a ha => g a (by omega))
def INV (k : Nat) (m : Mem) (A : Ab) : Prop := AC m A ∧ Ok A ∧ LZ m A.r A.n ∧ LZB A.r ∧ STG A.r ∧ ∃ t, t ≤ 40 * k ∧ A.r 9 = nI t
theorem INV.succ {k : Nat} {m : Mem} {A : Ab} (I : INV k m A) : INV (k + 1) m A := by
  obtain ⟨a, b, c, d, e, t, f, g⟩ := I
  exact ⟨a, b, c, d, e, t, by omega, g⟩
/-- one act: the law's rows first, then the class's call -/
theorem INV.mut {k : Nat} {m m1 m2 : Mem} {A : Ab} {r' : Row} (I : INV k m A) (L1 : LZ m1 r' (if A.n = 6 then 6 else A.n + 1)) (h2 : AC m2 (A.push.now r')) (x : FrX m1 m2) (gd : GD r') (B : LZB r') (S : STG r') (ht : ∃ t, t ≤ 40 * (k + 1) ∧ r' 9 = nI t) : INV (k + 1) m2 (A.push.now r') :=
  ⟨h2, I.2.1.push gd, L1.cong (fun a ha => x a ha), B, S, ht⟩
theorem l_atA (x : Int32) {n : Nat} (h0 : 0 < n) (hn : n < 1000000) : ∃ j, j < n ∧ ∀ m, f_L_at x (nI n) m = some (nI j) := by
  obtain ⟨j, h1, h2⟩ := l_at (m := (fun _ _ => 0, fun _ _ => 0)) x h0 hn
  exact ⟨j, h1, fun m => h2⟩
section STAGES
variable {r : Row} {h n st : Nat} {t : Nat → Nat} {hv : Int32}
theorem STG.same {r' : Row} (S : STG r) (eh : hrs r' = hrs r) (e : ∀ o, r' (73 + 10 * o + 4) = r (73 + 10 * o + 4)) : STG r' := fun o ho => by
  rw [e]
  exact S o (by omega)
theorem STG_close (S : STG r) (hc : ChW r h) (hn : ppl r ≤ 10) (hst : st ≤ 3) : STG (closeR r h st hv) := fun o ho => by
  rw [closeR_st hc hn]
  by_cases q : o = h
  · rw [if_pos q]; exact ⟨st, hst, rfl⟩
  · rw [if_neg q]
    exact S o (by rw [(closeR_SE (st := st) (hv := hv) hc hn).eHrs] at ho; exact ho)
theorem STG_give (S : STG r) : STG (giveR r h n t) := S.same (by unfold hrs; rw [giveR_ne (by omega)]) (fun o => giveR_ne (by omega))
theorem STG_endN (S : STG r) (R0 : RW0 r) : ∀ k, k ≤ hrs r → STG (endN r k).1
  | 0, _ => S
  | k + 1, hk => by
    have ih := STG_endN S R0 k (by omega)
    have al := endN_all R0.1 R0.2.1 k (by omega)
    have R1 := endN_RW0 R0 k (by omega)
    have hc := R1.2.1 k (by rw [al.1.se.eHrs]; omega)
    show STG (endS k (endN r k)).1
    unfold endS
    split
    · split
      · exact STG_close ih hc R1.1.1 (by omega)
      · exact STG_close ih hc R1.1.1 (by omega)
    · exact ih
theorem STG_trdN (S : STG r) (R0 : RW0 r) : ∀ k, k ≤ hrs r → STG (trdN r k)
  | 0, _ => S
  | k + 1, hk => by
    have ih := STG_trdN S R0 k (by omega)
    have al := trdN_all R0.1 R0.2.1 k (by omega)
    have R1 := trdN_RW0 R0 k (by omega)
    have hc := R1.2.1 k (by rw [al.1.se.eHrs]; omega)
    show STG (trdS k (trdN r k))
    unfold trdS
    split
    · exact STG_close ih hc R1.1.1 (by omega)
    · exact ih
theorem STG_minR (S : STG r) (R : RW r) : STG (minR r).1 := by
  obtain ⟨R0, s1⟩ := min_RW0 R
  have ft := tirN_FA (r := r) (ppl r) R.1.1.1
  have S1 : STG (upd (tireR r) 9 (tireR r 9 + 1)) := S.same s1.eHrs (fun o => by rw [upd_ne (by omega)]; exact ft _ (by omega))
  unfold minR
  dsimp only
  have h2 := (endN_all R0.1 R0.2.1 (hrs r) (by rw [s1.eHrs]; exact Nat.le_refl _)).1
  exact STG_trdN (STG_endN S1 R0 _ (by rw [s1.eHrs]; exact Nat.le_refl _)) (endN_RW0 R0 _ (by rw [s1.eHrs]; exact Nat.le_refl _)) _ (by rw [h2.se.eHrs, s1.eHrs]; exact Nat.le_refl _)
theorem STG_goR (S : STG r) (R : RW r) : ∀ k, STG (goR r k).1
  | 0 => S
  | k + 1 => STG_minR (STG_goR S R k) (goR_RW R k)
end STAGES
section LZROW
variable {m : Mem} {r : Row} {n h : Nat} {x y z w : Int32}
theorem LZ_hire (L : LZ m r n) (hn : NumW r) (h5 : ppl r < 5) : LZ (si (si (si (si m 162 0 (r 7 + 1)) 163 (6 * ppl r) x) 163 (6 * ppl r + 1) y) 163 (6 * ppl r + 2) z) (hireR r x y z) n ∧ ppl (hireR r x y z) = ppl r + 1 ∧ hrs (hireR r x y z) = hrs r := by
  have e7 : hireR r x y z 7 = r 7 + 1 := by
    unfold hireR
    rw [upd_ne (by omega), upd_ne (by omega), upd_ne (by omega), upd_ne (by omega), upd_ne (by omega), upd_ne (by omega), upd_self]
  have ep : ppl (hireR r x y z) = ppl r + 1 := by
    show (hireR r x y z 7).toNatClampNeg = ppl r + 1
    rw [e7, hn.2.1, pz_s, pz_cl (by omega)]
  have eh : hrs (hireR r x y z) = hrs r := by
    unfold hrs
    rw [hireR_ne (by omega) (by omega)]
  have hi : ∀ i, 73 ≤ i → hireR r x y z i = r i := fun i hi => hireR_ne (by omega) (by omega)
  have new : ∀ j, j < 6 → hireR r x y z (13 + 10 * j + ppl r) = if j = 0 then x else if j = 1 then y else if j = 2 then z else 0 := by
    intro j hj
    unfold hireR
    rcases (show j = 0 ∨ j = 1 ∨ j = 2 ∨ j = 3 ∨ j = 4 ∨ j = 5 by omega) with rfl | rfl | rfl | rfl | rfl | rfl
    · rw [upd_ne (by omega), upd_ne (by omega), upd_ne (by omega), upd_ne (by omega), upd_ne (by omega), upd_is (by omega)]; rfl
    · rw [upd_ne (by omega), upd_ne (by omega), upd_ne (by omega), upd_ne (by omega), upd_is (by omega)]; rfl
    · rw [upd_ne (by omega), upd_ne (by omega), upd_ne (by omega), upd_is (by omega)]; rfl
    · rw [upd_ne (by omega), upd_ne (by omega), upd_is (by omega)]; rfl
    · rw [upd_ne (by omega), upd_is (by omega)]; rfl
    · rw [upd_is (by omega)]; rfl
  refine ⟨⟨fun i hi14 => ?_, fun p j hp hj => ?_, fun o j ho hj => ?_, fun o ho => ?_⟩, ep, eh⟩
  · rw [si_ne (by omega), si_ne (by omega), si_ne (by omega)]
    by_cases i0 : i = 0
    · subst i0
      rw [si_at]
      exact e7.symm
    · rw [si_off (Or.inr i0), L.1 i hi14]
      unfold nvR
      by_cases i6 : i < 6
      · rw [if_pos i6, if_pos i6, hireR_ne (by omega) (by omega)]
      · rw [if_neg i6, if_neg i6]
        by_cases i7 : i = 6
        · rw [if_pos i7, if_pos i7]
        · rw [if_neg i7, if_neg i7, hireR_ne (by omega) (by omega)]
  · unfold pvL
    rw [ep]
    by_cases e : p = ppl r
    · subst e
      rw [if_pos (by omega), new j hj]
      have old := L.2.1 (ppl r) j hp hj
      unfold pvL at old
      rw [if_neg (by omega)] at old
      by_cases j2 : j = 2
      · subst j2; rw [si_at]; rfl
      rw [si_off (Or.inr (by omega))]
      by_cases j1 : j = 1
      · subst j1; rw [si_at]; rfl
      rw [si_off (Or.inr (by omega))]
      by_cases j0 : j = 0
      · subst j0; rw [Nat.add_zero, si_at]; rfl
      rw [si_off (Or.inr (by omega)), si_ne (by omega), old, if_neg j0, if_neg j1, if_neg j2]
    · rw [si_off (Or.inr (by omega)), si_off (Or.inr (by omega)), si_off (Or.inr (by omega)), si_ne (by omega), L.2.1 p j hp hj]
      unfold pvL
      by_cases hpl : p < ppl r
      · rw [if_pos hpl, if_pos (by omega), hireR_ne (by omega) (fun k hk => by omega)]
      · rw [if_neg hpl, if_neg (by omega)]
  · rw [si_ne (by omega), si_ne (by omega), si_ne (by omega), si_ne (by omega), L.2.2.1 o j ho hj]
    unfold hvL hfL
    rw [eh, hi _ (by omega), hi _ (by omega)]
  · rw [si_ne (by omega), si_ne (by omega), si_ne (by omega), si_ne (by omega), L.2.2.2 o ho]
    unfold cvL
    rw [eh, encR_cong (hi _ (by omega)) (fun k _ => hi _ (by omega))]
theorem LZ_ent (L : LZ m r n) (hn : NumW r) (h8 : hrs r < 8) : LZ (si (si (si (si (si m 162 1 (r 8 + 1)) 164 (6 * hrs r) x) 164 (6 * hrs r + 1) y) 164 (6 * hrs r + 2) z) 164 (6 * hrs r + 3) w) (entR r x y z w) n ∧ ppl (entR r x y z w) = ppl r ∧ hrs (entR r x y z w) = hrs r + 1 := by
  have e8 : entR r x y z w 8 = r 8 + 1 := entR_8
  have eh : hrs (entR r x y z w) = hrs r + 1 := by
    show (entR r x y z w 8).toNatClampNeg = hrs r + 1
    rw [e8, hn.2.2.2, pz_s, pz_cl (by omega)]
  have lo : ∀ i, i ≠ 8 → i < 73 → entR r x y z w i = r i := fun i h1 h2 => entR_ne h1 (by omega)
  have ep : ppl (entR r x y z w) = ppl r := by
    unfold ppl
    rw [lo 7 (by omega) (by omega)]
  have ot : ∀ o k, o ≠ hrs r → k < 10 → entR r x y z w (73 + 10 * o + k) = r (73 + 10 * o + k) := fun o k h1 h2 => entR_ne (by omega) (by omega)
  refine ⟨⟨fun i hi14 => ?_, fun p j hp hj => ?_, fun o j ho hj => ?_, fun o ho => ?_⟩, ep, eh⟩
  · rw [si_ne (by omega), si_ne (by omega), si_ne (by omega), si_ne (by omega)]
    by_cases i1 : i = 1
    · subst i1
      rw [si_at]
      exact e8.symm
    · rw [si_off (Or.inr i1), L.1 i hi14]
      unfold nvR
      by_cases i6 : i < 6
      · rw [if_pos i6, if_pos i6, lo _ (by omega) (by omega)]
      · rw [if_neg i6, if_neg i6]
        by_cases i7 : i = 6
        · rw [if_pos i7, if_pos i7]
        · rw [if_neg i7, if_neg i7, lo _ (by omega) (by omega)]
  · rw [si_ne (by omega), si_ne (by omega), si_ne (by omega), si_ne (by omega), si_ne (by omega), L.2.1 p j hp hj]
    unfold pvL
    rw [ep, lo _ (by omega) (by omega)]
  · unfold hvL
    rw [eh]
    by_cases e : o = hrs r
    · subst e
      rw [if_pos (by omega)]
      have old := L.2.2.1 (hrs r) j ho hj
      unfold hvL at old
      rw [if_neg (by omega)] at old
      have new : hfL (entR r x y z w) (hrs r) j = if j = 0 then x else if j = 1 then y else if j = 2 then z else if j = 3 then w else 0 := by
        unfold hfL
        by_cases j5 : j < 5
        · rw [if_pos j5, entR_h (by omega)]
          by_cases j0 : j = 0
          · rw [if_pos j0, if_pos j0]
          by_cases j1 : j = 1
          · rw [if_neg j0, if_neg j0, if_pos j1, if_pos j1]
          by_cases j2 : j = 2
          · rw [if_neg j0, if_neg j0, if_neg j1, if_neg j1, if_pos j2, if_pos j2]
          by_cases j3 : j = 3
          · rw [if_neg j0, if_neg j0, if_neg j1, if_neg j1, if_neg j2, if_neg j2, if_pos j3, if_pos j3]
          · rw [if_neg j0, if_neg j0, if_neg j1, if_neg j1, if_neg j2, if_neg j2, if_neg j3, if_neg j3, if_neg (by omega)]
        · rw [if_neg j5, show 82 + 10 * hrs r = 73 + 10 * hrs r + 9 by omega, entR_h (by omega), if_neg (by omega), if_neg (by omega), if_neg (by omega), if_neg (by omega), if_neg (by omega), if_neg (by omega), if_neg (by omega), if_neg (by omega), if_neg (by omega)]
      rw [new]
      by_cases j3 : j = 3
      · subst j3; rw [si_at]; rfl
      rw [si_off (Or.inr (by omega))]
      by_cases j2 : j = 2
      · subst j2; rw [si_at]; rfl
      rw [si_off (Or.inr (by omega))]
      by_cases j1 : j = 1
      · subst j1; rw [si_at]; rfl
      rw [si_off (Or.inr (by omega))]
      by_cases j0 : j = 0
      · subst j0; rw [Nat.add_zero, si_at]; rfl
      rw [si_off (Or.inr (by omega)), si_ne (by omega), old, if_neg j0, if_neg j1, if_neg j2, if_neg j3]
    · rw [si_off (Or.inr (by omega)), si_off (Or.inr (by omega)), si_off (Or.inr (by omega)), si_off (Or.inr (by omega)), si_ne (by omega), L.2.2.1 o j ho hj]
      unfold hvL
      have hf : hfL (entR r x y z w) o j = hfL r o j := by
        unfold hfL
        by_cases j5 : j < 5
        · rw [if_pos j5, if_pos j5, ot o j e (by omega)]
        · rw [if_neg j5, if_neg j5, show 82 + 10 * o = 73 + 10 * o + 9 by omega, ot o 9 e (by omega)]
      by_cases hol : o < hrs r
      · rw [if_pos hol, if_pos (by omega), hf]
      · rw [if_neg hol, if_neg (by omega)]
  · rw [si_ne (by omega), si_ne (by omega), si_ne (by omega), si_ne (by omega), si_ne (by omega), L.2.2.2 o ho]
    unfold cvL
    rw [eh]
    by_cases e : o = hrs r
    · subst e
      have s0 : szN (entR r x y z w) (hrs r) = 0 := by
        unfold szN
        rw [entR_h (by omega)]
        rfl
      rw [if_neg (by omega), if_pos (by omega), s0]
      rfl
    · have k6 : ∀ k, k < 3 → entR r x y z w (79 + 10 * o + k) = r (79 + 10 * o + k) := fun k hk => by
        have := ot o (6 + k) e (by omega)
        rw [show 73 + 10 * o + (6 + k) = 79 + 10 * o + k by omega] at this
        exact this
      by_cases hol : o < hrs r
      · rw [if_pos hol, if_pos (by omega), encR_cong (ot o 5 e (by omega)) k6]
      · rw [if_neg hol, if_neg (by omega)]
theorem LZ_give {t : Nat → Nat} {k : Nat} (L : LZ m r n) (B : LZB r) (hh : h < hrs r) (hk : k ≤ 3) (ht : ∀ j, j < k → t j < 1000000) : LZ (si m 165 h (nI (encT k t))) (giveR r h k t) n ∧ ppl (giveR r h k t) = ppl r ∧ hrs (giveR r h k t) = hrs r := by
  have b8 := B.2
  have ep : ppl (giveR r h k t) = ppl r := by unfold ppl; rw [giveR_ne (by omega)]
  have eh : hrs (giveR r h k t) = hrs r := by unfold hrs; rw [giveR_ne (by omega)]
  refine ⟨⟨fun i hi14 => ?_, fun p j hp hj => ?_, fun o j ho hj => ?_, fun o ho => ?_⟩, ep, eh⟩
  · rw [si_ne (by omega), L.1 i hi14, nvR_cong hi14 (fun i hi => giveR_ne (by omega))]
  · rw [si_ne (by omega), L.2.1 p j hp hj]
    unfold pvL
    rw [ep, giveR_ne (by omega)]
  · rw [si_ne (by omega), L.2.2.1 o j ho hj]
    unfold hvL
    rw [eh]
    have hf : hfL (giveR r h k t) o j = hfL r o j := by
      unfold hfL
      by_cases j5 : j < 5
      · rw [if_pos j5, if_pos j5, giveR_ne (by omega)]
      · rw [if_neg j5, if_neg j5, giveR_ne (by omega)]
    rw [hf]
  · unfold cvL
    rw [eh]
    by_cases e : o = h
    · subst e
      rw [si_at, if_pos hh, giveR_sz hk]
      have : encT k (mbN (giveR r o k t) o) = encT k t := by
        have d : ∀ j, dg k (mbN (giveR r o k t) o) j = dg k t j := fun j => by
          unfold dg
          by_cases q : j < k
          · rw [if_pos q, if_pos q, giveR_mb q hk (ht j q)]
          · rw [if_neg q, if_neg q]
        unfold encT
        rw [d, d, d]
      rw [this]
    · rw [si_off (Or.inr e), L.2.2.2 o ho]
      unfold cvL
      rw [encR_cong (R' := giveR r h k t) (R := r) (o := o) (giveR_ne (by omega)) (fun j _ => giveR_ne (by omega))]
end LZROW
