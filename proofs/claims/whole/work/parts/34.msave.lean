/-! the model's save and undo -/
section MSAVE
variable {m : Mem} {A : Ab}
theorem sa_get {m : Mem} {k : Nat} {f : Nat → Int32} {a : Nat} : (sa m k f).1 a = if a = k then f else m.1 a := rfl
theorem s8_save (h : AM m A) (hn : A.n ≤ 6) : ∃ m', f_X8_save m = some m' ∧ AM m' A.push ∧ FrM m m' ∧ (∀ a, a ≠ 162 → a ≠ 164 → m'.1 a = m.1 a) ∧ ∀ j, j ≠ 1 → m'.1 162 j = m.1 162 j := by
  obtain ⟨h1, h2, h3, h4, h5⟩ := h
  -- the states shifted, if there is no room
  have sh : ∃ m1 : Mem, ((if (m.1 162 1) = 6 then bnd (lp (f_X8_save_L13) 1000000 (373, m)) (fun m12 => nm (si m12 162 1 ((m12.1 162 1) - 1)) fun m13 => some m13) else some m)) = some m1 ∧ ∃ k1, k1 < 6 ∧ m1.1 162 1 = nI k1 ∧ (k1 = if A.n = 6 then 5 else A.n) ∧ (∀ k, k < k1 → ∀ i, i < 373 → m1.1 164 (373 * k + i) = (if A.n = 6 then A.hs (k + 1) i else A.hs k i)) ∧ FrM m m1 ∧ (∀ a, a ≠ 162 → a ≠ 164 → m1.1 a = m.1 a) ∧ ∀ j, j ≠ 1 → m1.1 162 j = m.1 162 j := by
    rw [h2]
    have e6 : (nI A.n = 6) = (A.n = 6) := pz_eq (b := (6 : Nat)) (by omega) (by decide)
    by_cases q : A.n = 6
    · rw [if_pos (by rw [e6]; exact q)]
      have e : lp f_X8_save_L13 1000000 (373, m) = some (sa m 164 (fun j => if j < 1865 then m.1 164 (j + 373) else m.1 164 j)) := by
        have e0 : m = sa m 164 (fun j => if j < 0 then m.1 164 (j + 373) else m.1 164 j) := by
          have : (fun j => if j < 0 then m.1 164 (j + 373) else m.1 164 j) = m.1 164 := by
            funext j
            rw [if_neg (by omega)]
          rw [this, sa_id]
        have := lp_cnt (body := f_X8_save_L13) (fun i => (nI (373 + i), sa m 164 (fun j => if j < i then m.1 164 (j + 373) else m.1 164 j))) (N := 1865) (t := sa m 164 (fun j => if j < 1865 then m.1 164 (j + 373) else m.1 164 j)) (fun i hi => ?_) ?_ (n := 1000000) (by omega)
        · rw [← e0] at this
          exact this
        · have e1 : nI (373 + i) - 373 = nI i := by rw [show (373 : Int32) = nI 373 from rfl, pk_sub (by omega), Nat.add_sub_cancel_left]
          rw [f_X8_save_L13, show (2238 : Int32) = nI 2238 from rfl, if_neg (by rw [pz_le (by omega) (by omega)]; omega), pz_in (by omega) (by omega), pz_cl (by omega), e1, pz_nm, pz_in (by omega) (by omega), pz_cl (by omega), sa_self, pz_s]
          simp only [pz_nm]
          rw [sa_put, if_neg (by omega), Nat.add_assoc]
          have : upd (fun j => if j < i then m.1 164 (j + 373) else m.1 164 j) i (m.1 164 (373 + i)) = (fun j => if j < i + 1 then m.1 164 (j + 373) else m.1 164 j) := by
            funext j
            by_cases z : j = i
            · subst z
              rw [upd_self, if_pos (by omega), Nat.add_comm]
            · rw [upd_ne z]
              by_cases y : j < i
              · rw [if_pos y, if_pos (by omega)]
              · rw [if_neg y, if_neg (by omega)]
          rw [this]
        · rw [f_X8_save_L13, show (2238 : Int32) = nI 2238 from rfl, if_pos (by rw [pz_le (by omega) (by omega)]; omega)]
      rw [e, pz_bnd, sa_ne _ (by omega), h2, pz_nm]
      refine ⟨_, rfl, 5, by omega, ?_, by rw [if_pos q], fun k hk i hi => ?_, ((FrM.rf.arr (by omega)).put (by omega)), fun a a1 a2 => ?_, fun j hj => ?_⟩
      · rw [si_at, q]
        rfl
      · rw [si_ne (by omega), sa_self, if_pos (by omega), if_pos q, ← h3 (k + 1) (by omega) i hi]
        exact congrArg _ (by omega)
      · rw [si_ne a1, sa_ne _ a2]
      · rw [si_off (Or.inr hj), sa_ne _ (by omega)]
    · rw [if_neg (by rw [e6]; exact q)]
      exact ⟨_, rfl, A.n, by omega, h2, by rw [if_neg q], fun k hk i hi => by rw [if_neg q]; exact h3 k hk i hi, FrM.rf, fun _ _ _ => rfl, fun _ _ => rfl⟩
  obtain ⟨m1, e1, k1, k6, g2, gk, g3, gf, g4, g5⟩ := sh
  unfold f_X8_save
  rw [e1, pz_bnd]
  have z1 : m1.1 163 = A.r := by rw [g4 163 (by omega) (by omega)]; exact h1
  have e : lp f_X8_save_L54 1000000 (0, m1) = some (sa m1 164 (fun j => if 373 * k1 ≤ j ∧ j < 373 * k1 + 373 then A.r (j - 373 * k1) else m1.1 164 j)) := by
    have e0 : m1 = sa m1 164 (fun j => if 373 * k1 ≤ j ∧ j < 373 * k1 + 0 then A.r (j - 373 * k1) else m1.1 164 j) := by
      have : (fun j => if 373 * k1 ≤ j ∧ j < 373 * k1 + 0 then A.r (j - 373 * k1) else m1.1 164 j) = m1.1 164 := by
        funext j
        rw [if_neg (by omega)]
      rw [this, sa_id]
    have := lp_cnt (body := f_X8_save_L54) (fun i => (nI i, sa m1 164 (fun j => if 373 * k1 ≤ j ∧ j < 373 * k1 + i then A.r (j - 373 * k1) else m1.1 164 j))) (N := 373) (t := sa m1 164 (fun j => if 373 * k1 ≤ j ∧ j < 373 * k1 + 373 then A.r (j - 373 * k1) else m1.1 164 j)) (fun i hi => ?_) ?_ (n := 1000000) (by omega)
    · rw [← e0] at this
      exact this
    · rw [f_X8_save_L54, show (373 : Int32) = nI 373 from rfl, if_neg (by rw [pz_le (by omega) (by omega)]; omega), sa_ne _ (by omega), g2, pz_mul, pz_add, pz_nm, pz_in (by omega) (by omega), pz_cl (by omega), sa_ne _ (by omega), z1, pz_nm, pz_in (by omega) (by omega), pz_cl (by omega), pz_s]
      simp only [pz_nm]
      rw [sa_put]
      have : upd (fun j => if 373 * k1 ≤ j ∧ j < 373 * k1 + i then A.r (j - 373 * k1) else m1.1 164 j) (373 * k1 + i) (A.r i) = (fun j => if 373 * k1 ≤ j ∧ j < 373 * k1 + (i + 1) then A.r (j - 373 * k1) else m1.1 164 j) := by
        funext j
        by_cases z : j = 373 * k1 + i
        · subst z
          rw [upd_self, if_pos (by omega), Nat.add_sub_cancel_left]
        · rw [upd_ne z]
          by_cases y : 373 * k1 ≤ j ∧ j < 373 * k1 + i
          · rw [if_pos y, if_pos (by omega)]
          · rw [if_neg y, if_neg (by omega)]
      rw [this]
    · rw [f_X8_save_L54, show (373 : Int32) = nI 373 from rfl, if_pos (by rw [pz_le (by omega) (by omega)]; omega)]
  rw [e, pz_bnd, sa_ne _ (by omega), g2, pz_s, pz_nm]
  refine ⟨_, rfl, ⟨?_, ?_, fun k hk i hi => ?_, ?_, fun i hi => ?_⟩, (gf.arr (by omega)).put (by omega), fun a a1 a2 => ?_, fun j hj => ?_⟩
  · rw [si_ne (by omega), sa_ne _ (by omega), z1]
    rfl
  · rw [si_at]
    simp only [Ab.push, ab_n]
    rw [gk]
    by_cases q : A.n = 6
    · rw [if_pos q, if_pos q]
    · rw [if_neg q, if_neg q]
  · rw [si_ne (by omega), sa_self]
    simp only [Ab.push, ab_n, ab_hs] at hk ⊢
    by_cases q : A.n = 6
    · rw [if_pos q] at hk gk
      by_cases y : k < 5
      · rw [if_neg (by omega), if_pos q, if_pos y, g3 k (by omega) i hi, if_pos q]
      · rw [if_pos (by omega), if_pos q, if_neg y]
        exact congrArg _ (by omega)
    · rw [if_neg q] at hk gk
      by_cases y : k = A.n
      · rw [if_pos (by subst y; omega), if_neg q, if_pos y]
        exact congrArg _ (by subst y; omega)
      · rw [if_neg (by omega), if_neg q, if_neg y, g3 k (by omega) i hi, if_neg q]
  · rw [si_off (by omega), sa_ne _ (by omega), g5 3 (by omega)]
    exact h4
  · rw [si_ne (by omega), sa_ne _ (by omega), g4 165 (by omega) (by omega)]
    exact h5 i hi
  · rw [si_ne a1, sa_ne _ a2]
    exact g4 a a1 a2
  · rw [si_off (Or.inr hj), sa_ne _ (by omega)]
    exact g5 j hj
theorem s8_undo_L0 {n : Nat} (hn : n < 6) (e1 : m.1 162 1 = nI n) : lp f_X8_undo_L37 1000000 (0, m) = some (sa m 163 (mrg (fun i => m.1 164 (373 * n + i)) (m.1 163))) := by
  have e0 : m = sa m 163 (fun j => if j < 0 then m.1 164 (373 * n + j) else m.1 163 j) := by
    have : (fun j => if j < 0 then m.1 164 (373 * n + j) else m.1 163 j) = m.1 163 := by
      funext j
      rw [if_neg (by omega)]
    rw [this, sa_id]
  have := lp_cnt (body := f_X8_undo_L37) (fun i => (nI i, sa m 163 (fun j => if j < i then m.1 164 (373 * n + j) else m.1 163 j))) (N := 373) (t := sa m 163 (fun j => if j < 373 then m.1 164 (373 * n + j) else m.1 163 j)) (fun i hi => ?_) ?_ (n := 1000000) (by omega)
  · rw [← e0] at this
    exact this
  · rw [f_X8_undo_L37, show (373 : Int32) = nI 373 from rfl, if_neg (by rw [pz_le (by omega) (by omega)]; omega), sa_ne _ (by omega), e1, pz_mul, pz_add, pz_nm, pz_in (by omega) (by omega), pz_cl (by omega), sa_ne _ (by omega), pz_nm, pz_in (by omega) (by omega), pz_cl (by omega), pz_s]
    simp only [pz_nm]
    rw [sa_put]
    have : upd (fun j => if j < i then m.1 164 (373 * n + j) else m.1 163 j) i (m.1 164 (373 * n + i)) = (fun j => if j < i + 1 then m.1 164 (373 * n + j) else m.1 163 j) := by
      funext j
      by_cases z : j = i
      · subst z
        rw [upd_self, if_pos (by omega)]
      · rw [upd_ne z]
        by_cases y : j < i
        · rw [if_pos y, if_pos (by omega)]
        · rw [if_neg y, if_neg (by omega)]
    rw [this]
  · rw [f_X8_undo_L37, show (373 : Int32) = nI 373 from rfl, if_pos (by rw [pz_le (by omega) (by omega)]; omega)]
end MSAVE
