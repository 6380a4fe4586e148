/-! every act keeps what holds -/
section LACT
variable {m : Mem} {A : Ab} {k : Nat} {x y : Int32}
theorem l_ask (I : INV k m A) (h3 : 3 ≤ ppl A.r) : ∃ (a : Nat) (b : Int32), tt_ask y m = some (.inl (nI a, b, m)) ∧ a < ppl A.r ∧ (b = -1 ∨ ∃ j, j < ppl A.r ∧ b = nI j) := by
  obtain ⟨hC, ok, L, B, S, -⟩ := id I
  have hn := ok.2.2.1.1.1.1
  have b5 := B.1
  have e0 : m.1 162 0 = nI (ppl A.r) := by rw [L.n0, hn.2.1]
  obtain ⟨a, ha, ea⟩ := l_atA (y >>> (4 &&& 31)) (n := ppl A.r) (by omega) (by omega)
  obtain ⟨b, hb, eb'⟩ := l_atA (y >>> (7 &&& 31)) (n := 3) (by omega) (by omega)
  have eb : ∀ m, f_L_at (y >>> (7 &&& 31)) 3 m = some (nI b) := eb'
  obtain ⟨c, hc, ec⟩ := l_atA (y >>> (9 &&& 31)) (n := ppl A.r) (by omega) (by omega)
  unfold tt_ask
  rw [e0, ea, pz_bnd, eb, pz_bnd, ec, pz_bnd]
  by_cases z : nI b = 0
  · rw [if_pos z]
    exact ⟨a, -1, rfl, ha, Or.inl rfl⟩
  · rw [if_neg z]
    exact ⟨a, nI c, rfl, ha, Or.inr ⟨c, hc, rfl⟩⟩
theorem l_third (I : INV k m A) (h3 : 3 ≤ ppl A.r) {b : Int32} (hb : b = -1 ∨ ∃ j, j < ppl A.r ∧ b = nI j) : ∃ c, tt_third y b m = some c ∧ (c = -1 ∨ (b ≠ -1 ∧ ∃ j, j < ppl A.r ∧ c = nI j)) := by
  obtain ⟨hC, ok, L, B, S, -⟩ := id I
  have hn := ok.2.2.1.1.1.1
  have b5 := B.1
  have e0 : m.1 162 0 = nI (ppl A.r) := by rw [L.n0, hn.2.1]
  obtain ⟨d, hd, ed'⟩ := l_atA (y >>> (12 &&& 31)) (n := 2) (by omega) (by omega)
  have ed : ∀ m, f_L_at (y >>> (12 &&& 31)) 2 m = some (nI d) := ed'
  obtain ⟨c, hc, ec⟩ := l_atA (y >>> (13 &&& 31)) (n := ppl A.r) (by omega) (by omega)
  unfold tt_third
  rw [e0, ed, pz_bnd, ec, pz_bnd]
  rcases hb with rfl | ⟨j, hj, rfl⟩
  · rw [if_pos (by decide)]
    exact ⟨-1, rfl, Or.inl rfl⟩
  · have jn1 : ¬ (nI j = -1) := fun e => by
      have q := pz_ne1 (a := j) (by omega)
      rw [q] at e
      exact e
    rw [if_neg (by rw [pz_not0 (by omega)]; exact id)]
    by_cases z : nI d = 0
    · rw [if_pos z]
      exact ⟨-1, rfl, Or.inl rfl⟩
    · rw [if_neg z]
      exact ⟨nI c, rfl, Or.inr ⟨jn1, c, hc, rfl⟩⟩
theorem l_chains (I : INV k m A) (h3 : 3 ≤ ppl A.r) (h2 : 2 ≤ hrs A.r) : ∃ m' A', f_L_chains x y m = some (1, m') ∧ INV (k + 1) m' A' := by
  obtain ⟨hC, ok, L, B, S, -⟩ := id I
  have hn := ok.2.2.1.1.1.1
  have b5 := B.1
  have b8 := B.2
  have e1 : m.1 162 1 = nI (hrs A.r) := by rw [L.n1, hn.2.2.2]
  obtain ⟨h, hh, eh⟩ := l_atA y (n := hrs A.r) (by omega) (by omega)
  obtain ⟨c, hc, ec'⟩ := l_atA x (n := 9) (by omega) (by omega)
  have ec : ∀ m, f_L_at x 9 m = some (nI c) := ec'
  rw [tt_chains, e1, eh, pz_bnd, ec, pz_bnd]
  by_cases z6 : (6 : Int32) ≤ nI c
  · rw [if_pos z6]
    by_cases z : nI c = 6
    · rw [if_pos z]
      obtain ⟨m', A', q1, q2⟩ := l_swap (y := y) I hh h3
      exact ⟨m', A', by rw [q1, pz_jr], q2⟩
    · rw [if_neg z]
      obtain ⟨m', A', q1, q2⟩ := l_rv (x := nI c) I hh
      exact ⟨m', A', by rw [q1, pz_jr], q2⟩
  rw [if_neg z6]
  obtain ⟨a, b, q1, ha, hb⟩ := l_ask (y := y) I h3
  obtain ⟨d, q2, hd⟩ := l_third (y := y) I h3 hb
  rw [q1, pz_jl]
  dsimp only
  rw [q2, pz_bnd]
  have am1 : ¬ (nI a = -1) := fun e => by
    have q := pz_ne1 (a := a) (by omega)
    rw [q] at e
    exact e
  by_cases w1 : nI a = b
  · rw [if_pos w1, pz_jr]
    exact ⟨m, A, rfl, I.succ⟩
  rw [if_neg w1]
  have one : ∀ (t : Nat → Nat), t 0 = a → Tri A.r 1 t := fun t e => ⟨by omega, by omega, fun i hi => by rw [show i = 0 by omega, e]; exact ha, fun i j hi hj _ => by omega⟩
  rcases hd with rfl | ⟨hb1, l, hl, rfl⟩
  · rw [if_pos (by decide), pz_jl]
    rcases hb with rfl | ⟨j, hj, rfl⟩
    · obtain ⟨m', A', p1, p2⟩ := l_asg (t := fun _ => a) (n := 1) I hh (one _ rfl)
      refine ⟨m', A', ?_, p2⟩
      rw [← p1]
      rfl
    · have ne : a ≠ j := fun e => w1 (by rw [e])
      have ht : Tri A.r 2 (fun i => if i = 0 then a else j) := by
        refine ⟨by omega, by omega, fun i hi => ?_, fun i i2 hi hi2 e => ?_⟩
        · dsimp only
          split
          · exact ha
          · exact hj
        · dsimp only at e
          by_cases c1 : i = 0 <;> by_cases c2 : i2 = 0
          · omega
          · rw [if_pos c1, if_neg c2] at e; exact absurd e ne
          · rw [if_neg c1, if_pos c2] at e; exact absurd e.symm ne
          · omega
      obtain ⟨m', A', p1, p2⟩ := l_asg (t := fun i => if i = 0 then a else j) (n := 2) I hh ht
      refine ⟨m', A', ?_, p2⟩
      rw [← p1]
      rfl
  · rw [if_neg (by rw [pz_not0 (by omega)]; exact id)]
    rcases hb with rfl | ⟨j, hj, rfl⟩
    · exact absurd rfl hb1
    by_cases w2 : nI l = nI a
    · rw [if_pos w2, pz_jr]
      exact ⟨m, A, rfl, I.succ⟩
    rw [if_neg w2]
    by_cases w3 : nI l = nI j
    · rw [if_pos w3, pz_jr]
      exact ⟨m, A, rfl, I.succ⟩
    rw [if_neg w3, pz_jl]
    have n1 : a ≠ j := fun e => w1 (by rw [e])
    have n2 : l ≠ a := fun e => w2 (by rw [e])
    have n3 : l ≠ j := fun e => w3 (by rw [e])
    have ht : Tri A.r 3 (fun i => if i = 0 then a else if i = 1 then j else l) := by
      refine ⟨by omega, by omega, fun i hi => ?_, fun i i2 hi hi2 e => ?_⟩
      · dsimp only
        split
        · exact ha
        · split
          · exact hj
          · exact hl
      · dsimp only at e
        rcases (show i = 0 ∨ i = 1 ∨ i = 2 by omega) with rfl | rfl | rfl <;> rcases (show i2 = 0 ∨ i2 = 1 ∨ i2 = 2 by omega) with rfl | rfl | rfl <;> simp at e <;> omega
    obtain ⟨m', A', p1, p2⟩ := l_asg (t := fun i => if i = 0 then a else if i = 1 then j else l) (n := 3) I hh ht
    refine ⟨m', A', ?_, p2⟩
    rw [← p1]
    rfl
theorem l_rest (I : INV k m A) (hk : k < 48) (h3 : 3 ≤ ppl A.r) (h2 : 2 ≤ hrs A.r) {c : Nat} (hc : c < 14) : ∃ m' A', tt_rest x y (nI c) m = some (1, m') ∧ INV (k + 1) m' A' := by
  have q : ((10 : Int32) ≤ nI c) = (10 ≤ c) := pz_le (a := (10 : Nat)) (by decide) (by omega)
  by_cases z : 10 ≤ c
  · by_cases z1 : nI c = 10
    · rw [z1]
      exact l_cert I h3
    · by_cases z2 : nI c = 11
      · rw [z2]
        exact l_set I
      · exact l_pass I hk (by rw [q]; exact z) z1 z2
  · obtain ⟨m', A', q1, q2⟩ := l_chains (x := x) (y := y) I h3 h2
    refine ⟨m', A', ?_, q2⟩
    unfold tt_rest
    rw [if_neg (by rw [q]; exact z), q1, pz_bnd2, pz_bo1, pz_jr]
theorem l_act (I : INV k m A) (hk : k < 48) : ∃ m' A', f_L_act x y m = some (1, m') ∧ INV (k + 1) m' A' := by
  obtain ⟨hC, ok, L, B, S, -⟩ := id I
  have hn := ok.2.2.1.1.1.1
  have b5 := B.1
  have b8 := B.2
  have e0 : m.1 162 0 = nI (ppl A.r) := by rw [L.n0, hn.2.1]
  have e1 : m.1 162 1 = nI (hrs A.r) := by rw [L.n1, hn.2.2.2]
  obtain ⟨c, hc, ec'⟩ := l_atA (x >>> (20 &&& 31)) (n := 14) (by omega) (by omega)
  have ec : ∀ m, f_L_at (x >>> (20 &&& 31)) 14 m = some (nI c) := ec'
  have q3 : (nI (ppl A.r) < 3) = (ppl A.r < 3) := pz_lt (b := (3 : Nat)) (by omega) (by decide)
  have q5 : ((5 : Int32) ≤ nI (ppl A.r)) = (5 ≤ ppl A.r) := pz_le (a := (5 : Nat)) (by decide) (by omega)
  have q2 : (nI (hrs A.r) < 2) = (hrs A.r < 2) := pz_lt (b := (2 : Nat)) (by omega) (by decide)
  have q8 : ((8 : Int32) ≤ nI (hrs A.r)) = (8 ≤ hrs A.r) := pz_le (a := (8 : Nat)) (by decide) (by omega)
  have second : 3 ≤ ppl A.r → ∃ m' A', jn (if (m.1 162 1) < 2 then tt_addH y m else (if 3 ≤ nI c then some (.inl m) else (if 8 ≤ (m.1 162 1) then some (.inl m) else tt_addH y m))) (fun (m : Mem) => tt_rest x y (nI c) m) = some (1, m') ∧ INV (k + 1) m' A' := by
    intro h3
    rw [e1]
    by_cases z : hrs A.r < 2
    · obtain ⟨m', A', p1, p2⟩ := l_addH (y := y) I (by omega) hk
      exact ⟨m', A', by rw [if_pos (by rw [q2]; exact z), p1, pz_jr], p2⟩
    rw [if_neg (by rw [q2]; exact z)]
    by_cases z3 : (3 : Int32) ≤ nI c
    · rw [if_pos z3, pz_jl]
      exact l_rest I hk h3 (by omega) hc
    rw [if_neg z3]
    by_cases z8 : 8 ≤ hrs A.r
    · rw [if_pos (by rw [q8]; exact z8), pz_jl]
      exact l_rest I hk h3 (by omega) hc
    · obtain ⟨m', A', p1, p2⟩ := l_addH (y := y) I (by omega) hk
      exact ⟨m', A', by rw [if_neg (by rw [q8]; exact z8), p1, pz_jr], p2⟩
  rw [tt_act, ec, pz_bnd, e0]
  by_cases z : ppl A.r < 3
  · obtain ⟨m', A', p1, p2, -⟩ := l_addI (y := y) I (by omega)
    exact ⟨m', A', by rw [if_pos (by rw [q3]; exact z), p1, pz_jr], p2⟩
  rw [if_neg (by rw [q3]; exact z)]
  by_cases z0 : nI c = 0
  · rw [if_pos z0]
    by_cases z5 : 5 ≤ ppl A.r
    · rw [if_pos (by rw [q5]; exact z5), pz_jl]
      exact second (by omega)
    · obtain ⟨m', A', p1, p2, -⟩ := l_addI (y := y) I (by omega)
      exact ⟨m', A', by rw [if_neg (by rw [q5]; exact z5), p1, pz_jr], p2⟩
  · rw [if_neg z0, pz_jl]
    exact second (by omega)
theorem l_cell {L : Nat} {xs : Nat → Int32} (hL : L ≤ 260) {j : Nat} (hj : j < 1000) : ∃ v, f_L_cell L xs (nI j) = some v := by
  unfold f_L_cell
  by_cases z : L ≤ j
  · exact ⟨_, by rw [if_pos (by rw [pz_le (by omega) (by omega)]; exact z)]⟩
  · exact ⟨_, by rw [if_neg (by rw [pz_le (by omega) (by omega)]; exact z), pz_in (by omega) (by omega)]; rfl⟩
theorem l_body {L : Nat} {xs : Nat → Int32} (hL : L ≤ 260) (I : INV k m A) (hk : k < 48) : ∃ m' A', f_L_body L xs (nI k, m) = some (.inl (nI (k + 1), m')) ∧ INV (k + 1) m' A' := by
  have q : ((48 : Int32) ≤ nI k) = (48 ≤ k) := pz_le (a := (48 : Nat)) (by decide) (by omega)
  have d1 : (2 : Int32) * nI k = nI (2 * k) := pz_mul 2 k
  obtain ⟨v, ev⟩ := l_cell (xs := xs) hL (j := 2 * k) (by omega)
  obtain ⟨w, ew⟩ := l_cell (xs := xs) hL (j := 2 * k + 1) (by omega)
  obtain ⟨m', A', p1, p2⟩ := l_act (x := v) (y := w) I hk
  obtain ⟨hC, ok, L2, B, -⟩ := id p2
  refine ⟨m', A', ?_, p2⟩
  rw [f_L_body, if_neg (by rw [q]; omega), d1, ev, pz_bnd, pz_s, ew, pz_bnd, p1, pz_bnd2, if_neg (by decide), l_agree hC ok L2 B, pz_bnd, if_neg (by decide), pz_s, pz_nm]
theorem l_end {L : Nat} {xs : Nat → Int32} : f_L_body L xs (nI 48, m) = some (.inr m) := by
  rw [f_L_body, if_pos (by decide)]
end LACT
