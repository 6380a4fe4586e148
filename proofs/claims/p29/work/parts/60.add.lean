/-! acts: a new interpreter, a new hearing -/
def langN (a b c : Nat) : Nat := (((1 : Int32) <<< (nI a &&& 31) ||| (1 : Int32) <<< ((4 + nI b) &&& 31)) ||| nI c).toNatClampNeg
set_option maxRecDepth 100000 in
theorem lang_dec : ∀ a, a < 4 → ∀ b, b < 3 → ∀ c, c < 128 → (((1 : Int32) <<< (nI a &&& 31) ||| (1 : Int32) <<< ((4 + nI b) &&& 31)) ||| nI c = nI (langN a b c) ∧ 1 ≤ langN a b c ∧ langN a b c ≤ 1023 ∧ 2 ≤ ct (fun p => (langN a b c).testBit p) 10) := by decide +kernel
theorem inc6_S (m : Mem) : (if (6 : Int32) ≤ m.1 162 6 then some m else some (si m 162 6 (m.1 162 6 + 1))) = some (inc6 m) := by
  unfold inc6
  split <;> rfl
section ADDS
variable {m : Mem} {A : Ab} {k : Nat} {y : Int32}
theorem l_addI (I : INV k m A) (h5 : ppl A.r < 5) : ∃ m' A', tt_addI y m = some (.inr (1, m')) ∧ INV (k + 1) m' A' ∧ A'.r 9 = A.r 9 := by
  obtain ⟨hC, ok, L, B, S, t, t1, t2⟩ := id I
  have gd := ok.2.2.1
  have hn := gd.1.1.1
  obtain ⟨a, ha, ea'⟩ := l_atA y (n := 4) (by omega) (by omega)
  obtain ⟨b, hb, eb'⟩ := l_atA (y >>> (2 &&& 31)) (n := 3) (by omega) (by omega)
  obtain ⟨c, hc, ec'⟩ := l_atA (y >>> (4 &&& 31)) (n := 128) (by omega) (by omega)
  obtain ⟨d, hd, ed'⟩ := l_atA (y >>> (11 &&& 31)) (n := 2) (by omega) (by omega)
  obtain ⟨e, he, ee'⟩ := l_atA (y >>> (12 &&& 31)) (n := 8) (by omega) (by omega)
  obtain ⟨f, hf, ef'⟩ := l_atA (y >>> (15 &&& 31)) (n := 100) (by omega) (by omega)
  have ea : ∀ m, f_L_at y 4 m = some (nI a) := ea'
  have eb : ∀ m, f_L_at (y >>> (2 &&& 31)) 3 m = some (nI b) := eb'
  have ec : ∀ m, f_L_at (y >>> (4 &&& 31)) 128 m = some (nI c) := ec'
  have ed : ∀ m, f_L_at (y >>> (11 &&& 31)) 2 m = some (nI d) := ed'
  have ee : ∀ m, f_L_at (y >>> (12 &&& 31)) 8 m = some (nI e) := ee'
  have ef : ∀ m, f_L_at (y >>> (15 &&& 31)) 100 m = some (nI f) := ef'
  obtain ⟨w1, w2, w3, w4⟩ := lang_dec a ha b hb c hc
  obtain ⟨q, q8, eq⟩ : ∃ q, q < 8 ∧ ∀ m, (if nI d = 0 then some (7 : Int32) else bnd (f_L_at (y >>> (12 &&& 31)) 8 m) fun x21 => some x21) = some (nI q) := by
    by_cases z : nI d = 0
    · exact ⟨7, by omega, fun m => by rw [if_pos z]; rfl⟩
    · exact ⟨e, he, fun m => by rw [if_neg z, ee, pz_bnd]⟩
  have e0 : m.1 162 0 = nI (ppl A.r) := by rw [L.n0, hn.2.1]
  have e1 : (1 : Int32) + nI f = nI (1 + f) := nI_add 1 f
  have dv : (nI (6 * ppl A.r) : Int32) / 6 = nI (ppl A.r) := by
    rw [show (6 : Int32) = nI 6 from rfl, pk_div (by omega) (by omega) (by omega)]
    exact congrArg nI (by omega)
  obtain ⟨L2, ep, eh⟩ := LZ_hire (x := nI (langN a b c)) (y := nI q) (z := nI (1 + f)) L hn h5
  rw [hn.2.1, pz_s] at L2
  generalize hM : si (si (si (si m 162 0 (nI (ppl A.r + 1))) 163 (6 * ppl A.r) (nI (langN a b c))) 163 (6 * ppl A.r + 1) (nI q)) 163 (6 * ppl A.r + 2) (nI (1 + f)) = M at L2
  have r0 : M.1 163 (6 * ppl A.r) = nI (langN a b c) := by rw [← hM, si_off (Or.inr (by omega)), si_off (Or.inr (by omega)), si_at]
  have r1 : M.1 163 (6 * ppl A.r + 1) = nI q := by rw [← hM, si_off (Or.inr (by omega)), si_at]
  have r2 : M.1 163 (6 * ppl A.r + 2) = nI (1 + f) := by rw [← hM, si_at]
  have lo : ∀ a, a < 162 → (inc6 M).1 a = m.1 a := fun a ha => by rw [inc6_a _ (by omega), ← hM, si_ne (by omega), si_ne (by omega), si_ne (by omega), si_ne (by omega)]
  obtain ⟨m2, k1, k2, k3⟩ := k_addInterpreter (hC.low lo) ok (L := langN a b c) (c := q) (q := 1 + f) w2 w3 w4 q8 (by omega) (by omega) (by omega)
  refine ⟨m2, A.push.now (hireR A.r (nI (langN a b c)) (nI q) (nI (1 + f))), ?_, I.mut (inc6_L L2 ok.1) k2 k3 (GD_hire gd (by omega) (by omega) q8 (by omega)) ⟨by omega, by rw [eh]; exact B.2⟩ (S.same eh (fun o => hireR_ne (by omega) (by omega))) ⟨t, by omega, by rw [hireR_ne (by omega) (by omega)]; exact t2⟩, hireR_ne (by omega) (by omega)⟩
  unfold tt_addI
  rw [e0]
  simp only [pz_nm, ea, eb, ec, ed, ef, pz_bnd, eq, w1, e1, x6, pz_s, pl2]
  simp (disch := omega) only [pz_in, pz_cl]
  rw [hM, inc6_S, pz_bnd]
  simp only [inc6_a _ (show (163 : Nat) ≠ 162 by decide)]
  rw [r0, r1, r2, k1, pz_bnd2, dv, if_pos rfl]
theorem l_addH (I : INV k m A) (h8 : hrs A.r < 8) (hk : k < 48) : ∃ m' A', tt_addH y m = some (.inr (1, m')) ∧ INV (k + 1) m' A' := by
  obtain ⟨hC, ok, L, B, S, t, t1, t2⟩ := id I
  have gd := ok.2.2.1
  have hn := gd.1.1.1
  obtain ⟨a, ha, ea'⟩ := l_atA y (n := 3) (by omega) (by omega)
  obtain ⟨b, hb, eb'⟩ := l_atA (y >>> (2 &&& 31)) (n := 6) (by omega) (by omega)
  obtain ⟨c, hc, ec'⟩ := l_atA (y >>> (5 &&& 31)) (n := 60) (by omega) (by omega)
  obtain ⟨d, hd, ed'⟩ := l_atA (y >>> (11 &&& 31)) (n := 50) (by omega) (by omega)
  have ea : ∀ m, f_L_at y 3 m = some (nI a) := ea'
  have eb : ∀ m, f_L_at (y >>> (2 &&& 31)) 6 m = some (nI b) := eb'
  have ec : ∀ m, f_L_at (y >>> (5 &&& 31)) 60 m = some (nI c) := ec'
  have ed : ∀ m, f_L_at (y >>> (11 &&& 31)) 50 m = some (nI d) := ed'
  have e0 : m.1 162 1 = nI (hrs A.r) := by rw [L.n1, hn.2.2.2]
  have e2 : m.1 162 2 = nI t := by rw [L.n2, t2]
  have e1 : (1 : Int32) + nI b = nI (1 + b) := nI_add 1 b
  have e10 : (10 : Int32) + nI d = nI (10 + d) := nI_add 10 d
  have dv : (nI (6 * hrs A.r) : Int32) / 6 = nI (hrs A.r) := by
    rw [show (6 : Int32) = nI 6 from rfl, pk_div (by omega) (by omega) (by omega)]
    exact congrArg nI (by omega)
  obtain ⟨g1, g2, g3⟩ := GD_ent (kd := a) (lg := 1 + b) (s := 1 + c) (len := 10 + d) (t := t) gd.1 t2 (by omega) (by omega) ha (by omega) (by omega) (by omega) (by omega) (by omega)
  obtain ⟨L2, ep, eh⟩ := LZ_ent (x := nI a) (y := nI (1 + b)) (z := nI (t + (1 + c))) (w := nI (10 + d)) L hn h8
  rw [hn.2.2.2, pz_s] at L2
  generalize hM : si (si (si (si (si m 162 1 (nI (hrs A.r + 1))) 164 (6 * hrs A.r) (nI a)) 164 (6 * hrs A.r + 1) (nI (1 + b))) 164 (6 * hrs A.r + 2) (nI (t + (1 + c)))) 164 (6 * hrs A.r + 3) (nI (10 + d)) = M at L2
  have r0 : M.1 164 (6 * hrs A.r) = nI a := by rw [← hM, si_off (Or.inr (by omega)), si_off (Or.inr (by omega)), si_off (Or.inr (by omega)), si_at]
  have r1 : M.1 164 (6 * hrs A.r + 1) = nI (1 + b) := by rw [← hM, si_off (Or.inr (by omega)), si_off (Or.inr (by omega)), si_at]
  have r2 : M.1 164 (6 * hrs A.r + 2) = nI (t + (1 + c)) := by rw [← hM, si_off (Or.inr (by omega)), si_at]
  have r3 : M.1 164 (6 * hrs A.r + 3) = nI (10 + d) := by rw [← hM, si_at]
  have rt : M.1 162 2 = nI t := by rw [← hM, si_ne (by omega), si_ne (by omega), si_ne (by omega), si_ne (by omega), si_off (Or.inr (by omega)), e2]
  have lo : ∀ a, a < 162 → (inc6 M).1 a = m.1 a := fun a ha => by rw [inc6_a _ (by omega), ← hM, si_ne (by omega), si_ne (by omega), si_ne (by omega), si_ne (by omega), si_ne (by omega)]
  obtain ⟨m2, k1, k2, k3⟩ := k_addHearing (hC.low lo) ok (kd := a) (lg := 1 + b) (s := 1 + c) (len := 10 + d) (t := t) ha (by omega) (by omega) (by omega) (by omega) (by omega) (by omega) (by omega) t2
  have sb : nI (t + (1 + c)) - nI t = nI (1 + c) := by
    rw [pk_sub (by omega)]
    exact congrArg nI (by omega)
  have stv : nI t + 1 + nI c = nI (t + (1 + c)) := by
    rw [pz_s, pz_add]
    exact congrArg nI (by omega)
  have rd : (si (si (si m 162 1 (nI (hrs A.r + 1))) 164 (6 * hrs A.r) (nI a)) 164 (6 * hrs A.r + 1) (nI (1 + b))).1 162 2 = nI t := by
    rw [si_ne (by omega), si_ne (by omega), si_off (Or.inr (by omega)), e2]
  have S2 : STG (entR A.r (nI a) (nI (1 + b)) (nI (t + (1 + c))) (nI (10 + d))) := fun o ho => by
    by_cases z : o = hrs A.r
    · subst z
      rw [entR_h (by omega)]
      exact ⟨0, by omega, rfl⟩
    · rw [entR_ne (by omega) (by omega)]
      exact S o (by omega)
  refine ⟨m2, A.push.now (entR A.r (nI a) (nI (1 + b)) (nI (t + (1 + c))) (nI (10 + d))), ?_, I.mut (inc6_L L2 ok.1) k2 k3 ⟨g1, t, by omega, g2⟩ ⟨by rw [ep]; exact B.1, by omega⟩ S2 ⟨t, by omega, g2⟩⟩
  unfold tt_addH
  rw [e0]
  simp only [pz_nm, ea, eb, ec, ed, pz_bnd, e1, e10, x6, pz_s, pl2, pl3]
  simp (disch := omega) only [pz_in, pz_cl]
  rw [rd, stv, hM, inc6_S, pz_bnd]
  simp only [inc6_a _ (show (164 : Nat) ≠ 162 by decide), inc6_i _ (show (2 : Nat) ≠ 6 by decide)]
  rw [r0, r1, r2, r3, rt, sb, k1, pz_bnd2, dv, if_pos rfl]
end ADDS
