/-! a minute in the law's rows: its three loops -/
theorem si_si (m : Mem) (k j : Nat) (v w : Int32) : si (si m k j v) k j w = si m k j w := by
  refine Prod.ext (funext fun a => funext fun i => ?_) rfl
  show (if a = k ∧ i = j then w else if a = k ∧ i = j then v else m.1 a i) = if a = k ∧ i = j then w else m.1 a i
  by_cases h : a = k ∧ i = j
  · rw [if_pos h, if_pos h]
  · rw [if_neg h, if_neg h, if_neg h]
section LMIN
variable {m : Mem} {r : Row} {n p : Nat}
theorem tirS_v (R r : Row) (p : Nat) (m : Mem) : clmp (R (43 + p) + (tirS R r p (wkR r p) m).1) = tirV r R p := by
  unfold tirV tirS
  cases wkR r p with
  | none => show clmp (R (43 + p) + -(R 2)) = clmp (R (43 + p) - R 2); rw [Int32.sub_eq_add_neg]
  | some h => rfl
theorem tirS_w {R r : Row} {k : Nat} (L : LZ m R n) (B : LZB R) (hk : k < 5) {p j : Nat} (hp : p < ppl R) (hj : j < 6) : (tirS R r k (wkR r k) m).2.1 163 (6 * p + j) = wkd r R k (13 + 10 * j + p) := by
  have b5 := B.1
  have e := L.pe B hp hj
  unfold tirS wkd
  cases wkR r k with
  | none => exact e
  | some h =>
    show (si m 163 (6 * k + 5) (R (63 + k) + 1)).1 163 (6 * p + j) = upd R (63 + k) (R (63 + k) + 1) (13 + 10 * j + p)
    by_cases q : p = k ∧ j = 5
    · rw [q.1, q.2, si_at, upd_is (by omega)]
    · rw [si_off (Or.inr (by omega)), upd_ne (by omega), e]
theorem tirS_o {R r : Row} {k : Nat} (hk : k < ppl R) {p j : Nat} (hp : ppl R ≤ p) (hj : j < 6) : (tirS R r k (wkR r k) m).2.1 163 (6 * p + j) = m.1 163 (6 * p + j) := by
  unfold tirS
  cases wkR r k with
  | none => rfl
  | some h => exact si_off (Or.inr (by omega))
theorem wkd_ne {r R : Row} {k i : Nat} (hi : i ≠ 63 + k) : wkd r R k i = R i := by
  unfold wkd
  cases wkR r k with
  | none => rfl
  | some h => exact upd_ne hi
theorem l_min3 (L : LZ m r n) (hn : NumW r) (hw : ChWs r) (hu : UNQ r) (B : LZB r) : ∃ m', lp f_L_minute_L3 1000000 (0, m) = some m' ∧ (LZ m' (tireR r) n ∧ ∀ a, a ≠ 163 → m'.1 a = m.1 a) := by
  have b5 := B.1
  have b8 := B.2
  refine lp_inv (fun k (s : Int32 × Mem) => s.1 = nI k ∧ LZ s.2 (tirN r k) n ∧ ∀ a, a ≠ 163 → s.2.1 a = m.1 a) (N := ppl r) (fun k s hk hI => ?_) (fun s hI => ?_) _ ⟨rfl, L, fun _ _ => rfl⟩ (by omega)
  · obtain ⟨x, m1⟩ := s
    obtain ⟨rfl, L1, c1⟩ := hI
    dsimp only at L1 c1
    have F := tirN_FA (r := r) k (by omega)
    have ep : ppl (tirN r k) = ppl r := F.se.ePpl
    have eh : hrs (tirN r k) = hrs r := F.se.eHrs
    have BR : LZB (tirN r k) := ⟨by omega, by omega⟩
    have q0 : m1.1 162 0 = nI (ppl r) := by rw [L1.n0, F 7 (by omega), hn.2.1]
    have e21 := l_min21 L1 hn hw hu F B hk
    have sv := tirS_v (tirN r k) r k m1
    have sw := fun (p j : Nat) (hp : p < ppl (tirN r k)) (hj : j < 6) => tirS_w (r := r) (k := k) L1 BR (by omega) hp hj
    have so := fun (p j : Nat) (hp : ppl (tirN r k) ≤ p) (hj : j < 6) => tirS_o (m := m1) (R := tirN r k) (r := r) (k := k) (by omega) hp hj
    have sc := fun (a : Nat) (ha : a ≠ 163) => tirS_cell (tirN r k) r k (wkR r k) m1 ha
    revert e21 sv sw so sc
    generalize tirS (tirN r k) r k (wkR r k) m1 = q
    obtain ⟨xv, mv⟩ := q
    intro e21 sv sw so sc
    dsimp only at sv sw so sc
    have e43 : mv.1 163 (6 * k + 3) = tirN r k (43 + k) := by
      rw [sw k 3 (by omega) (by omega), wkd_ne (by omega)]
    rw [f_L_minute_L3, q0, if_neg (by rw [pz_le (by omega) (by omega)]; omega), e21, pz_bnd]
    dsimp only
    rw [x6, pl3, pz_s]
    simp (disch := omega) only [pz_in, pz_cl, pz_nm]
    rw [e43, si_at]
    have fin : ∀ (y : Int32), (bnd (if y ≤ 1000 then some (si mv 163 (6 * k + 3) y) else some (si (si mv 163 (6 * k + 3) y) 163 (6 * k + 3) 1000)) fun m48 => if 0 ≤ m48.1 163 (6 * k + 3) then some (Sum.inl (nI (k + 1), m48)) else some (Sum.inl (nI (k + 1), si m48 163 (6 * k + 3) 0))) = some ((Sum.inl (nI (k + 1), si mv 163 (6 * k + 3) (clmp y)) : (Int32 × Mem) ⊕ Mem)) := by
      intro y
      rw [← clmp_law]
      by_cases h1 : y ≤ 1000
      · rw [if_pos h1, if_pos h1, pz_bnd, si_at]
        by_cases h2 : 0 ≤ y
        · rw [if_pos h2, if_pos h2]
        · rw [if_neg h2, if_neg h2, si_si]
      · rw [if_neg h1, if_neg h1, pz_bnd, si_at, if_pos (by decide), si_si]
    rw [fin, sv]
    refine ⟨_, rfl, rfl, ?_, fun a ha => ?_⟩
    · refine LZ_row163 L1 (fun i hi => ?_) (fun p j hp hj hpl => ?_) (fun p j hp hj hpl => ?_) (fun a ha _ => ?_)
      · rw [tirN, upd_ne (by omega), wkd_ne (by omega)]
      · rw [tirN]
        dsimp only
        by_cases q : p = k ∧ j = 3
        · rw [q.1, q.2, si_at, upd_is (by omega)]
        · rw [si_off (Or.inr (by omega)), upd_ne (by omega), sw p j hpl hj]
      · dsimp only
        rw [si_off (Or.inr (by omega)), so p j hpl hj]
      · dsimp only
        rw [si_ne ha, sc a ha]
    · dsimp only
      rw [si_ne ha, sc a ha, c1 a ha]
  · obtain ⟨x, m1⟩ := s
    obtain ⟨rfl, L1, c1⟩ := hI
    have F := tirN_FA (r := r) (ppl r) (by omega)
    have q0 : m1.1 162 0 = nI (ppl r) := by rw [L1.n0, F 7 (by omega), hn.2.1]
    rw [f_L_minute_L3, q0, if_pos (by rw [pz_le (by omega) (by omega)]; omega)]
    exact ⟨_, rfl, L1, c1⟩
theorem encT_0 {n : Nat} {t : Nat → Nat} : (encT n t = 0) = (n = 0) := by
  apply propext
  constructor
  · intro e
    apply Classical.byContradiction
    intro h
    unfold encT at e
    have : dg n t 0 = t 0 + 1 := if_pos (by omega)
    omega
  · intro e
    subst e
    simp [encT, dg]
section CLS
variable {h k v : Nat}
/-- done: the stage set, then paid -/
theorem l_done (L : LZ m r n) (B : LZB r) (R0 : RW0 r) (hh : h < hrs r) (hv : v ≤ 2) : ∃ m', f_L_pays (nI h) (nI v) (si m 164 (6 * h + 4) (nI 1)) = some (payR r h (nI v), m') ∧ LZ m' (closeR r h 1 (nI v)) n ∧ ∀ a, a ≠ 162 → a ≠ 163 → a ≠ 164 → m'.1 a = m.1 a := by
  obtain ⟨hn, hw, hS, hP, hT, -⟩ := R0
  have hc := hw h hh
  have E := L.le B
  have E1 : LZE (si m 164 (6 * h + 4) (nI 1)) r := ⟨by rw [si_ne (by omega)]; exact E.1, fun p hp => by rw [si_ne (by omega)]; exact E.2.1 p hp, fun o ho => by rw [si_off (Or.inr (by omega))]; exact E.2.2.1 o ho, fun o ho => by rw [si_ne (by omega)]; exact E.2.2.2 o ho⟩
  obtain ⟨m', e, g1, g2, g3, g4, g5⟩ := l_pays E1 B hP hT hS hh hc hv (fun p hp => by rw [si_ne (by omega)]; exact L.pe B hp (j := 4) (by omega))
  refine ⟨m', e, ?_, fun a a1 a2 a3 => by rw [g5 a a1 a2 a3, si_ne a3]⟩
  refine LZ_close L B hc hh (by omega) g1 (fun p j hp hj hj4 => by rw [g2 p j hp hj hj4, si_ne (by omega)]) (fun i => ?_) (fun i => ?_) (by rw [g5 165 (by omega) (by omega) (by omega), si_ne (by omega)])
  · rw [g3 i]
    by_cases q : i = 6 * h + 4
    · rw [if_neg (by omega), if_pos q, q, si_at]
    · rw [if_neg q, si_off (Or.inr q)]
  · rw [g4 i, si_ne (by omega)]
    by_cases q : i = 3
    · rw [if_pos q, if_pos q]
    · rw [if_neg q, if_neg q, if_neg (by omega), if_neg (by omega)]
/-- adjourned: the stage set, paid, and told in its own sum -/
theorem l_adj (L : LZ m r n) (B : LZB r) (R0 : RW0 r) (hh : h < hrs r) (hv : v ≤ 2) : ∃ m', f_L_pays (nI h) (nI v) (si m 164 (6 * h + 4) (nI 2)) = some (payR r h (nI v), m') ∧ LZ (si m' 162 5 (m.1 162 5 + payR r h (nI v))) (closeR r h 2 (nI v)) n ∧ ∀ a, a ≠ 162 → a ≠ 163 → a ≠ 164 → m'.1 a = m.1 a := by
  obtain ⟨hn, hw, hS, hP, hT, -⟩ := R0
  have hc := hw h hh
  have E := L.le B
  have E1 : LZE (si m 164 (6 * h + 4) (nI 2)) r := ⟨by rw [si_ne (by omega)]; exact E.1, fun p hp => by rw [si_ne (by omega)]; exact E.2.1 p hp, fun o ho => by rw [si_off (Or.inr (by omega))]; exact E.2.2.1 o ho, fun o ho => by rw [si_ne (by omega)]; exact E.2.2.2 o ho⟩
  obtain ⟨m', e, g1, g2, g3, g4, g5⟩ := l_pays E1 B hP hT hS hh hc hv (fun p hp => by rw [si_ne (by omega)]; exact L.pe B hp (j := 4) (by omega))
  refine ⟨m', e, ?_, fun a a1 a2 a3 => by rw [g5 a a1 a2 a3, si_ne a3]⟩
  refine LZ_close L B hc hh (by omega) (fun p hp => by rw [si_ne (by omega)]; exact g1 p hp) (fun p j hp hj hj4 => by rw [si_ne (by omega), g2 p j hp hj hj4, si_ne (by omega)]) (fun i => ?_) (fun i => ?_) (by rw [si_ne (by omega), g5 165 (by omega) (by omega) (by omega), si_ne (by omega)])
  · rw [si_ne (by omega), g3 i]
    by_cases q : i = 6 * h + 4
    · rw [if_neg (by omega), if_pos q, q, si_at]
    · rw [if_neg q, si_off (Or.inr q)]
  · by_cases q5 : i = 5
    · rw [q5, si_at, if_neg (by omega), if_neg (by omega), if_pos ⟨rfl, rfl⟩]
    · rw [si_off (Or.inr q5), g4 i, si_ne (by omega)]
      by_cases q : i = 3
      · rw [if_pos q, if_pos q]
      · rw [if_neg q, if_neg q, if_neg (by omega), if_neg (by omega)]
/-- nobody to pay -/
theorem l_adj0 (L : LZ m r n) (B : LZB r) (R0 : RW0 r) (hh : h < hrs r) (h0 : szN r h = 0) {hv : Int32} : LZ (si m 164 (6 * h + 4) (nI 2)) (closeR r h 2 hv) n := by
  have hc := R0.2.1 h hh
  have e0 : payR r h hv = 0 := by unfold payR; rw [h0]; rfl
  have e1 : payPR r h hv (szN r h) = r := by rw [h0]; rfl
  refine LZ_close L B hc hh (by omega) (fun p hp => by rw [e1, si_ne (by omega)]; exact L.pe B hp (j := 4) (by omega)) (fun p j hp hj _ => by rw [si_ne (by omega)]) (fun i => ?_) (fun i => ?_) (by rw [si_ne (by omega)])
  · rw [e0, Int32.add_zero]
    by_cases q : i = 6 * h + 4
    · rw [if_pos q, q, si_at]
    · rw [if_neg q, si_off (Or.inr q)]
      split <;> rfl
  · rw [e0, Int32.add_zero, Int32.add_zero, Int32.add_zero, si_ne (by omega)]
    by_cases q : i = 3
    · rw [if_pos q, q]
    · rw [if_neg q]
      by_cases q2 : i = 4 ∧ 2 = 3
      · omega
      · rw [if_neg q2]
        by_cases q3 : i = 5 ∧ 2 = 2
        · rw [if_pos q3, q3.1]
        · rw [if_neg q3]
/-- vacated: paid, then the stage set and the sum -/
theorem l_vac (L : LZ m r n) (B : LZB r) (R0 : RW0 r) (hh : h < hrs r) (hv : v ≤ 2) : ∃ m', f_L_pays (nI h) (nI v) m = some (payR r h (nI v), m') ∧ LZ (si (si m' 164 (6 * h + 4) (nI 3)) 162 4 (m'.1 162 4 + payR r h (nI v))) (closeR r h 3 (nI v)) n ∧ ∀ a, a ≠ 162 → a ≠ 163 → a ≠ 164 → m'.1 a = m.1 a := by
  obtain ⟨hn, hw, hS, hP, hT, -⟩ := R0
  have hc := hw h hh
  obtain ⟨m', e, g1, g2, g3, g4, g5⟩ := l_pays (L.le B) B hP hT hS hh hc hv (fun p hp => L.pe B hp (j := 4) (by omega))
  refine ⟨m', e, ?_, g5⟩
  refine LZ_close L B hc hh (by omega) (fun p hp => by rw [si_ne (by omega), si_ne (by omega)]; exact g1 p hp) (fun p j hp hj hj4 => by rw [si_ne (by omega), si_ne (by omega), g2 p j hp hj hj4]) (fun i => ?_) (fun i => ?_) (by rw [si_ne (by omega), si_ne (by omega), g5 165 (by omega) (by omega) (by omega)])
  · rw [si_ne (by omega)]
    by_cases q : i = 6 * h + 4
    · rw [if_pos q, q, si_at]
    · rw [if_neg q, si_off (Or.inr q), g3 i]
  · by_cases q4 : i = 4
    · rw [q4, si_at, if_neg (by omega), if_pos ⟨rfl, rfl⟩, g4 4, if_neg (by omega)]
    · rw [si_off (Or.inr q4), si_ne (by omega), g4 i]
      by_cases q : i = 3
      · rw [if_pos q, if_pos q]
      · rw [if_neg q, if_neg q, if_neg (by omega), if_neg (by omega)]
end CLS
theorem l_min195 (L : LZ m r n) (R0 : RW0 r) (B : LZB r) : ∃ q : Int32 × Mem, lp f_L_minute_L195 1000000 (0, 0, m) = some q ∧ (q.1 = (endN r (hrs r)).2 ∧ LZ q.2 (endN r (hrs r)).1 n ∧ ∀ a, a ≠ 162 → a ≠ 163 → a ≠ 164 → q.2.1 a = m.1 a) := by
  have b5 := B.1
  have b8 := B.2
  refine lp_inv (fun k (s : Int32 × Int32 × Mem) => s.1 = (endN r k).2 ∧ s.2.1 = nI k ∧ LZ s.2.2 (endN r k).1 n ∧ ∀ a, a ≠ 162 → a ≠ 163 → a ≠ 164 → s.2.2.1 a = m.1 a) (N := hrs r) (fun k s hk hI => ?_) (fun s hI => ?_) _ ⟨rfl, rfl, L, fun _ _ _ _ => rfl⟩ (by omega)
  · obtain ⟨x, y, m1⟩ := s
    obtain ⟨rfl, rfl, L1, c1⟩ := hI
    dsimp only at L1 c1
    have al := endN_all R0.1 R0.2.1 k (by omega)
    have R1 := endN_RW0 R0 k (by omega)
    have eh : hrs (endN r k).1 = hrs r := al.1.se.eHrs
    have ep : ppl (endN r k).1 = ppl r := al.1.se.ePpl
    show ∃ s' : Int32 × Int32 × Mem, _ ∧ (s'.1 = (endS k (endN r k)).2 ∧ s'.2.1 = nI (k + 1) ∧ LZ s'.2.2 (endS k (endN r k)).1 n ∧ _)
    revert L1 R1 eh ep
    generalize endN r k = q
    obtain ⟨R, d⟩ := q
    intro L1 R1 eh ep
    dsimp only at L1 R1 eh ep ⊢
    have BR : LZB R := ⟨by omega, by omega⟩
    have hkR : k < hrs R := by omega
    have hc := R1.2.1 k hkR
    have q1 : m1.1 162 1 = nI (hrs r) := by rw [L1.n1, R1.1.2.2.2, eh]
    have d4 : m1.1 164 (6 * k + 4) = R (73 + 10 * k + 4) := L1.he BR hkR (j := 4) (by omega)
    have d2 : m1.1 164 (6 * k + 2) = R (73 + 10 * k + 2) := L1.he BR hkR (j := 2) (by omega)
    have d3 : m1.1 164 (6 * k + 3) = R (73 + 10 * k + 3) := L1.he BR hkR (j := 3) (by omega)
    have dc := L1.ch BR hkR
    have tl := encT_lt (BR.mb hc)
    have ez : (nI (encT (szN R k) (mbN R k)) ≤ 0) = (szN R k = 0) := by rw [i32_le0 (by omega), encT_0]
    have el : lst R k = decide (R (73 + 10 * k + 4) = 0) := rfl
    have ee : endR R k = R (73 + 10 * k + 2) + R (73 + 10 * k + 3) := rfl
    rw [f_L_minute_L195, q1, if_neg (by rw [pz_le (by omega) (by omega)]; omega), x6, pl4, pz_in (by omega) (by omega), pz_cl (by omega), d4]
    simp only [pz_nm]
    rw [pl2, pz_in (by omega) (by omega), pz_cl (by omega), d2, pl3, pz_in (by omega) (by omega), pz_cl (by omega), d3, L1.n2]
    unfold endS
    dsimp only
    by_cases s : R (73 + 10 * k + 4) = 0
    case neg =>
      rw [if_neg s, if_neg (by rw [el]; simp [s]), pz_s]
      exact ⟨_, rfl, rfl, rfl, L1, c1⟩
    rw [if_pos s]
    by_cases s2 : R (73 + 10 * k + 2) + R (73 + 10 * k + 3) = R 9
    case neg =>
      rw [if_neg s2, if_neg (by rw [ee]; simp [s2]), pz_s]
      exact ⟨_, rfl, rfl, rfl, L1, c1⟩
    rw [if_pos s2, if_pos (c := (lst R k && decide (endR R k = R 9)) = true) (by rw [el, ee]; simp [s, s2]), pz_in (by omega) (by omega), pz_cl (by omega), dc]
    by_cases z : szN R k = 0
    · rw [if_pos (by rw [ez]; exact z), if_pos z, pz_bnd]
      simp (disch := omega) only [pz_in, pz_cl, si_ne, dc, pz_s]
      rw [if_pos (by rw [ez]; exact z)]
      refine ⟨_, rfl, rfl, rfl, l_adj0 L1 BR R1 hkR z, fun a a1 a2 a3 => ?_⟩
      dsimp only
      rw [si_ne a3]
      exact c1 a a1 a2 a3
    · rw [if_neg (by rw [ez]; exact z), if_neg z, pz_bnd]
      simp (disch := omega) only [pz_in, pz_cl, si_ne, dc, pz_s]
      obtain ⟨m', e, L2, c2⟩ := l_done (v := 2) L1 BR R1 hkR (by omega)
      have e' : f_L_pays (nI k) 2 (si m1 164 (6 * k + 4) 1) = some (payR R k 2, m') := e
      rw [if_neg (by rw [ez]; exact z), e', pz_bnd2]
      exact ⟨_, rfl, rfl, rfl, L2, fun a a1 a2 a3 => by rw [c2 a a1 a2 a3]; exact c1 a a1 a2 a3⟩
  · obtain ⟨x, y, m1⟩ := s
    obtain ⟨rfl, rfl, L1, c1⟩ := hI
    dsimp only at L1 c1
    have al := endN_all R0.1 R0.2.1 (hrs r) (Nat.le_refl _)
    have q1 : m1.1 162 1 = nI (hrs r) := by rw [L1.n1, al.1 8 (by omega), R0.1.2.2.2]
    rw [f_L_minute_L195, q1, if_pos (by rw [pz_le (by omega) (by omega)]; omega)]
    exact ⟨_, rfl, rfl, L1, c1⟩
/-- whether one of a chain is too tired -/
theorem l_min333 {h : Nat} (L : LZ m r n) (hn : NumW r) (B : LZB r) (hh : h < hrs r) (hc : ChW r h) : lp (f_L_minute_L333 (nI h) m) 1000000 (0, 0) = some (bI (tooT r h)) := by
  have b5 := B.1
  have b8 := B.2
  have tb := B.mb hc
  have q0 : m.1 162 0 = nI (ppl r) := by rw [L.n0, hn.2.1]
  have q10 : m.1 162 10 = r 3 := L.ns (k := 3) (by omega)
  have dc := L.ch B hh
  have key : exB (fun p => inCh r (nI p) h && decide (¬ r (43 + p) ≤ r 3)) (ppl r) = tooT r h := by
    rw [Bool.eq_iff_iff, exB_iff]
    unfold tooT
    rw [too_iff]
    constructor
    · rintro ⟨p, p1, p2⟩
      rw [Bool.and_eq_true, decide_eq_true_eq, inCh_iff hc (by omega)] at p2
      obtain ⟨⟨j, j1, rfl⟩, p3⟩ := p2
      exact ⟨j, j1, p3⟩
    · rintro ⟨k, k1, k2⟩
      have := (hc.2.2.1 k k1).1
      exact ⟨mbN r h k, this, by rw [Bool.and_eq_true, decide_eq_true_eq, inCh_iff hc (by omega)]; exact ⟨⟨k, k1, rfl⟩, k2⟩⟩
  rw [← key]
  refine lp_cnt (fun k => (bI (exB (fun p => inCh r (nI p) h && decide (¬ r (43 + p) ≤ r 3)) k), nI k)) (N := ppl r) (fun k hk => ?_) ?_ (by omega)
  · have e43 : m.1 163 (6 * k + 3) = r (43 + k) := L.pe B hk (j := 3) (by omega)
    rw [f_L_minute_L333, q0, if_neg (by rw [pz_le (by omega) (by omega)]; omega), pz_in (by omega) (by omega), pz_cl (by omega), dc, pz_nm, l_has tb hc.1 (by omega), hasT_in hc (by omega), pz_bnd, bI_ite, x6, pl3, pz_in (by omega) (by omega), pz_cl (by omega), e43, q10]
    simp only [pz_nm, pz_s]
    show _ = some (Sum.inl (bI (exB (fun p => inCh r (nI p) h && decide (¬ r (43 + p) ≤ r 3)) k || (inCh r (nI k) h && decide (¬ r (43 + k) ≤ r 3))), nI (k + 1)))
    cases inCh r (nI k) h
    · rw [if_neg (by simp), Bool.false_and, Bool.or_false]
    · rw [if_pos rfl, Bool.true_and]
      by_cases z : r (43 + k) ≤ r 3
      · rw [if_pos z, decide_eq_false (by simpa using z), Bool.or_false]
      · rw [if_neg z, decide_eq_true z, Bool.or_true]; rfl
  · rw [f_L_minute_L333, q0, if_pos (by rw [pz_le (by omega) (by omega)]; omega)]
theorem l_min292 (L : LZ m r n) (R0 : RW0 r) (B : LZB r) : ∃ m', lp f_L_minute_L292 1000000 (0, m) = some m' ∧ (LZ m' (trdN r (hrs r)) n ∧ ∀ a, a ≠ 162 → a ≠ 163 → a ≠ 164 → m'.1 a = m.1 a) := by
  have b5 := B.1
  have b8 := B.2
  refine lp_inv (fun k (s : Int32 × Mem) => s.1 = nI k ∧ LZ s.2 (trdN r k) n ∧ ∀ a, a ≠ 162 → a ≠ 163 → a ≠ 164 → s.2.1 a = m.1 a) (N := hrs r) (fun k s hk hI => ?_) (fun s hI => ?_) _ ⟨rfl, L, fun _ _ _ _ => rfl⟩ (by omega)
  · obtain ⟨x, m1⟩ := s
    obtain ⟨rfl, L1, c1⟩ := hI
    dsimp only at L1 c1
    have al := trdN_all R0.1 R0.2.1 k (by omega)
    have R1 := trdN_RW0 R0 k (by omega)
    have eh : hrs (trdN r k) = hrs r := al.1.se.eHrs
    have ep : ppl (trdN r k) = ppl r := al.1.se.ePpl
    show ∃ s' : Int32 × Mem, _ ∧ (s'.1 = nI (k + 1) ∧ LZ s'.2 (trdS k (trdN r k)) n ∧ _)
    revert L1 R1 eh ep
    generalize trdN r k = R
    intro L1 R1 eh ep
    have BR : LZB R := ⟨by omega, by omega⟩
    have hkR : k < hrs R := by omega
    have hc := R1.2.1 k hkR
    have q1 : m1.1 162 1 = nI (hrs r) := by rw [L1.n1, R1.1.2.2.2, eh]
    have d4 : m1.1 164 (6 * k + 4) = R (73 + 10 * k + 4) := L1.he BR hkR (j := 4) (by omega)
    have d2 : m1.1 164 (6 * k + 2) = R (73 + 10 * k + 2) := L1.he BR hkR (j := 2) (by omega)
    have el : lst R k = decide (R (73 + 10 * k + 4) = 0) := rfl
    rw [f_L_minute_L292, q1, if_neg (by rw [pz_le (by omega) (by omega)]; omega), x6, pl4, pz_in (by omega) (by omega), pz_cl (by omega), d4]
    simp only [pz_nm]
    rw [pl2, pz_in (by omega) (by omega), pz_cl (by omega), d2, L1.n2, l_min333 L1 R1.1 BR hkR hc, pz_bnd, bI_ite]
    unfold trdS
    by_cases s : R (73 + 10 * k + 4) = 0
    case neg =>
      rw [if_neg s, if_neg (by rw [el]; simp [s]), pz_s]
      exact ⟨_, rfl, rfl, L1, c1⟩
    rw [if_pos s]
    by_cases s2 : R (73 + 10 * k + 2) = R 9
    case neg =>
      rw [if_neg s2, if_neg (by simp [s2]), pz_s]
      exact ⟨_, rfl, rfl, L1, c1⟩
    rw [if_pos s2]
    by_cases z : tooT R k = true
    case neg =>
      rw [if_neg z, if_neg (by simp [z]), pz_s]
      exact ⟨_, rfl, rfl, L1, c1⟩
    rw [if_pos z, if_pos (c := (lst R k && (decide (R (73 + 10 * k + 2) = R 9) && tooT R k)) = true) (by rw [el, z]; simp [s, s2])]
    simp (disch := omega) only [pz_in, pz_cl, pz_s]
    obtain ⟨m', e, L2, c2⟩ := l_adj (v := 1) L1 BR R1 hkR (by omega)
    have e' : f_L_pays (nI k) 1 (si m1 164 (6 * k + 4) 2) = some (payR R k 1, m') := e
    rw [e', pz_bnd2, si_ne (a := 162) (by omega)]
    refine ⟨_, rfl, rfl, L2, fun a a1 a2 a3 => ?_⟩
    dsimp only
    rw [si_ne a1, c2 a a1 a2 a3]
    exact c1 a a1 a2 a3
  · obtain ⟨x, m1⟩ := s
    obtain ⟨rfl, L1, c1⟩ := hI
    dsimp only at L1 c1
    have al := trdN_all R0.1 R0.2.1 (hrs r) (Nat.le_refl _)
    have q1 : m1.1 162 1 = nI (hrs r) := by rw [L1.n1, al.1 8 (by omega), R0.1.2.2.2]
    rw [f_L_minute_L292, q1, if_pos (by rw [pz_le (by omega) (by omega)]; omega)]
    exact ⟨_, rfl, L1, c1⟩
end LMIN
