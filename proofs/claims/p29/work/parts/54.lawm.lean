/-! a minute in the law's rows -/
section LROWS
variable {m m' : Mem} {R R' : Row} {n n' : Nat}
theorem encR_cong {o : Nat} (h5 : R' (73 + 10 * o + 5) = R (73 + 10 * o + 5)) (h6 : ∀ k, k < 3 → R' (79 + 10 * o + k) = R (79 + 10 * o + k)) : encT (szN R' o) (mbN R' o) = encT (szN R o) (mbN R o) := by
  unfold encT dg szN mbN
  rw [h5, h6 0 (by omega), h6 1 (by omega), h6 2 (by omega)]
theorem nvR_cong {i : Nat} (hi : i < 14) (e : ∀ i, i < 13 → R' i = R i) : nvR R' n i = nvR R n i := by
  unfold nvR
  by_cases i6 : i < 6
  · rw [if_pos i6, if_pos i6, e _ (by omega)]
  · rw [if_neg i6, if_neg i6, e _ (by omega)]
theorem LZ_row163 (L : LZ m R n) (e : ∀ i, (i < 13 ∨ 73 ≤ i) → R' i = R i) (g : ∀ p j, p < 5 → j < 6 → p < ppl R → m'.1 163 (6 * p + j) = R' (13 + 10 * j + p)) (g2 : ∀ p j, p < 5 → j < 6 → ppl R ≤ p → m'.1 163 (6 * p + j) = m.1 163 (6 * p + j)) (g3 : ∀ a, a ≠ 163 → 162 ≤ a → m'.1 a = m.1 a) : LZ m' R' n := by
  have ep : ppl R' = ppl R := by unfold ppl; rw [e 7 (by omega)]
  have eh : hrs R' = hrs R := by unfold hrs; rw [e 8 (by omega)]
  refine ⟨fun i hi => ?_, fun p j hp hj => ?_, fun o j ho hj => ?_, fun o ho => ?_⟩
  · rw [g3 162 (by omega) (by omega), L.1 i hi, nvR_cong hi (fun i hi => e i (by omega))]
  · unfold pvL
    rw [ep]
    by_cases hpl : p < ppl R
    · rw [if_pos hpl, g p j hp hj hpl]
    · rw [if_neg hpl, g2 p j hp hj (by omega), L.2.1 p j hp hj]
      exact if_neg hpl
  · rw [g3 164 (by omega) (by omega), L.2.2.1 o j ho hj]
    unfold hvL hfL
    rw [eh, e (73 + 10 * o + j) (by omega), e (82 + 10 * o) (by omega)]
  · rw [g3 165 (by omega) (by omega), L.2.2.2 o ho]
    unfold cvL
    rw [eh, encR_cong (e _ (by omega)) (fun k _ => e _ (by omega))]
theorem LZ_row162 (L : LZ m R n) (e : ∀ i, (13 ≤ i ∨ i = 7 ∨ i = 8) → R' i = R i) (g : ∀ i, i < 14 → m'.1 162 i = nvR R' n' i) (g3 : ∀ a, a ≠ 162 → 162 ≤ a → m'.1 a = m.1 a) : LZ m' R' n' := by
  have ep : ppl R' = ppl R := by unfold ppl; rw [e 7 (by omega)]
  have eh : hrs R' = hrs R := by unfold hrs; rw [e 8 (by omega)]
  refine ⟨g, fun p j hp hj => ?_, fun o j ho hj => ?_, fun o ho => ?_⟩
  · rw [g3 163 (by omega) (by omega), L.2.1 p j hp hj]
    unfold pvL
    rw [ep, e (13 + 10 * j + p) (by omega)]
  · rw [g3 164 (by omega) (by omega), L.2.2.1 o j ho hj]
    unfold hvL hfL
    rw [eh, e (73 + 10 * o + j) (by omega), e (82 + 10 * o) (by omega)]
  · rw [g3 165 (by omega) (by omega), L.2.2.2 o ho]
    unfold cvL
    rw [eh, encR_cong (e _ (by omega)) (fun k _ => e _ (by omega))]
/-- one number of the law's first row -/
theorem LZ_num (L : LZ m R n) {i : Nat} {v : Int32} (h2 : 2 ≤ i) (h6 : i < 6) : LZ (si m 162 i v) (upd R (7 + i) v) n := by
  refine LZ_row162 L (fun j hj => upd_ne (by omega)) (fun j hj => ?_) (fun a ha _ => si_ne ha)
  unfold nvR
  by_cases e : j = i
  · subst e
    rw [si_at, if_pos h6, upd_self]
  · rw [si_off (Or.inr e), L.1 j hj]
    unfold nvR
    by_cases j6 : j < 6
    · rw [if_pos j6, if_pos j6, upd_ne (by omega)]
    · rw [if_neg j6, if_neg j6]
      by_cases j7 : j = 6
      · rw [if_pos j7, if_pos j7]
      · rw [if_neg j7, if_neg j7, upd_ne (by omega)]
end LROWS
section LTIRE
variable {m : Mem} {r : Row} {n p : Nat}
theorem clmp_law (x : Int32) : (if x ≤ 1000 then (if 0 ≤ x then x else 0) else 1000) = clmp x := by
  unfold clmp
  by_cases h1 : x ≤ 1000
  · rw [if_pos h1, if_pos h1]
  · rw [if_neg h1, if_neg h1, if_pos]
    rw [Int32.le_iff_toInt_le] at h1 ⊢
    rw [show (1000 : Int32).toInt = 1000 by decide] at h1
    rw [show (0 : Int32).toInt = 0 by decide]
    omega
/-- what the hours of a minute make of one person -/
def tirS (R : Row) (r : Row) (p : Nat) (o : Option Nat) (m : Mem) : Int32 × Mem := match o with
  | none => (-(R 2), m)
  | some h => (R 0 + (if 1 < szN r h then R 1 else 0), si m 163 (6 * p + 5) (R (63 + p) + 1))
theorem tirS_cell (R r : Row) (p : Nat) (o : Option Nat) (m : Mem) {a : Nat} (ha : a ≠ 163) : (tirS R r p o m).2.1 a = m.1 a := by
  cases o with
  | none => rfl
  | some h => exact si_ne ha
theorem fst1_succ (f : Nat → Bool) (k : Nat) : fst1 f (k + 1) = match fst1 f k with
    | some h => some h
    | none => if f k = true then some k else none := rfl
theorem fst1_true {f : Nat → Bool} {n h : Nat} (e : fst1 f n = some h) : h < n ∧ f h = true := by
  rcases fst1_cases f n with ⟨a, -⟩ | ⟨k, a, b, c, -⟩
  · rw [a] at e; cases e
  · rw [a] at e; cases e; exact ⟨b, c⟩
theorem l_min21 {R : Row} (L : LZ m R n) (hn : NumW r) (hw : ChWs r) (hu : UNQ r) (F : FA r R) (B : LZB r) (hp : p < ppl r) : lp (f_L_minute_L21 (nI p)) 1000000 (-(m.1 162 9), 0, m) = some (tirS R r p (wkR r p) m) := by
  have b5 := B.1
  have b8 := B.2
  have ep : ppl R = ppl r := by unfold ppl; rw [F 7 (by omega)]
  have eh : hrs R = hrs r := by unfold hrs; rw [F 8 (by omega)]
  have BR : LZB R := ⟨by omega, by omega⟩
  have q9 : m.1 162 9 = R 2 := L.ns (k := 2) (by omega)
  have q7 : m.1 162 7 = R 0 := L.ns (k := 0) (by omega)
  have q8 : m.1 162 8 = R 1 := L.ns (k := 1) (by omega)
  have q1 : m.1 162 1 = nI (hrs r) := by rw [L.n1, F 8 (by omega), hn.2.2.2]
  have q2 : m.1 162 2 = r 9 := by rw [L.n2, F 9 (by omega)]
  have e5 : m.1 163 (6 * p + 5) = R (63 + p) := L.pe BR (by omega) (j := 5) (by omega)
  rw [q9]
  refine lp_cnt (fun k => ((tirS R r p (fst1 (hit r p) k) m).1, nI k, (tirS R r p (fst1 (hit r p) k) m).2)) (N := hrs r) (fun k hk => ?_) ?_ (by omega)
  · have hc := hw k hk
    have tb := B.mb hc
    have c2 : ∀ a, a ≠ 163 → (tirS R r p (fst1 (hit r p) k) m).2.1 a = m.1 a := fun a ha => tirS_cell R r p _ m ha
    have d4 : m.1 164 (6 * k + 4) = r (73 + 10 * k + 4) := by rw [← F _ (by omega)]; exact L.he BR (by omega) (j := 4) (by omega)
    have d2 : m.1 164 (6 * k + 2) = r (73 + 10 * k + 2) := by rw [← F _ (by omega)]; exact L.he BR (by omega) (j := 2) (by omega)
    have dc : m.1 165 k = nI (encT (szN r k) (mbN r k)) := by
      rw [L.ch BR (by omega), encR_cong (F _ (by omega)) (fun j _ => F _ (by omega))]
    have z1 : (nI (szN r k) ≤ 1) = (szN r k ≤ 1) := pz_le (b := (1 : Nat)) (by have := hc.1; omega) (by decide)
    show f_L_minute_L21 (nI p) ((tirS R r p (fst1 (hit r p) k) m).1, nI k, (tirS R r p (fst1 (hit r p) k) m).2) = _
    rw [f_L_minute_L21, c2 162 (by omega), q1, if_neg (by rw [pz_le (by omega) (by omega)]; omega), x6, pl4, pz_in (by omega) (by omega), pz_cl (by omega), c2 164 (by omega), d4]
    simp only [pz_nm]
    rw [pl2, pz_in (by omega) (by omega), pz_cl (by omega), d2, q2, pz_in (by omega) (by omega), pz_cl (by omega), c2 165 (by omega), dc, l_has tb hc.1 (by omega), hasT_in hc (by omega), pz_bnd, bI_ite, l_size tb hc.1, pz_bnd, pz_in (by omega) (by omega), x6, pl5, pz_s]
    show _ = some (Sum.inl ((tirS R r p (fst1 (hit r p) (k + 1)) m).1, nI (k + 1), (tirS R r p (fst1 (hit r p) (k + 1)) m).2))
    rw [fst1_succ]
    have eh2 : hit r p k = (lst r k && (std r k && inCh r (nI p) k)) := rfl
    by_cases s : r (73 + 10 * k + 4) = 0
    case neg =>
      rw [if_neg s]
      have hf : hit r p k = false := by rw [eh2]; simp [lst, s]
      rw [hf]
      cases fst1 (hit r p) k <;> rfl
    rw [if_pos s]
    by_cases s2 : r 9 < r (73 + 10 * k + 2)
    case pos =>
      rw [if_pos s2]
      have hf : hit r p k = false := by rw [eh2]; simp [std, s2]
      rw [hf]
      cases fst1 (hit r p) k <;> rfl
    rw [if_neg s2]
    cases s3 : inCh r (nI p) k
    case false =>
      rw [if_neg (by simp)]
      have hf : hit r p k = false := by rw [eh2, s3]; simp
      rw [hf]
      cases fst1 (hit r p) k <;> rfl
    rw [if_pos rfl]
    have ht : hit r p k = true := by rw [eh2, s3]; simp [lst, std, s, s2]
    cases e : fst1 (hit r p) k with
    | some o =>
      obtain ⟨o1, o2⟩ := fst1_true e
      have := hu p o k (by omega) (by omega) hk o2 ht
      omega
    | none =>
      rw [ht]
      show bnd (if nI (szN r k) ≤ 1 then some 0 else some (m.1 162 8)) (fun x30 => gIn (nI (6 * p + 5)) 30 <| gIn (nI (6 * p + 5)) 30 <| some (Sum.inl (m.1 162 7 + x30, nI (k + 1), si m 163 (nI (6 * p + 5)).toNatClampNeg (m.1 163 (nI (6 * p + 5)).toNatClampNeg + 1)))) = some (Sum.inl (R 0 + (if 1 < szN r k then R 1 else 0), nI (k + 1), si m 163 (6 * p + 5) (R (63 + p) + 1)))
      rw [q7, q8, pz_cl (by omega), e5]
      by_cases z : szN r k ≤ 1
      · rw [if_pos (by rw [z1]; exact z), pz_bnd, pz_in (by omega) (by omega), pz_in (by omega) (by omega), if_neg (by omega)]
      · rw [if_neg (by rw [z1]; exact z), pz_bnd, pz_in (by omega) (by omega), pz_in (by omega) (by omega), if_pos (by omega)]
  · have c2 : ∀ a, a ≠ 163 → (tirS R r p (fst1 (hit r p) (hrs r)) m).2.1 a = m.1 a := fun a ha => tirS_cell R r p _ m ha
    show f_L_minute_L21 (nI p) ((tirS R r p (fst1 (hit r p) (hrs r)) m).1, nI (hrs r), (tirS R r p (fst1 (hit r p) (hrs r)) m).2) = _
    rw [f_L_minute_L21, c2 162 (by omega), q1, if_pos (by rw [pz_le (by omega) (by omega)]; omega)]
    rfl
end LTIRE
