/-! a minute tires and rests -/
def clmp (x : Int32) : Int32 := if 0 ≤ x then (if x ≤ 1000 then x else 1000) else 0
def tirV (r R : Row) (p : Nat) : Int32 := match wkR r p with
  | none => clmp (R (43 + p) - R 2)
  | some h => clmp (R (43 + p) + (R 0 + (if 1 < szN r h then R 1 else 0)))
def wkd (r R : Row) (p : Nat) : Row := match wkR r p with
  | none => R
  | some _ => upd R (63 + p) (R (63 + p) + 1)
def tirN (r : Row) : Nat → Row
  | 0 => r
  | p + 1 => upd (wkd r (tirN r p) p) (43 + p) (tirV r (tirN r p) p)
def tireR (r : Row) : Row := tirN r (ppl r)
/-- alike but for 43 .. 72 -/
def FA (r r' : Row) : Prop := ∀ i, (i < 43 ∨ 73 ≤ i) → r' i = r i
theorem FA.rf {r : Row} : FA r r := fun _ _ => rfl
theorem FA.se {r r' : Row} (h : FA r r') : SE r r' := fun i hi => h i (by unfold stat at hi; omega)
theorem FA.put {r r' : Row} {i : Nat} {v : Int32} (h : FA r r') (h1 : 43 ≤ i) (h2 : i < 73) : FA r (upd r' i v) := fun j hj => by
  rw [upd_ne (by omega)]
  exact h j hj
theorem FA.eLst {r r' : Row} (e : FA r r') {h : Nat} : lst r' h = lst r h := by unfold lst; rw [e _ (by omega)]
theorem FA.eStd {r r' : Row} (e : FA r r') {h : Nat} : std r' h = std r h := by unfold std; rw [e (73 + 10 * h + 2) (by omega), e 9 (by omega)]
theorem FA.eHit {r r' : Row} (e : FA r r') {p h : Nat} (hc : szN r h ≤ 3) : hit r' p h = hit r p h := by
  unfold hit
  rw [e.eLst, e.eStd, e.se.eInCh hc]
theorem fst1_cong {f g : Nat → Bool} : ∀ {n : Nat}, (∀ k, k < n → f k = g k) → fst1 f n = fst1 g n
  | 0, _ => rfl
  | n + 1, h => by
    rw [fst1, fst1, fst1_cong (fun k hk => h k (by omega)), h n (by omega)]
theorem FA.eWk {r r' : Row} (e : FA r r') (hw : ∀ o, o < hrs r → ChW r o) {p : Nat} : wkR r' p = wkR r p := by
  unfold wkR
  rw [e.se.eHrs]
  exact fst1_cong fun k hk => e.eHit (hw k hk).1
theorem wkd_FA {r R : Row} {p : Nat} (hp : p < 10) (h : FA r R) : FA r (wkd r R p) := by
  unfold wkd
  split
  · exact h
  · exact h.put (by omega) (by omega)
theorem tirN_FA {r : Row} : ∀ p, p ≤ 10 → FA r (tirN r p)
  | 0, _ => FA.rf
  | p + 1, h => (wkd_FA (by omega) (tirN_FA p (by omega))).put (by omega) (by omega)
theorem tirN_fresh {r : Row} {q : Nat} : ∀ p, p ≤ q → q < 10 → tirN r p (43 + q) = r (43 + q)
  | 0, _, _ => rfl
  | p + 1, h, h2 => by
    rw [tirN, upd_ne (by omega)]
    have : wkd r (tirN r p) p (43 + q) = tirN r p (43 + q) := by
      unfold wkd
      cases wkR r p with
      | none => rfl
      | some _ => exact upd_ne (by omega)
    rw [this, tirN_fresh p (by omega) h2]
/-- the tired and the settings keep their ranges; nobody works in two hearings at a time -/
def TiW (r : Row) : Prop := (∀ p, p < ppl r → ∃ t, t ≤ 1000 ∧ r (43 + p) = nI t) ∧ ∀ i, i < 7 → ∃ v, v ≤ 5000 ∧ r i = nI v
def UNQ (r : Row) : Prop := ∀ p a b, p < 10 → a < hrs r → b < hrs r → hit r p a = true → hit r p b = true → a = b
theorem clmp_add {a b : Nat} (ha : a ≤ 1000) (hb : b ≤ 20000) : clmp (nI a + nI b) = (if nI a + nI b < 1000 then nI a + nI b else 1000) := by
  unfold clmp
  rw [pz_add]
  have h0 : 0 ≤ nI (a + b) := by rw [pz_ge0 (by omega)]; trivial
  have h1 : (nI (a + b) ≤ 1000) = (a + b ≤ 1000) := pz_le (b := (1000 : Nat)) (by omega) (by decide)
  have h2 : (nI (a + b) < 1000) = (a + b < 1000) := pz_lt (b := (1000 : Nat)) (by omega) (by decide)
  rw [if_pos h0]
  by_cases h : a + b < 1000
  · rw [if_pos (by rw [h1]; omega), if_pos (by rw [h2]; exact h)]
  · rw [if_neg (c := nI (a + b) < 1000) (by rw [h2]; exact h)]
    by_cases e : a + b ≤ 1000
    · rw [if_pos (by rw [h1]; exact e), show a + b = 1000 by omega]
      rfl
    · rw [if_neg (by rw [h1]; exact e)]
theorem clmp_sub {a b : Nat} (ha : a ≤ 1000) (hb : b ≤ 20000) : clmp (nI a - nI b) = (if 0 < nI a - nI b then nI a - nI b else 0) := by
  unfold clmp
  by_cases h : b ≤ a
  · rw [pk_sub h]
    have h0 : 0 ≤ nI (a - b) := by rw [pz_ge0 (by omega)]; trivial
    have h1 : (nI (a - b) ≤ 1000) = (a - b ≤ 1000) := pz_le (b := (1000 : Nat)) (by omega) (by decide)
    have h2 : (0 < nI (a - b)) = (0 < a - b) := pz_lt (a := (0 : Nat)) (by decide) (by omega)
    rw [if_pos h0, if_pos (by rw [h1]; omega)]
    by_cases e : 0 < a - b
    · rw [if_pos (by rw [h2]; exact e)]
    · rw [if_neg (by rw [h2]; exact e), show a - b = 0 by omega]
      rfl
  · have h1 := pk_sneg (a := a) (b := b) (by omega) (by omega)
    rw [if_neg (by rw [Int32.not_le]; exact h1), if_neg (by intro h2; exact Int32.lt_irrefl (Int32.lt_trans h1 h2))]
theorem clmp_rng (x : Int32) : ∃ t, t ≤ 1000 ∧ clmp x = nI t := by
  unfold clmp
  by_cases h : 0 ≤ x
  · rw [if_pos h]
    by_cases e : x ≤ 1000
    · rw [if_pos e]
      exact nI_of2 (n := 1000) (by decide) (by rw [Int32.not_lt]; exact h) e
    · rw [if_neg e]
      exact ⟨1000, Nat.le_refl _, rfl⟩
  · rw [if_neg h]
    exact ⟨0, by omega, rfl⟩
theorem tirV_rng (r R : Row) (p : Nat) : ∃ t, t ≤ 1000 ∧ tirV r R p = nI t := by
  unfold tirV
  split
  · exact clmp_rng _
  · exact clmp_rng _

def uwN (r : Row) (b : Bool) (p : Nat) : Nat → Bool
  | 0 => false
  | k + 1 => uwN r b p k || (hit r p k && decide (decide (1 < szN r k) = b))
theorem uw_iff {r : Row} {b : Bool} {p : Nat} : ∀ {n : Nat}, uwN r b p n = true ↔ ∃ k, k < n ∧ hit r p k = true ∧ decide (1 < szN r k) = b
  | 0 => by simp [uwN]
  | n + 1 => by
    rw [uwN, Bool.or_eq_true, uw_iff, Bool.and_eq_true, decide_eq_true_eq]
    constructor
    · rintro (⟨k, h1, h2⟩ | h)
      · exact ⟨k, by omega, h2⟩
      · exact ⟨n, by omega, h⟩
    · rintro ⟨k, h1, h2⟩
      by_cases e : k = n
      · subst e; exact Or.inr h2
      · exact Or.inl ⟨k, by omega, h2⟩
section CTIRE
variable {c : Nat} {m : Mem} {r R : Row} {p : Nat}
theorem CR.put0 {c k j i : Nat} {m : Mem} {r : Row} (hC : CR c m r) (h : loc k j = some i) (h8 : i < 73) (h9 : i ≠ 8) (v : Int32) (hk : k ≠ 16) : CR c (si m (c + k) j v) (upd r i v) := ⟨hC.1.put h v, fun o ho => by
  rw [upd_ne (by omega)] at ho
  rw [si_ne (by omega), hC.2 o ho]
  unfold mskN
  rw [upd_ne (by omega), upd_ne (by omega), upd_ne (by omega)]⟩
theorem s6_work (hC : CR c m R) (hn : NumW R) (hp : p < ppl R) (x : Int32) : ∃ m', f_X6_work c (nI p) x m = some m' ∧ CR c m' (upd (upd R (63 + p) (R (63 + p) + 1)) (43 + p) (if R (43 + p) + x < 1000 then R (43 + p) + x else 1000)) ∧ FrC c m m' := by
  have h10 := hn.1
  have hp10 : p < 10 := by omega
  unfold f_X6_work
  rw [s6_has hC.1, pz_bnd, isp_nI hn hp, bI_ite, if_pos rfl, pz_in (by omega) (by omega), pz_cl (by omega), hC.1.tired (by omega)]
  simp only [pz_nm]
  rw [pz_in (by omega) (by omega), pz_in (by omega) (by omega), pz_in (by omega) (by omega)]
  have l5 : loc 5 p = some (43 + p) := by simp [loc, hp10]
  have l7 : loc 7 p = some (63 + p) := by simp [loc, hp10]
  refine ⟨_, rfl, ?_, (FrC.rf.put (by omega)).put (by omega)⟩
  rw [si_ne (by omega), hC.1.worked (by omega), upd_swap _ (i := 63 + p) (j := 43 + p) (by omega)]
  exact (hC.put0 l5 (by omega) (by omega) _ (by omega)).put0 l7 (by omega) (by omega) _ (by omega)
theorem s6_rest (hC : CR c m R) (hn : NumW R) (hp : p < ppl R) (x : Int32) : ∃ m', f_X6_rest c (nI p) x m = some m' ∧ CR c m' (upd R (43 + p) (if 0 < R (43 + p) - x then R (43 + p) - x else 0)) ∧ FrC c m m' := by
  have h10 := hn.1
  have hp10 : p < 10 := by omega
  unfold f_X6_rest
  rw [s6_has hC.1, pz_bnd, isp_nI hn hp, bI_ite, if_pos rfl, pz_in (by omega) (by omega), pz_cl (by omega), hC.1.tired (by omega)]
  simp only [pz_nm]
  rw [pz_in (by omega) (by omega)]
  have l5 : loc 5 p = some (43 + p) := by simp [loc, hp10]
  exact ⟨_, rfl, hC.put0 l5 (by omega) (by omega) _ (by omega), FrC.rf.put (by omega)⟩
theorem s2_tireMasks (hC : CR c m r) (hn : NumW r) (hw : ∀ o, o < hrs r → ChW r o) : ∃ q : Int32 × Int32, lp (f_X2_tireAndRest_L6 c m) 1000000 (0, 0, 0) = some q ∧ (MK q.1 (fun p => uwN r false p (hrs r)) ∧ MK q.2 (fun p => uwN r true p (hrs r))) := by
  have h30 := hn.2.2.1
  refine lp_inv (fun i (s : Int32 × Int32 × Int32) => s.2.2 = nI i ∧ MK s.1 (fun p => uwN r false p i) ∧ MK s.2.1 (fun p => uwN r true p i)) (N := hrs r) (fun i s hi hI => ?_) (fun s hI => ?_) _ ⟨rfl, MK.none, MK.none⟩ (by omega)
  · obtain ⟨x2, x3, x4⟩ := s
    obtain ⟨rfl, h1, h2⟩ := hI
    dsimp only at h1 h2
    have hc := hw i hi
    have h3 := hc.1
    rw [f_X2_tireAndRest_L6, hC.1.hearings, hn.2.2.2, if_neg (by rw [pz_le (by omega) (by omega)]; omega), s2_isUnderWay hC.1 (by omega), pz_bnd, bI_ite, pz_in (by omega) (by omega), pz_cl (by omega), hC.1.size (by omega), hc.2.1, pz_in (by omega) (by omega), hC.2 i hi]
    simp only [pz_nm, pz_s]
    have k1 : (nI (szN r i) ≤ 1) = (szN r i ≤ 1) := pz_le (b := (1 : Nat)) (by omega) (by decide)
    have ms := msk_MK hn.1 hc
    by_cases u : (lst r i && std r i) = true
    · rw [if_pos u]
      have u' := u
      rw [Bool.and_eq_true] at u'
      by_cases z : 1 < szN r i
      · rw [if_neg (by rw [k1]; omega), pz_in (by omega) (by omega)]
        refine ⟨_, rfl, rfl, ?_, ?_⟩
        · exact h1.cong fun p _ => by simp [uwN, z]
        · exact (h2.or ms).cong fun p _ => by simp [uwN, hit, u'.1, u'.2, z]
      · rw [if_pos (by rw [k1]; omega)]
        refine ⟨_, rfl, rfl, ?_, ?_⟩
        · exact (h1.or ms).cong fun p _ => by simp [uwN, hit, u'.1, u'.2, z]
        · exact h2.cong fun p _ => by simp [uwN, z]
    · rw [if_neg u]
      have nh : ∀ p, hit r p i = false := fun p => by
        unfold hit
        rw [Bool.and_eq_true] at u
        by_cases a : lst r i = true
        · by_cases b : std r i = true
          · exact absurd ⟨a, b⟩ u
          · simp [b]
        · simp [a]
      refine ⟨_, rfl, rfl, ?_, ?_⟩
      · exact h1.cong fun p _ => by simp [uwN, nh p]
      · exact h2.cong fun p _ => by simp [uwN, nh p]
  · obtain ⟨x2, x3, x4⟩ := s
    obtain ⟨rfl, h1, h2⟩ := hI
    rw [f_X2_tireAndRest_L6, hC.1.hearings, hn.2.2.2, if_pos (by rw [pz_le (by omega) (by omega)]; omega)]
    exact ⟨_, rfl, h1, h2⟩
theorem s2_tireAndRest (hC : CR c m r) (hn : NumW r) (hw : ∀ o, o < hrs r → ChW r o) (ht : TiW r) (hu : UNQ r) : ∃ m', f_X2_tireAndRest c m = some m' ∧ CR c m' (tireR r) ∧ FrC c m m' := by
  have h10 := hn.1
  have h30 := hn.2.2.1
  obtain ⟨⟨M1, M2⟩, e, k1, k2⟩ := s2_tireMasks hC hn hw
  dsimp only at k1 k2
  unfold f_X2_tireAndRest
  rw [e, pz_bnd]
  dsimp only
  have e2 : ∃ t, lp (f_X2_tireAndRest_L73 c M1 M2) 1000000 (0, m) = some t ∧ (CR c t (tireR r) ∧ FrC c m t) := by
    refine lp_inv (fun i (s : Int32 × Mem) => s.1 = nI i ∧ CR c s.2 (tirN r i) ∧ FrC c m s.2) (N := ppl r) (fun p s hp hI => ?_) (fun s hI => ?_) _ ⟨rfl, hC, FrC.rf⟩ (by omega)
    · obtain ⟨x, m1⟩ := s
      obtain ⟨rfl, h1, h2⟩ := hI
      dsimp only at h1 h2
      have ft := tirN_FA (r := r) p (by omega)
      have hn' := ft.se.num hn
      have hp' : p < ppl (tirN r p) := by rw [ft.se.ePpl]; exact hp
      obtain ⟨t0, ht0, et0⟩ := ht.1 p hp
      obtain ⟨v0, hv0, ev0⟩ := ht.2 0 (by omega)
      obtain ⟨v1, hv1, ev1⟩ := ht.2 1 (by omega)
      obtain ⟨v2, hv2, ev2⟩ := ht.2 2 (by omega)
      have ep : tirN r p (43 + p) = nI t0 := by rw [tirN_fresh p (Nat.le_refl _) (by omega), et0]
      rw [f_X2_tireAndRest_L73, h1.1.people, ft 7 (by omega), hn.2.1, if_neg (by rw [pz_le (by omega) (by omega)]; omega)]
      simp only [s7_bitOf, pz_bnd, k1.has (p := p) (by omega), k2.has (p := p) (by omega), h1.1.setting (i := 0) (by omega), h1.1.setting (i := 1) (by omega), h1.1.setting (i := 2) (by omega), pz_nm, pz_s]
      rw [ft 0 (by omega), ft 1 (by omega), ft 2 (by omega), ev0, ev1, ev2]
      have goal2 : ∀ (o : Option Mem) (R' : Row), R' = tirN r (p + 1) → (∃ m', o = some m' ∧ CR c m' R' ∧ FrC c m1 m') → ∃ s' : Int32 × Mem, (bnd o fun m3 => some (.inl (nI (p + 1), m3))) = (some (.inl s') : Option ((Int32 × Mem) ⊕ Mem)) ∧ s'.1 = nI (p + 1) ∧ CR c s'.2 (tirN r (p + 1)) ∧ FrC c m s'.2 := by
        rintro o R' rfl ⟨m', rfl, a, b⟩
        exact ⟨_, rfl, rfl, a, h2.tr b⟩
      rcases wkR_cases r p with ⟨q, hno⟩ | ⟨h, q, hh, hhit, -⟩
      · have n1 : ∀ b, uwN r b p (hrs r) = false := fun b => by
          cases e : uwN r b p (hrs r)
          · rfl
          · obtain ⟨k, a1, a2, -⟩ := uw_iff.mp e
            rw [hno k a1] at a2; cases a2
        rw [if_pos (n1 true), if_pos (n1 false)]
        refine goal2 _ _ ?_ (s6_rest h1 hn' hp' _)
        rw [ep, ← clmp_sub ht0 (by omega), tirN, wkd, tirV, q]
        dsimp only
        rw [ep, ft 2 (by omega), ev2]
      · have n2 : uwN r (decide (1 < szN r h)) p (hrs r) = true := uw_iff.mpr ⟨h, hh, hhit, rfl⟩
        have n3 : uwN r (!decide (1 < szN r h)) p (hrs r) = false := by
          cases e : uwN r (!decide (1 < szN r h)) p (hrs r)
          · rfl
          · obtain ⟨k, a1, a2, a3⟩ := uw_iff.mp e
            have := hu p k h (by omega) a1 hh a2 hhit
            subst this
            cases decide (1 < szN r k) <;> simp at a3
        by_cases z : 1 < szN r h
        · have zd : decide (1 < szN r h) = true := by simpa using z
          rw [zd] at n2
          rw [if_neg (by rw [n2]; simp)]
          refine goal2 _ _ ?_ (s6_work h1 hn' hp' _)
          rw [ep, pz_add, ← clmp_add ht0 (by omega), tirN, wkd, tirV, q]
          dsimp only
          rw [if_pos z, ep, ft 0 (by omega), ft 1 (by omega), ev0, ev1, pz_add v0 v1]
        · have zd : decide (1 < szN r h) = false := by simpa using z
          rw [zd] at n2 n3
          rw [if_pos (show uwN r true p (hrs r) = false from n3), if_neg (by rw [n2]; simp)]
          refine goal2 _ _ ?_ (s6_work h1 hn' hp' _)
          rw [ep, ← clmp_add ht0 (by omega), tirN, wkd, tirV, q]
          dsimp only
          rw [if_neg z, ep, ft 0 (by omega), ev0, pz_0, pz_add v0 0, Nat.add_zero]
    · obtain ⟨x, m1⟩ := s
      obtain ⟨rfl, h1, h2⟩ := hI
      dsimp only at h1 h2
      have ft := tirN_FA (r := r) (ppl r) h10
      rw [f_X2_tireAndRest_L73, h1.1.people, ft 7 (by omega), hn.2.1, if_pos (by rw [pz_le (by omega) (by omega)]; omega)]
      exact ⟨_, rfl, h1, h2⟩
  obtain ⟨t, e2, h1, h2⟩ := e2
  rw [e2, pz_bnd]
  exact ⟨_, rfl, h1, h2⟩
end CTIRE
