/-! calls: pass, tiredIn, undo -/
def goR (r : Row) : Nat → Row × Int32
  | 0 => (r, 0)
  | k + 1 => ((minR (goR r k).1).1, (goR r k).2 + (minR (goR r k).1).2)
theorem goR_KW {r : Row} (K : KW r) : ∀ k, KW (goR r k).1
  | 0 => K
  | k + 1 => minR_KW (goR_KW K k)
theorem goR_RW {r : Row} (R : RW r) : ∀ k, RW (goR r k).1
  | 0 => R
  | k + 1 => minR_RW (goR_RW R k)
theorem goR_9 {r : Row} (K : KW r) {t : Nat} (e : r 9 = nI t) : ∀ k, (goR r k).1 9 = nI (t + k)
  | 0 => e
  | k + 1 => by rw [goR, (minR_SE9 (goR_KW K k)).2, goR_9 K e k, pz_s, Nat.add_assoc]
/-- alike from 373 on -/
def HI (r r' : Row) : Prop := ∀ i, 373 ≤ i → r' i = r i
theorem HI.rf {r : Row} : HI r r := fun _ _ => rfl
theorem HI.tr {r r' r'' : Row} (h : HI r r') (g : HI r' r'') : HI r r'' := fun i hi => (g i hi).trans (h i hi)
theorem HI.put {r r' : Row} {i : Nat} {v : Int32} (h : HI r r') (hi : i < 373) : HI r (upd r' i v) := fun j hj => by
  rw [upd_ne (by omega)]
  exact h j hj
theorem closeR_HI {r : Row} {h st : Nat} {hv : Int32} (hc : ChW r h) (hn : ppl r ≤ 10) (hh : h < 30) : HI r (closeR r h st hv) := by
  have p0 : HI r (payPR r h hv (szN r h)) := fun i hi => payPR_ne hc hn _ i (Nat.le_refl _) (by omega)
  have e : HI r (upd (upd (upd (payPR r h hv (szN r h)) (73 + 10 * h + 4) (nI st)) (82 + 10 * h) (r (82 + 10 * h) + payR r h hv)) 10 (r 10 + payR r h hv)) := ((p0.put (by omega)).put (by omega)).put (by omega)
  unfold closeR
  by_cases s3 : st = 3
  · simp only [if_pos s3]
    exact e.put (by omega)
  · by_cases s2 : st = 2
    · simp only [if_neg s3, if_pos s2]
      exact e.put (by omega)
    · simp only [if_neg s3, if_neg s2]
      exact e
theorem endN_HI {r : Row} (hn : NumW r) (hw : ChWs r) : ∀ k, k ≤ hrs r → HI r (endN r k).1
  | 0, _ => HI.rf
  | k + 1, hk => by
    have e := (endN_all hn hw k (by omega)).1
    have h30 := hn.2.2.1
    refine (endN_HI hn hw k (by omega)).tr ?_
    have hc := e.se.chw (hw k (by omega))
    have h10 : ppl (endN r k).1 ≤ 10 := by rw [e.se.ePpl]; exact hn.1
    show HI _ (endS k (endN r k)).1
    unfold endS
    split
    · split
      · show HI _ (closeR (endN r k).1 k 2 1)
        exact closeR_HI (h := k) hc h10 (by omega)
      · show HI _ (closeR (endN r k).1 k 1 2)
        exact closeR_HI (h := k) hc h10 (by omega)
    · exact HI.rf
theorem trdN_HI {r : Row} (hn : NumW r) (hw : ChWs r) : ∀ k, k ≤ hrs r → HI r (trdN r k)
  | 0, _ => HI.rf
  | k + 1, hk => by
    have e := (trdN_all hn hw k (by omega)).1
    have h30 := hn.2.2.1
    refine (trdN_HI hn hw k (by omega)).tr ?_
    have hc := e.se.chw (hw k (by omega))
    have h10 : ppl (trdN r k) ≤ 10 := by rw [e.se.ePpl]; exact hn.1
    show HI _ (trdS k (trdN r k))
    unfold trdS
    split
    · exact closeR_HI (h := k) hc h10 (by omega)
    · exact HI.rf
theorem minR_HI {r : Row} (K : KW r) : HI r (minR r).1 := by
  have ft := tirN_FA (r := r) (ppl r) K.1.1
  have h0 : HI r (tireR r) := fun i hi => ft i (by omega)
  have s1 : SE r (upd (tireR r) 9 (tireR r 9 + 1)) := ft.se.put (by unfold stat; omega)
  have h1 : HI r (upd (tireR r) 9 (tireR r 9 + 1)) := h0.put (by omega)
  unfold minR
  dsimp only
  have nU := s1.num K.1
  have wU := s1.chws K.2.1
  have le : hrs r ≤ hrs (upd (tireR r) 9 (tireR r 9 + 1)) := by rw [s1.eHrs]; exact Nat.le_refl _
  have e := (endN_all nU wU (hrs r) le).1
  exact h1.tr ((endN_HI nU wU (hrs r) le).tr (trdN_HI (e.se.num nU) (e.se.chws wU) (hrs r) (by rw [e.se.eHrs, s1.eHrs]; exact Nat.le_refl _)))
theorem goR_HI {r : Row} (K : KW r) : ∀ k, HI r (goR r k).1
  | 0 => HI.rf
  | k + 1 => (goR_HI K k).tr (minR_HI (goR_KW K k))
theorem mrg_HI {r r' : Row} (h : HI r r') : mrg r r' = r := by
  funext i
  unfold mrg
  by_cases q : i < 373
  · rw [if_pos q]
  · rw [if_neg q, h i (by omega)]
section PASS
variable {m : Mem} {A : Ab} {r : Row} {x y z w : Int32}
/-! what would be -/
theorem mrg_mrg {c : Row} (a b : Row) (h : HI a b) : mrg (mrg a c) b = a := by
  funext i
  unfold mrg
  by_cases q : i < 373
  · rw [if_pos q, if_pos q]
  · rw [if_neg q, h i (by omega)]
end PASS
