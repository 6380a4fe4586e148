/-! the search for the cheapest chain: what both sides fold over -/
theorem lp_st {S T : Type} {body : S → Option (S ⊕ T)} {s s' : S} {k : Nat} (h : body s = some (.inl s')) : lp body (k + 1) s = lp body k s' := by rw [lp, h]
theorem lp_en {S T : Type} {body : S → Option (S ⊕ T)} {s : S} {t : T} {k : Nat} (h : body s = some (.inr t)) : lp body (k + 1) s = some t := by rw [lp, h]
def fd {S : Type} (g : Nat → S → S) : Nat → S → S
  | 0, s => s
  | k + 1, s => g k (fd g k s)
theorem fd_cong {S : Type} {g g' : Nat → S → S} {s : S} : ∀ {n : Nat}, (∀ k s, k < n → g k s = g' k s) → fd g n s = fd g' n s
  | 0, _ => rfl
  | n + 1, h => by rw [fd, fd, fd_cong (fun k s hk => h k s (by omega)), h n _ (by omega)]
theorem fd_id {S : Type} {g : Nat → S → S} {s : S} : ∀ {n : Nat}, (∀ k s, k < n → g k s = s) → fd g n s = s
  | 0, _ => rfl
  | n + 1, h => by rw [fd, h n _ (by omega), fd_id (fun k s hk => h k s (by omega))]
theorem fd_add {S : Type} {g : Nat → S → S} {a : Nat} {s : S} : ∀ (b : Nat), fd g (a + b) s = fd (fun k => g (a + k)) b (fd g a s)
  | 0 => rfl
  | b + 1 => by
    show g (a + b) (fd g (a + b) s) = _
    rw [fd_add b]
    rfl
theorem fd_ext {S : Type} {g : Nat → S → S} {a b : Nat} {s : S} (hab : a ≤ b) (h : ∀ k s, a ≤ k → g k s = s) : fd g b s = fd g a s := by
  obtain ⟨d, rfl⟩ : ∃ d, b = a + d := ⟨b - a, by omega⟩
  rw [fd_add, fd_id (fun k s _ => h _ s (by omega))]
theorem fd_10 {S : Type} {g : Nat → Nat → S → S} {s : S} : ∀ (n : Nat), fd (fun c => g (c / 10) (c % 10)) (10 * n) s = fd (fun a => fd (g a) 10) n s
  | 0 => rfl
  | n + 1 => by
    rw [show 10 * (n + 1) = 10 * n + 10 from rfl, fd_add, fd_10 n]
    show _ = fd (g n) 10 (fd (fun a => fd (g a) 10) n s)
    exact fd_cong (fun k s hk => by
      show g ((10 * n + k) / 10) ((10 * n + k) % 10) s = g n k s
      rw [show (10 * n + k) / 10 = n by omega, show (10 * n + k) % 10 = k by omega])
/-- what is kept of the best one so far: its sum, how many (0: none), who -/
abbrev BS : Type := Nat × Nat × (Nat → Nat)
def ofr (x n : Nat) (t : Nat → Nat) (s : BS) : BS := if s.2.1 = 0 ∨ x < s.1 then (x, n, t) else s
def bs0 : BS := (0, 0, fun _ => 0)
def t1f (a : Nat) : Nat → Nat := fun _ => a
def t2f (a b : Nat) : Nat → Nat := fun k => if k = 0 then a else b
def t3f (a b c : Nat) : Nat → Nat := fun k => if k = 0 then a else if k = 1 then b else c
def eN (r : Row) (h p : Nat) (sev : Bool) : Nat := (earnR r p h sev).toNatClampNeg
def fre (r : Row) (h p : Nat) : Bool := decide (p < ppl r) && (bt (r (23 + p)) (kndR r h) && !busy r (nI p) h)
def beg (r : Row) (h p : Nat) : Bool := fre r h p && bt (r (13 + p)) (lngR r h)
def enr (r : Row) (h p : Nat) : Bool := fre r h p && bt (r (13 + p)) 0
def fol (r : Row) (h a p : Nat) : Bool := fre r h p && (decide (¬ r (13 + p) &&& r (13 + a) = 0) && decide (p ≠ a))
def g1 (r : Row) (h a : Nat) : Bool := beg r h a && enr r h a
def g2 (r : Row) (h a b : Nat) : Bool := beg r h a && (fol r h a b && enr r h b)
def g3 (r : Row) (h a b c : Nat) : Bool := beg r h a && (fol r h a b && (fol r h b c && (enr r h c && decide (c ≠ a))))
def st1 (r : Row) (h a : Nat) (s : BS) : BS := if g1 r h a = true then ofr (eN r h a false) 1 (t1f a) s else s
def st2 (r : Row) (h a b : Nat) (s : BS) : BS := if g2 r h a b = true then ofr (eN r h a true + eN r h b true) 2 (t2f a b) s else s
def st3 (r : Row) (h a b c : Nat) (s : BS) : BS := if g3 r h a b c = true then ofr (eN r h a true + eN r h b true + eN r h c true) 3 (t3f a b c) s else s
def sr1 (r : Row) (h : Nat) : BS := fd (st1 r h) (ppl r) bs0
def sr2 (r : Row) (h : Nat) : BS := fd (fun a => fd (st2 r h a) 10) (ppl r) (sr1 r h)
def sr3 (r : Row) (h : Nat) : BS := fd (fun a => fd (fun b => fd (st3 r h a b) 10) 10) (ppl r) (sr2 r h)
/-- the cheapest chain -/
def srch (r : Row) (h : Nat) : BS := if (lst r h && !std r h) = true then sr3 r h else bs0
/-- what holds of what is kept -/
def BW (r : Row) (h : Nat) (s : BS) : Prop := s.1 < 1000000 ∧ s.2.1 ≤ 3 ∧ (s.2.1 = 0 ∨ (Tri r s.2.1 s.2.2 ∧ buN r h s.2.2 s.2.1 = false))
section CHAIN
variable {r : Row} {h a b c n : Nat} {s : BS}
theorem fre_lt (e : fre r h a = true) : a < ppl r := by
  unfold fre at e
  rw [Bool.and_eq_true] at e
  exact of_decide_eq_true e.1
theorem fre_bu (e : fre r h a = true) : busy r (nI a) h = false := by
  unfold fre at e
  rw [Bool.and_eq_true, Bool.and_eq_true] at e
  simpa using e.2.2
theorem beg_fre (e : beg r h a = true) : fre r h a = true := by
  unfold beg at e
  rw [Bool.and_eq_true] at e
  exact e.1
theorem enr_fre (e : enr r h a = true) : fre r h a = true := by
  unfold enr at e
  rw [Bool.and_eq_true] at e
  exact e.1
theorem fol_fre (e : fol r h a b = true) : fre r h b = true ∧ b ≠ a := by
  unfold fol at e
  rw [Bool.and_eq_true, Bool.and_eq_true] at e
  exact ⟨e.1, of_decide_eq_true e.2.2⟩
theorem BW0 : BW r h bs0 := ⟨by show 0 < 1000000; omega, by show 0 ≤ 3; omega, Or.inl rfl⟩
theorem BW_ofr {x : Nat} {t : Nat → Nat} (hs : BW r h s) (hx : x < 1000000) (ht : Tri r n t) (hb : buN r h t n = false) : BW r h (ofr x n t s) := by
  unfold ofr
  by_cases q : s.2.1 = 0 ∨ x < s.1
  · rw [if_pos q]
    exact ⟨hx, ht.2.1, Or.inr ⟨ht, hb⟩⟩
  · rw [if_neg q]
    exact hs
theorem eN_b (R : RW r) (hp : a < ppl r) (hh : h < hrs r) (v : Bool) : earnR r a h v = nI (eN r h a v) ∧ eN r h a v ≤ 122500 := by
  obtain ⟨e, e1, e2⟩ := earn_b (s := v) R.2.2.1 R.2.2.2.1 R.1.2.2.1 hp hh
  unfold eN
  rw [e2, pz_cl (by omega)]
  exact ⟨rfl, e1⟩
theorem g1_ok (e : g1 r h a = true) : Tri r 1 (t1f a) ∧ buN r h (t1f a) 1 = false := by
  unfold g1 at e
  rw [Bool.and_eq_true] at e
  have f := beg_fre e.1
  have l := fre_lt f
  refine ⟨⟨by omega, by omega, fun k _ => l, fun i j hi hj _ => by omega⟩, ?_⟩
  show (false || busy r (nI a) h) = false
  rw [fre_bu f]
  rfl
theorem g2_ok (e : g2 r h a b = true) : Tri r 2 (t2f a b) ∧ buN r h (t2f a b) 2 = false := by
  unfold g2 at e
  rw [Bool.and_eq_true, Bool.and_eq_true] at e
  have f := beg_fre e.1
  obtain ⟨f2, ne⟩ := fol_fre e.2.1
  have l := fre_lt f
  have l2 := fre_lt f2
  refine ⟨⟨by omega, by omega, fun k _ => ?_, fun i j hi hj q => ?_⟩, ?_⟩
  · unfold t2f
    split <;> assumption
  · unfold t2f at q
    rcases (show i = 0 ∨ i = 1 by omega) with rfl | rfl <;> rcases (show j = 0 ∨ j = 1 by omega) with rfl | rfl <;> simp at q <;> omega
  · show ((false || busy r (nI a) h) || busy r (nI b) h) = false
    rw [fre_bu f, fre_bu f2]
    rfl
theorem g3_ok (e : g3 r h a b c = true) : Tri r 3 (t3f a b c) ∧ buN r h (t3f a b c) 3 = false := by
  unfold g3 at e
  rw [Bool.and_eq_true, Bool.and_eq_true, Bool.and_eq_true, Bool.and_eq_true] at e
  have f := beg_fre e.1
  obtain ⟨f2, ne⟩ := fol_fre e.2.1
  obtain ⟨f3, ne2⟩ := fol_fre e.2.2.1
  have ne3 : c ≠ a := of_decide_eq_true e.2.2.2.2
  have l := fre_lt f
  have l2 := fre_lt f2
  have l3 := fre_lt f3
  refine ⟨⟨by omega, by omega, fun k _ => ?_, fun i j hi hj q => ?_⟩, ?_⟩
  · unfold t3f
    split
    · assumption
    · split <;> assumption
  · unfold t3f at q
    rcases (show i = 0 ∨ i = 1 ∨ i = 2 by omega) with rfl | rfl | rfl <;> rcases (show j = 0 ∨ j = 1 ∨ j = 2 by omega) with rfl | rfl | rfl <;> simp at q <;> omega
  · show (((false || busy r (nI a) h) || busy r (nI b) h) || busy r (nI c) h) = false
    rw [fre_bu f, fre_bu f2, fre_bu f3]
    rfl
theorem st1_BW (R : RW r) (hh : h < hrs r) (hs : BW r h s) : BW r h (st1 r h a s) := by
  unfold st1
  by_cases e : g1 r h a = true
  · rw [if_pos e]
    obtain ⟨x, y⟩ := g1_ok e
    have := (eN_b R (x.2.2.1 0 (by omega)) hh false).2
    exact BW_ofr hs (by show eN r h a false < _; have : eN r h a false ≤ 122500 := this; omega) x y
  · rw [if_neg e]
    exact hs
theorem st2_BW (R : RW r) (hh : h < hrs r) (hs : BW r h s) : BW r h (st2 r h a b s) := by
  unfold st2
  by_cases e : g2 r h a b = true
  · rw [if_pos e]
    obtain ⟨x, y⟩ := g2_ok e
    have b1 : eN r h a true ≤ 122500 := (eN_b R (x.2.2.1 0 (by omega)) hh true).2
    have b2 : eN r h b true ≤ 122500 := (eN_b R (x.2.2.1 1 (by omega)) hh true).2
    exact BW_ofr hs (by omega) x y
  · rw [if_neg e]
    exact hs
theorem st3_BW (R : RW r) (hh : h < hrs r) (hs : BW r h s) : BW r h (st3 r h a b c s) := by
  unfold st3
  by_cases e : g3 r h a b c = true
  · rw [if_pos e]
    obtain ⟨x, y⟩ := g3_ok e
    have b1 : eN r h a true ≤ 122500 := (eN_b R (x.2.2.1 0 (by omega)) hh true).2
    have b2 : eN r h b true ≤ 122500 := (eN_b R (x.2.2.1 1 (by omega)) hh true).2
    have b3 : eN r h c true ≤ 122500 := (eN_b R (x.2.2.1 2 (by omega)) hh true).2
    exact BW_ofr hs (by omega) x y
  · rw [if_neg e]
    exact hs
theorem fd_BW {g : Nat → BS → BS} (hg : ∀ k s, BW r h s → BW r h (g k s)) : ∀ {n : Nat} {s : BS}, BW r h s → BW r h (fd g n s)
  | 0, _, hs => hs
  | n + 1, _, hs => hg n _ (fd_BW hg hs)
theorem sr3_BW (R : RW r) (hh : h < hrs r) : BW r h (sr3 r h) :=
  fd_BW (fun _ _ q => fd_BW (fun _ _ q => fd_BW (fun _ _ q => st3_BW R hh q) q) q) (fd_BW (fun _ _ q => fd_BW (fun _ _ q => st2_BW R hh q) q) (fd_BW (fun _ _ q => st1_BW R hh q) BW0))
theorem srch_BW (R : RW r) (hh : h < hrs r) : BW r h (srch r h) := by
  unfold srch
  split
  · exact sr3_BW R hh
  · exact BW0
end CHAIN
