/-! where a person works -/
def fst1 (f : Nat → Bool) : Nat → Option Nat
  | 0 => none
  | n + 1 => match fst1 f n with
    | some h => some h
    | none => if f n = true then some n else none
def opI : Option Nat → Int32
  | none => -1
  | some h => nI h
theorem fst1_none {f : Nat → Bool} : ∀ {n : Nat}, (∀ k, k < n → f k = false) → fst1 f n = none
  | 0, _ => rfl
  | n + 1, h => by
    rw [fst1, fst1_none (fun k hk => h k (by omega)), h n (by omega)]
    rfl
theorem fst1_is {f : Nat → Bool} {h : Nat} (h1 : f h = true) (h2 : ∀ k, k < h → f k = false) : ∀ {n : Nat}, h < n → fst1 f n = some h
  | 0, q => by omega
  | n + 1, q => by
    by_cases e : h = n
    · subst e
      rw [fst1, fst1_none h2, if_pos h1]
    · rw [fst1, fst1_is h1 h2 (by omega)]
theorem fst1_cases (f : Nat → Bool) : ∀ n, (fst1 f n = none ∧ ∀ k, k < n → f k = false) ∨ ∃ h, fst1 f n = some h ∧ h < n ∧ f h = true ∧ ∀ k, k < h → f k = false
  | 0 => Or.inl ⟨rfl, fun k hk => by omega⟩
  | n + 1 => by
    rcases fst1_cases f n with ⟨e, h⟩ | ⟨h, e, h1, h2, h3⟩
    · cases q : f n
      · refine Or.inl ⟨by rw [fst1, e]; simp [q], fun k hk => ?_⟩
        by_cases e2 : k = n
        · rw [e2]; exact q
        · exact h k (by omega)
      · exact Or.inr ⟨n, by rw [fst1, e]; simp [q], by omega, q, h⟩
    · exact Or.inr ⟨h, by rw [fst1, e], by omega, h2, h3⟩
def hit (r : Row) (p h : Nat) : Bool := lst r h && (std r h && inCh r (nI p) h)
def wkR (r : Row) (p : Nat) : Option Nat := fst1 (hit r p) (hrs r)
theorem wkR_cases (r : Row) (p : Nat) : (wkR r p = none ∧ ∀ k, k < hrs r → hit r p k = false) ∨ ∃ h, wkR r p = some h ∧ h < hrs r ∧ hit r p h = true ∧ ∀ k, k < h → hit r p k = false := fst1_cases _ _
theorem opI_m1 {o : Option Nat} (h : ∀ k, o = some k → k < 1000000) : (opI o = -1) = (o = none) := by
  cases o with
  | none => simp [opI]
  | some k =>
    have := pz_ne1 (h k rfl)
    simp only [opI]
    rw [this]
    simp
theorem wkR_lt {r : Row} (hn : NumW r) {p h : Nat} (e : wkR r p = some h) : h < hrs r := by
  rcases wkR_cases r p with ⟨q, -⟩ | ⟨k, q, h1, -⟩
  · rw [q] at e; cases e
  · rw [q] at e; cases e; exact h1
section WORK
variable {c : Nat} {m : Mem} {r : Row} {h k a b p : Nat} {x y : Int32}
theorem s2_workplaceOf (hC : CR c m r) (hn : NumW r) (hw : ∀ o, o < hrs r → ChW r o) (hp : p < 10) : f_X2_workplaceOf c (nI p) m = some (opI (wkR r p)) := by
  have h30 := hn.2.2.1
  have body : ∀ i, i < hrs r → f_X2_workplaceOf_L2 c (nI p) m (nI i) = if hit r p i = true then some (.inr (.inr (nI i))) else some (.inl (nI (i + 1))) := by
    intro i hi
    rw [f_X2_workplaceOf_L2, hC.1.hearings, hn.2.2.2, if_neg (by rw [pz_le (by omega) (by omega)]; omega), s2_isUnderWay hC.1 (by omega), pz_bnd, bI_ite, s3_holds hC hn (hw i hi) hi hp, pz_bnd, bI_ite, pz_s]
    simp only [pz_nm, hit]
    by_cases h1 : lst r i = true <;> by_cases h2 : std r i = true <;> by_cases h3 : inCh r (nI p) i = true <;> simp [h1, h2, h3]
  have stop : f_X2_workplaceOf_L2 c (nI p) m (nI (hrs r)) = some (.inr (.inl ())) := by
    rw [f_X2_workplaceOf_L2, hC.1.hearings, hn.2.2.2, if_pos (by rw [pz_le (by omega) (by omega)]; omega)]
  unfold f_X2_workplaceOf
  rcases wkR_cases r p with ⟨q, h⟩ | ⟨h, q, h1, h2, h3⟩
  · have := lp_cnt (body := f_X2_workplaceOf_L2 c (nI p) m) nI (N := hrs r) (fun k hk => by rw [body k hk, h k hk]; rfl) stop (n := 1000000) (by omega)
    rw [show (0 : Int32) = nI 0 from rfl, this, q]
    rfl
  · have := lp_cnt (body := f_X2_workplaceOf_L2 c (nI p) m) nI (N := h) (fun k hk => by rw [body k (by omega), h3 k hk]; rfl) (by rw [body h h1, if_pos h2]) (n := 1000000) (by omega)
    rw [show (0 : Int32) = nI 0 from rfl, this, q]
    rfl
end WORK
