/-! what the decompiled functions are made of -/
def nm {α β : Type} (e : α) (K : α → β) : β := K e
theorem nm_at {α β : Type} {e x : α} {K : α → β} {r : β} (hx : x = e) (h : nm e K = r) : K x = r := by
  subst hx
  exact h
def bnd {α β : Type} (o : Option α) (K : α → Option β) : Option β := match o with
  | none => none
  | some a => K a
theorem bnd_some {α β : Type} {o : Option α} {K : α → Option β} {r : β} (h : bnd o K = some r) : ∃ a, o = some a ∧ K a = some r := by
  cases o with
  | none => cases h
  | some a => exact ⟨a, rfl, h⟩
def bnd2 {α γ β : Type} (o : Option (α × γ)) (K : α → γ → Option β) : Option β := match o with
  | none => none
  | some a => K a.1 a.2
theorem bnd2_some {α γ β : Type} {o : Option (α × γ)} {K : α → γ → Option β} {r : β} (h : bnd2 o K = some r) : ∃ a c, o = some (a, c) ∧ K a c = some r := by
  cases o with
  | none => cases h
  | some a => exact ⟨a.1, a.2, rfl, h⟩
def jn {α β : Type} (o : Option (α ⊕ β)) (K : α → Option β) : Option β := match o with
  | none => none
  | some (.inl a) => K a
  | some (.inr b) => some b
theorem jn_some {α β : Type} {o : Option (α ⊕ β)} {K : α → Option β} {r : β} (h : jn o K = some r) : ∃ t, o = some t ∧ (∀ a, t = .inl a → K a = some r) ∧ (∀ b, t = .inr b → some b = some r) := by
  cases o with
  | none => cases h
  | some t =>
    refine ⟨t, rfl, fun a e => ?_, fun b e => ?_⟩
    · subst e; exact h
    · subst e; exact h
def gIn {β : Type} (i : Int32) (n : Nat) (K : Option β) : Option β := if 0 ≤ i ∧ i.toNatClampNeg < n then K else none
theorem gIn_some {β : Type} {i : Int32} {n : Nat} {K : Option β} {r : β} (h : gIn i n K = some r) : vp_in i n ∧ K = some r := by
  unfold gIn at h
  split at h
  · rename_i q
    exact ⟨fun z => z.elim (fun z => absurd q.1 (fa_nle z)) (fun z => absurd q.2 (Nat.not_lt.mpr z)), h⟩
  · cases h
def gNz {β : Type} (y : Int32) (K : Option β) : Option β := if y = 0 then none else K
theorem gNz_some {β : Type} {y : Int32} {K : Option β} {r : β} (h : gNz y K = some r) : ¬ y = 0 ∧ K = some r := by
  unfold gNz at h
  split at h
  · cases h
  · rename_i q
    exact ⟨q, h⟩
def gBo {β : Type} (v : Int32) (K : Option β) : Option β := if v = 0 ∨ v = 1 then K else none
theorem gBo_some {β : Type} {v : Int32} {K : Option β} {r : β} (h : gBo v K = some r) : (v = 0 ∨ v = 1) ∧ K = some r := by
  unfold gBo at h
  split at h
  · rename_i q
    exact ⟨q, h⟩
  · cases h
theorem narrow_bo {v : Int32} (h : v = 0 ∨ v = 1) : narrow .boolean (.int v) = .int v := by
  rcases h with rfl | rfl <;> rfl
def lp {S T : Type} (body : S → Option (S ⊕ T)) : Nat → S → Option T
  | 0, _ => none
  | n + 1, s => match body s with
    | none => none
    | some (.inl s') => lp body n s'
    | some (.inr t) => some t
theorem lp_run {S T : Type} {body : S → Option (S ⊕ T)} {P : S → Prop} {t : T} (hs : ∀ s x, body s = some x → (∀ s', x = .inl s' → P s') → (∀ t', x = .inr t' → t' = t) → P s) : ∀ (n : Nat) (s : S), lp body n s = some t → P s
  | 0, s, h => by cases h
  | n + 1, s, h => by
    rw [lp] at h
    cases hb : body s with
    | none => rw [hb] at h; cases h
    | some x =>
      rw [hb] at h
      refine hs s x hb (fun s' e => ?_) (fun t' e => ?_)
      · subst e
        exact lp_run hs n s' h
      · subst e
        exact Option.some.inj h
theorem ite_t {α : Type} {c : Prop} [Decidable c] {a b r : α} (q : c) (h : (if c then a else b) = r) : a = r := by rwa [if_pos q] at h
theorem ite_f {α : Type} {c : Prop} [Decidable c] {a b r : α} (q : ¬ c) (h : (if c then a else b) = r) : b = r := by rwa [if_neg q] at h
theorem vp_lit {i : Int32} {n : Nat} (h : (decide (0 ≤ i) && decide (i.toNatClampNeg < n)) = true) : vp_in i n := by
  simp only [Bool.and_eq_true, decide_eq_true_eq] at h
  exact fun z => z.elim (fun z => absurd h.1 (fa_nle z)) (fun z => absurd h.2 (Nat.not_lt.mpr z))
section NMS
variable {X : Cx} {ce sl pc : Nat} {lv : List (Nat × Value)} {st : List Value} {μ : Mem} {Q : State → Prop}
theorem a_nmi {e : Int32} (K : ∀ x, x = e → WA X ce sl pc lv (.int x :: st) μ Q) : WA X ce sl pc lv (.int e :: st) μ Q := K e rfl
theorem a_nmm (K : ∀ x, x = μ → WA X ce sl pc lv st x Q) : WA X ce sl pc lv st μ Q := K μ rfl
theorem a_ldcw {cc : ByteArray} {own : String} {rt : Option FieldType} {fr lo nL : Nat} (F : Fm X cc own rt fr lo nL) {ix : Nat} {v : Int32} (hd : decode cc pc = .ok (.ldc_w ix, 3)) (hw : Cond.constant own ix v ∈ lw_all) (K : WA X ce sl (pc + 3) lv (.int v :: st) μ Q) : WA X ce sl pc lv st μ Q := by
  obtain ⟨p, l, e, R, s, m, args, below, meth, c, G, nn⟩ := X
  obtain ⟨hx, hb, hml, hown, hts, hK, hA, hO, hsz, hr, hlk, hfr, hlo, hn, hfl, hNW⟩ := F
  intro H locs ls hH hS hl
  exact lv_ldcw hx hb hown (hts _ hw) hd (K H locs ls hH hS hl)
end NMS
/-! where things stand -/
def isC (c : Nat) : Prop := c = 1 ∨ c = 20 ∨ c = 41 ∨ c = 60 ∨ c = 79 ∨ c = 98 ∨ c = 117 ∨ c = 136
theorem isC_1 : isC 1 := Or.inl rfl
theorem isC_20 : isC 20 := Or.inr (Or.inl rfl)
theorem isC_saved {i : Int32} (h : vp_in i 6) : isC (savedOff i.toNatClampNeg) := by
  obtain ⟨j, hj, rfl⟩ := vp_in_of h (by decide)
  rw [nI_clamp (by omega)]
  unfold isC savedOff
  omega
theorem klC_0 {c : Nat} (h : isC c) : c < NC := by unfold isC NC at *; omega
theorem ksC_0 {c : Nat} (h : isC c) : shp (c) = .inl (2, [c + 1 + 2, c + 8 + 2, c + 18 + 2, 0, 0, 0, 0]) := by rcases h with rfl | rfl | rfl | rfl | rfl | rfl | rfl | rfl <;> rfl
theorem klC_1 {c : Nat} (h : isC c) : c + 1 < NC := by unfold isC NC at *; omega
theorem ksC_1 {c : Nat} (h : isC c) : shp (c + 1) = .inl (6, [0, c + 2 + 2, c + 3 + 2, c + 4 + 2, c + 5 + 2, c + 6 + 2, c + 7 + 2]) := by rcases h with rfl | rfl | rfl | rfl | rfl | rfl | rfl | rfl <;> rfl
theorem klC_2 {c : Nat} (h : isC c) : c + 2 < NC := by unfold isC NC at *; omega
theorem ksC_2 {c : Nat} (h : isC c) : shp (c + 2) = .inr (0, 10) := by rcases h with rfl | rfl | rfl | rfl | rfl | rfl | rfl | rfl <;> rfl
theorem klC_3 {c : Nat} (h : isC c) : c + 3 < NC := by unfold isC NC at *; omega
theorem ksC_3 {c : Nat} (h : isC c) : shp (c + 3) = .inr (0, 10) := by rcases h with rfl | rfl | rfl | rfl | rfl | rfl | rfl | rfl <;> rfl
theorem klC_4 {c : Nat} (h : isC c) : c + 4 < NC := by unfold isC NC at *; omega
theorem ksC_4 {c : Nat} (h : isC c) : shp (c + 4) = .inr (0, 10) := by rcases h with rfl | rfl | rfl | rfl | rfl | rfl | rfl | rfl <;> rfl
theorem klC_5 {c : Nat} (h : isC c) : c + 5 < NC := by unfold isC NC at *; omega
theorem ksC_5 {c : Nat} (h : isC c) : shp (c + 5) = .inr (0, 10) := by rcases h with rfl | rfl | rfl | rfl | rfl | rfl | rfl | rfl <;> rfl
theorem klC_6 {c : Nat} (h : isC c) : c + 6 < NC := by unfold isC NC at *; omega
theorem ksC_6 {c : Nat} (h : isC c) : shp (c + 6) = .inr (0, 10) := by rcases h with rfl | rfl | rfl | rfl | rfl | rfl | rfl | rfl <;> rfl
theorem klC_7 {c : Nat} (h : isC c) : c + 7 < NC := by unfold isC NC at *; omega
theorem ksC_7 {c : Nat} (h : isC c) : shp (c + 7) = .inr (0, 10) := by rcases h with rfl | rfl | rfl | rfl | rfl | rfl | rfl | rfl <;> rfl
theorem klC_8 {c : Nat} (h : isC c) : c + 8 < NC := by unfold isC NC at *; omega
theorem ksC_8 {c : Nat} (h : isC c) : shp (c + 8) = .inl (3, [0, c + 9 + 2, c + 10 + 2, c + 11 + 2, c + 12 + 2, c + 13 + 2, c + 14 + 2, c + 15 + 2, c + 16 + 2, c + 17 + 2]) := by rcases h with rfl | rfl | rfl | rfl | rfl | rfl | rfl | rfl <;> rfl
theorem klC_9 {c : Nat} (h : isC c) : c + 9 < NC := by unfold isC NC at *; omega
theorem ksC_9 {c : Nat} (h : isC c) : shp (c + 9) = .inr (0, 30) := by rcases h with rfl | rfl | rfl | rfl | rfl | rfl | rfl | rfl <;> rfl
theorem klC_10 {c : Nat} (h : isC c) : c + 10 < NC := by unfold isC NC at *; omega
theorem ksC_10 {c : Nat} (h : isC c) : shp (c + 10) = .inr (0, 30) := by rcases h with rfl | rfl | rfl | rfl | rfl | rfl | rfl | rfl <;> rfl
theorem klC_11 {c : Nat} (h : isC c) : c + 11 < NC := by unfold isC NC at *; omega
theorem ksC_11 {c : Nat} (h : isC c) : shp (c + 11) = .inr (0, 30) := by rcases h with rfl | rfl | rfl | rfl | rfl | rfl | rfl | rfl <;> rfl
theorem klC_12 {c : Nat} (h : isC c) : c + 12 < NC := by unfold isC NC at *; omega
theorem ksC_12 {c : Nat} (h : isC c) : shp (c + 12) = .inr (0, 30) := by rcases h with rfl | rfl | rfl | rfl | rfl | rfl | rfl | rfl <;> rfl
theorem klC_13 {c : Nat} (h : isC c) : c + 13 < NC := by unfold isC NC at *; omega
theorem ksC_13 {c : Nat} (h : isC c) : shp (c + 13) = .inr (0, 30) := by rcases h with rfl | rfl | rfl | rfl | rfl | rfl | rfl | rfl <;> rfl
theorem klC_14 {c : Nat} (h : isC c) : c + 14 < NC := by unfold isC NC at *; omega
theorem ksC_14 {c : Nat} (h : isC c) : shp (c + 14) = .inr (0, 30) := by rcases h with rfl | rfl | rfl | rfl | rfl | rfl | rfl | rfl <;> rfl
theorem klC_15 {c : Nat} (h : isC c) : c + 15 < NC := by unfold isC NC at *; omega
theorem ksC_15 {c : Nat} (h : isC c) : shp (c + 15) = .inr (0, 30) := by rcases h with rfl | rfl | rfl | rfl | rfl | rfl | rfl | rfl <;> rfl
theorem klC_16 {c : Nat} (h : isC c) : c + 16 < NC := by unfold isC NC at *; omega
theorem ksC_16 {c : Nat} (h : isC c) : shp (c + 16) = .inr (0, 30) := by rcases h with rfl | rfl | rfl | rfl | rfl | rfl | rfl | rfl <;> rfl
theorem klC_17 {c : Nat} (h : isC c) : c + 17 < NC := by unfold isC NC at *; omega
theorem ksC_17 {c : Nat} (h : isC c) : shp (c + 17) = .inr (0, 90) := by rcases h with rfl | rfl | rfl | rfl | rfl | rfl | rfl | rfl <;> rfl
theorem klC_18 {c : Nat} (h : isC c) : c + 18 < NC := by unfold isC NC at *; omega
theorem ksC_18 {c : Nat} (h : isC c) : shp (c + 18) = .inr (0, 7) := by rcases h with rfl | rfl | rfl | rfl | rfl | rfl | rfl | rfl <;> rfl
theorem kl_0 : 0 < NC := by decide
theorem ks_0 : shp 0 = .inl (7, [1 + 2, 20 + 2, 39 + 2, 155 + 2, 157 + 2, 158 + 2]) := rfl
theorem kl_39 : 39 < NC := by decide
theorem ks_39 : shp 39 = .inl (4, [0, 0, 40 + 2]) := rfl
theorem kl_40 : 40 < NC := by decide
theorem ks_40 : shp 40 = .inr (1, 6) := rfl
theorem kl_155 : 155 < NC := by decide
theorem ks_155 : shp 155 = .inl (0, [0, 156 + 2]) := rfl
theorem kl_156 : 156 < NC := by decide
theorem ks_156 : shp 156 = .inr (0, 60) := rfl
theorem kl_157 : 157 < NC := by decide
theorem ks_157 : shp 157 = .inl (5, [0, 0, 0, 0, 0, 0]) := rfl
theorem kl_158 : 158 < NC := by decide
theorem ks_158 : shp 158 = .inl (1, [0, 0, 0, 0, 0, 0, 0, 0, 159 + 2, 160 + 2, 161 + 2]) := rfl
theorem kl_159 : 159 < NC := by decide
theorem ks_159 : shp 159 = .inr (0, 10) := rfl
theorem kl_160 : 160 < NC := by decide
theorem ks_160 : shp 160 = .inr (0, 10) := rfl
theorem kl_161 : 161 < NC := by decide
theorem ks_161 : shp 161 = .inr (0, 10) := rfl
theorem kl_162 : 162 < NC := by decide
theorem ks_162 : shp 162 = .inr (0, 14) := rfl
theorem kl_163 : 163 < NC := by decide
theorem ks_163 : shp 163 = .inr (0, 30) := rfl
theorem kl_164 : 164 < NC := by decide
theorem ks_164 : shp 164 = .inr (0, 48) := rfl
theorem kl_165 : 165 < NC := by decide
theorem ks_165 : shp 165 = .inr (0, 8) := rfl
