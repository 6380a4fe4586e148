/-! pure facts for the decompiled functions -/
theorem pz_nm {α β : Type} (e : α) (K : α → β) : nm e K = K e := rfl
theorem pz_bnd {α β : Type} (a : α) (K : α → Option β) : bnd (some a) K = K a := rfl
theorem pz_bnd2 {α γ β : Type} (a : α) (c : γ) (K : α → γ → Option β) : bnd2 (some (a, c)) K = K a c := rfl
theorem pz_jl {α β : Type} (a : α) (K : α → Option β) : jn (some (.inl a)) K = K a := rfl
theorem pz_jr {α β : Type} (b : β) (K : α → Option β) : jn (some (.inr b)) K = some b := rfl
theorem pz_in {β : Type} {k n : Nat} (h : k < n) (h2 : n ≤ 1000000) (K : Option β) : gIn (nI k) n K = K := by
  unfold gIn
  rw [if_pos ⟨nI_pos' (by omega), by rw [nI_clamp (by omega)]; exact h⟩]
theorem pz_cl {k : Nat} (h : k < 1000000) : (nI k).toNatClampNeg = k := nI_clamp (by omega)
theorem pz_le {a b : Nat} (ha : a < 1000000) (hb : b < 1000000) : (nI a ≤ nI b) = (a ≤ b) := propext (nI_leI (by omega) (by omega))
theorem pz_lt {a b : Nat} (ha : a < 1000000) (hb : b < 1000000) : (nI a < nI b) = (a < b) := propext (nI_ltI (by omega) (by omega))
theorem pz_eq {a b : Nat} (ha : a < 1000000) (hb : b < 1000000) : (nI a = nI b) = (a = b) := propext (nI_eq (by omega) (by omega))
theorem pz_lit (n : Nat) : (OfNat.ofNat n : Int32) = nI n := rfl
theorem pz_0 : (0 : Int32) = nI 0 := rfl
theorem pz_1 : (1 : Int32) = nI 1 := rfl
theorem pz_s (a : Nat) : nI a + 1 = nI (a + 1) := nI_1 a
theorem pz_add (a b : Nat) : nI a + nI b = nI (a + b) := nI_add a b
theorem pz_mul (a b : Nat) : nI a * nI b = nI (a * b) := pk_mul a b
theorem pz_not0 {a : Nat} (h : a < 1000000) : (nI a < 0) = False := eq_false (nI_pos (by omega))
theorem pz_ne1 {a : Nat} (h : a < 1000000) : (nI a = -1) = False := eq_false fun q => by
  have h1 : (nI a).toInt = (a : Int) := nI_toInt (by omega)
  rw [q] at h1
  have h2 : (-1 : Int32).toInt = -1 := by decide
  omega
theorem pz_ge0 {a : Nat} (h : a < 1000000) : (0 ≤ nI a) = True := eq_true (nI_pos' (by omega))
/-- truth as an int -/
def bI (b : Bool) : Int32 := if b = true then 1 else 0
theorem bI_t : bI true = 1 := rfl
theorem bI_f : bI false = 0 := rfl
theorem bI_ite {α : Type} (b : Bool) (x y : α) : (if bI b = 0 then x else y) = if b = true then y else x := by
  cases b <;> rfl
theorem bI_one {α : Type} (b : Bool) (x y : α) : (if bI b = 1 then x else y) = if b = true then x else y := by
  cases b <;> rfl
theorem pz_bo {β : Type} (b : Bool) (K : Option β) : gBo (bI b) K = K := by
  cases b <;> rfl
theorem pz_bo0 {β : Type} (K : Option β) : gBo 0 K = K := rfl
theorem pz_bo1 {β : Type} (K : Option β) : gBo 1 K = K := rfl
/-- a loop that counts -/
theorem lp_cnt {S T : Type} {body : S → Option (S ⊕ T)} (σ : Nat → S) {N : Nat} {t : T} (hs : ∀ i, i < N → body (σ i) = some (.inl (σ (i + 1)))) (he : body (σ N) = some (.inr t)) {n : Nat} (hn : N < n) : lp body n (σ 0) = some t := by
  have key : ∀ (d i n : Nat), i + d = N → d < n → lp body n (σ i) = some t := by
    intro d
    induction d with
    | zero =>
      intro i n hi hn
      have : i = N := by omega
      subst this
      obtain ⟨n, rfl⟩ : ∃ k, n = k + 1 := ⟨n - 1, by omega⟩
      rw [lp, he]
    | succ d ih =>
      intro i n hi hn
      obtain ⟨n, rfl⟩ : ∃ k, n = k + 1 := ⟨n - 1, by omega⟩
      rw [lp, hs i (by omega)]
      exact ih (i + 1) n (by omega) (by omega)
  exact key N 0 n (by omega) hn
/-! ROWS: the court as one row of numbers, as the model keeps it -/
abbrev Row : Type := Nat → Int32
/-- where a class's cell keeps what the row holds at i (k: the cell, counted from the court's) -/
def loc (k j : Nat) : Option Nat :=
  if k = 0 then (if j = 3 then some 9 else if j = 4 then some 10 else if j = 5 then some 11 else if j = 6 then some 12 else none)
  else if k = 1 then (if j = 0 then some 7 else none)
  else if k < 8 then (if j < 10 then some (13 + 10 * (k - 2) + j) else none)
  else if k = 8 then (if j = 0 then some 8 else none)
  else if k < 15 then (if j < 30 then some (73 + 10 * j + (k - 9)) else none)
  else if k = 15 then (if j < 30 then some (82 + 10 * j) else none)
  else if k = 17 then (if j < 90 then some (79 + 10 * (j / 3) + j % 3) else none)
  else if k = 18 then (if j < 7 then some j else none)
  else none
/-- and back: the cell and the place of a row's number -/
def unloc (i : Nat) : Nat × Nat :=
  if i < 7 then (18, i) else if i = 7 then (1, 0) else if i = 8 then (8, 0) else if i < 13 then (0, i - 6) else if i < 73 then ((i - 13) / 10 + 2, (i - 13) % 10)
  else if (i - 73) % 10 < 6 then (9 + (i - 73) % 10, (i - 73) / 10) else if (i - 73) % 10 < 9 then (17, 3 * ((i - 73) / 10) + ((i - 73) % 10 - 6)) else (15, (i - 73) / 10)
theorem loc_un {k j i : Nat} (h : loc k j = some i) : unloc i = (k, j) ∧ i < 373 ∧ k < 19 := by
  unfold loc at h
  by_cases k0 : k = 0
  · rw [if_pos k0] at h
    by_cases j3 : j = 3
    · rw [if_pos j3] at h; cases h; subst k0; subst j3; exact ⟨rfl, by decide, by decide⟩
    rw [if_neg j3] at h
    by_cases j4 : j = 4
    · rw [if_pos j4] at h; cases h; subst k0; subst j4; exact ⟨rfl, by decide, by decide⟩
    rw [if_neg j4] at h
    by_cases j5 : j = 5
    · rw [if_pos j5] at h; cases h; subst k0; subst j5; exact ⟨rfl, by decide, by decide⟩
    rw [if_neg j5] at h
    by_cases j6 : j = 6
    · rw [if_pos j6] at h; cases h; subst k0; subst j6; exact ⟨rfl, by decide, by decide⟩
    rw [if_neg j6] at h; cases h
  rw [if_neg k0] at h
  by_cases k1 : k = 1
  · rw [if_pos k1] at h
    by_cases j0 : j = 0
    · rw [if_pos j0] at h; cases h; subst k1; subst j0; exact ⟨rfl, by decide, by decide⟩
    rw [if_neg j0] at h; cases h
  rw [if_neg k1] at h
  by_cases k8 : k < 8
  · rw [if_pos k8] at h
    by_cases j0 : j < 10
    · rw [if_pos j0] at h
      have e := Option.some.inj h
      refine ⟨?_, by omega, by omega⟩
      unfold unloc
      rw [if_neg (by omega), if_neg (by omega), if_neg (by omega), if_neg (by omega), if_pos (by omega), ← e]
      exact Prod.ext (by show (13 + 10 * (k - 2) + j - 13) / 10 + 2 = k; omega) (by show (13 + 10 * (k - 2) + j - 13) % 10 = j; omega)
    rw [if_neg j0] at h; cases h
  rw [if_neg k8] at h
  by_cases k8e : k = 8
  · rw [if_pos k8e] at h
    by_cases j0 : j = 0
    · rw [if_pos j0] at h; cases h; subst k8e; subst j0; exact ⟨rfl, by decide, by decide⟩
    rw [if_neg j0] at h; cases h
  rw [if_neg k8e] at h
  by_cases k15 : k < 15
  · rw [if_pos k15] at h
    by_cases j0 : j < 30
    · rw [if_pos j0] at h
      have e := Option.some.inj h
      refine ⟨?_, by omega, by omega⟩
      unfold unloc
      rw [if_neg (by omega), if_neg (by omega), if_neg (by omega), if_neg (by omega), if_neg (by omega), if_pos (by omega), ← e]
      exact Prod.ext (by show 9 + (73 + 10 * j + (k - 9) - 73) % 10 = k; omega) (by show (73 + 10 * j + (k - 9) - 73) / 10 = j; omega)
    rw [if_neg j0] at h; cases h
  rw [if_neg k15] at h
  by_cases k15e : k = 15
  · rw [if_pos k15e] at h
    by_cases j0 : j < 30
    · rw [if_pos j0] at h
      have e := Option.some.inj h
      refine ⟨?_, by omega, by omega⟩
      unfold unloc
      rw [if_neg (by omega), if_neg (by omega), if_neg (by omega), if_neg (by omega), if_neg (by omega), if_neg (by omega), if_neg (by omega), ← e, k15e]
      exact Prod.ext rfl (by show (82 + 10 * j - 73) / 10 = j; omega)
    rw [if_neg j0] at h; cases h
  rw [if_neg k15e] at h
  by_cases k17 : k = 17
  · rw [if_pos k17] at h
    by_cases j0 : j < 90
    · rw [if_pos j0] at h
      have e := Option.some.inj h
      refine ⟨?_, by omega, by omega⟩
      unfold unloc
      rw [if_neg (by omega), if_neg (by omega), if_neg (by omega), if_neg (by omega), if_neg (by omega), if_neg (by omega), if_pos (by omega), ← e, k17]
      exact Prod.ext rfl (by show 3 * ((79 + 10 * (j / 3) + j % 3 - 73) / 10) + ((79 + 10 * (j / 3) + j % 3 - 73) % 10 - 6) = j; omega)
    rw [if_neg j0] at h; cases h
  rw [if_neg k17] at h
  by_cases k18 : k = 18
  · rw [if_pos k18] at h
    by_cases j0 : j < 7
    · rw [if_pos j0] at h
      have e := Option.some.inj h
      refine ⟨?_, by omega, by omega⟩
      unfold unloc
      rw [if_pos (by omega), ← e, k18]
    rw [if_neg j0] at h; cases h
  rw [if_neg k18] at h; cases h
theorem loc_lt {k j i : Nat} (h : loc k j = some i) : i < 373 ∧ k < 19 := (loc_un h).2
theorem loc_inj {k j k' j' i : Nat} (h : loc k j = some i) (h' : loc k' j' = some i) : k = k' ∧ j = j' := by
  have e := (loc_un h).1.symm.trans (loc_un h').1
  exact ⟨congrArg Prod.fst e, congrArg Prod.snd e⟩
def mskN (r : Row) (h : Nat) : Int32 :=
  let bo : Int32 → Int32 := fun x => if 0 ≤ x then 1 <<< (x &&& 31) else 0
  bo (r (79 + 10 * h)) ||| bo (r (80 + 10 * h)) ||| bo (r (81 + 10 * h))
/-- the court at c holds the row -/
def CR0 (c : Nat) (m : Mem) (r : Row) : Prop := ∀ k j i, loc k j = some i → m.1 (c + k) j = r i
def CR (c : Nat) (m : Mem) (r : Row) : Prop := CR0 c m r ∧ ∀ h, h < (r 8).toNatClampNeg → m.1 (c + 16) h = mskN r h
theorem upd_self (r : Row) (i : Nat) (v : Int32) : upd r i v i = v := if_pos rfl
theorem upd_ne {r : Row} {i j : Nat} {v : Int32} (h : j ≠ i) : upd r i v j = r j := if_neg h
theorem CR0.put {c k j i : Nat} {m : Mem} {r : Row} (hC : CR0 c m r) (h : loc k j = some i) (v : Int32) : CR0 c (si m (c + k) j v) (upd r i v) := by
  intro k' j' i' h'
  show (if c + k' = c + k ∧ j' = j then v else m.1 (c + k') j') = if i' = i then v else r i'
  by_cases e : i' = i
  · subst e
    obtain ⟨rfl, rfl⟩ := loc_inj h h'
    rw [if_pos ⟨rfl, rfl⟩, if_pos rfl]
  · rw [if_neg e, if_neg, hC k' j' i' h']
    rintro ⟨e1, rfl⟩
    have : k' = k := by omega
    subst this
    rw [h] at h'
    exact e (Option.some.inj h').symm
theorem CR0.other {c a j : Nat} {m : Mem} {r : Row} (hC : CR0 c m r) (h : a < c ∨ c + 19 ≤ a ∨ a = c + 16) (v : Int32) : CR0 c (si m a j v) r := by
  intro k' j' i' h'
  rw [← hC k' j' i' h']
  show (if c + k' = a ∧ j' = j then v else m.1 (c + k') j') = _
  rw [if_neg]
  rintro ⟨e1, -⟩
  have hk := (loc_lt h').2
  rcases h with h | h | h
  · omega
  · omega
  · have : k' = 16 := by omega
    subst this
    simp [loc] at h'
/-! fields by name -/
section FIELDS
variable {c : Nat} {m : Mem} {r : Row} {h i : Nat}
theorem CR0.people (hC : CR0 c m r) : m.1 (c + 1) 0 = r 7 := hC 1 0 7 rfl
theorem CR0.hearings (hC : CR0 c m r) : m.1 (c + 8) 0 = r 8 := hC 8 0 8 rfl
theorem CR0.minute (hC : CR0 c m r) : m.1 c 3 = r 9 := hC 0 3 9 rfl
theorem CR0.paid (hC : CR0 c m r) : m.1 c 4 = r 10 := hC 0 4 10 rfl
theorem CR0.paidV (hC : CR0 c m r) : m.1 c 5 = r 11 := hC 0 5 11 rfl
theorem CR0.paidA (hC : CR0 c m r) : m.1 c 6 = r 12 := hC 0 6 12 rfl
theorem CR0.speaks (hC : CR0 c m r) (h : i < 10) : m.1 (c + 2) i = r (13 + i) := hC 2 i (13 + i) (by simp [loc, h])
theorem CR0.may (hC : CR0 c m r) (h : i < 10) : m.1 (c + 3) i = r (23 + i) := hC 3 i (23 + i) (by simp [loc, h])
theorem CR0.rate (hC : CR0 c m r) (h : i < 10) : m.1 (c + 4) i = r (33 + i) := hC 4 i (33 + i) (by simp [loc, h])
theorem CR0.tired (hC : CR0 c m r) (h : i < 10) : m.1 (c + 5) i = r (43 + i) := hC 5 i (43 + i) (by simp [loc, h])
theorem CR0.earned (hC : CR0 c m r) (h : i < 10) : m.1 (c + 6) i = r (53 + i) := hC 6 i (53 + i) (by simp [loc, h])
theorem CR0.worked (hC : CR0 c m r) (h : i < 10) : m.1 (c + 7) i = r (63 + i) := hC 7 i (63 + i) (by simp [loc, h])
theorem CR0.kind (hC : CR0 c m r) (hh : h < 30) : m.1 (c + 9) h = r (73 + 10 * h) := hC 9 h _ (by simp [loc, hh])
theorem CR0.lang (hC : CR0 c m r) (hh : h < 30) : m.1 (c + 10) h = r (73 + 10 * h + 1) := hC 10 h _ (by simp [loc, hh])
theorem CR0.start (hC : CR0 c m r) (hh : h < 30) : m.1 (c + 11) h = r (73 + 10 * h + 2) := hC 11 h _ (by simp [loc, hh])
theorem CR0.length (hC : CR0 c m r) (hh : h < 30) : m.1 (c + 12) h = r (73 + 10 * h + 3) := hC 12 h _ (by simp [loc, hh])
theorem CR0.stage (hC : CR0 c m r) (hh : h < 30) : m.1 (c + 13) h = r (73 + 10 * h + 4) := hC 13 h _ (by simp [loc, hh])
theorem CR0.size (hC : CR0 c m r) (hh : h < 30) : m.1 (c + 14) h = r (73 + 10 * h + 5) := hC 14 h _ (by simp [loc, hh])
theorem CR0.got (hC : CR0 c m r) (hh : h < 30) : m.1 (c + 15) h = r (82 + 10 * h) := hC 15 h _ (by simp [loc, hh])
theorem CR0.chain (hC : CR0 c m r) (hh : h < 30) (hi : i < 3) : m.1 (c + 17) (3 * h + i) = r (79 + 10 * h + i) := hC 17 (3 * h + i) _ (by
  have h1 : 3 * h + i < 90 := by omega
  have h2 : (3 * h + i) / 3 = h := by omega
  have h3 : (3 * h + i) % 3 = i := by omega
  simp [loc, h1, h2, h3])
theorem CR0.setting (hC : CR0 c m r) (h : i < 7) : m.1 (c + 18) i = r i := hC 18 i i (by simp [loc, h])
end FIELDS
