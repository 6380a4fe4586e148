/-! the law's own numbers: chains as digits, its rows of ints -/
theorem nI_self (x : Int32) : x = nI x.toBitVec.toNat := by
  apply Int32.toBitVec_inj.mp
  show x.toBitVec = BitVec.ofNat 32 x.toBitVec.toNat
  rw [BitVec.ofNat_toNat, BitVec.setWidth_eq]
theorem l_at {m : Mem} (x : Int32) {n : Nat} (h0 : 0 < n) (hn : n < 1000000) : ∃ j, j < n ∧ f_L_at x (nI n) m = some (nI j) := by
  have e := pk_ushr x 1 1 (by decide)
  have hx := x.toBitVec.isLt
  have e2 : (x.toUInt32 >>> ((1 : Int32).toUInt32 &&& Int32.toUInt32 31)).toInt32 = nI (x.toBitVec.toNat / 2 ^ 1) := by
    rw [← e]
    exact nI_self _
  refine ⟨x.toBitVec.toNat / 2 ^ 1 % n, Nat.mod_lt _ h0, ?_⟩
  unfold f_L_at
  rw [e2, pz_nm]
  have hz : ¬ nI n = 0 := nI_ne0 h0 (by omega)
  unfold gNz
  rw [if_neg hz, pk_rem (by omega) h0 (by omega)]
def dg (n : Nat) (t : Nat → Nat) (k : Nat) : Nat := if k < n then t k + 1 else 0
def encT (n : Nat) (t : Nat → Nat) : Nat := dg n t 0 + 16 * dg n t 1 + 256 * dg n t 2
theorem dg_lt {n : Nat} {t : Nat → Nat} (ht : ∀ k, k < n → t k < 5) (k : Nat) : dg n t k < 6 := by
  unfold dg
  split
  · rename_i h
    have := ht k h
    omega
  · omega
theorem encT_lt {n : Nat} {t : Nat → Nat} (ht : ∀ k, k < n → t k < 5) : encT n t < 4096 := by
  have h0 := dg_lt ht 0
  have h1 := dg_lt ht 1
  have h2 := dg_lt ht 2
  unfold encT
  omega
theorem who_dec : ∀ a, a < 6 → ∀ b, b < 6 → ∀ c, c < 6 → ((nI (a + 16 * b + 256 * c) >>> ((4 * nI 0) &&& 31)) &&& 15 = nI a ∧ (nI (a + 16 * b + 256 * c) >>> ((4 * nI 1) &&& 31)) &&& 15 = nI b ∧ (nI (a + 16 * b + 256 * c) >>> ((4 * nI 2) &&& 31)) &&& 15 = nI c) := by decide +kernel
section LCH
variable {m : Mem} {n k p : Nat} {t : Nat → Nat}
theorem dg_tri (k : Nat) : nI (dg n t k) - 1 = tri n t k := by
  unfold dg tri
  split
  · exact nI_pred _
  · decide
theorem l_who (ht : ∀ k, k < n → t k < 5) (hk : k < 3) : f_L_who (nI (encT n t)) (nI k) m = some (tri n t k) := by
  have e := who_dec _ (dg_lt ht 0) _ (dg_lt ht 1) _ (dg_lt ht 2)
  unfold f_L_who
  rw [pz_nm, ← dg_tri]
  unfold encT
  rcases (show k = 0 ∨ k = 1 ∨ k = 2 by omega) with rfl | rfl | rfl
  · rw [e.1]
  · rw [e.2.1]
  · rw [e.2.2]
theorem l_whoN (ht : ∀ k, k < n → t k < 5) (hn : n ≤ 3) (hk : k < n) : f_L_who (nI (encT n t)) (nI k) m = some (nI (t k)) := by
  rw [l_who ht (by omega)]
  unfold tri
  rw [if_pos hk]
theorem l_size (ht : ∀ k, k < n → t k < 5) (hn : n ≤ 3) : f_L_size (nI (encT n t)) m = some (nI n) := by
  have hl := encT_lt ht
  have q0 : (nI (encT n t) = 0) = (encT n t = 0) := pz_eq (b := (0 : Nat)) (by omega) (by decide)
  have q1 : ((16 : Int32) ≤ nI (encT n t)) = (16 ≤ encT n t) := pz_le (a := (16 : Nat)) (by decide) (by omega)
  have q2 : ((256 : Int32) ≤ nI (encT n t)) = (256 ≤ encT n t) := pz_le (a := (256 : Nat)) (by decide) (by omega)
  unfold f_L_size
  rcases (show n = 0 ∨ n = 1 ∨ n = 2 ∨ n = 3 by omega) with rfl | rfl | rfl | rfl
  · rw [if_pos (by rw [q0]; simp [encT, dg])]; rfl
  · have h0 := ht 0 (by omega)
    have e : encT 1 t = t 0 + 1 := by simp [encT, dg]
    rw [if_neg (by rw [q0]; omega), if_neg (by rw [q1]; omega)]; rfl
  · have h0 := ht 0 (by omega)
    have h1 := ht 1 (by omega)
    have e : encT 2 t = t 0 + 1 + 16 * (t 1 + 1) := by simp [encT, dg]
    rw [if_neg (by rw [q0]; omega), if_pos (by rw [q1]; omega), if_neg (by rw [q2]; omega)]; rfl
  · have h0 := ht 0 (by omega)
    have h1 := ht 1 (by omega)
    have h2 := ht 2 (by omega)
    have e : encT 3 t = t 0 + 1 + 16 * (t 1 + 1) + 256 * (t 2 + 1) := by simp [encT, dg]
    rw [if_neg (by rw [q0]; omega), if_pos (by rw [q1]; omega), if_pos (by rw [q2]; omega)]; rfl
def hasT (n : Nat) (t : Nat → Nat) (p : Nat) : Bool := decide (∃ k, k < n ∧ t k = p)
theorem tri_is (ht : ∀ k, k < n → t k < 5) (hp : p < 1000000) (k : Nat) : (tri n t k = nI p) = (k < n ∧ t k = p) := by
  unfold tri
  by_cases h : k < n
  · have := ht k h
    rw [if_pos h, pz_eq (by omega) (by omega)]
    simp [h]
  · rw [if_neg h]
    have q := pz_ne1 (a := p) (by omega)
    apply propext
    constructor
    · intro e
      rw [← e] at q
      exact absurd rfl (fun z => by rw [q] at z; exact z)
    · intro e
      exact absurd e.1 h
theorem l_has (ht : ∀ k, k < n → t k < 5) (hn : n ≤ 3) (hp : p < 1000000) : f_L_has (nI (encT n t)) (nI p) m = some (bI (hasT n t p)) := by
  have w0 := l_who (m := m) (k := 0) ht (by omega)
  have w1 := l_who (m := m) (k := 1) ht (by omega)
  have w2 := l_who (m := m) (k := 2) ht (by omega)
  rw [show nI 0 = (0 : Int32) from rfl] at w0
  rw [show nI 1 = (1 : Int32) from rfl] at w1
  rw [show nI 2 = (2 : Int32) from rfl] at w2
  unfold f_L_has
  have i0 := tri_is ht hp 0
  have i1 := tri_is ht hp 1
  have i2 := tri_is ht hp 2
  rw [w0, pz_bnd, w1, pz_bnd, w2, pz_bnd]
  unfold hasT
  by_cases q0 : 0 < n ∧ t 0 = p
  · rw [if_pos (by rw [i0]; exact q0), decide_eq_true ⟨0, q0⟩]; rfl
  rw [if_neg (by rw [i0]; exact q0)]
  by_cases q1 : 1 < n ∧ t 1 = p
  · rw [if_pos (by rw [i1]; exact q1), decide_eq_true ⟨1, q1⟩]; rfl
  rw [if_neg (by rw [i1]; exact q1)]
  by_cases q2 : 2 < n ∧ t 2 = p
  · rw [if_pos (by rw [i2]; exact q2), decide_eq_true ⟨2, q2⟩]; rfl
  rw [if_neg (by rw [i2]; exact q2), decide_eq_false]
  · rfl
  · rintro ⟨k, hk, e⟩
    rcases (show k = 0 ∨ k = 1 ∨ k = 2 by omega) with rfl | rfl | rfl
    · exact q0 ⟨hk, e⟩
    · exact q1 ⟨hk, e⟩
    · exact q2 ⟨hk, e⟩
end LCH
theorem hasT_in {r : Row} {h p : Nat} (hc : ChW r h) (hp : p < 1000000) : hasT (szN r h) (mbN r h) p = inCh r (nI p) h := by
  rw [Bool.eq_iff_iff, inCh_iff hc hp]
  unfold hasT
  rw [decide_eq_true_eq]
/-! the law's rows, as the court's row says -/
def nvR (r : Row) (n i : Nat) : Int32 := if i < 6 then r (7 + i) else if i = 6 then nI n else r (i - 7)
def pvL (r : Row) (p j : Nat) : Int32 := if p < ppl r then r (13 + 10 * j + p) else 0
def hfL (r : Row) (h j : Nat) : Int32 := if j < 5 then r (73 + 10 * h + j) else r (82 + 10 * h)
def hvL (r : Row) (h j : Nat) : Int32 := if h < hrs r then hfL r h j else 0
def cvL (r : Row) (h : Nat) : Int32 := if h < hrs r then nI (encT (szN r h) (mbN r h)) else 0
def LZ (m : Mem) (r : Row) (n : Nat) : Prop := (∀ i, i < 14 → m.1 162 i = nvR r n i) ∧ (∀ p j, p < 5 → j < 6 → m.1 163 (6 * p + j) = pvL r p j) ∧ (∀ h j, h < 8 → j < 6 → m.1 164 (6 * h + j) = hvL r h j) ∧ ∀ h, h < 8 → m.1 165 h = cvL r h
def LZB (r : Row) : Prop := ppl r ≤ 5 ∧ hrs r ≤ 8
section LSA
variable {m : Mem} {r : Row} {n h p j k : Nat} {β : Type}
theorem LZ.n0 (L : LZ m r n) : m.1 162 0 = r 7 := L.1 0 (by omega)
theorem LZ.n1 (L : LZ m r n) : m.1 162 1 = r 8 := L.1 1 (by omega)
theorem LZ.n2 (L : LZ m r n) : m.1 162 2 = r 9 := L.1 2 (by omega)
theorem LZ.n3 (L : LZ m r n) : m.1 162 3 = r 10 := L.1 3 (by omega)
theorem LZ.n4 (L : LZ m r n) : m.1 162 4 = r 11 := L.1 4 (by omega)
theorem LZ.n5 (L : LZ m r n) : m.1 162 5 = r 12 := L.1 5 (by omega)
theorem LZ.n6 (L : LZ m r n) : m.1 162 6 = nI n := L.1 6 (by omega)
theorem LZ.ns (L : LZ m r n) (hk : k < 7) : m.1 162 (7 + k) = r k := by
  rw [L.1 (7 + k) (by omega)]
  unfold nvR
  rw [if_neg (by omega), if_neg (by omega), show 7 + k - 7 = k by omega]
theorem LZ.pe (L : LZ m r n) (B : LZB r) (hp : p < ppl r) (hj : j < 6) : m.1 163 (6 * p + j) = r (13 + 10 * j + p) := by
  have := B.1
  rw [L.2.1 p j (by omega) hj]
  exact if_pos hp
theorem LZ.he (L : LZ m r n) (B : LZB r) (hh : h < hrs r) (hj : j < 6) : m.1 164 (6 * h + j) = hfL r h j := by
  have := B.2
  rw [L.2.2.1 h j (by omega) hj]
  exact if_pos hh
theorem LZ.ch (L : LZ m r n) (B : LZB r) (hh : h < hrs r) : m.1 165 h = nI (encT (szN r h) (mbN r h)) := by
  have := B.2
  rw [L.2.2.2 h (by omega)]
  exact if_pos hh
theorem LZB.mb (B : LZB r) (hc : ChW r h) : ∀ k, k < szN r h → mbN r h k < 5 := fun k hk => by
  have := (hc.2.2.1 k hk).1
  have := B.1
  omega
theorem x6 (a : Nat) : (6 : Int32) * nI a = nI (6 * a) := pz_mul 6 a
theorem pl2 (a : Nat) : nI a + 2 = nI (a + 2) := nI_add a 2
theorem pl3 (a : Nat) : nI a + 3 = nI (a + 3) := nI_add a 3
theorem pl4 (a : Nat) : nI a + 4 = nI (a + 4) := nI_add a 4
theorem pl5 (a : Nat) : nI a + 5 = nI (a + 5) := nI_add a 5
theorem LZ.cong {m' : Mem} (L : LZ m r n) (g : ∀ a, 162 ≤ a → m'.1 a = m.1 a) : LZ m' r n :=
  ⟨fun i hi => by rw [g 162 (by omega)]; exact L.1 i hi, fun p j hp hj => by rw [g 163 (by omega)]; exact L.2.1 p j hp hj, fun h j hh hj => by rw [g 164 (by omega)]; exact L.2.2.1 h j hh hj, fun h hh => by rw [g 165 (by omega)]; exact L.2.2.2 h hh⟩
end LSA
