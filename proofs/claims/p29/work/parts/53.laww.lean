/-! why a chain cannot be, as the law says -/
theorem lp_any {T : Type} {body : Int32 → Option (Int32 ⊕ T)} (bad : Nat → Bool) {N : Nat} {t e : T} (b : Bool) (hN : N < 1000000) (he : body (nI N) = some (.inr e)) : ∀ (d a : Nat), a + d = N → (∀ k, a ≤ k → k < N → body (nI k) = if bad k = true then some (.inr t) else some (.inl (nI (k + 1)))) → (b = true ↔ ∃ k, a ≤ k ∧ k < N ∧ bad k = true) → ∀ n, d < n → lp body n (nI a) = some (if b = true then t else e) := by
  intro d
  induction d with
  | zero =>
    intro a ha hs hb n hn
    obtain ⟨n, rfl⟩ : ∃ k, n = k + 1 := ⟨n - 1, by omega⟩
    have : a = N := by omega
    subst this
    rw [lp, he, if_neg]
    intro q
    obtain ⟨k, k1, k2, -⟩ := hb.mp q
    omega
  | succ d ih =>
    intro a ha hs hb n hn
    obtain ⟨n, rfl⟩ : ∃ k, n = k + 1 := ⟨n - 1, by omega⟩
    rw [lp, hs a (Nat.le_refl _) (by omega)]
    by_cases q : bad a = true
    · rw [if_pos q, if_pos (hb.mpr ⟨a, Nat.le_refl _, by omega, q⟩)]
    · rw [if_neg q]
      refine ih (a + 1) (by omega) (fun k k1 k2 => hs k (by omega) k2) ?_ n (by omega)
      rw [hb]
      constructor
      · rintro ⟨k, k1, k2, k3⟩
        by_cases e : k = a
        · rw [e] at k3; exact absurd k3 q
        · exact ⟨k, by omega, k2, k3⟩
      · rintro ⟨k, k1, k2, k3⟩
        exact ⟨k, by omega, k2, k3⟩
theorem lp_any0 {T : Type} {body : Int32 → Option (Int32 ⊕ T)} (bad : Nat → Bool) {a N : Nat} {t e : T} (b : Bool) (haN : a ≤ N) (hN : N < 1000) (he : body (nI N) = some (.inr e)) (hs : ∀ k, a ≤ k → k < N → body (nI k) = if bad k = true then some (.inr t) else some (.inl (nI (k + 1)))) (hb : b = true ↔ ∃ k, a ≤ k ∧ k < N ∧ bad k = true) : lp body 1000000 (nI a) = some (if b = true then t else e) :=
  lp_any bad b (by omega) he (N - a) a (by omega) hs hb 1000000 (by omega)
section LWHY
variable {m : Mem} {r : Row} {n h k q : Nat} {t : Nat → Nat}
theorem okN_iff {l : Nat} : ∀ j, okN r l t j = true ↔ ∀ k, k < j → ¬ r (13 + t k) &&& spk r l t k = 0
  | 0 => by simp [okN]
  | j + 1 => by
    rw [okN, Bool.and_eq_true, okN_iff j, decide_eq_true_eq]
    constructor
    · rintro ⟨a, b⟩ k hk
      by_cases e : k = j
      · rw [e]; exact b
      · exact a k (by omega)
    · intro a
      exact ⟨fun k hk => a k (by omega), a j (by omega)⟩
theorem Tri.five (ht : Tri r n t) (B : LZB r) : ∀ k, k < n → t k < 5 := fun k hk => by
  have := ht.2.2.1 k hk
  have := B.1
  omega
/-- the languages, in the law's way -/
theorem l_why88 (L : LZ m r q) (B : LZB r) (ht : Tri r n t) (b : Bool) (hb : b = true ↔ ∃ k, 1 ≤ k ∧ k < n ∧ decide (r (13 + t k) &&& r (13 + t (k - 1)) = 0) = true) : lp (f_L_why_L88 (nI (encT n t)) m (nI n)) 1000000 1 = some (if b = true then .inr 3 else .inl ()) := by
  have t5 := ht.five B
  have h3 := ht.2.1
  have h1 := ht.1
  refine lp_any0 (fun k => decide (r (13 + t k) &&& r (13 + t (k - 1)) = 0)) (a := 1) (N := n) b (by omega) (by omega) ?_ (fun k k1 k2 => ?_) hb
  · rw [f_L_why_L88, if_pos (by rw [pz_le (by omega) (by omega)]; omega)]
  · have e1 := ht.2.2.1 k k2
    have e2 := ht.2.2.1 (k - 1) (by omega)
    have d1 := L.pe B e1 (j := 0) (by omega)
    have d2 := L.pe B e2 (j := 0) (by omega)
    have g1 := t5 k k2
    have g2 := t5 (k - 1) (by omega)
    have ek : nI k - 1 = nI (k - 1) := by
      obtain ⟨j, rfl⟩ : ∃ j, k = j + 1 := ⟨k - 1, by omega⟩
      exact nI_pred j
    rw [f_L_why_L88, if_neg (by rw [pz_le (by omega) (by omega)]; omega), l_whoN t5 h3 k2, pz_bnd, x6, pz_in (by omega) (by omega), pz_cl (by omega), pz_nm, ek, l_whoN t5 h3 (by omega), pz_bnd, x6, pz_in (by omega) (by omega), pz_cl (by omega), pz_nm, pz_s, pz_nm, show 6 * t k = 6 * t k + 0 from rfl, d1, show 6 * t (k - 1) = 6 * t (k - 1) + 0 from rfl, d2]
    show (if r (13 + t k) &&& r (13 + t (k - 1)) = 0 then _ else _) = _
    by_cases z : r (13 + t k) &&& r (13 + t (k - 1)) = 0
    · rw [if_pos z, if_pos (decide_eq_true z)]
    · rw [if_neg z, if_neg (by rw [decide_eq_true_eq]; exact z)]
theorem l_why136 (L : LZ m r q) (B : LZB r) (hW : HW r h) (hh : h < hrs r) (ht : Tri r n t) : lp (f_L_why_L136 (nI h) (nI (encT n t)) m (nI n)) 1000000 0 = some (if (!ceN r (kndR r h) t n) = true then .inr 4 else .inl ()) := by
  have t5 := ht.five B
  have h3 := ht.2.1
  have h1 := ht.1
  have b8 := B.2
  have k3 := hW.2.2.2.1
  refine lp_any0 (fun k => !bt (r (23 + t k)) (kndR r h)) (a := 0) (N := n) _ (by omega) (by omega) ?_ (fun k _ k2 => ?_) ?_
  · rw [f_L_why_L136, if_pos (by rw [pz_le (by omega) (by omega)]; omega)]
  · have e1 := ht.2.2.1 k k2
    have d1 := L.pe B e1 (j := 1) (by omega)
    have d2 := L.he B hh (j := 0) (by omega)
    have g1 := t5 k k2
    have d2' : m.1 164 (6 * h) = nI (kndR r h) := by
      have : m.1 164 (6 * h + 0) = r (73 + 10 * h + 0) := d2
      rw [show 6 * h = 6 * h + 0 from rfl, this, show 73 + 10 * h + 0 = 73 + 10 * h from rfl, hW.2.2.2.2]
    rw [f_L_why_L136, if_neg (by rw [pz_le (by omega) (by omega)]; omega), l_whoN t5 h3 k2, pz_bnd, x6, pz_s, pz_in (by omega) (by omega), pz_cl (by omega), pz_nm, x6, pz_in (by omega) (by omega), pz_cl (by omega), pz_nm, d1, d2', shr1 _ (by omega), pz_nm, bI_ite, pz_s, pz_nm, show 13 + 10 * 1 + t k = 23 + t k by omega]
    cases bt (r (23 + t k)) (kndR r h) <;> rfl
  · rw [Bool.not_eq_true', ← Bool.not_eq_true, ceN_iff]
    constructor
    · intro a
      apply Classical.byContradiction
      intro c
      refine a (fun j hj => ?_)
      cases e : bt (r (23 + t j)) (kndR r h)
      · exact absurd ⟨j, Nat.zero_le _, hj, by simp [e]⟩ c
      · rfl
    · rintro ⟨k, -, k2, k3⟩ a
      rw [a k k2] at k3
      cases k3
def exB (f : Nat → Bool) : Nat → Bool
  | 0 => false
  | k + 1 => exB f k || f k
theorem exB_iff {f : Nat → Bool} : ∀ {j : Nat}, exB f j = true ↔ ∃ k, k < j ∧ f k = true
  | 0 => by simp [exB]
  | j + 1 => by
    rw [exB, Bool.or_eq_true, exB_iff]
    constructor
    · rintro (⟨k, a, b⟩ | b)
      · exact ⟨k, by omega, b⟩
      · exact ⟨j, by omega, b⟩
    · rintro ⟨k, a, b⟩
      by_cases e : k = j
      · rw [e] at b; exact Or.inr b
      · exact Or.inl ⟨k, by omega, b⟩
/-- who is busy -/
theorem l_why191 (L : LZ m r q) (B : LZB r) (hn : NumW r) (hw : ChWs r) (hh : h < hrs r) (ht : Tri r n t) (hk : k < n) : lp (f_L_why_L191 (nI h) (nI (encT n t)) m (nI k)) 1000000 0 = some (if busy r (nI (t k)) h = true then .inr (.inr (.inr 5)) else .inl ()) := by
  have t5 := ht.five B
  have h3 := ht.2.1
  have h1 := ht.1
  have b8 := B.2
  have g1 := t5 k hk
  refine lp_any0 (fun o => decide (o ≠ h) && (lst r o && (inCh r (nI (t k)) o && clsh r o h))) (a := 0) (N := hrs r) _ (by omega) (by omega) ?_ (fun o _ ho => ?_) ?_
  · rw [f_L_why_L191, L.n1, hn.2.2.2, if_pos (by rw [pz_le (by omega) (by omega)]; omega)]
  · have d1 : m.1 164 (6 * o + 4) = r (73 + 10 * o + 4) := L.he B ho (j := 4) (by omega)
    have d2 := L.ch B ho
    have hc := hw o ho
    have tb := B.mb hc
    have eo : (nI o = nI h) = (o = h) := pz_eq (by omega) (by omega)
    rw [f_L_why_L191, L.n1, hn.2.2.2, if_neg (by rw [pz_le (by omega) (by omega)]; omega), pz_s, x6, pl4, pz_in (by omega) (by omega), pz_cl (by omega), d1]
    simp only [pz_nm]
    rw [pz_in (by omega) (by omega), pz_cl (by omega), d2, l_whoN t5 h3 hk, pz_bnd, l_has tb hc.1 (by omega), hasT_in hc (by omega), pz_bnd, bI_ite, l_clash L B ho hh, pz_bnd, bI_ite]
    by_cases e : o = h
    · rw [if_pos (by rw [eo]; exact e), if_neg (by simp [e])]
    · rw [if_neg (by rw [eo]; exact e)]
      unfold lst
      by_cases s : r (73 + 10 * o + 4) = 0
      · rw [if_pos s]
        cases inCh r (nI (t k)) o
        · rw [if_neg (by simp), if_neg (by simp)]
        · cases clsh r o h
          · rw [if_pos rfl, if_neg (by simp), if_neg (by simp)]
          · rw [if_pos rfl, if_pos rfl, if_pos (by simp [e, s])]
      · rw [if_neg s, if_neg (by simp [s])]
  · unfold busy
    rw [busy_iff]
    constructor
    · rintro ⟨o, a, b, c, d, e⟩
      exact ⟨o, Nat.zero_le _, a, by simp [b, c, d, e]⟩
    · rintro ⟨o, -, a, b⟩
      simp only [Bool.and_eq_true, decide_eq_true_eq] at b
      exact ⟨o, a, b.1, b.2.1, b.2.2.1, b.2.2.2⟩
theorem l_why181 (L : LZ m r q) (B : LZB r) (hn : NumW r) (hw : ChWs r) (hh : h < hrs r) (ht : Tri r n t) : lp (f_L_why_L181 (nI h) (nI (encT n t)) m (nI n)) 1000000 0 = some (if buN r h t n = true then .inr 5 else .inl ()) := by
  have h3 := ht.2.1
  refine lp_any0 (fun k => busy r (nI (t k)) h) (a := 0) (N := n) _ (by omega) (by omega) ?_ (fun k _ k2 => ?_) ?_
  · rw [f_L_why_L181, if_pos (by rw [pz_le (by omega) (by omega)]; omega)]
  · rw [f_L_why_L181, if_neg (by rw [pz_le (by omega) (by omega)]; omega), l_why191 L B hn hw hh ht k2]
    by_cases b : busy r (nI (t k)) h = true
    · rw [if_pos b, if_pos b, pz_jr]
    · rw [if_neg b, if_neg b, pz_jl, pz_s, pz_nm]
  · rw [buN_iff]
    constructor
    · rintro ⟨j, a, b⟩
      exact ⟨j, Nat.zero_le _, a, b⟩
    · rintro ⟨j, -, a, b⟩
      exact ⟨j, a, b⟩
def adjB (r : Row) (n : Nat) (t : Nat → Nat) : Bool := exB (fun k => decide (1 ≤ k) && decide (r (13 + t k) &&& r (13 + t (k - 1)) = 0)) n
theorem chOK_eq (ht : Tri r n t) {l : Nat} (hl : l < 10) : chOK r l n t = (bt (r (13 + t 0)) l && (bt (r (13 + t (n - 1))) 0 && !adjB r n t)) := by
  have h1 := ht.1
  have sp : ∀ k, 1 ≤ k → spk r l t k = r (13 + t (k - 1)) := fun k hk => by
    obtain ⟨j, rfl⟩ : ∃ j, k = j + 1 := ⟨k - 1, by omega⟩
    rfl
  have e0 := and_bo (r (13 + t 0)) hl
  rw [Bool.eq_iff_iff]
  unfold chOK
  rw [Bool.and_eq_true, Bool.and_eq_true, Bool.and_eq_true, okN_iff, sp n h1]
  constructor
  · rintro ⟨a, b⟩
    refine ⟨?_, b, ?_⟩
    · have := a 0 (by omega)
      rw [show spk r l t 0 = boI (nI l) from rfl, e0] at this
      simpa using this
    · rw [Bool.not_eq_true', ← Bool.not_eq_true]
      unfold adjB
      rw [exB_iff]
      rintro ⟨k, k1, k2⟩
      rw [Bool.and_eq_true, decide_eq_true_eq, decide_eq_true_eq] at k2
      have := a k k1
      rw [sp k k2.1] at this
      exact this k2.2
  · rintro ⟨a, b, c⟩
    refine ⟨fun k hk => ?_, b⟩
    by_cases k0 : k = 0
    · subst k0
      rw [show spk r l t 0 = boI (nI l) from rfl, e0, a]
      simp
    · rw [sp k (by omega)]
      intro z
      rw [Bool.not_eq_true', ← Bool.not_eq_true] at c
      unfold adjB at c
      rw [exB_iff] at c
      exact c ⟨k, hk, by rw [Bool.and_eq_true, decide_eq_true_eq, decide_eq_true_eq]; exact ⟨by omega, z⟩⟩
def STG (r : Row) : Prop := ∀ h, h < hrs r → ∃ s, s ≤ 3 ∧ r (73 + 10 * h + 4) = nI s
theorem l_why (L : LZ m r q) (B : LZB r) (hn : NumW r) (hw : ChWs r) (hW : HW r h) (hG : STG r) (hh : h < hrs r) (ht : Tri r n t) : f_L_why (nI h) (nI (encT n t)) m = some (rsnR r h n t) := by
  have t5 := ht.five B
  have h3 := ht.2.1
  have h1 := ht.1
  have b8 := B.2
  obtain ⟨s, s3, es⟩ := hG h hh
  have el : (r (73 + 10 * h + 4) ≤ 0) = (lst r h = true) := by
    unfold lst
    rw [decide_eq_true_eq, es, i32_le0 (by omega), show (nI s = 0) = (s = 0) from pz_eq (b := (0 : Nat)) (by omega) (by decide)]
  have p0 := ht.2.2.1 0 (by omega)
  have pl := ht.2.2.1 (n - 1) (by omega)
  have f0 := t5 0 (by omega)
  have fl := t5 (n - 1) (by omega)
  have d4 : m.1 164 (6 * h + 4) = r (73 + 10 * h + 4) := L.he B hh (j := 4) (by omega)
  have d2 : m.1 164 (6 * h + 2) = r (73 + 10 * h + 2) := L.he B hh (j := 2) (by omega)
  have d1 : m.1 164 (6 * h + 1) = nI (lngR r h) := by
    rw [← hW.2.2.1]
    exact L.he B hh (j := 1) (by omega)
  have q0 : m.1 163 (6 * t 0) = r (13 + t 0) := L.pe B p0 (j := 0) (by omega)
  have ql : m.1 163 (6 * t (n - 1)) = r (13 + t (n - 1)) := L.pe B pl (j := 0) (by omega)
  have en : nI n - 1 = nI (n - 1) := by
    obtain ⟨j, rfl⟩ : ∃ j, n = j + 1 := ⟨n - 1, by omega⟩
    exact nI_pred j
  have w0 := l_whoN (m := m) t5 h3 (show 0 < n by omega)
  rw [show nI 0 = (0 : Int32) from rfl] at w0
  have a88 := l_why88 L B ht (adjB r n t) (by
    unfold adjB
    rw [exB_iff]
    constructor
    · rintro ⟨k, k1, k2⟩
      rw [Bool.and_eq_true, decide_eq_true_eq] at k2
      exact ⟨k, k2.1, k1, k2.2⟩
    · rintro ⟨k, k1, k2, k3⟩
      exact ⟨k, k2, by rw [Bool.and_eq_true, decide_eq_true_eq]; exact ⟨k1, k3⟩⟩)
  unfold f_L_why
  rw [x6, pl4, pz_in (by omega) (by omega), pz_cl (by omega), d4, pz_nm]
  unfold rsnR
  by_cases hl : lst r h = true
  case neg => rw [if_neg (by rw [el]; exact hl), if_pos (by simpa using hl)]
  rw [if_pos (by rw [el]; exact hl), if_neg (by rw [hl]; simp), pl2, pz_in (by omega) (by omega), pz_cl (by omega), d2, pz_nm, L.n2]
  have estd : std r h = decide (¬ r 9 < r (73 + 10 * h + 2)) := rfl
  by_cases hs : r 9 < r (73 + 10 * h + 2)
  case neg => rw [if_neg hs, if_pos (by rw [estd]; simp [hs])]
  rw [if_pos hs, if_neg (by rw [estd]; simp [hs]), l_size t5 h3, pz_bnd, w0, pz_bnd, x6, pz_in (by omega) (by omega), pz_cl (by omega), q0, pz_nm, pz_s, pz_in (by omega) (by omega), pz_cl (by omega), d1, pz_nm, shr1 _ hW.2.1, pz_nm, bI_ite, en, l_whoN t5 h3 (by omega), pz_bnd, x6, pz_in (by omega) (by omega), pz_cl (by omega), ql, pz_nm, and1, bI_ite, a88, l_why136 L B hW hh ht, l_why181 L B hn hw hh ht, chOK_eq ht hW.2.1]
  cases bt (r (13 + t 0)) (lngR r h)
  · rfl
  cases bt (r (13 + t (n - 1))) 0
  · rfl
  cases adjB r n t
  · cases ceN r (kndR r h) t n
    · rfl
    · cases buN r h t n <;> rfl
  · rfl
end LWHY
