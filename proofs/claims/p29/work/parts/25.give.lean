/-! writing: the model's row as a whole, the class's court cell by cell -/
theorem sa_si (m : Mem) (k j : Nat) (v : Int32) : si m k j v = sa m k (upd (m.1 k) j v) := by
  unfold si sa upd
  refine Prod.ext ?_ rfl
  funext a i
  by_cases h : a = k
  · subst h; simp
  · simp [h]
theorem sa_self (m : Mem) (k : Nat) (f : Nat → Int32) : (sa m k f).1 k = f := by simp [sa]
theorem sa_ne {m : Mem} {k a : Nat} (f : Nat → Int32) (h : a ≠ k) : (sa m k f).1 a = m.1 a := by simp [sa, h]
theorem sa_2 (m : Mem) (k : Nat) (f : Nat → Int32) : (sa m k f).2 = m.2 := rfl
theorem sa_sa (m : Mem) (k : Nat) (f g : Nat → Int32) : sa (sa m k f) k g = sa m k g := by
  unfold sa
  refine Prod.ext ?_ rfl
  funext a
  by_cases h : a = k <;> simp [h]
theorem sa_id (m : Mem) (k : Nat) : sa m k (m.1 k) = m := by
  unfold sa
  refine Prod.ext ?_ rfl
  funext a
  by_cases h : a = k
  · subst h; simp
  · simp [h]
theorem si_at (m : Mem) (k j : Nat) (v : Int32) : (si m k j v).1 k j = v := by simp [si]
theorem si_off {m : Mem} {k j a i : Nat} {v : Int32} (h : a ≠ k ∨ i ≠ j) : (si m k j v).1 a i = m.1 a i := by
  show (if a = k ∧ i = j then v else m.1 a i) = _
  rw [if_neg (fun q => h.elim (fun w => w q.1) (fun w => w q.2))]
/-- outside the court at c nothing has changed -/
def FrC (c : Nat) (m m' : Mem) : Prop := (∀ a, (a < c ∨ c + 19 ≤ a) → m'.1 a = m.1 a) ∧ m'.2 = m.2
theorem FrC.rf {c : Nat} {m : Mem} : FrC c m m := ⟨fun _ _ => rfl, rfl⟩
theorem FrC.tr {c : Nat} {m m' m'' : Mem} (h : FrC c m m') (g : FrC c m' m'') : FrC c m m'' := ⟨fun a ha => (g.1 a ha).trans (h.1 a ha), g.2.trans h.2⟩
theorem FrC.put {c : Nat} {m m' : Mem} {k j : Nat} {v : Int32} (h : FrC c m m') (hk : k < 19) : FrC c m (si m' (c + k) j v) := ⟨fun a ha => by
  rw [si_ne (by omega)]
  exact h.1 a ha, h.2⟩
/-- the bits of a number below 1024 -/
def popc (x : Int32) : Int32 :=
  let a := x - ((x.toUInt32 >>> ((1 : Int32).toUInt32 &&& Int32.toUInt32 31)).toInt32 &&& 1431655765)
  let b := (a &&& 858993459) + ((a.toUInt32 >>> ((2 : Int32).toUInt32 &&& Int32.toUInt32 31)).toInt32 &&& 858993459)
  let d := (b + (b.toUInt32 >>> ((4 : Int32).toUInt32 &&& Int32.toUInt32 31)).toInt32) &&& 252645135
  let e := d + (d.toUInt32 >>> ((8 : Int32).toUInt32 &&& Int32.toUInt32 31)).toInt32
  let f := e + (e.toUInt32 >>> ((16 : Int32).toUInt32 &&& Int32.toUInt32 31)).toInt32
  f &&& 63
theorem s6_bitCount {x : Int32} {m : Mem} : f_J6_bitCount_0f7a4 x m = some (popc x) := rfl
def ct (S : Nat → Bool) : Nat → Nat
  | 0 => 0
  | k + 1 => ct S k + (if S k = true then 1 else 0)
theorem popc_dec : ∀ n, n < 1024 → popc (nI n) = nI (ct (fun p => n.testBit p) 10) := by decide +kernel
theorem ct_cong {S T : Nat → Bool} : ∀ {n : Nat}, (∀ p, p < n → S p = T p) → ct S n = ct T n
  | 0, _ => rfl
  | n + 1, h => by rw [ct, ct, ct_cong (fun p hp => h p (by omega)), h n (by omega)]
theorem MK.pop {M : Int32} {S : Nat → Bool} (h : MK M S) : popc M = nI (ct S 10) := by
  obtain ⟨n, h1, rfl, h2⟩ := h.num
  rw [popc_dec n h1, ct_cong h2]
theorem ct_one (a : Nat) : ∀ n, ct (fun p => decide (a = p)) n = if a < n then 1 else 0
  | 0 => rfl
  | n + 1 => by
    rw [ct, ct_one a n]
    by_cases h : a = n
    · subst h; simp
    · by_cases g : a < n
      · simp [h, g, show a < n + 1 by omega]
      · simp [h, g, show ¬ a < n + 1 by omega]
theorem ct_or {S T : Nat → Bool} : ∀ {n : Nat}, (∀ p, p < n → S p = true → T p = true → False) → ct (fun p => S p || T p) n = ct S n + ct T n
  | 0, _ => rfl
  | n + 1, h => by
    rw [ct, ct, ct, ct_or (fun p hp => h p (by omega))]
    have := h n (by omega)
    cases e : S n <;> cases f : T n <;> simp [e, f] at this ⊢ <;> omega
theorem tri_ct {r : Row} {n : Nat} {t : Nat → Nat} (hn : ppl r ≤ 10) (ht : Tri r n t) : ct (fun p => decide (∃ k, k < n ∧ t k = p)) 10 = n := by
  obtain ⟨n1, n3, tp, td⟩ := ht
  rcases (show n = 1 ∨ n = 2 ∨ n = 3 by omega) with rfl | rfl | rfl
  · have p0 := tp 0 (by omega)
    rw [ct_cong (T := fun p => decide (t 0 = p)) (fun p _ => decide_eq_decide.mpr ⟨fun ⟨k, hk, e⟩ => by rw [show k = 0 by omega] at e; exact e, fun e => ⟨0, by omega, e⟩⟩), ct_one, if_pos (by omega)]
  · have p0 := tp 0 (by omega)
    have p1 := tp 1 (by omega)
    rw [ct_cong (T := fun p => decide (t 0 = p) || decide (t 1 = p)) (fun p _ => by
      rw [Bool.eq_iff_iff, Bool.or_eq_true, decide_eq_true_eq, decide_eq_true_eq, decide_eq_true_eq]
      exact ⟨fun ⟨k, hk, e⟩ => by
        rcases (show k = 0 ∨ k = 1 by omega) with rfl | rfl
        · exact Or.inl e
        · exact Or.inr e, fun e => e.elim (fun e => ⟨0, by omega, e⟩) (fun e => ⟨1, by omega, e⟩)⟩), ct_or (fun p _ a b => by
      simp only [decide_eq_true_eq] at a b
      have := td 0 1 (by omega) (by omega) (a.trans b.symm)
      omega), ct_one, ct_one, if_pos (by omega), if_pos (by omega)]
  · have p0 := tp 0 (by omega)
    have p1 := tp 1 (by omega)
    have p2 := tp 2 (by omega)
    rw [ct_cong (T := fun p => (decide (t 0 = p) || decide (t 1 = p)) || decide (t 2 = p)) (fun p _ => by
      rw [Bool.eq_iff_iff, Bool.or_eq_true, Bool.or_eq_true, decide_eq_true_eq, decide_eq_true_eq, decide_eq_true_eq, decide_eq_true_eq]
      exact ⟨fun ⟨k, hk, e⟩ => by
        rcases (show k = 0 ∨ k = 1 ∨ k = 2 by omega) with rfl | rfl | rfl
        · exact Or.inl (Or.inl e)
        · exact Or.inl (Or.inr e)
        · exact Or.inr e, fun e => e.elim (fun e => e.elim (fun e => ⟨0, by omega, e⟩) (fun e => ⟨1, by omega, e⟩)) (fun e => ⟨2, by omega, e⟩)⟩), ct_or (fun p _ a b => by
      simp only [Bool.or_eq_true, decide_eq_true_eq] at a b
      rcases a with a | a
      · have := td 0 2 (by omega) (by omega) (a.trans b.symm); omega
      · have := td 1 2 (by omega) (by omega) (a.trans b.symm); omega), ct_or (fun p _ a b => by
      simp only [decide_eq_true_eq] at a b
      have := td 0 1 (by omega) (by omega) (a.trans b.symm)
      omega), ct_one, ct_one, ct_one, if_pos (by omega), if_pos (by omega), if_pos (by omega)]
/-- a hearing's chain laid anew: n people t 0 .. (n 0: none) -/
def giveR (r : Row) (h n : Nat) (t : Nat → Nat) : Row := upd (upd (upd (upd r (73 + 10 * h + 5) (nI n)) (79 + 10 * h) (tri n t 0)) (80 + 10 * h) (tri n t 1)) (81 + 10 * h) (tri n t 2)
theorem upd_swap (f : Row) {i j : Nat} (h : i ≠ j) (x y : Int32) : upd (upd f i x) j y = upd (upd f j y) i x := by
  funext k
  unfold upd
  by_cases a : k = i
  · subst a; simp [h]
  · simp [a]
theorem upd_upd (f : Row) (i : Nat) (x y : Int32) : upd (upd f i x) i y = upd f i y := by
  funext k
  unfold upd
  by_cases a : k = i <;> simp [a]
theorem giveR_ne {r : Row} {h n : Nat} {t : Nat → Nat} {i : Nat} (hi : i < 78 + 10 * h ∨ 82 + 10 * h ≤ i) : giveR r h n t i = r i := by
  unfold giveR
  rw [upd_ne (by omega), upd_ne (by omega), upd_ne (by omega), upd_ne (by omega)]
theorem giveR_0 {r : Row} {h n : Nat} {t : Nat → Nat} : giveR r h n t (73 + 10 * h + 5) = nI n := by
  unfold giveR
  rw [upd_ne (by omega), upd_ne (by omega), upd_ne (by omega), upd_self]
theorem giveR_k {r : Row} {h n : Nat} {t : Nat → Nat} : ∀ k, k < 3 → giveR r h n t (79 + 10 * h + k) = tri n t k := by
  intro k hk
  unfold giveR
  rcases (show k = 0 ∨ k = 1 ∨ k = 2 by omega) with rfl | rfl | rfl
  · rw [upd_ne (by omega), upd_ne (by omega), show 79 + 10 * h + 0 = 79 + 10 * h from rfl, upd_self]
  · rw [upd_ne (by omega), show 79 + 10 * h + 1 = 80 + 10 * h by omega, upd_self]
  · rw [show 79 + 10 * h + 2 = 81 + 10 * h by omega, upd_self]
theorem giveR_msk {r : Row} {h n : Nat} {t : Nat → Nat} : mskN (giveR r h n t) h = boI (tri n t 0) ||| boI (tri n t 1) ||| boI (tri n t 2) := by
  have e0 := giveR_k (r := r) (h := h) (n := n) (t := t) 0 (by omega)
  have e1 := giveR_k (r := r) (h := h) (n := n) (t := t) 1 (by omega)
  have e2 := giveR_k (r := r) (h := h) (n := n) (t := t) 2 (by omega)
  rw [show 79 + 10 * h + 0 = 79 + 10 * h from rfl] at e0
  rw [show 79 + 10 * h + 1 = 80 + 10 * h by omega] at e1
  rw [show 79 + 10 * h + 2 = 81 + 10 * h by omega] at e2
  rw [mskN_eq, e0, e1, e2]
theorem giveR_msk_ne {r : Row} {h n : Nat} {t : Nat → Nat} {o : Nat} (ho : o ≠ h) : mskN (giveR r h n t) o = mskN r o := by
  rw [mskN_eq, mskN_eq, giveR_ne (by omega), giveR_ne (by omega), giveR_ne (by omega)]
theorem tri_pop {r : Row} {n : Nat} {t : Nat → Nat} (hn : ppl r ≤ 10) (ht : n = 0 ∨ Tri r n t) : popc (boI (tri n t 0) ||| boI (tri n t 1) ||| boI (tri n t 2)) = nI n := by
  rcases ht with rfl | ht
  · have e : ∀ k, tri 0 t k = -1 := fun k => by unfold tri; rw [if_neg (by omega)]
    rw [e, e, e]
    decide
  · have e := (tri_MK hn ht).pop
    rw [tri_ct hn ht] at e
    rw [show tri n t 0 = nI (t 0) by unfold tri; rw [if_pos (by have := ht.1; omega)]]
    exact e
theorem s3_giveChain0 {c : Nat} {m : Mem} {r : Row} {h n : Nat} {t : Nat → Nat} (hC1 : CR0 c m r) (hC2 : ∀ o, o < hrs r → o ≠ h → m.1 (c + 16) o = mskN r o) (hn : NumW r) (hh : h < hrs r) (ht : n = 0 ∨ Tri r n t) : ∃ m', f_X3_giveChain c (nI h) (tri n t 0) (tri n t 1) (tri n t 2) m = some m' ∧ CR c m' (giveR r h n t) ∧ FrC c m m' := by
  have h30 := hn.2.2.1
  have l0 : loc 17 (h * 3) = some (79 + 10 * h) := by
    have h1 : h * 3 < 90 := by omega
    have h2 : h * 3 / 3 = h := by omega
    have h3 : h * 3 % 3 = 0 := by omega
    simp [loc, h1, h2, h3]
  have l1 : loc 17 (h * 3 + 1) = some (80 + 10 * h) := by
    have h1 : h * 3 + 1 < 90 := by omega
    have h2 : (h * 3 + 1) / 3 = h := by omega
    have h3 : (h * 3 + 1) % 3 = 1 := by omega
    simp [loc, h1, h2, h3]; omega
  have l2 : loc 17 (h * 3 + 2) = some (81 + 10 * h) := by
    have h1 : h * 3 + 2 < 90 := by omega
    have h2 : (h * 3 + 2) / 3 = h := by omega
    have h3 : (h * 3 + 2) % 3 = 2 := by omega
    simp [loc, h1, h2, h3]; omega
  have l3 : loc 14 h = some (73 + 10 * h + 5) := by
    have h1 : h < 30 := by omega
    simp [loc, h1]
  refine ⟨si (si (si (si (si m (c + 17) (h * 3) (tri n t 0)) (c + 17) (h * 3 + 1) (tri n t 1)) (c + 17) (h * 3 + 2) (tri n t 2)) (c + 16) h (boI (tri n t 0) ||| boI (tri n t 1) ||| boI (tri n t 2))) (c + 14) h (nI n), ?_, ⟨?_, ?_⟩, ?_⟩
  · unfold f_X3_giveChain
    rw [s3_has hC1, pz_bnd, ish_nI hn hh, bI_ite, if_pos rfl, show (3 : Int32) = nI 3 from rfl, pz_mul, pz_in (by omega) (by omega), pz_cl (by omega)]
    simp only [pz_nm]
    rw [show (1 : Int32) = nI 1 from rfl, pz_add, pz_in (by omega) (by omega), pz_cl (by omega), show (2 : Int32) = nI 2 from rfl, pz_add, pz_in (by omega) (by omega), pz_cl (by omega), s7_maskOf, pz_bnd, pz_in (by omega) (by omega), pz_in (by omega) (by omega), pz_cl (by omega), s6_bitCount, pz_bnd, pz_in (by omega) (by omega), si_at, tri_pop hn.1 ht]
  · have e := (((((hC1.put l0 (tri n t 0)).put l1 (tri n t 1)).put l2 (tri n t 2)).other (a := c + 16) (j := h) (Or.inr (Or.inr rfl)) (boI (tri n t 0) ||| boI (tri n t 1) ||| boI (tri n t 2))).put l3 (nI n))
    rw [upd_swap _ (i := 81 + 10 * h) (j := 73 + 10 * h + 5) (by omega), upd_swap _ (i := 80 + 10 * h) (j := 73 + 10 * h + 5) (by omega), upd_swap _ (i := 79 + 10 * h) (j := 73 + 10 * h + 5) (by omega)] at e
    exact e
  · intro o ho
    rw [giveR_ne (by omega)] at ho
    rw [si_ne (by omega)]
    by_cases q : o = h
    · subst q
      rw [si_at, giveR_msk]
    · rw [si_off (Or.inr q), si_ne (by omega), si_ne (by omega), si_ne (by omega), hC2 o ho q, giveR_msk_ne q]
  · exact ((((FrC.rf.put (by omega)).put (by omega)).put (by omega)).put (by omega)).put (by omega)
theorem s3_giveChain {c : Nat} {m : Mem} {r : Row} {h n : Nat} {t : Nat → Nat} (hC : CR c m r) (hn : NumW r) (hh : h < hrs r) (ht : n = 0 ∨ Tri r n t) : ∃ m', f_X3_giveChain c (nI h) (tri n t 0) (tri n t 1) (tri n t 2) m = some m' ∧ CR c m' (giveR r h n t) ∧ FrC c m m' := s3_giveChain0 hC.1 (fun o ho _ => hC.2 o ho) hn hh ht
