/-! chains that could be assigned -/
theorem bt_shr (x : Int32) : ∀ k, k < 10 → bt (x >>> (nI k &&& 31)) 0 = bt x k := by
  intro k hk
  unfold bt
  rw [Int32.toBitVec_shiftRight]
  have e : ((nI k &&& 31).toBitVec.smod 32) = BitVec.ofNat 32 k := by
    have : ∀ k, k < 10 → ((nI k &&& 31).toBitVec.smod 32) = BitVec.ofNat 32 k := by decide +kernel
    exact this k hk
  rw [e, BitVec.sshiftRight', BitVec.getLsbD_sshiftRight]
  have e2 : (BitVec.ofNat 32 k).toNat = k := by rw [BitVec.toNat_ofNat]; omega
  rw [e2]
  simp [show k < 32 by omega]
theorem and1 (y : Int32) : y &&& 1 = bI (bt y 0) := by
  refine i32_bits fun p hp => ?_
  rw [bt_and]
  have h1 : ∀ p, p < 32 → bt 1 p = decide (p = 0) := by decide +kernel
  have h2 : ∀ p, p < 32 → bt (bI true) p = decide (p = 0) := by decide +kernel
  rw [h1 p hp]
  by_cases q : p = 0
  · subst q
    cases e : bt y 0
    · simp [bI_f, bt_0]
    · rw [h2 0 (by omega)]; rfl
  · cases e : bt y 0
    · simp [bI_f, bt_0, q]
    · rw [h2 p hp]; simp [q]
theorem shr1 (x : Int32) {k : Nat} (hk : k < 10) : x >>> (nI k &&& 31) &&& 1 = bI (bt x k) := by
  rw [and1, bt_shr x k hk]
theorem and_bo (x : Int32) {k : Nat} (hk : k < 10) : (x &&& boI (nI k) = 0) = (bt x k = false) := by
  have h1 := boI_dec k hk
  apply propext
  constructor
  · intro e
    have : bt (x &&& boI (nI k)) k = false := by rw [e, bt_0]
    rw [bt_and, h1 k (by omega)] at this
    simpa using this
  · intro e
    refine i32_bits fun p hp => ?_
    rw [bt_and, h1 p hp, bt_0]
    by_cases q : p = k
    · subst q; simp [e]
    · simp [q]
theorem shl_bo {k : Nat} (hk : k < 10) : (1 : Int32) <<< (nI k &&& 31) = boI (nI k) := by
  unfold boI
  rw [if_pos (nI_pos' (by omega))]
theorem bI_ne (b : Bool) : (bI b = 1) = (b = true) := by cases b <;> decide
/-- n people t 0 .. in order, as three numbers -/
def tri (n : Nat) (t : Nat → Nat) (k : Nat) : Int32 := if k < n then nI (t k) else -1
def Tri (r : Row) (n : Nat) (t : Nat → Nat) : Prop := 1 ≤ n ∧ n ≤ 3 ∧ (∀ k, k < n → t k < ppl r) ∧ ∀ i j, i < n → j < n → t i = t j → i = j
def spk (r : Row) (l : Nat) (t : Nat → Nat) : Nat → Int32
  | 0 => boI (nI l)
  | k + 1 => r (13 + t k)
def okN (r : Row) (l : Nat) (t : Nat → Nat) : Nat → Bool
  | 0 => true
  | k + 1 => okN r l t k && decide (¬ r (13 + t k) &&& spk r l t k = 0)
def chOK (r : Row) (l n : Nat) (t : Nat → Nat) : Bool := okN r l t n && bt (spk r l t n) 0
def ceN (r : Row) (kd : Nat) (t : Nat → Nat) : Nat → Bool
  | 0 => true
  | k + 1 => ceN r kd t k && bt (r (23 + t k)) kd
def buN (r : Row) (h : Nat) (t : Nat → Nat) : Nat → Bool
  | 0 => false
  | k + 1 => buN r h t k || busy r (nI (t k)) h
def lngR (r : Row) (h : Nat) : Nat := (r (73 + 10 * h + 1)).toNatClampNeg
def kndR (r : Row) (h : Nat) : Nat := (r (73 + 10 * h)).toNatClampNeg
/-- why a chain cannot be assigned -/
def rsnR (r : Row) (h n : Nat) (t : Nat → Nat) : Int32 :=
  if lst r h = false then 1 else if std r h = true then 2 else if chOK r (lngR r h) n t = false then 3 else if ceN r (kndR r h) t n = false then 4 else if buN r h t n = true then 5 else 0
def HW (r : Row) (h : Nat) : Prop := ChW r h ∧ lngR r h < 10 ∧ r (73 + 10 * h + 1) = nI (lngR r h) ∧ kndR r h < 3 ∧ r (73 + 10 * h) = nI (kndR r h)
theorem bI_and (a b : Bool) : (if bI a = 0 then (0 : Int32) else bI b) = bI (a && b) := by cases a <;> cases b <;> rfl
section CLASSR
variable {c : Nat} {m : Mem} {r : Row} {h n p q k : Nat} {t : Nat → Nat} {x y z : Int32}
theorem s6_certifiedFor {kd : Nat} (hC : CR0 c m r) (hn : NumW r) (hk : kd < 10) : ∃ M, f_X6_certifiedFor c (nI kd) m = some M ∧ MK M (fun p => decide (p < ppl r) && bt (r (23 + p)) kd) := by
  have h10 := hn.1
  have e : ∃ M, lp (f_X6_certifiedFor_L4 c (nI kd) m) 1000000 (0, 0) = some M ∧ MK M (fun p => decide (p < ppl r) && bt (r (23 + p)) kd) := by
    refine lp_inv (fun i (s : Int32 × Int32) => s.2 = nI i ∧ MK s.1 (fun p => decide (p < i) && bt (r (23 + p)) kd)) (N := ppl r) (fun i s hi hI => ?_) (fun s hI => ?_) (0, 0) ⟨rfl, MK.none.cong (fun p _ => by simp)⟩ (by omega)
    · obtain ⟨M, w⟩ := s
      obtain ⟨rfl, hM⟩ := hI
      rw [f_X6_certifiedFor_L4, hC.people, hn.2.1, if_neg (by rw [pz_le (by omega) (by omega)]; omega), pz_in (by omega) (by omega), pz_cl (by omega), hC.may (by omega)]
      simp only [pz_nm]
      rw [shr1 _ hk, bI_ite, s7_bitOf, pz_bnd, pz_s]
      cases q : bt (r (23 + i)) kd
      · refine ⟨_, rfl, rfl, hM.cong fun p hp => ?_⟩
        by_cases z : p = i
        · subst z; simp [q]
        · rw [show (decide (p < i) : Bool) = decide (p < i + 1) from decide_eq_decide.mpr (by omega)]
      · refine ⟨_, rfl, rfl, (hM.or (boI_MK (by omega))).cong fun p hp => ?_⟩
        by_cases z : p = i
        · subst z; simp [q]
        · rw [show (decide (p < i) : Bool) = decide (p < i + 1) from decide_eq_decide.mpr (by omega)]; simp [z]
    · obtain ⟨M, w⟩ := s
      obtain ⟨rfl, hM⟩ := hI
      rw [f_X6_certifiedFor_L4, hC.people, hn.2.1, if_pos (by rw [pz_le (by omega) (by omega)]; omega)]
      exact ⟨M, rfl, hM⟩
  obtain ⟨M, e, hM⟩ := e
  exact ⟨M, by rw [f_X6_certifiedFor, e, pz_bnd], hM⟩
theorem s6_tiredAbove (hC : CR0 c m r) (hn : NumW r) : ∃ M, f_X6_tiredAbove c x m = some M ∧ MK M (fun p => decide (p < ppl r) && decide (¬ r (43 + p) ≤ x)) := by
  have h10 := hn.1
  have e : ∃ M, lp (f_X6_tiredAbove_L4 c x m) 1000000 (0, 0) = some M ∧ MK M (fun p => decide (p < ppl r) && decide (¬ r (43 + p) ≤ x)) := by
    refine lp_inv (fun i (s : Int32 × Int32) => s.2 = nI i ∧ MK s.1 (fun p => decide (p < i) && decide (¬ r (43 + p) ≤ x))) (N := ppl r) (fun i s hi hI => ?_) (fun s hI => ?_) (0, 0) ⟨rfl, MK.none.cong (fun p _ => by simp)⟩ (by omega)
    · obtain ⟨M, w⟩ := s
      obtain ⟨rfl, hM⟩ := hI
      rw [f_X6_tiredAbove_L4, hC.people, hn.2.1, if_neg (by rw [pz_le (by omega) (by omega)]; omega), pz_in (by omega) (by omega), pz_cl (by omega), hC.tired (by omega)]
      simp only [pz_nm]
      rw [s7_bitOf, pz_bnd, pz_s]
      by_cases q : r (43 + i) ≤ x
      · rw [if_pos q]
        refine ⟨_, rfl, rfl, hM.cong fun p hp => ?_⟩
        by_cases z : p = i
        · subst z; simp [q]
        · rw [show (decide (p < i) : Bool) = decide (p < i + 1) from decide_eq_decide.mpr (by omega)]
      · rw [if_neg q]
        refine ⟨_, rfl, rfl, (hM.or (boI_MK (by omega))).cong fun p hp => ?_⟩
        by_cases z : p = i
        · subst z; simp [q]
        · rw [show (decide (p < i) : Bool) = decide (p < i + 1) from decide_eq_decide.mpr (by omega)]; simp [z]
    · obtain ⟨M, w⟩ := s
      obtain ⟨rfl, hM⟩ := hI
      rw [f_X6_tiredAbove_L4, hC.people, hn.2.1, if_pos (by rw [pz_le (by omega) (by omega)]; omega)]
      exact ⟨M, rfl, hM⟩
  obtain ⟨M, e, hM⟩ := e
  exact ⟨M, by rw [f_X6_tiredAbove, e, pz_bnd], hM⟩
theorem s6_speaks {l : Nat} (hC : CR0 c m r) (hn : NumW r) (hp : p < ppl r) (hl : l < 10) : f_X6_speaks c (nI p) (nI l) m = some (bI (bt (r (13 + p)) l)) := by
  have h10 := hn.1
  unfold f_X6_speaks
  rw [s6_has hC, pz_bnd, isp_nI hn hp, bI_ite, if_pos rfl, pz_in (by omega) (by omega), pz_cl (by omega), hC.speaks (by omega)]
  simp only [pz_nm]
  rw [shr1 _ hl, bI_ite]
  cases bt (r (13 + p)) l <;> rfl
theorem s6_share (hC : CR0 c m r) (hn : NumW r) (hp : p < ppl r) (hq : q < ppl r) : f_X6_shareLanguage c (nI p) (nI q) m = some (bI (decide (¬ r (13 + p) &&& r (13 + q) = 0))) := by
  have h10 := hn.1
  unfold f_X6_shareLanguage
  rw [s6_has hC, pz_bnd, isp_nI hn hp, bI_ite, if_pos rfl, s6_has hC, pz_bnd, isp_nI hn hq, bI_ite, if_pos rfl, pz_in (by omega) (by omega), pz_cl (by omega), hC.speaks (by omega)]
  simp only [pz_nm]
  rw [pz_in (by omega) (by omega), pz_cl (by omega), hC.speaks (by omega)]
  by_cases e : r (13 + p) &&& r (13 + q) = 0 <;> simp [e, bI]
theorem i_and_comm (a b : Int32) : a &&& b = b &&& a := by
  refine i32_bits fun p hp => ?_
  rw [bt_and, bt_and, Bool.and_comm]
theorem s6_lead {l : Nat} (hC : CR0 c m r) (hn : NumW r) (ht : Tri r n t) (hl : l < 10) : f_X6_leadToCourt c (nI l) (nI (t 0)) (tri n t 1) (tri n t 2) m = some (bI (chOK r l n t)) := by
  have h10 := hn.1
  obtain ⟨n1, n3, tp, -⟩ := ht
  unfold f_X6_leadToCourt
  rcases (show n = 1 ∨ n = 2 ∨ n = 3 by omega) with rfl | rfl | rfl
  · have p0 := tp 0 (by omega)
    simp only [tri, show ¬ 1 < 1 by omega, show ¬ 2 < 1 by omega, if_false, if_true, pz_bnd]
    rw [s6_speaks hC hn p0 hl, pz_bnd, bI_ite, show (0 : Int32) = nI 0 from rfl, s6_speaks hC hn p0 (by omega), pz_bnd]
    rw [show nI 0 = (0 : Int32) from rfl, bI_ite]
    simp only [chOK, okN, spk, fun x => and_bo x hl]
    cases bt (r (13 + t 0)) l <;> cases bt (r (13 + t 0)) 0 <;> simp [bI]
  · have p0 := tp 0 (by omega)
    have p1 := tp 1 (by omega)
    have g1 : (nI (t 1) = -1) = False := pz_ne1 (by omega)
    simp only [tri, show (1 : Nat) < 2 by omega, show ¬ 2 < 2 by omega, if_false, if_true, g1, pz_bnd]
    rw [s6_speaks hC hn p0 hl, pz_bnd, bI_ite, s6_share hC hn p0 p1, pz_bnd, bI_ite, show (0 : Int32) = nI 0 from rfl, s6_speaks hC hn p1 (by omega), pz_bnd]
    rw [show nI 0 = (0 : Int32) from rfl, bI_ite]
    simp only [chOK, okN, spk, fun x => and_bo x hl, i_and_comm (r (13 + t 1)) (r (13 + t 0))]
    cases bt (r (13 + t 0)) l <;> cases bt (r (13 + t 1)) 0 <;> by_cases z : r (13 + t 0) &&& r (13 + t 1) = 0 <;> simp [z, bI]
  · have p0 := tp 0 (by omega)
    have p1 := tp 1 (by omega)
    have p2 := tp 2 (by omega)
    have g1 : (nI (t 1) = -1) = False := pz_ne1 (by omega)
    have g2 : (nI (t 2) = -1) = False := pz_ne1 (by omega)
    simp only [tri, show (1 : Nat) < 3 by omega, show (2 : Nat) < 3 by omega, if_false, if_true, g1, g2, pz_bnd]
    rw [s6_speaks hC hn p0 hl, pz_bnd, bI_ite, s6_share hC hn p0 p1, pz_bnd, bI_ite, s6_share hC hn p1 p2, pz_bnd, bI_ite, show (0 : Int32) = nI 0 from rfl, s6_speaks hC hn p2 (by omega), pz_bnd]
    rw [show nI 0 = (0 : Int32) from rfl, bI_ite]
    simp only [chOK, okN, spk, fun x => and_bo x hl, i_and_comm (r (13 + t 1)) (r (13 + t 0)), i_and_comm (r (13 + t 2)) (r (13 + t 1))]
    cases bt (r (13 + t 0)) l <;> cases bt (r (13 + t 2)) 0 <;> by_cases z : r (13 + t 0) &&& r (13 + t 1) = 0 <;> by_cases w : r (13 + t 1) &&& r (13 + t 2) = 0 <;> simp [z, w, bI]
theorem tri_MK (hn : ppl r ≤ 10) (ht : Tri r n t) : MK (boI (nI (t 0)) ||| boI (tri n t 1) ||| boI (tri n t 2)) (fun p => decide (∃ k, k < n ∧ t k = p)) := by
  obtain ⟨n1, n3, tp, -⟩ := ht
  have cell : ∀ k, k < 3 → MK (boI (tri n t k)) (fun p => decide (k < n) && decide (t k = p)) := by
    intro k hk
    unfold tri
    by_cases q : k < n
    · rw [if_pos q]
      exact (boI_MK (by have := tp k q; omega)).cong (fun p hp => by
        rw [decide_eq_true q, Bool.true_and]
        exact decide_eq_decide.mpr ⟨fun e => e.symm, fun e => e.symm⟩)
    · rw [if_neg q, boI_none]
      exact MK.none.cong (fun p hp => by simp [q])
  have e := ((cell 0 (by omega)).or (cell 1 (by omega))).or (cell 2 (by omega))
  rw [show tri n t 0 = nI (t 0) by unfold tri; rw [if_pos (by omega)]] at e
  refine e.cong (fun p hp => ?_)
  rw [Bool.eq_iff_iff]
  simp only [Bool.or_eq_true, Bool.and_eq_true, decide_eq_true_eq]
  constructor
  · rintro ((⟨a, b⟩ | ⟨a, b⟩) | ⟨a, b⟩)
    · exact ⟨_, a, b⟩
    · exact ⟨_, a, b⟩
    · exact ⟨_, a, b⟩
  · rintro ⟨j, a, b⟩
    rcases (show j = 0 ∨ j = 1 ∨ j = 2 by omega) with rfl | rfl | rfl
    · exact Or.inl (Or.inl ⟨a, b⟩)
    · exact Or.inl (Or.inr ⟨a, b⟩)
    · exact Or.inr ⟨a, b⟩
theorem ceN_iff {kd : Nat} : ∀ k, (ceN r kd t k = true) = ∀ j, j < k → bt (r (23 + t j)) kd = true
  | 0 => by simp [ceN]
  | k + 1 => by
    rw [ceN, Bool.and_eq_true, ceN_iff k]
    apply propext
    constructor
    · rintro ⟨a, b⟩ j hj
      by_cases e : j = k
      · rw [e]; exact b
      · exact a j (by omega)
    · intro a
      exact ⟨fun j hj => a j (by omega), a k (by omega)⟩
theorem buN_iff : ∀ k, (buN r h t k = true) = ∃ j, j < k ∧ busy r (nI (t j)) h = true
  | 0 => by simp [buN]
  | k + 1 => by
    rw [buN, Bool.or_eq_true, buN_iff k]
    apply propext
    constructor
    · rintro (⟨j, a, b⟩ | b)
      · exact ⟨j, by omega, b⟩
      · exact ⟨k, by omega, b⟩
    · rintro ⟨j, a, b⟩
      by_cases e : j = k
      · rw [e] at b; exact Or.inr b
      · exact Or.inl ⟨j, by omega, b⟩
theorem s2_reason (hC : CR c m r) (hn : NumW r) (hw : ∀ o, o < hrs r → ChW r o) (hW : HW r h) (hh : h < hrs r) (ht : Tri r n t) : f_X2_reasonAgainst c (nI h) (nI (t 0)) (tri n t 1) (tri n t 2) m = some (rsnR r h n t) := by
  have h30 := hn.2.2.1
  have h10 := hn.1
  unfold f_X2_reasonAgainst
  rw [s3_isListed hC.1 (by omega), pz_bnd, bI_ite, s2_hasStarted hC.1 (by omega), pz_bnd, bI_ite, pz_in (by omega) (by omega), pz_cl (by omega), hC.1.lang (by omega), hW.2.2.1]
  simp only [pz_nm]
  rw [s6_lead hC.1 hn ht hW.2.1, pz_bnd, bI_ite, s7_maskOf, pz_bnd, pz_in (by omega) (by omega), hC.1.kind (by omega), hW.2.2.2.2]
  obtain ⟨M, e1, hM⟩ := s6_certifiedFor (kd := kndR r h) hC.1 hn (by have := hW.2.2.2.1; omega)
  obtain ⟨N, e2, hN⟩ := s3_busyFor hC hn hw (h := h) (by omega)
  rw [e1, pz_bnd, e2, pz_bnd]
  have hT := tri_MK h10 ht
  have c1 : (boI (nI (t 0)) ||| boI (tri n t 1) ||| boI (tri n t 2)) &&& (M ^^^ (-1)) = 0 ↔ ceN r (kndR r h) t n = true := by
    rw [(hT.diff hM).zero, ceN_iff]
    constructor
    · intro a j hj
      have hp := ht.2.2.1 j hj
      have := a (t j) (by omega)
      have d1 : decide (∃ k, k < n ∧ t k = t j) = true := decide_eq_true ⟨j, hj, rfl⟩
      rw [d1] at this
      simpa [hp] using this
    · intro a p hp
      by_cases e : ∃ k, k < n ∧ t k = p
      · obtain ⟨k, hk, rfl⟩ := e
        have hp := ht.2.2.1 k hk
        simp [a k hk, hp]
      · simp [e]
  have c2 : (boI (nI (t 0)) ||| boI (tri n t 1) ||| boI (tri n t 2)) &&& N = 0 ↔ buN r h t n = false := by
    rw [(hT.and hN).zero, ← Bool.not_eq_true, buN_iff]
    constructor
    · rintro a ⟨j, hj, b⟩
      have hp := ht.2.2.1 j hj
      have := a (t j) (by omega)
      have d1 : decide (∃ k, k < n ∧ t k = t j) = true := decide_eq_true ⟨j, hj, rfl⟩
      rw [d1, Bool.true_and] at this
      rw [this] at b
      cases b
    · intro a p hp
      by_cases e : ∃ k, k < n ∧ t k = p
      · obtain ⟨k, hk, rfl⟩ := e
        cases q : busy r (nI (t k)) h
        · simp
        · exact absurd ⟨k, hk, q⟩ a
      · simp [e]
  unfold rsnR
  cases lst r h <;> cases std r h <;> cases chOK r (lngR r h) n t <;> try rfl
  simp only [if_false, if_true, Bool.false_eq_true, Bool.true_eq_false]
  cases q1 : ceN r (kndR r h) t n
  · rw [if_neg (by rw [c1, q1]; simp)]
    rfl
  · rw [if_pos (c1.mpr q1)]
    cases q2 : buN r h t n
    · rw [if_pos (c2.mpr q2)]; rfl
    · rw [if_neg (by rw [c2, q2]; simp)]; rfl
end CLASSR
