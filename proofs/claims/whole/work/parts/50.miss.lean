/-! calls: missing -/
def exN (f : Nat → Bool) : Nat → Bool
  | 0 => false
  | k + 1 => exN f k || f k
theorem ex_iff {f : Nat → Bool} : ∀ {n : Nat}, exN f n = true ↔ ∃ k, k < n ∧ f k = true
  | 0 => by simp [exN]
  | n + 1 => by
    rw [exN, Bool.or_eq_true, ex_iff]
    constructor
    · rintro (⟨k, h1, h2⟩ | h)
      · exact ⟨k, by omega, h2⟩
      · exact ⟨n, by omega, h⟩
    · rintro ⟨k, h1, h2⟩
      by_cases e : k = n
      · subst e; exact Or.inr h2
      · exact Or.inl ⟨k, by omega, h2⟩
def sp (r : Row) (p l : Nat) : Bool := bt (r (13 + p)) l
def cer (r : Row) (kd p : Nat) : Bool := bt (r (23 + p)) kd
def mt (r : Row) (p : Nat) (S : Nat → Bool) : Bool := exN (fun q => sp r p q && S q) 10
/-- what people certified for kd make of a set of languages -/
def wdn (r : Row) (kd : Nat) (S : Nat → Bool) (n : Nat) (l : Nat) : Bool := S l || exN (fun p => cer r kd p && (mt r p S && sp r p l)) n
theorem wdn_s {r : Row} {kd : Nat} {S : Nat → Bool} {i l : Nat} : wdn r kd S (i + 1) l = (wdn r kd S i l || (cer r kd i && (mt r i S && sp r i l))) := (Bool.or_assoc _ _ _).symm
theorem sp_MK {r : Row} (hP : PEO r) {p : Nat} (hp : p < ppl r) : MK (r (13 + p)) (sp r p) := by
  obtain ⟨⟨L, L1, L2⟩, -⟩ := hP p hp
  intro l hl
  unfold sp
  rw [L2, bt_nI L1]
  by_cases q : l < 10
  · simp [q]
  · rw [Nat.testBit_lt_two_pow (x := L) (i := l) (Nat.lt_of_lt_of_le L1 (Nat.pow_le_pow_right (n := 2) (by omega) (by omega : 10 ≤ l)))]
    simp [q]
theorem meet_MK {M N : Int32} {S T : Nat → Bool} (h : MK M S) (g : MK N T) : (M &&& N = 0) = (exN (fun q => S q && T q) 10 = false) := by
  rw [(h.and g).zero]
  apply propext
  constructor
  · intro k
    cases z : exN (fun q => S q && T q) 10
    · rfl
    · obtain ⟨q, q1, q2⟩ := ex_iff.mp z
      rw [k q q1] at q2
      cases q2
  · intro k p hp
    cases z : (S p && T p)
    · rfl
    · have : exN (fun q => S q && T q) 10 = true := ex_iff.mpr ⟨p, hp, z⟩
      rw [this] at k
      cases k
section MISS
variable {c : Nat} {m : Mem} {r : Row} {A : Ab} {kd : Nat} {x : Int32}
theorem s6_widened (hC : CR0 c m r) (hn : NumW r) (hP : PEO r) (hk : kd < 10) {M : Int32} {S : Nat → Bool} (hM : MK M S) : ∃ M', f_X6_widened c M (nI kd) m = some M' ∧ MK M' (wdn r kd S (ppl r)) := by
  have h10 := hn.1
  have e : ∃ M', lp (f_X6_widened_L5 c M (nI kd) m) 1000000 (M, 0) = some M' ∧ MK M' (wdn r kd S (ppl r)) := by
    refine lp_inv (fun i (s : Int32 × Int32) => s.2 = nI i ∧ MK s.1 (wdn r kd S i)) (N := ppl r) (fun i s hi hI => ?_) (fun s hI => ?_) _ ⟨rfl, hM.cong fun l _ => by simp [wdn, exN]⟩ (by omega)
    · obtain ⟨N, w⟩ := s
      obtain ⟨rfl, hN⟩ := hI
      dsimp only at hN
      have ms := sp_MK hP hi
      rw [f_X6_widened_L5, hC.people, hn.2.1, if_neg (by rw [pz_le (by omega) (by omega)]; omega), pz_in (by omega) (by omega), pz_cl (by omega), hC.may (by omega)]
      simp only [pz_nm]
      rw [shr1 _ hk, bI_ite, pz_in (by omega) (by omega), hC.speaks (by omega), pz_in (by omega) (by omega), pz_s]
      by_cases a : bt (r (23 + i)) kd = true
      · rw [if_pos a]
        have ac : cer r kd i = true := a
        by_cases b : r (13 + i) &&& M = 0
        · rw [if_pos b]
          rw [meet_MK ms hM] at b
          have b' : mt r i S = false := b
          exact ⟨_, rfl, rfl, hN.cong fun l _ => by rw [wdn_s, ac, b']; simp⟩
        · rw [if_neg b]
          have b' : mt r i S = true := by
            rw [meet_MK ms hM] at b
            cases z : mt r i S
            · exact absurd z b
            · rfl
          refine ⟨_, rfl, rfl, ?_⟩
          exact (hN.or ms).cong fun l _ => by rw [wdn_s, ac, b']; simp
      · rw [if_neg a]
        have ac : cer r kd i = false := by unfold cer; simpa using a
        exact ⟨_, rfl, rfl, hN.cong fun l _ => by rw [wdn_s, ac]; simp⟩
    · obtain ⟨N, w⟩ := s
      obtain ⟨rfl, hN⟩ := hI
      rw [f_X6_widened_L5, hC.people, hn.2.1, if_pos (by rw [pz_le (by omega) (by omega)]; omega)]
      exact ⟨N, rfl, hN⟩
  obtain ⟨M', e, h⟩ := e
  exact ⟨M', by rw [f_X6_widened, e, pz_bnd], h⟩
def rch (r : Row) (kd : Nat) : Nat → Nat → Bool
  | 0 => fun l => decide (l = 0)
  | n + 1 => wdn r kd (rch r kd n) (ppl r)
theorem MK_1 : MK 1 (fun l => decide (l = 0)) := boI_MK (p := 0) (by omega)
theorem MK_1022 : MK 1022 (fun l => decide (1 ≤ l)) := by
  intro l hl
  have : (1022 : Int32) = nI 1022 := rfl
  rw [this, bt_nI (by omega)]
  revert l
  decide
theorem s6_without (hC : CR0 c m r) (hn : NumW r) (hP : PEO r) (hk : kd < 10) : ∃ M, f_X6_languagesWithoutChain c (nI kd) m = some M ∧ MK M (fun l => decide (1 ≤ l) && !rch r kd 3 l) := by
  have e : ∃ M', lp (f_X6_languagesWithoutChain_L4 c (nI kd) m) 1000000 (1, 0) = some M' ∧ MK M' (rch r kd 3) := by
    refine lp_inv (fun i (s : Int32 × Int32) => s.2 = nI i ∧ MK s.1 (rch r kd i)) (N := 3) (fun i s hi hI => ?_) (fun s hI => ?_) _ ⟨rfl, MK_1⟩ (by omega)
    · obtain ⟨N, w⟩ := s
      obtain ⟨rfl, hN⟩ := hI
      dsimp only at hN
      obtain ⟨M', e1, e2⟩ := s6_widened (kd := kd) hC hn hP hk hN
      rw [f_X6_languagesWithoutChain_L4, show (3 : Int32) = nI 3 from rfl, if_neg (by rw [pz_le (by omega) (by omega)]; omega), e1, pz_bnd, pz_s, pz_nm]
      exact ⟨_, rfl, rfl, e2⟩
    · obtain ⟨N, w⟩ := s
      obtain ⟨rfl, hN⟩ := hI
      rw [f_X6_languagesWithoutChain_L4, show (3 : Int32) = nI 3 from rfl, if_pos (by rw [pz_le (by omega) (by omega)]; omega)]
      exact ⟨N, rfl, hN⟩
  obtain ⟨M', e, h⟩ := e
  exact ⟨_, by rw [f_X6_languagesWithoutChain, e, pz_bnd], MK_1022.diff h⟩
/-! the model's: every chain of up to three tried -/
def shr (r : Row) (p q : Nat) : Bool := exN (fun l => sp r p l && sp r q l) 10
def sec (r : Row) (kd p b : Nat) : Bool := decide (b < ppl r) && (decide (b ≠ p) && (cer r kd b && shr r b p))
def thd (r : Row) (kd p b k : Nat) : Bool := decide (k < ppl r) && (decide (k ≠ p) && (decide (k ≠ b) && (cer r kd k && shr r k b)))
def ldk (r : Row) (kd p k : Nat) : Bool := sec r kd p (k / 10) && (sp r (k / 10) 0 || (thd r kd p (k / 10) (k % 10) && sp r (k % 10) 0))
def lds (r : Row) (kd p : Nat) : Bool := sp r p 0 || exN (ldk r kd p) 100
theorem isp_b (hn : NumW r) {b : Nat} (hb : b < 1000000) : isp r (nI b) = decide (b < ppl r) := by
  have h10 := hn.1
  by_cases q : b < ppl r
  · rw [isp_nI hn q]; simp [q]
  · have : isp r (nI b) = false := by
      simp only [isp, hn.2.1, Bool.and_eq_false_iff, decide_eq_false_iff_not]
      exact Or.inr (by rw [pz_le (by omega) hb]; omega)
    rw [this]; simp [q]
end MISS
