/-! what is counted -/
def cnI (f : Nat → Bool) : Nat → Int32
  | 0 => 0
  | k + 1 => if f k = true then cnI f k + 1 else cnI f k
theorem cnI_cong {f g : Nat → Bool} : ∀ {n : Nat}, (∀ k, k < n → f k = g k) → cnI f n = cnI g n
  | 0, _ => rfl
  | n + 1, h => by rw [cnI, cnI, cnI_cong (fun k hk => h k (by omega)), h n (by omega)]
theorem cnI_ct (f : Nat → Bool) : ∀ n, cnI f n = nI (ct f n)
  | 0 => rfl
  | n + 1 => by
    rw [cnI, ct, cnI_ct f n]
    by_cases q : f n = true
    · rw [if_pos q, if_pos q, pz_s]
    · rw [if_neg q, if_neg q, Nat.add_zero]
theorem cnI_no {f : Nat → Bool} : ∀ {n : Nat}, (∀ k, k < n → f k = false) → cnI f n = 0
  | 0, _ => rfl
  | n + 1, h => by rw [cnI, h n (by omega), if_neg (by simp), cnI_no (fun k hk => h k (by omega))]
theorem ct_ext {S : Nat → Bool} {n : Nat} : ∀ d, (∀ p, n ≤ p → p < n + d → S p = false) → ct S (n + d) = ct S n
  | 0, _ => rfl
  | d + 1, h => by
    rw [← Nat.add_assoc, ct, ct_ext d (fun p h1 h2 => h p h1 (by omega)), h (n + d) (by omega) (by omega), if_neg (by simp)]
    rfl
/-- a loop that counts what f says -/
theorem lp_cn {T : Type} {body : Int32 × Int32 → Option ((Int32 × Int32) ⊕ T)} (f : Nat → Bool) {N : Nat} {t : T} (hs : ∀ k, k < N → ∀ x, body (x, nI k) = some (.inl (if f k = true then x + 1 else x, nI (k + 1)))) (he : body (cnI f N, nI N) = some (.inr t)) (hN : N < 1000000) : lp body 1000000 (0, 0) = some t :=
  lp_cnt (fun k => (cnI f k, nI k)) (N := N) (fun k hk => by rw [hs k hk, cnI]) he (by omega)
section COUNT
variable {c : Nat} {m : Mem} {r : Row} {h p : Nat} {x y : Int32}
theorem s3_listedWith (hC : CR c m r) (hn : NumW r) (hw : ChWs r) (hp : p < 10) : f_X3_listedWith c (nI p) m = some (cnI (fun o => lst r o && inCh r (nI p) o) (hrs r)) := by
  have h30 := hn.2.2.1
  unfold f_X3_listedWith
  rw [lp_cn (fun o => lst r o && inCh r (nI p) o) (N := hrs r) (t := cnI (fun o => lst r o && inCh r (nI p) o) (hrs r)) (fun k hk x => ?_) ?_ (by omega), pz_bnd]
  rotate_left
  · rw [f_X3_listedWith_L4, hC.1.hearings, hn.2.2.2, if_neg (by rw [pz_le (by omega) (by omega)]; omega), s3_isListed hC.1 (by omega), pz_bnd, bI_ite, s3_holds hC hn (hw k hk) hk hp, pz_bnd, bI_ite]
    simp only [pz_nm, pz_s]
    by_cases a : lst r k = true <;> by_cases b : inCh r (nI p) k = true <;> simp [a, b]
  · rw [f_X3_listedWith_L4, hC.1.hearings, hn.2.2.2, if_pos (by rw [pz_le (by omega) (by omega)]; omega)]
theorem s3_clashesOf (hC : CR0 c m r) (hn : NumW r) (hh : h < 30) : f_X3_clashesOf c (nI h) m = some (cnI (fun o => decide (o ≠ h) && (lst r o && clsh r o h)) (hrs r)) := by
  have h30 := hn.2.2.1
  unfold f_X3_clashesOf
  rw [lp_cn (fun o => decide (o ≠ h) && (lst r o && clsh r o h)) (N := hrs r) (t := cnI (fun o => decide (o ≠ h) && (lst r o && clsh r o h)) (hrs r)) (fun k hk x => ?_) ?_ (by omega), pz_bnd]
  rotate_left
  · rw [f_X3_clashesOf_L4, hC.hearings, hn.2.2.2, if_neg (by rw [pz_le (by omega) (by omega)]; omega), s3_lac hC (by omega) hh, pz_bnd, bI_ite]
    simp only [pz_nm, pz_s]
    by_cases e : (decide (k ≠ h) && (lst r k && clsh r k h)) = true
    · rw [if_pos e, if_pos e]
    · rw [if_neg e, if_neg e]
  · rw [f_X3_clashesOf_L4, hC.hearings, hn.2.2.2, if_pos (by rw [pz_le (by omega) (by omega)]; omega)]
theorem clash_both (hl : lst r h = true) : cnI (fun o => decide (o ≠ h) && (lst r o && (lst r h && clsh r o h))) (hrs r) = cnI (fun o => decide (o ≠ h) && (lst r o && clsh r o h)) (hrs r) := cnI_cong fun k _ => by rw [hl, Bool.true_and]
theorem clash_none (hl : lst r h = false) : cnI (fun o => decide (o ≠ h) && (lst r o && (lst r h && clsh r o h))) (hrs r) = 0 := cnI_no fun k _ => by rw [hl]; simp
def stg (r : Row) (x : Int32) (o : Nat) : Bool := decide (r (73 + 10 * o + 4) = x)
theorem s3_countStage (hC : CR0 c m r) (hn : NumW r) : f_X3_countStage c x m = some (cnI (stg r x) (hrs r)) := by
  have h30 := hn.2.2.1
  unfold f_X3_countStage
  rw [lp_cn (stg r x) (N := hrs r) (t := cnI (stg r x) (hrs r)) (fun k hk y => ?_) ?_ (by omega), pz_bnd]
  rotate_left
  · rw [f_X3_countStage_L4, hC.hearings, hn.2.2.2, if_neg (by rw [pz_le (by omega) (by omega)]; omega), pz_in (by omega) (by omega), pz_cl (by omega), hC.stage (by omega)]
    simp only [pz_nm, pz_s, stg]
    by_cases e : r (73 + 10 * k + 4) = x <;> simp [e]
  · rw [f_X3_countStage_L4, hC.hearings, hn.2.2.2, if_pos (by rw [pz_le (by omega) (by omega)]; omega)]
theorem s3_countLM (hC : CR0 c m r) (hn : NumW r) : f_X3_countListedManned c m = some (cnI (fun o => lst r o && decide (¬ r (73 + 10 * o + 5) ≤ 0)) (hrs r)) := by
  have h30 := hn.2.2.1
  unfold f_X3_countListedManned
  rw [lp_cn (fun o => lst r o && decide (¬ r (73 + 10 * o + 5) ≤ 0)) (N := hrs r) (t := cnI (fun o => lst r o && decide (¬ r (73 + 10 * o + 5) ≤ 0)) (hrs r)) (fun k hk y => ?_) ?_ (by omega), pz_bnd]
  rotate_left
  · rw [f_X3_countListedManned_L4, hC.hearings, hn.2.2.2, if_neg (by rw [pz_le (by omega) (by omega)]; omega), s3_isListed hC (by omega), pz_bnd, bI_ite, pz_in (by omega) (by omega), pz_cl (by omega), hC.size (by omega)]
    simp only [pz_nm, pz_s]
    by_cases a : lst r k = true <;> by_cases e : r (73 + 10 * k + 5) ≤ 0 <;> simp [a, e]
  · rw [f_X3_countListedManned_L4, hC.hearings, hn.2.2.2, if_pos (by rw [pz_le (by omega) (by omega)]; omega)]
/-! who works now -/
def wrkN (r : Row) (p : Nat) : Nat → Bool
  | 0 => false
  | k + 1 => wrkN r p k || hit r p k
theorem wrk_iff : ∀ {n : Nat}, wrkN r p n = true ↔ ∃ k, k < n ∧ hit r p k = true
  | 0 => by simp [wrkN]
  | n + 1 => by
    rw [wrkN, Bool.or_eq_true, wrk_iff]
    constructor
    · rintro (⟨k, h1, h2⟩ | h)
      · exact ⟨k, by omega, h2⟩
      · exact ⟨n, by omega, h⟩
    · rintro ⟨k, h1, h2⟩
      by_cases e : k = n
      · subst e; exact Or.inr h2
      · exact Or.inl ⟨k, by omega, h2⟩
theorem wrk_wk (hn : NumW r) : (opI (wkR r p) = -1) = (wrkN r p (hrs r) = false) := by
  have h30 := hn.2.2.1
  rcases wkR_cases r p with ⟨e, h⟩ | ⟨h, e, h1, h2, -⟩
  · have : wrkN r p (hrs r) = false := by
      cases q : wrkN r p (hrs r)
      · rfl
      · obtain ⟨k, k1, k2⟩ := wrk_iff.mp q
        rw [h k k1] at k2; cases k2
    rw [e, this]
    simp [opI]
  · have : wrkN r p (hrs r) = true := wrk_iff.mpr ⟨h, h1, h2⟩
    rw [e, this]
    have z := pz_ne1 (a := h) (by omega)
    simp only [opI, z]
    simp
theorem s2_working (hC : CR c m r) (hn : NumW r) (hw : ChWs r) : ∃ M, f_X2_working c m = some M ∧ MK M (fun p => wrkN r p (hrs r)) := by
  have h30 := hn.2.2.1
  have e : ∃ M, lp (f_X2_working_L4 c m) 1000000 (0, 0) = some M ∧ MK M (fun p => wrkN r p (hrs r)) := by
    refine lp_inv (fun i (s : Int32 × Int32) => s.2 = nI i ∧ MK s.1 (fun p => wrkN r p i)) (N := hrs r) (fun i s hi hI => ?_) (fun s hI => ?_) _ ⟨rfl, MK.none⟩ (by omega)
    · obtain ⟨M, w⟩ := s
      obtain ⟨rfl, hM⟩ := hI
      dsimp only at hM
      have ms := msk_MK hn.1 (hw i hi)
      rw [f_X2_working_L4, hC.1.hearings, hn.2.2.2, if_neg (by rw [pz_le (by omega) (by omega)]; omega), s2_isUnderWay hC.1 (by omega), pz_bnd, bI_ite, pz_in (by omega) (by omega), pz_cl (by omega), hC.2 i hi]
      simp only [pz_nm, pz_s]
      by_cases u : (lst r i && std r i) = true
      · rw [if_pos u]
        rw [Bool.and_eq_true] at u
        refine ⟨_, rfl, rfl, ?_⟩
        exact (hM.or ms).cong fun p _ => by simp [wrkN, hit, u.1, u.2]
      · rw [if_neg u]
        refine ⟨_, rfl, rfl, ?_⟩
        refine hM.cong fun p _ => ?_
        have : hit r p i = false := by
          unfold hit
          rw [Bool.and_eq_true] at u
          by_cases a : lst r i = true
          · by_cases b : std r i = true
            · exact absurd ⟨a, b⟩ u
            · simp [b]
          · simp [a]
        simp [wrkN, this]
    · obtain ⟨M, w⟩ := s
      obtain ⟨rfl, hM⟩ := hI
      rw [f_X2_working_L4, hC.1.hearings, hn.2.2.2, if_pos (by rw [pz_le (by omega) (by omega)]; omega)]
      exact ⟨M, rfl, hM⟩
  obtain ⟨M, e, hM⟩ := e
  exact ⟨M, by rw [f_X2_working, e, pz_bnd], hM⟩
theorem wrk_out (hn : NumW r) (hw : ChWs r) (h1 : ppl r ≤ p) (h2 : p < 10) : wrkN r p (hrs r) = false := by
  cases q : wrkN r p (hrs r)
  · rfl
  · obtain ⟨k, k1, k2⟩ := wrk_iff.mp q
    unfold hit at k2
    rw [Bool.and_eq_true, Bool.and_eq_true] at k2
    obtain ⟨j, j1, j2⟩ := (inCh_iff (hw k k1) (by omega)).mp k2.2.2
    have := ((hw k k1).2.2.1 j j1).1
    omega
end COUNT
