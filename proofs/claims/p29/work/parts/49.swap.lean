/-! calls: swap -/
section SWAP
variable {m : Mem} {A : Ab} {r : Row} {h j q : Nat} {x y z w : Int32}
theorem wth_pred {n : Nat} (hn : n < 1000000) (e : wth y 0 (nI n - 1) = true) : ∃ j, j < n ∧ y = nI j := by
  simp only [wth, Bool.and_eq_true, decide_eq_true_eq] at e
  obtain ⟨h1, h2⟩ := e
  rw [i32_pred hn] at h2
  have h2' : y < nI n := by rw [← Int32.not_le]; exact h2
  obtain ⟨j, j1, rfl⟩ := nI_of h1
  refine ⟨j, ?_, rfl⟩
  rw [Int32.lt_iff_toInt_lt, nI_toInt j1, nI_toInt (by omega)] at h2'
  omega
theorem mem_tri (hc : ChW r h) {k : Nat} (hk : k < 3) : r (79 + 10 * h + k) = tri (szN r h) (mbN r h) k := by
  unfold tri
  by_cases u : k < szN r h
  · rw [if_pos u]; exact (hc.2.2.1 k u).2
  · rw [if_neg u]; exact hc.2.2.2.1 k (by omega) hk
def swp (r : Row) (h j q : Nat) : Nat → Nat := fun k => if k = j then q else mbN r h k
theorem swp_tri (hc : ChW r h) (hj : j < szN r h) (hq : q < ppl r) (h10 : ppl r ≤ 10) (hi : inCh r (nI q) h = false) : Tri r (szN r h) (swp r h j q) := by
  have nq : ∀ k, k < szN r h → mbN r h k ≠ q := fun k hk e => by
    have : inCh r (nI q) h = true := (inCh_iff hc (by omega)).mpr ⟨k, hk, e⟩
    rw [this] at hi; cases hi
  refine ⟨by omega, hc.1, fun k hk => ?_, fun a b ha hb e => ?_⟩
  · unfold swp
    split
    · exact hq
    · exact (hc.2.2.1 k hk).1
  · unfold swp at e
    by_cases ea : a = j
    · by_cases eb : b = j
      · omega
      · rw [if_pos ea, if_neg eb] at e
        exact absurd e.symm (nq b hb)
    · by_cases eb : b = j
      · rw [if_neg ea, if_pos eb] at e
        exact absurd e (nq a ha)
      · rw [if_neg ea, if_neg eb] at e
        exact hc.2.2.2.2 a b ha hb e
theorem swp_k (hc : ChW r h) (hj : j < szN r h) {k : Nat} (hk : k < 3) : tri (szN r h) (swp r h j q) k = if k = j then nI q else r (79 + 10 * h + k) := by
  rw [mem_tri hc hk]
  unfold tri swp
  by_cases e : k = j
  · rw [if_pos e, if_pos e, if_pos (by omega)]
  · rw [if_neg e, if_neg e]
theorem swp_row (hc : ChW r h) (hj : j < szN r h) : giveR r h (szN r h) (swp r h j q) = upd r (73 + 10 * h + (6 + j)) (nI q) := by
  have h3 := hc.1
  funext i
  by_cases e : i < 78 + 10 * h ∨ 82 + 10 * h ≤ i
  · rw [giveR_ne e, upd_ne (by omega)]
  · by_cases e5 : i = 73 + 10 * h + 5
    · rw [e5, giveR_0, upd_ne (by omega)]
      exact hc.2.1.symm
    · obtain ⟨k, hk, rfl⟩ : ∃ k, k < 3 ∧ i = 79 + 10 * h + k := ⟨i - (79 + 10 * h), by omega, by omega⟩
      rw [giveR_k k hk, swp_k hc hj hk]
      by_cases z : k = j
      · rw [if_pos z, upd_is (by omega)]
      · rw [if_neg z, upd_ne (by omega)]
end SWAP
