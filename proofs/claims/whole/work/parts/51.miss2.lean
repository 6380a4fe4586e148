/-! missing: the model's chains, and that both find the same -/
section MISS2
variable {c : Nat} {m : Mem} {r : Row} {A : Ab} {kd p b k : Nat} {x : Int32}
theorem shr_sym {p q : Nat} : shr r p q = shr r q p := by
  unfold shr
  have : (fun l => sp r p l && sp r q l) = (fun l => sp r q l && sp r p l) := by
    funext l
    rw [Bool.and_comm]
  rw [this]
theorem mt_iff {S : Nat → Bool} : mt r p S = true ↔ ∃ l, l < 10 ∧ sp r p l = true ∧ S l = true := by
  unfold mt
  rw [ex_iff]
  constructor
  · rintro ⟨l, h1, h2⟩
    rw [Bool.and_eq_true] at h2
    exact ⟨l, h1, h2⟩
  · rintro ⟨l, h1, h2⟩
    exact ⟨l, h1, by rw [Bool.and_eq_true]; exact h2⟩
theorem shr_iff {q : Nat} : shr r p q = true ↔ ∃ l, l < 10 ∧ sp r p l = true ∧ sp r q l = true := mt_iff (S := sp r q)
theorem wdn_iff {S : Nat → Bool} {n l : Nat} : wdn r kd S n l = true ↔ S l = true ∨ ∃ q, q < n ∧ cer r kd q = true ∧ mt r q S = true ∧ sp r q l = true := by
  unfold wdn
  rw [Bool.or_eq_true, ex_iff]
  constructor
  · rintro (h | ⟨q, h1, h2⟩)
    · exact Or.inl h
    · rw [Bool.and_eq_true, Bool.and_eq_true] at h2
      exact Or.inr ⟨q, h1, h2⟩
  · rintro (h | ⟨q, h1, h2⟩)
    · exact Or.inl h
    · exact Or.inr ⟨q, h1, by rw [Bool.and_eq_true, Bool.and_eq_true]; exact h2⟩
theorem mt_0 : mt r p (rch r kd 0) = sp r p 0 := by
  cases z : sp r p 0
  · cases q : mt r p (rch r kd 0)
    · rfl
    · obtain ⟨l, l1, l2, l3⟩ := mt_iff.mp q
      have : l = 0 := by simpa [rch] using l3
      subst this
      rw [l2] at z; cases z
  · exact mt_iff.mpr ⟨0, by omega, z, by simp [rch]⟩
theorem mt_s {n : Nat} : mt r p (rch r kd (n + 1)) = true ↔ mt r p (rch r kd n) = true ∨ ∃ q, q < ppl r ∧ cer r kd q = true ∧ mt r q (rch r kd n) = true ∧ shr r p q = true := by
  rw [mt_iff]
  constructor
  · rintro ⟨l, l1, l2, l3⟩
    rcases wdn_iff.mp l3 with h | ⟨q, q1, q2, q3, q4⟩
    · exact Or.inl (mt_iff.mpr ⟨l, l1, l2, h⟩)
    · exact Or.inr ⟨q, q1, q2, q3, shr_iff.mpr ⟨l, l1, l2, q4⟩⟩
  · rintro (h | ⟨q, q1, q2, q3, q4⟩)
    · obtain ⟨l, l1, l2, l3⟩ := mt_iff.mp h
      exact ⟨l, l1, l2, wdn_iff.mpr (Or.inl l3)⟩
    · obtain ⟨l, l1, l2, l3⟩ := shr_iff.mp q4
      exact ⟨l, l1, l2, wdn_iff.mpr (Or.inr ⟨q, q1, q2, q3, l3⟩)⟩
theorem sec_iff : sec r kd p b = true ↔ b < ppl r ∧ b ≠ p ∧ cer r kd b = true ∧ shr r b p = true := by
  unfold sec
  rw [Bool.and_eq_true, Bool.and_eq_true, Bool.and_eq_true, decide_eq_true_eq, decide_eq_true_eq]
theorem thd_iff : thd r kd p b k = true ↔ k < ppl r ∧ k ≠ p ∧ k ≠ b ∧ cer r kd k = true ∧ shr r k b = true := by
  unfold thd
  rw [Bool.and_eq_true, Bool.and_eq_true, Bool.and_eq_true, Bool.and_eq_true, decide_eq_true_eq, decide_eq_true_eq, decide_eq_true_eq]
/-- a walk of up to three people to the court's language has a chain of different ones -/
theorem lds_mt (h10 : ppl r ≤ 10) : lds r kd p = mt r p (rch r kd 2) := by
  rw [Bool.eq_iff_iff]
  unfold lds
  rw [Bool.or_eq_true, ex_iff]
  constructor
  · rintro (h | ⟨k, k1, k2⟩)
    · exact mt_s.mpr (Or.inl (mt_s.mpr (Or.inl (by rw [mt_0]; exact h))))
    · unfold ldk at k2
      rw [Bool.and_eq_true, Bool.or_eq_true, Bool.and_eq_true] at k2
      obtain ⟨s1, s2, s3, s4⟩ := sec_iff.mp k2.1
      refine mt_s.mpr (Or.inr ⟨k / 10, s1, s3, ?_, by rw [shr_sym]; exact s4⟩)
      rcases k2.2 with z | ⟨t, z⟩
      · exact mt_s.mpr (Or.inl (by rw [mt_0]; exact z))
      · obtain ⟨t1, t2, t3, t4, t5⟩ := thd_iff.mp t
        exact mt_s.mpr (Or.inr ⟨k % 10, t1, t4, by rw [mt_0]; exact z, by rw [shr_sym]; exact t5⟩)
  · intro h
    have one : ∀ q, q < ppl r → cer r kd q = true → sp r q 0 = true → shr r p q = true → (sp r p 0 = true ∨ ∃ k, k < 100 ∧ ldk r kd p k = true) := by
      intro q q1 q2 q3 q4
      by_cases e : q = p
      · exact Or.inl (by rw [← e]; exact q3)
      · refine Or.inr ⟨10 * q, by omega, ?_⟩
        unfold ldk
        rw [show 10 * q / 10 = q by omega, Bool.and_eq_true, Bool.or_eq_true]
        exact ⟨sec_iff.mpr ⟨q1, e, q2, by rw [shr_sym]; exact q4⟩, Or.inl q3⟩
    rcases mt_s.mp h with h | ⟨q, q1, q2, q3, q4⟩
    · rcases mt_s.mp h with h | ⟨q, q1, q2, q3, q4⟩
      · rw [mt_0] at h
        exact Or.inl h
      · rw [mt_0] at q3
        exact one q q1 q2 q3 q4
    · rcases mt_s.mp q3 with h | ⟨s, s1, s2, s3, s4⟩
      · rw [mt_0] at h
        exact one q q1 q2 h q4
      · rw [mt_0] at s3
        by_cases e1 : q = p
        · subst e1
          exact one s s1 s2 s3 s4
        by_cases e2 : s = p
        · exact Or.inl (by rw [← e2]; exact s3)
        by_cases e3 : s = q
        · subst e3
          exact one s q1 q2 s3 q4
        refine Or.inr ⟨10 * q + s, by omega, ?_⟩
        unfold ldk
        rw [show (10 * q + s) / 10 = q by omega, show (10 * q + s) % 10 = s by omega, Bool.and_eq_true, Bool.or_eq_true, Bool.and_eq_true]
        exact ⟨sec_iff.mpr ⟨q1, e1, q2, by rw [shr_sym]; exact q4⟩, Or.inr ⟨thd_iff.mpr ⟨s1, e2, e3, s2, by rw [shr_sym]; exact s4⟩, s3⟩⟩
theorem rch3 {l : Nat} (hl : 1 ≤ l) (h10 : ppl r ≤ 10) : rch r kd 3 l = exN (fun q => cer r kd q && (lds r kd q && sp r q l)) (ppl r) := by
  rw [Bool.eq_iff_iff, ex_iff]
  have mono : ∀ n q, mt r q (rch r kd n) = true → n ≤ 2 → mt r q (rch r kd 2) = true := by
    intro n q h hn
    rcases (show n = 0 ∨ n = 1 ∨ n = 2 by omega) with rfl | rfl | rfl
    · exact mt_s.mpr (Or.inl (mt_s.mpr (Or.inl h)))
    · exact mt_s.mpr (Or.inl h)
    · exact h
  constructor
  · intro h
    have fin : ∀ n, n ≤ 2 → (∃ q, q < ppl r ∧ cer r kd q = true ∧ mt r q (rch r kd n) = true ∧ sp r q l = true) → ∃ k, k < ppl r ∧ (cer r kd k && (lds r kd k && sp r k l)) = true := by
      rintro n hn ⟨q, q1, q2, q3, q4⟩
      refine ⟨q, q1, ?_⟩
      rw [lds_mt h10, mono n q q3 hn, q2, q4]
      rfl
    rcases wdn_iff.mp (show wdn r kd (rch r kd 2) (ppl r) l = true from h) with h | h
    · rcases wdn_iff.mp (show wdn r kd (rch r kd 1) (ppl r) l = true from h) with h | h
      · rcases wdn_iff.mp (show wdn r kd (rch r kd 0) (ppl r) l = true from h) with h | h
        · have : l = 0 := by simpa [rch] using h
          omega
        · exact fin 0 (by omega) h
      · exact fin 1 (by omega) h
    · exact fin 2 (by omega) h
  · rintro ⟨q, q1, q2⟩
    rw [Bool.and_eq_true, Bool.and_eq_true, lds_mt h10] at q2
    exact wdn_iff.mpr (Or.inr ⟨q, q1, q2.1, q2.2.1, q2.2.2⟩)
end MISS2
