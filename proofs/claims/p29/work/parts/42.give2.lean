/-! calls: release, vacate -/
theorem clsh_sym (r : Row) (a b : Nat) : clsh r a b = clsh r b a := by unfold clsh; rw [Bool.and_comm]
theorem busy_iff {r : Row} {x : Int32} {h : Nat} : ∀ {n : Nat}, busyN r x h n = true ↔ ∃ o, o < n ∧ o ≠ h ∧ lst r o = true ∧ inCh r x o = true ∧ clsh r o h = true
  | 0 => by simp [busyN]
  | n + 1 => by
    rw [busyN, Bool.or_eq_true, busy_iff, Bool.and_eq_true, decide_eq_true_eq, Bool.and_eq_true, Bool.and_eq_true]
    constructor
    · rintro (⟨o, h1, h2⟩ | h)
      · exact ⟨o, by omega, h2⟩
      · exact ⟨n, by omega, h⟩
    · rintro ⟨o, h1, h2⟩
      by_cases e : o = n
      · subst e; exact Or.inr h2
      · exact Or.inl ⟨o, by omega, h2⟩
section GIVE2
variable {r : Row} {h n : Nat} {t : Nat → Nat}
theorem giveR_SH {o : Nat} (ho : o ≠ h) : SHr r (giveR r h n t) o := fun k hk => giveR_ne (by omega)
theorem giveR_sz (hn : n ≤ 3) : szN (giveR r h n t) h = n := by unfold szN; rw [giveR_0, pz_cl (by omega)]
theorem giveR_mb {k : Nat} (hk : k < n) (hn : n ≤ 3) (ht : t k < 1000000) : mbN (giveR r h n t) h k = t k := by
  unfold mbN
  rw [giveR_k k (by omega)]
  unfold tri
  rw [if_pos hk, pz_cl ht]
theorem giveR_chw (h10 : ppl r ≤ 10) (ht : n = 0 ∨ Tri r n t) : ChW (giveR r h n t) h := by
  have n3 : n ≤ 3 := by
    rcases ht with rfl | ht
    · omega
    · exact ht.2.1
  have tl : ∀ k, k < n → t k < ppl r := fun k hk => by
    rcases ht with rfl | ht
    · omega
    · exact ht.2.2.1 k hk
  have e7 : ppl (giveR r h n t) = ppl r := by unfold ppl; rw [giveR_ne (by omega)]
  refine ⟨by rw [giveR_sz n3]; exact n3, by rw [giveR_sz n3]; exact giveR_0, fun k hk => ?_, fun k h1 h2 => ?_, fun i j hi hj e => ?_⟩
  · rw [giveR_sz n3] at hk
    have := tl k hk
    rw [giveR_mb hk n3 (by omega), e7, giveR_k k (by omega)]
    exact ⟨this, by unfold tri; rw [if_pos hk]⟩
  · rw [giveR_sz n3] at h1
    rw [giveR_k k h2]
    unfold tri
    rw [if_neg (by omega)]
  · rw [giveR_sz n3] at hi hj
    have a := tl i hi
    have b := tl j hj
    rw [giveR_mb hi n3 (by omega), giveR_mb hj n3 (by omega)] at e
    rcases ht with rfl | ht
    · omega
    · exact ht.2.2.2 i j hi hj e
theorem giveR_in (h10 : ppl r ≤ 10) (ht : n = 0 ∨ Tri r n t) {p : Nat} (hp : p < 10) : inCh (giveR r h n t) (nI p) h = true → ∃ k, k < n ∧ t k = p := by
  intro q
  have n3 : n ≤ 3 := by
    rcases ht with rfl | ht
    · omega
    · exact ht.2.1
  obtain ⟨j, j1, j2⟩ := (inCh_iff (giveR_chw h10 ht) (by omega)).mp q
  rw [giveR_sz n3] at j1
  have : t j < ppl r := by
    rcases ht with rfl | ht
    · omega
    · exact ht.2.2.1 j j1
  rw [giveR_mb j1 n3 (by omega)] at j2
  exact ⟨j, j1, j2⟩
theorem giveR_eLst {o : Nat} : lst (giveR r h n t) o = lst r o := by unfold lst; rw [giveR_ne (by omega)]
theorem giveR_eEnd {o : Nat} : endR (giveR r h n t) o = endR r o := by unfold endR; rw [giveR_ne (i := 73 + 10 * o + 2) (by omega), giveR_ne (i := 73 + 10 * o + 3) (by omega)]
theorem giveR_eCl {a b : Nat} : clsh (giveR r h n t) a b = clsh r a b := by
  unfold clsh
  rw [giveR_eEnd, giveR_eEnd, giveR_ne (i := 73 + 10 * a + 2) (by omega), giveR_ne (i := 73 + 10 * b + 2) (by omega)]
theorem RW_give (R : RW r) (hh : h < hrs r) (ht : n = 0 ∨ (Tri r n t ∧ buN r h t n = false)) : RW (giveR r h n t) := by
  obtain ⟨⟨hn, cw, ti, nc, lt⟩, hw, pe, tm, mo⟩ := R
  have h10 := hn.1
  have ht' : n = 0 ∨ Tri r n t := ht.imp id (fun q => q.1)
  have e7 : ppl (giveR r h n t) = ppl r := by unfold ppl; rw [giveR_ne (by omega)]
  have e8 : hrs (giveR r h n t) = hrs r := by unfold hrs; rw [giveR_ne (by omega)]
  have nb : ∀ k, k < n → ∀ o, o < hrs r → o ≠ h → lst r o = true → inCh r (nI (t k)) o = true → clsh r o h = true → False := by
    intro k hk o ho ne lo io co
    rcases ht with rfl | ⟨-, ht⟩
    · omega
    have : buN r h t n = true := by
      rw [buN_iff n]
      exact ⟨k, hk, busy_iff.mpr ⟨o, ho, ne, lo, io, co⟩⟩
    rw [this] at ht
    cases ht
  refine ⟨⟨?_, fun o ho => ?_, ⟨fun p hp => ?_, fun i hi => ?_⟩, ?_, ?_⟩, fun o ho => ?_, fun p hp => ?_, fun o ho => ?_, ?_⟩
  · obtain ⟨a, b, d, f⟩ := hn
    exact ⟨by omega, by rw [e7, giveR_ne (by omega)]; exact b, by omega, by rw [e8, giveR_ne (by omega)]; exact f⟩
  · rw [e8] at ho
    by_cases q : o = h
    · subst q; exact giveR_chw h10 ht'
    · exact (giveR_SH q).chw (by omega) (cw o ho)
  · rw [e7] at hp
    rw [giveR_ne (by omega)]
    exact ti.1 p hp
  · rw [giveR_ne (by omega)]
    exact ti.2 i hi
  · intro p a b p10 ab ha hb la lb hc ia ib
    rw [e8] at ha hb
    rw [giveR_eLst] at la lb
    rw [giveR_eCl] at hc
    by_cases qa : a = h
    · subst qa
      have qb : b ≠ a := fun e => ab e.symm
      obtain ⟨k, k1, k2⟩ := giveR_in h10 ht' p10 ia
      rw [(giveR_SH qb).eIn (cw b hb).1, ← k2] at ib
      rw [clsh_sym] at hc
      exact nb k k1 b hb qb lb ib hc
    · rw [(giveR_SH qa).eIn (cw a ha).1] at ia
      by_cases qb : b = h
      · subst qb
        obtain ⟨k, k1, k2⟩ := giveR_in h10 ht' p10 ib
        rw [← k2] at ia
        exact nb k k1 a ha qa la ia hc
      · rw [(giveR_SH qb).eIn (cw b hb).1] at ib
        exact nc p a b p10 ab ha hb la lb hc ia ib
  · intro o ho lo
    rw [e8] at ho
    rw [giveR_eLst] at lo
    rw [giveR_eEnd, giveR_ne (by omega)]
    exact lt o ho lo
  · rw [e8] at ho
    by_cases q : o = h
    · subst q
      obtain ⟨a1, a2, a3, a4, a5⟩ := hw o ho
      have l : lngR (giveR r o n t) o = lngR r o := by unfold lngR; rw [giveR_ne (by omega)]
      have k : kndR (giveR r o n t) o = kndR r o := by unfold kndR; rw [giveR_ne (by omega)]
      exact ⟨giveR_chw h10 ht', by rw [l]; exact a2, by rw [l, giveR_ne (by omega)]; exact a3, by rw [k]; exact a4, by rw [k, giveR_ne (by omega)]; exact a5⟩
    · exact (giveR_SH q).hw (by omega) (hw o ho)
  · rw [e7] at hp
    rw [giveR_ne (i := 13 + p) (by omega), giveR_ne (i := 23 + p) (by omega), giveR_ne (i := 33 + p) (by omega)]
    exact pe p hp
  · rw [e8] at ho
    rw [giveR_ne (i := 73 + 10 * o + 2) (by omega), giveR_ne (i := 73 + 10 * o + 3) (by omega)]
    exact tm o ho
  · obtain ⟨P, V, Q, a, b, d, f, q⟩ := mo
    refine ⟨P, V, Q, by rw [giveR_ne (by omega)]; exact a, by rw [giveR_ne (by omega)]; exact b, by rw [giveR_ne (by omega)]; exact d, f, ?_⟩
    rw [e8, clo_cong (fun o _ => giveR_eLst)]
    exact q
theorem GD_give (g : GD r) (hh : h < hrs r) (ht : n = 0 ∨ (Tri r n t ∧ buN r h t n = false)) : GD (giveR r h n t) := by
  obtain ⟨R, u, u1, u2⟩ := g
  exact ⟨RW_give R hh ht, u, u1, by rw [giveR_ne (by omega)]; exact u2⟩
end GIVE2
section OPS3
variable {m : Mem} {A : Ab} {x y z w : Int32}
theorem tri_0 (k : Nat) : tri 0 (fun _ => 0) k = -1 := by unfold tri; rw [if_neg (by omega)]
theorem halv_n (r : Row) (x : Int32) : ∃ v, v ≤ 2 ∧ halv r x = nI v := by
  unfold halv
  by_cases h1 : r 4 ≤ x
  · rw [if_pos h1]
    by_cases h2 : r 5 ≤ x
    · rw [if_pos h2]; exact ⟨0, by omega, rfl⟩
    · rw [if_neg h2]; exact ⟨1, by omega, rfl⟩
  · rw [if_neg h1]; exact ⟨2, by omega, rfl⟩
end OPS3
