/-! a hearing entered -/
theorem upd_is {r : Row} {i j : Nat} {v : Int32} (h : j = i) : upd r i v j = v := if_pos h
def SHr (r r' : Row) (o : Nat) : Prop := ∀ k, k < 10 → r' (73 + 10 * o + k) = r (73 + 10 * o + k)
section SHs
variable {r r' : Row} {o a b : Nat} {x : Int32}
theorem SHr.eLst (e : SHr r r' o) : lst r' o = lst r o := by unfold lst; rw [e 4 (by omega)]
theorem SHr.eSz (e : SHr r r' o) : szN r' o = szN r o := by unfold szN; rw [e 5 (by omega)]
theorem SHr.ch (e : SHr r r' o) {k : Nat} (hk : k < 3) : r' (79 + 10 * o + k) = r (79 + 10 * o + k) := by
  rw [show 79 + 10 * o + k = 73 + 10 * o + (6 + k) by omega]
  exact e _ (by omega)
theorem SHr.eMb (e : SHr r r' o) {k : Nat} (hk : k < 3) : mbN r' o k = mbN r o k := by unfold mbN; rw [e.ch hk]
theorem SHr.eInN (e : SHr r r' o) : ∀ k, k ≤ 3 → inChN r' x o k = inChN r x o k
  | 0, _ => rfl
  | k + 1, h => by rw [inChN, inChN, SHr.eInN e k (by omega), e.ch (by omega)]
theorem SHr.eIn (e : SHr r r' o) (h : szN r o ≤ 3) : inCh r' x o = inCh r x o := by unfold inCh; rw [e.eSz, e.eInN _ h]
theorem SHr.eEnd (e : SHr r r' o) : endR r' o = endR r o := by unfold endR; rw [e 2 (by omega), e 3 (by omega)]
theorem SHr.eCl (e : SHr r r' a) (g : SHr r r' b) : clsh r' a b = clsh r a b := by
  unfold clsh
  rw [e.eEnd, g.eEnd, e 2 (by omega), g 2 (by omega)]
theorem SHr.chw (e : SHr r r' o) (hp : ppl r ≤ ppl r') (hc : ChW r o) : ChW r' o := by
  obtain ⟨a1, a2, a3, a4, a5⟩ := hc
  refine ⟨by rw [e.eSz]; exact a1, by rw [e.eSz, e 5 (by omega)]; exact a2, fun k hk => ?_, fun k h1 h2 => ?_, fun i j hi hj => ?_⟩
  · rw [e.eSz] at hk
    obtain ⟨b1, b2⟩ := a3 k hk
    rw [e.eMb (by omega), e.ch (by omega)]
    exact ⟨by omega, b2⟩
  · rw [e.eSz] at h1
    rw [e.ch (by omega)]
    exact a4 k h1 h2
  · rw [e.eSz] at hi hj
    rw [e.eMb (by omega), e.eMb (by omega)]
    exact a5 i j hi hj
theorem SHr.hw (e : SHr r r' o) (hp : ppl r ≤ ppl r') (hc : HW r o) : HW r' o := by
  obtain ⟨a1, a2, a3, a4, a5⟩ := hc
  have l : lngR r' o = lngR r o := by unfold lngR; rw [e 1 (by omega)]
  have e0 := e 0 (by omega)
  rw [Nat.add_zero] at e0
  have k : kndR r' o = kndR r o := by unfold kndR; rw [e0]
  exact ⟨e.chw hp a1, by rw [l]; exact a2, by rw [l, e 1 (by omega)]; exact a3, by rw [k]; exact a4, by rw [k, e0]; exact a5⟩
end SHs
def entU (r : Row) (kd lg s len : Int32) : Row := upd (upd (upd (upd (upd (upd (upd r (73 + 10 * hrs r) kd) (74 + 10 * hrs r) lg) (75 + 10 * hrs r) s) (76 + 10 * hrs r) len) (77 + 10 * hrs r) 0) (82 + 10 * hrs r) 0) 8 (r 8 + 1)
def entR (r : Row) (kd lg s len : Int32) : Row := giveR (entU r kd lg s len) (hrs r) 0 (fun _ => 0)
section ENT
variable {c : Nat} {m : Mem} {r : Row} {kd lg s len : Int32}
theorem entR_ne {i : Nat} (h8 : i ≠ 8) (h : i < 73 + 10 * hrs r ∨ 83 + 10 * hrs r ≤ i) : entR r kd lg s len i = r i := by
  unfold entR
  rw [giveR_ne (by omega)]
  unfold entU
  rw [upd_ne (by omega), upd_ne (by omega), upd_ne (by omega), upd_ne (by omega), upd_ne (by omega), upd_ne (by omega), upd_ne (by omega)]
theorem entR_8 : entR r kd lg s len 8 = r 8 + 1 := by
  unfold entR
  rw [giveR_ne (by omega)]
  unfold entU
  rw [upd_self]
theorem entR_h {j : Nat} (hj : j < 10) : entR r kd lg s len (73 + 10 * hrs r + j) = if j = 0 then kd else if j = 1 then lg else if j = 2 then s else if j = 3 then len else if 6 ≤ j ∧ j ≤ 8 then -1 else 0 := by
  unfold entR giveR entU
  have t0 : ∀ k, tri 0 (fun _ => 0) k = -1 := fun k => by unfold tri; rw [if_neg (by omega)]
  rw [t0, t0, t0]
  rcases (show j = 0 ∨ j = 1 ∨ j = 2 ∨ j = 3 ∨ j = 4 ∨ j = 5 ∨ j = 6 ∨ j = 7 ∨ j = 8 ∨ j = 9 by omega) with rfl | rfl | rfl | rfl | rfl | rfl | rfl | rfl | rfl | rfl <;>
    (repeat (first | rw [upd_ne (by omega)] | rw [upd_is (by omega)])) <;> rfl
theorem s3_enter (hC : CR c m r) (hn : NumW r) (h30 : hrs r < 30) : ∃ m', f_X3_enter c kd lg s len m = some (nI (hrs r), m') ∧ CR c m' (entR r kd lg s len) ∧ FrC c m m' := by
  have hp : m.1 (c + 8) 0 = nI (hrs r) := by rw [hC.1.hearings]; exact hn.2.2.2
  unfold f_X3_enter
  rw [hp, if_pos (by rw [show (30 : Int32) = nI 30 from rfl, pz_lt (by omega) (by omega)]; exact h30)]
  simp (disch := omega) only [pz_nm, pz_in, pz_cl, si_ne, hp]
  have l9 : loc 9 (hrs r) = some (73 + 10 * hrs r) := by simp [loc, h30]
  have l10 : loc 10 (hrs r) = some (74 + 10 * hrs r) := by simp [loc, h30]; omega
  have l11 : loc 11 (hrs r) = some (75 + 10 * hrs r) := by simp [loc, h30]; omega
  have l12 : loc 12 (hrs r) = some (76 + 10 * hrs r) := by simp [loc, h30]; omega
  have l13 : loc 13 (hrs r) = some (77 + 10 * hrs r) := by simp [loc, h30]; omega
  have l15 : loc 15 (hrs r) = some (82 + 10 * hrs r) := by simp [loc, h30]
  have h := ((((((hC.1.put l9 kd).put l10 lg).put l11 s).put l12 len).put l13 0).put l15 0).put (k := 8) (j := 0) (i := 8) rfl (nI (hrs r) + 1)
  have hU : upd (upd (upd (upd (upd (upd (upd r (73 + 10 * hrs r) kd) (74 + 10 * hrs r) lg) (75 + 10 * hrs r) s) (76 + 10 * hrs r) len) (77 + 10 * hrs r) 0) (82 + 10 * hrs r) 0) 8 (nI (hrs r) + 1) = entU r kd lg s len := by
    unfold entU
    rw [hn.2.2.2]
  rw [hU] at h
  have u8 : entU r kd lg s len 8 = nI (hrs r + 1) := by
    unfold entU
    rw [upd_self, hn.2.2.2, pz_s]
  have uh : hrs (entU r kd lg s len) = hrs r + 1 := by
    show (entU r kd lg s len 8).toNatClampNeg = _
    rw [u8, pz_cl (by omega)]
  have un : ∀ i, i ≠ 8 → (i < 73 + 10 * hrs r ∨ 83 + 10 * hrs r ≤ i) → entU r kd lg s len i = r i := fun i h1 h2 => by
    unfold entU
    rw [upd_ne (by omega), upd_ne (by omega), upd_ne (by omega), upd_ne (by omega), upd_ne (by omega), upd_ne (by omega), upd_ne (by omega)]
  have up : ppl (entU r kd lg s len) = ppl r := by unfold ppl; rw [un 7 (by omega) (by omega)]
  have nU : NumW (entU r kd lg s len) := by
    obtain ⟨a, b, d, f⟩ := hn
    exact ⟨by rw [up]; exact a, by rw [up, un 7 (by omega) (by omega)]; exact b, by omega, by rw [uh]; exact u8⟩
  have e1 : ∀ (m13 : Mem) (v : Int32), (si m13 (c + 8) 0 v).1 (c + 8) 0 - 1 = v - 1 := fun m13 v => by rw [si_at]
  have t0 : ∀ k, tri 0 (fun _ => 0) k = -1 := fun k => by unfold tri; rw [if_neg (by omega)]
  obtain ⟨m', g1, g2, g3⟩ := s3_giveChain0 (h := hrs r) (n := 0) (t := fun _ => 0) h (fun o ho hne => by
    rw [uh] at ho
    rw [si_ne (by omega), si_ne (by omega), si_ne (by omega), si_ne (by omega), si_ne (by omega), si_ne (by omega), si_ne (by omega), hC.2 o (show o < hrs r by omega)]
    unfold mskN
    rw [un _ (by omega) (by omega), un _ (by omega) (by omega), un _ (by omega) (by omega)]) nU (by omega) (Or.inl rfl)
  rw [t0, t0, t0] at g1
  rw [e1, show nI (hrs r) + 1 - 1 = nI (hrs r) from Int32.add_sub_cancel _ _, g1, pz_bnd]
  have g8 : m'.1 (c + 8) 0 = nI (hrs r) + 1 := by
    rw [g2.1.hearings, giveR_ne (by omega), u8, pz_s]
  rw [g8, show nI (hrs r) + 1 - 1 = nI (hrs r) from Int32.add_sub_cancel _ _]
  exact ⟨_, rfl, g2, (((((((FrC.rf.put (by omega)).put (by omega)).put (by omega)).put (by omega)).put (by omega)).put (by omega)).put (by omega)).tr g3⟩
def putW (r : Row) (k : Nat) : Row := fun i => if 73 + 10 * hrs r ≤ i ∧ i < 73 + 10 * hrs r + k then (if 79 + 10 * hrs r ≤ i ∧ i ≤ 81 + 10 * hrs r then -1 else 0) else upd r 8 (nI (hrs r) + 1) i
theorem putW_in {k i : Nat} (h : 73 + 10 * hrs r ≤ i ∧ i < 73 + 10 * hrs r + k) : putW r k i = if 79 + 10 * hrs r ≤ i ∧ i ≤ 81 + 10 * hrs r then -1 else 0 := if_pos h
theorem putW_out {k i : Nat} (h : ¬ (73 + 10 * hrs r ≤ i ∧ i < 73 + 10 * hrs r + k)) : putW r k i = upd r 8 (nI (hrs r) + 1) i := if_neg h
end ENT
