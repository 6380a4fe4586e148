/-! calls: assign, whyNot -/
def isq (r : Row) (y : Int32) : Bool := decide (y = -1) || isp r y
def prs (r : Row) (x y z : Int32) : Bool := isp r x && (isq r y && isq r z)
def rwo (x y z : Int32) : Bool := if y = -1 then decide (z = -1) else decide (x ≠ y) && (decide (z = -1) || (decide (z ≠ x) && decide (z ≠ y)))
section ASG
variable {m : Mem} {A : Ab} {r : Row} {x y z w : Int32}
theorem isp_ne {r : Row} (hn : NumW r) (h : isp r x = true) : x ≠ -1 := by
  obtain ⟨p, hp, rfl⟩ := isp_of hn h
  have := hn.1
  intro q
  have k : (nI p = -1) = False := pz_ne1 (by omega)
  rw [k] at q
  exact q
theorem s7_names (hC : CR0 1 m r) : f_X7_nameInterpreters x y z m = some (bI (prs r x y z)) := by
  unfold f_X7_nameInterpreters prs isq
  rw [s6_has hC, pz_bnd, bI_ite, s6_has hC, pz_bnd, bI_ite, s6_has hC, pz_bnd, bI_ite]
  by_cases hy : y = -1
  · by_cases hz : z = -1
    · subst hy; subst hz
      cases isp r x <;> simp [bI]
    · subst hy
      cases isp r x <;> cases isp r z <;> simp [bI, hz]
  · by_cases hz : z = -1
    · subst hz
      cases isp r x <;> cases isp r y <;> simp [bI, hy]
    · cases isp r x <;> cases isp r y <;> cases isp r z <;> simp [bI, hy, hz]
theorem s7_row (hx : x ≠ -1) : f_X7_areRowOfDifferent x y z m = some (bI (rwo x y z)) := by
  unfold f_X7_areRowOfDifferent rwo
  by_cases hy : y = -1
  · by_cases hz : z = -1
    · simp [hy, hz, bI]
    · simp [hy, hz, bI]
  · rw [if_neg hy, if_neg hy]
    by_cases q1 : x = y
    · simp [q1, bI]
    · rw [if_neg q1]
      by_cases q2 : x = z
      · have : ¬ z = -1 := by rw [← q2]; exact hx
        simp [q2, bI, this]
      · rw [if_neg q2]
        have q2' : ¬ z = x := fun e => q2 e.symm
        by_cases q3 : y = z
        · have : ¬ z = -1 := by rw [← q3]; exact hy
          simp [q3, bI, this]
        · have q3' : ¬ z = y := fun e => q3 e.symm
          simp [q1, q2', q3, q3', bI]
theorem row_tri (hn : NumW r) (hp : prs r x y z = true) (hr : rwo x y z = true) : ∃ n t, Tri r n t ∧ x = nI (t 0) ∧ y = tri n t 1 ∧ z = tri n t 2 := by
  unfold prs isq at hp
  rw [Bool.and_eq_true, Bool.and_eq_true, Bool.or_eq_true, Bool.or_eq_true, decide_eq_true_eq, decide_eq_true_eq] at hp
  obtain ⟨px, py, pz⟩ := hp
  obtain ⟨a, ha, rfl⟩ := isp_of hn px
  have h10 := hn.1
  unfold rwo at hr
  by_cases hy : y = -1
  · rw [if_pos hy, decide_eq_true_eq] at hr
    exact ⟨1, fun _ => a, ⟨by omega, by omega, fun k _ => ha, fun i j hi hj _ => by omega⟩, rfl, by rw [hy]; rfl, by rw [hr]; rfl⟩
  · rw [if_neg hy, Bool.and_eq_true, Bool.or_eq_true, Bool.and_eq_true, decide_eq_true_eq, decide_eq_true_eq, decide_eq_true_eq, decide_eq_true_eq] at hr
    obtain ⟨b, hb, rfl⟩ := isp_of hn (py.resolve_left hy)
    have ab : a ≠ b := fun e => hr.1 (by rw [e])
    by_cases hz : z = -1
    · refine ⟨2, fun k => if k = 0 then a else b, ⟨by omega, by omega, fun k _ => ?_, fun i j hi hj e => ?_⟩, rfl, rfl, by rw [hz]; rfl⟩
      · show (if k = 0 then a else b) < _
        split <;> omega
      · simp only [] at e
        by_cases i0 : i = 0 <;> by_cases j0 : j = 0 <;> simp [i0, j0] at e <;> omega
    · obtain ⟨c, hc, rfl⟩ := isp_of hn (pz.resolve_left hz)
      obtain ⟨e1, e2⟩ := hr.2.resolve_left hz
      have ca : c ≠ a := fun e => e1 (by rw [e])
      have cb : c ≠ b := fun e => e2 (by rw [e])
      refine ⟨3, fun k => if k = 0 then a else if k = 1 then b else c, ⟨by omega, by omega, fun k _ => ?_, fun i j hi hj e => ?_⟩, rfl, rfl, rfl⟩
      · show (if k = 0 then a else if k = 1 then b else c) < _
        split
        · omega
        · split <;> omega
      · rcases (show i = 0 ∨ i = 1 ∨ i = 2 by omega) with rfl | rfl | rfl <;> rcases (show j = 0 ∨ j = 1 ∨ j = 2 by omega) with rfl | rfl | rfl <;> simp at e <;> omega
end ASG
