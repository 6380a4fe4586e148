/-! what the model pays, and how it closes a hearing -/
def payM (r : Row) (h : Nat) (x : Int32) : Row := upd (upd (payPR r h x (szN r h)) (82 + 10 * h) (r (82 + 10 * h) + payR r h x)) 10 (r 10 + payR r h x)
theorem sa_put (m : Mem) (k : Nat) (f : Row) (j : Nat) (v : Int32) : si (sa m k f) k j v = sa m k (upd f j v) := by rw [sa_si, sa_self, sa_sa]
section MPAY
variable {m : Mem} {r : Row} {h k a b p : Nat} {x : Int32}
theorem closeR_2 (hc : ChW r h) (hn : NumW r) : upd (upd (payM r h x) 12 (r 12 + payR r h x)) (73 + 10 * h + 4) 2 = closeR r h 2 x := by
  unfold payM closeR
  dsimp only
  rw [if_neg (by decide), if_pos rfl]
  funext i
  simp only [upd]
  by_cases e1 : i = 73 + 10 * h + 4
  · subst e1
    rw [if_pos rfl, if_neg (by omega), if_neg (by omega), if_neg (by omega), if_pos rfl]
    rfl
  · rw [if_neg e1]
    by_cases e2 : i = 12
    · rw [if_pos e2, if_pos e2]
    · rw [if_neg e2, if_neg e2, if_neg e1]
theorem closeR_1 (hc : ChW r h) (hn : NumW r) : upd (payM r h x) (73 + 10 * h + 4) 1 = closeR r h 1 x := by
  unfold payM closeR
  dsimp only
  rw [if_neg (by decide), if_neg (by decide)]
  funext i
  simp only [upd]
  by_cases e1 : i = 73 + 10 * h + 4
  · subst e1
    rw [if_pos rfl, if_neg (by omega), if_neg (by omega), if_pos rfl]
    rfl
  · rw [if_neg e1, if_neg e1]
theorem closeR_3 (hc : ChW r h) (hn : NumW r) : upd (upd (payM r h x) 11 (r 11 + payR r h x)) (73 + 10 * h + 4) 3 = closeR r h 3 x := by
  unfold payM closeR
  dsimp only
  rw [if_pos rfl]
  funext i
  simp only [upd]
  by_cases e1 : i = 73 + 10 * h + 4
  · subst e1
    rw [if_pos rfl, if_neg (by omega), if_neg (by omega), if_neg (by omega), if_pos rfl]
    rfl
  · rw [if_neg e1]
    by_cases e2 : i = 11
    · rw [if_pos e2, if_pos e2]
    · rw [if_neg e2, if_neg e2, if_neg e1]
theorem closeR_0 (hc : ChW r h) (h0 : szN r h = 0) {st : Nat} : closeR r h st 2 = closeR r h st 1 := by
  have e1 : ∀ y, payR r h y = 0 := fun y => by unfold payR; rw [h0]; rfl
  unfold closeR
  rw [h0, e1, e1]
  rfl
end MPAY
