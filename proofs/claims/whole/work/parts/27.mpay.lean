/-! what the model pays, and how it closes a hearing -/
def payM (r : Row) (h : Nat) (x : Int32) : Row := upd (upd (payPR r h x (szN r h)) (82 + 10 * h) (r (82 + 10 * h) + payR r h x)) 10 (r 10 + payR r h x)
theorem sa_put (m : Mem) (k : Nat) (f : Row) (j : Nat) (v : Int32) : si (sa m k f) k j v = sa m k (upd f j v) := by rw [sa_si, sa_self, sa_sa]
section MPAY
variable {m : Mem} {r : Row} {h k a b p : Nat} {x : Int32}
theorem s8_pay (hz : m.1 163 = r) (hn : NumW r) (hh : h < 30) (hc : ChW r h) : f_X8_pay (nI h) x m = some (payR r h x, sa m 163 (payM r h x)) := by
  unfold f_X8_pay
  have h10 := hn.1
  have h3 := hc.1
  rw [s8_payFor hz hn hh hc, pz_bnd, show (5 : Int32) = nI 5 from rfl, s8_of hz hh (by omega), pz_bnd, hc.2.1]
  have e : lp (f_X8_pay_L18 (nI h) x (nI (szN r h))) 1000000 (0, m) = some (sa m 163 (payPR r h x (szN r h))) := by
    have e0 : m = sa m 163 (payPR r h x 0) := by
      show m = sa m 163 r
      rw [← hz, sa_id]
    have := lp_cnt (body := f_X8_pay_L18 (nI h) x (nI (szN r h))) (fun k => (nI k, sa m 163 (payPR r h x k))) (N := szN r h) (t := sa m 163 (payPR r h x (szN r h))) (fun k hk => ?_) ?_ (n := 1000000) (by omega)
    · rw [← e0] at this
      exact this
    · obtain ⟨hp, he⟩ := hc.2.2.1 k hk
      have se := payPR_SE (hv := x) hc h10 (k := k) (by omega)
      have hz' := sa_self m 163 (payPR r h x k)
      rw [f_X8_pay_L18, if_neg (by rw [pz_le (by omega) (by omega)]; omega), show (6 : Int32) = nI 6 from rfl, pz_add, s8_of hz' hh (by omega), pz_bnd, show 73 + 10 * h + (6 + k) = 79 + 10 * h + k by omega, se.chn (by omega), he,
        show (53 : Int32) = nI 53 from rfl, pz_add, pz_in (by omega) (by omega), pz_cl (by omega)]
      simp only [pz_nm]
      rw [s8_earns hz' (by omega) hh h3, pz_bnd, pz_in (by omega) (by omega), pz_s, sa_self, sa_put, se.earn (by omega)]
      rfl
    · rw [f_X8_pay_L18, if_pos (by rw [pz_le (by omega) (by omega)]; omega)]
  rw [e, pz_bnd]
  have i1 : 73 + 10 * nI h + 9 = nI (73 + 10 * h + 9) := by
    rw [show (73 : Int32) = nI 73 from rfl, show (10 : Int32) = nI 10 from rfl, show (9 : Int32) = nI 9 from rfl, pz_mul, pz_add, pz_add]
  rw [i1, pz_in (by omega) (by omega), pz_cl (by omega)]
  simp only [pz_nm]
  rw [pz_in (by omega) (by omega), sa_self, sa_put, sa_self, sa_put, show 73 + 10 * h + 9 = 82 + 10 * h by omega, payPR_ne hc h10 _ _ (Nat.le_refl _) (by omega), upd_ne (by omega), payPR_ne hc h10 _ _ (Nat.le_refl _) (by omega)]
  rfl
theorem closeR_2 (hc : ChW r h) (hn : NumW r) : upd (upd (payM r h x) 12 (r 12 + payR r h x)) (73 + 10 * h + 4) 2 = closeR r h 2 x := by
  unfold payM closeR
  dsimp only
  rw [if_neg (by decide), if_pos rfl]
  funext i
  simp only [upd]
  by_cases e1 : i = 73 + 10 * h + 4
  · subst e1
    rw [if_pos rfl, if_neg (by omega), if_neg (by omega), if_neg (by omega), if_pos rfl]
    rfl
  · rw [if_neg e1]
    by_cases e2 : i = 12
    · rw [if_pos e2, if_pos e2]
    · rw [if_neg e2, if_neg e2, if_neg e1]
theorem closeR_1 (hc : ChW r h) (hn : NumW r) : upd (payM r h x) (73 + 10 * h + 4) 1 = closeR r h 1 x := by
  unfold payM closeR
  dsimp only
  rw [if_neg (by decide), if_neg (by decide)]
  funext i
  simp only [upd]
  by_cases e1 : i = 73 + 10 * h + 4
  · subst e1
    rw [if_pos rfl, if_neg (by omega), if_neg (by omega), if_pos rfl]
    rfl
  · rw [if_neg e1, if_neg e1]
theorem closeR_3 (hc : ChW r h) (hn : NumW r) : upd (upd (payM r h x) 11 (r 11 + payR r h x)) (73 + 10 * h + 4) 3 = closeR r h 3 x := by
  unfold payM closeR
  dsimp only
  rw [if_pos rfl]
  funext i
  simp only [upd]
  by_cases e1 : i = 73 + 10 * h + 4
  · subst e1
    rw [if_pos rfl, if_neg (by omega), if_neg (by omega), if_neg (by omega), if_pos rfl]
    rfl
  · rw [if_neg e1]
    by_cases e2 : i = 11
    · rw [if_pos e2, if_pos e2]
    · rw [if_neg e2, if_neg e2, if_neg e1]
theorem s8_adjourn (hz : m.1 163 = r) (hn : NumW r) (hh : h < 30) (hc : ChW r h) : f_X8_adjourn (nI h) m = some (sa m 163 (closeR r h 2 1)) := by
  unfold f_X8_adjourn
  rw [s8_pay hz hn hh hc, pz_bnd2, show (4 : Int32) = nI 4 from rfl]
  simp only [pz_nm]
  rw [s8_put hh (by omega), pz_bnd, hz, sa_put, sa_put, closeR_2 hc hn]
theorem s8_done (hz : m.1 163 = r) (hn : NumW r) (hh : h < 30) (hc : ChW r h) {β : Type} (K : Int32 → Mem → Option β) : bnd2 (f_X8_pay (nI h) x m) (fun y m1 => bnd (f_X8_put (nI h) 4 1 m1) (K y)) = K (payR r h x) (sa m 163 (closeR r h 1 x)) := by
  rw [s8_pay hz hn hh hc, pz_bnd2, show (4 : Int32) = nI 4 from rfl, s8_put hh (by omega), pz_bnd, sa_put, closeR_1 hc hn]
theorem closeR_0 (hc : ChW r h) (h0 : szN r h = 0) {st : Nat} : closeR r h st 2 = closeR r h st 1 := by
  have e1 : ∀ y, payR r h y = 0 := fun y => by unfold payR; rw [h0]; rfl
  unfold closeR
  rw [h0, e1, e1]
  rfl
end MPAY
