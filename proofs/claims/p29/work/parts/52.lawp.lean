/-! the law's pay -/
def LZE (m : Mem) (r : Row) : Prop := m.1 162 13 = r 6 ∧ (∀ p, p < ppl r → m.1 163 (6 * p + 2) = r (33 + p)) ∧ (∀ h, h < hrs r → m.1 164 (6 * h + 3) = r (73 + 10 * h + 3)) ∧ ∀ h, h < hrs r → m.1 165 h = nI (encT (szN r h) (mbN r h))
theorem LZ.le {m : Mem} {r : Row} {n : Nat} (L : LZ m r n) (B : LZB r) : LZE m r :=
  ⟨L.ns (k := 6) (by omega), fun p hp => L.pe B hp (by omega), fun h hh => L.he B hh (by omega), fun h hh => L.ch B hh⟩
section LPAY
variable {m : Mem} {r : Row} {n h p k v : Nat}
theorem l_earns (E : LZE m r) (B : LZB r) (hP : PEO r) (hT : TIM r) (hS : TiW r) (hp : p < ppl r) (hh : h < hrs r) (hk1 : 1 ≤ k) (hk : k ≤ 3) : f_L_earns (nI h) (nI p) (nI k) m = some (earnR r p h (decide (1 < k))) := by
  obtain ⟨b5, b8⟩ := B
  obtain ⟨-, -, q, q1, q2⟩ := hP p hp
  obtain ⟨-, l, l1, l2⟩ := hT h hh
  obtain ⟨u, u1, u2⟩ := hS.2 6 (by omega)
  have b1 : q * l ≤ 24000 := Nat.le_trans (Nat.mul_le_mul q1 l1) (by omega)
  have b2 : (q * l + 9) / 10 * (100 + u) ≤ 2400 * 5100 := Nat.mul_le_mul (by omega) (by omega)
  have e0 : (nI (q * l % 10) ≤ 0) = (q * l % 10 = 0) := i32_le0 (by omega)
  have e1 : (nI k = 1) = (k = 1) := pz_eq (b := (1 : Nat)) (by omega) (by decide)
  unfold f_L_earns
  rw [x6, pl2, x6, pl3, pz_in (by omega) (by omega), pz_cl (by omega), E.2.1 p hp, pz_nm, pz_in (by omega) (by omega), pz_cl (by omega), E.2.2.1 h hh, pz_nm, E.1, q2, l2, u2, pz_mul, show (10 : Int32) = nI 10 from rfl, pk_rem (by omega) (by omega) (by omega), pk_div (by omega) (by omega) (by omega), pz_nm]
  have key : bnd (if nI (q * l % 10) ≤ 0 then some (0 : Int32) else some 1) (fun x8 => some (nI (q * l / 10) + x8)) = some (nI ((q * l + 9) / 10)) := by
    by_cases z : q * l % 10 = 0
    · rw [if_pos (by rw [e0]; exact z), pz_bnd, pz_0, pz_add]
      exact congrArg (fun x => some (nI x)) (by omega)
    · rw [if_neg (by rw [e0]; exact z), pz_bnd, pz_1, pz_add]
      exact congrArg (fun x => some (nI x)) (by omega)
  have key2 : ∃ x8 : Int32, (if nI (q * l % 10) ≤ 0 then some (0 : Int32) else some 1) = some x8 ∧ nI (q * l / 10) + x8 = nI ((q * l + 9) / 10) := by
    by_cases z : q * l % 10 = 0
    · rw [if_pos (by rw [e0]; exact z)] at key ⊢
      exact ⟨_, rfl, Option.some.inj key⟩
    · rw [if_neg (by rw [e0]; exact z)] at key ⊢
      exact ⟨_, rfl, Option.some.inj key⟩
  obtain ⟨x8, k1, k2⟩ := key2
  rw [k1, pz_bnd, k2]
  unfold earnR
  rw [q2, l2, u2, show (9 : Int32) = nI 9 from rfl, show (10 : Int32) = nI 10 from rfl, pz_mul, pz_add, pk_div (by omega) (by omega) (by omega)]
  by_cases z : k = 1
  · rw [if_pos (by rw [e1]; exact z), z]
    rfl
  · rw [if_neg (by rw [e1]; exact z), pz_nm, decide_eq_true (show 1 < k by omega)]
    rfl
theorem half2 {e : Nat} (he : e ≤ 122500) : nI e * nI 2 / 2 = nI e := by
  rw [pz_mul, show (2 : Int32) = nI 2 from rfl, pk_div (by omega) (by omega) (by omega), Nat.mul_div_cancel _ (by omega)]
theorem half1 {e : Nat} (he : e ≤ 122500) : nI e * nI 1 / 2 = nI e / 2 := by
  rw [pz_mul, Nat.mul_one]
theorem half0 (x : Int32) : x * nI 0 / 2 = 0 := by
  rw [show nI 0 = (0 : Int32) from rfl, Int32.mul_zero]
  decide
/-- what is paid for one of a chain, in the law's words -/
theorem l_half {β : Type} (hP : PEO r) (hT : TIM r) (hS : TiW r) (hp : p < ppl r) (hh : h < hrs r) (hv : v ≤ 2) {s : Bool} (a : Int32) (K : Int32 → β) : (if nI v = 2 then K (a + earnR r p h s) else if nI v = 1 then K (a + earnR r p h s / 2) else K (a + 0)) = K (a + earnR r p h s * nI v / 2) := by
  obtain ⟨e, e1, e2⟩ := earn_b (s := s) hP hT hS hp hh
  have q2 : (nI v = 2) = (v = 2) := pz_eq (b := (2 : Nat)) (by omega) (by decide)
  have q1 : (nI v = 1) = (v = 1) := pz_eq (b := (1 : Nat)) (by omega) (by decide)
  rw [e2]
  rcases (show v = 2 ∨ v = 1 ∨ v = 0 by omega) with rfl | rfl | rfl
  · rw [if_pos (show nI 2 = (2 : Int32) from rfl), half2 e1]
  · rw [if_neg (by rw [q2]; omega), if_pos (show nI 1 = (1 : Int32) from rfl), half1 e1]
  · rw [if_neg (by rw [q2]; omega), if_neg (by rw [q1]; omega), half0]
theorem l_together (E : LZE m r) (B : LZB r) (hP : PEO r) (hT : TIM r) (hS : TiW r) (hh : h < hrs r) (hc : ChW r h) (hv : v ≤ 2) : f_L_together (nI h) (nI v) m = some (payR r h (nI v)) := by
  have h3 := hc.1
  have b8 := B.2
  have tb := B.mb hc
  unfold f_L_together
  rw [pz_in (by omega) (by omega), pz_cl (by omega), E.2.2.2 h hh, pz_nm, l_size tb h3, pz_bnd]
  have e : lp (f_L_together_L15 (nI h) (nI v) m (nI (szN r h))) 1000000 (0, 0) = some (payR r h (nI v)) := by
    refine lp_cnt (fun k => (payN r h (nI v) k, nI k)) (N := szN r h) (fun k hk => ?_) ?_ (by omega)
    · obtain ⟨h1, h2⟩ := hc.2.2.1 k hk
      rw [f_L_together_L15, if_neg (by rw [pz_le (by omega) (by omega)]; omega), pz_in (by omega) (by omega), pz_cl (by omega), E.2.2.2 h hh]
      simp only [pz_nm]
      simp (disch := omega) only [pz_in, pz_bnd, l_whoN (m := m) tb h3 hk, l_earns E B hP hT hS h1 hh (show 1 ≤ szN r h by omega) h3, pz_s]
      show _ = some (Sum.inl (payN r h (nI v) k + earnR r (mbN r h k) h (decide (1 < szN r h)) * nI v / 2, nI (k + 1)))
      exact l_half (s := decide (1 < szN r h)) hP hT hS h1 hh hv (payN r h (nI v) k) (fun x => some (Sum.inl (x, nI (k + 1))))
    · rw [f_L_together_L15, if_pos (by rw [pz_le (by omega) (by omega)]; omega)]
      rfl
  rw [e, pz_bnd]
/-- what pays leaves -/
def PYD (m m' : Mem) (r : Row) (h v : Nat) : Prop := (∀ p, p < ppl r → m'.1 163 (6 * p + 4) = payPR r h (nI v) (szN r h) (53 + p)) ∧ (∀ p j, p < 5 → j < 6 → (j ≠ 4 ∨ ppl r ≤ p) → m'.1 163 (6 * p + j) = m.1 163 (6 * p + j)) ∧
  (∀ i, m'.1 164 i = if i = 6 * h + 5 then m.1 164 i + payR r h (nI v) else m.1 164 i) ∧ (∀ i, m'.1 162 i = if i = 3 then m.1 162 3 + payR r h (nI v) else m.1 162 i) ∧ ∀ a, a ≠ 162 → a ≠ 163 → a ≠ 164 → m'.1 a = m.1 a
theorem l_pays (E : LZE m r) (B : LZB r) (hP : PEO r) (hT : TIM r) (hS : TiW r) (hh : h < hrs r) (hc : ChW r h) (hv : v ≤ 2) (h4 : ∀ p, p < ppl r → m.1 163 (6 * p + 4) = r (53 + p)) : ∃ m', f_L_pays (nI h) (nI v) m = some (payR r h (nI v), m') ∧ PYD m m' r h v := by
  have h3 := hc.1
  have b8 := B.2
  have b5 := B.1
  have tb := B.mb hc
  have key : ∃ m1 : Mem, lp (f_L_pays_L12 (nI h) (nI v) (nI (szN r h))) 1000000 (0, m) = some m1 ∧ ((∀ p, p < ppl r → m1.1 163 (6 * p + 4) = payPR r h (nI v) (szN r h) (53 + p)) ∧ (∀ p j, p < 5 → j < 6 → (j ≠ 4 ∨ ppl r ≤ p) → m1.1 163 (6 * p + j) = m.1 163 (6 * p + j)) ∧ ∀ a, a ≠ 163 → m1.1 a = m.1 a) := by
    refine lp_inv (fun k (s : Int32 × Mem) => s.1 = nI k ∧ (∀ p, p < ppl r → s.2.1 163 (6 * p + 4) = payPR r h (nI v) k (53 + p)) ∧ (∀ p j, p < 5 → j < 6 → (j ≠ 4 ∨ ppl r ≤ p) → s.2.1 163 (6 * p + j) = m.1 163 (6 * p + j)) ∧ ∀ a, a ≠ 163 → s.2.1 a = m.1 a) (N := szN r h) (fun k s hk hI => ?_) (fun s hI => ?_) _ ⟨rfl, h4, fun _ _ _ _ _ => rfl, fun _ _ => rfl⟩ (by omega)
    · obtain ⟨x, m1⟩ := s
      obtain ⟨rfl, i1, i2, i3⟩ := hI
      dsimp only at i1 i2 i3
      obtain ⟨h1, h2⟩ := hc.2.2.1 k hk
      have E1 : LZE m1 r := ⟨by rw [i3 162 (by omega)]; exact E.1, fun p hp => by rw [i2 p 2 (by omega) (by omega) (by omega)]; exact E.2.1 p hp, fun o ho => by rw [i3 164 (by omega)]; exact E.2.2.1 o ho, fun o ho => by rw [i3 165 (by omega)]; exact E.2.2.2 o ho⟩
      rw [f_L_pays_L12, if_neg (by rw [pz_le (by omega) (by omega)]; omega), pz_in (by omega) (by omega), pz_cl (by omega), E1.2.2.2 h hh, pz_nm, l_whoN tb h3 hk, pz_bnd, l_earns E1 B hP hT hS h1 hh (by omega) h3, pz_bnd, x6, pl4]
      simp (disch := omega) only [pz_in, pz_cl, pz_nm, pz_s]
      rw [i1 _ h1]
      rw [l_half (s := decide (1 < szN r h)) hP hT hS h1 hh hv (payPR r h (nI v) k (53 + mbN r h k)) (fun x => some (Sum.inl (nI (k + 1), si m1 163 (6 * mbN r h k + 4) x)))]
      refine ⟨_, rfl, rfl, fun p hp => ?_, fun p j hp hj hj4 => ?_, fun a ha => ?_⟩
      · dsimp only
        rw [payPR]
        by_cases e : p = mbN r h k
        · subst e
          rw [si_at, upd_self]
        · rw [si_off (Or.inr (by omega)), upd_ne (by omega)]
          exact i1 p hp
      · dsimp only
        rw [si_off (Or.inr (by omega))]
        exact i2 p j hp hj hj4
      · dsimp only
        rw [si_ne ha]
        exact i3 a ha
    · obtain ⟨x, m1⟩ := s
      obtain ⟨rfl, i1, i2, i3⟩ := hI
      rw [f_L_pays_L12, if_pos (by rw [pz_le (by omega) (by omega)]; omega)]
      exact ⟨_, rfl, i1, i2, i3⟩
  obtain ⟨m1, e1, i1, i2, i3⟩ := key
  have E1 : LZE m1 r := ⟨by rw [i3 162 (by omega)]; exact E.1, fun p hp => by rw [i2 p 2 (by omega) (by omega) (by omega)]; exact E.2.1 p hp, fun o ho => by rw [i3 164 (by omega)]; exact E.2.2.1 o ho, fun o ho => by rw [i3 165 (by omega)]; exact E.2.2.2 o ho⟩
  unfold f_L_pays
  rw [pz_in (by omega) (by omega), pz_cl (by omega), E.2.2.2 h hh, pz_nm, l_size tb h3, pz_bnd, e1, pz_bnd, l_together E1 B hP hT hS hh hc hv, pz_bnd, x6, pl5]
  simp (disch := omega) only [pz_in, pz_cl, pz_nm]
  refine ⟨_, rfl, fun p hp => ?_, fun p j hp hj hj4 => ?_, fun i => ?_, fun i => ?_, fun a g1 g2 g3 => ?_⟩
  · rw [si_ne (by omega), si_ne (by omega)]; exact i1 p hp
  · rw [si_ne (by omega), si_ne (by omega)]; exact i2 p j hp hj hj4
  · rw [si_ne (by omega)]
    by_cases e : i = 6 * h + 5
    · rw [if_pos e, e, si_at, i3 164 (by omega)]
    · rw [if_neg e, si_off (Or.inr e), i3 164 (by omega)]
  · by_cases e : i = 3
    · rw [if_pos e, e, si_at, si_ne (by omega), i3 162 (by omega)]
    · rw [if_neg e, si_off (Or.inr e), si_ne (by omega), i3 162 (by omega)]
  · rw [si_ne g1, si_ne g3, i3 a g2]
end LPAY
section LCL
variable {m m' : Mem} {r : Row} {n h a b st v : Nat} {hv : Int32}
theorem l_clash (L : LZ m r n) (B : LZB r) (ha : a < hrs r) (hb : b < hrs r) : f_L_clash (nI a) (nI b) m = some (bI (clsh r a b)) := by
  have b8 := B.2
  have e1 := L.he B ha (j := 2) (by omega)
  have e2 := L.he B hb (j := 2) (by omega)
  have e3 := L.he B ha (j := 3) (by omega)
  have e4 := L.he B hb (j := 3) (by omega)
  unfold f_L_clash
  simp (disch := omega) only [x6, pl2, pl3, pz_in, pz_cl, pz_nm]
  rw [e1, e2, e3, e4]
  unfold clsh
  show (if endR r b ≤ r (73 + 10 * a + 2) then some 0 else if endR r a ≤ r (73 + 10 * b + 2) then some 0 else some 1) = _
  by_cases h1 : endR r b ≤ r (73 + 10 * a + 2)
  · simp [h1, bI]
  · by_cases h2 : endR r a ≤ r (73 + 10 * b + 2) <;> simp [h1, h2, bI]
theorem closeR_at (hc : ChW r h) (hn : ppl r ≤ 10) (hst : st ≤ 3) (i : Nat) : closeR r h st hv i = if i = 10 then r 10 + payR r h hv else if i = 11 ∧ st = 3 then r 11 + payR r h hv else if i = 12 ∧ st = 2 then r 12 + payR r h hv else if i = 73 + 10 * h + 4 then nI st else if i = 82 + 10 * h then r i + payR r h hv else payPR r h hv (szN r h) i := by
  unfold closeR
  by_cases s3 : st = 3
  · rw [if_pos s3]
    by_cases i11 : i = 11
    · rw [i11, upd_self, if_neg (by omega), if_pos ⟨rfl, s3⟩]
    · rw [upd_ne i11]
      by_cases i10 : i = 10
      · rw [i10, upd_self, if_pos rfl]
      · rw [upd_ne i10, if_neg i10, if_neg (by omega), if_neg (by omega)]
        by_cases i82 : i = 82 + 10 * h
        · rw [i82, upd_self, if_neg (by omega), if_pos rfl]
        · rw [upd_ne i82]
          by_cases i4 : i = 73 + 10 * h + 4
          · rw [i4, upd_self, if_pos rfl]
          · rw [upd_ne i4, if_neg i4, if_neg i82]
  · rw [if_neg s3]
    by_cases s2 : st = 2
    · rw [if_pos s2]
      by_cases i12 : i = 12
      · rw [i12, upd_self, if_neg (by omega), if_neg (by omega), if_pos ⟨rfl, s2⟩]
      · rw [upd_ne i12]
        by_cases i10 : i = 10
        · rw [i10, upd_self, if_pos rfl]
        · rw [upd_ne i10, if_neg i10, if_neg (by omega), if_neg (by omega)]
          by_cases i82 : i = 82 + 10 * h
          · rw [i82, upd_self, if_neg (by omega), if_pos rfl]
          · rw [upd_ne i82]
            by_cases i4 : i = 73 + 10 * h + 4
            · rw [i4, upd_self, if_pos rfl]
            · rw [upd_ne i4, if_neg i4, if_neg i82]
    · rw [if_neg s2]
      by_cases i10 : i = 10
      · rw [i10, upd_self, if_pos rfl]
      · rw [upd_ne i10, if_neg i10, if_neg (by omega), if_neg (by omega)]
        by_cases i82 : i = 82 + 10 * h
        · rw [i82, upd_self, if_neg (by omega), if_pos rfl]
        · rw [upd_ne i82]
          by_cases i4 : i = 73 + 10 * h + 4
          · rw [i4, upd_self, if_pos rfl]
          · rw [upd_ne i4, if_neg i4, if_neg i82]
/-- a hearing closed in the law's rows -/
theorem LZ_close (L : LZ m r n) (B : LZB r) (hc : ChW r h) (hh : h < hrs r) (hst : st ≤ 3)
    (g1 : ∀ p, p < ppl r → m'.1 163 (6 * p + 4) = payPR r h hv (szN r h) (53 + p)) (g2 : ∀ p j, p < 5 → j < 6 → (j ≠ 4 ∨ ppl r ≤ p) → m'.1 163 (6 * p + j) = m.1 163 (6 * p + j))
    (g3 : ∀ i, m'.1 164 i = if i = 6 * h + 4 then nI st else if i = 6 * h + 5 then m.1 164 i + payR r h hv else m.1 164 i)
    (g4 : ∀ i, m'.1 162 i = if i = 3 then m.1 162 3 + payR r h hv else if i = 4 ∧ st = 3 then m.1 162 4 + payR r h hv else if i = 5 ∧ st = 2 then m.1 162 5 + payR r h hv else m.1 162 i)
    (g5 : m'.1 165 = m.1 165) : LZ m' (closeR r h st hv) n := by
  obtain ⟨b5, b8⟩ := B
  have hn : ppl r ≤ 10 := by omega
  have e := closeR_SE (st := st) (hv := hv) hc hn
  have at_ := closeR_at (hv := hv) hc hn hst
  have pne : ∀ i, (i < 53 ∨ 63 ≤ i) → payPR r h hv (szN r h) i = r i := fun i hi => payPR_ne (hv := hv) hc hn (szN r h) i (Nat.le_refl _) hi
  have clo : ∀ i, i < 10 → closeR r h st hv i = r i := fun i hi => by
    rw [at_ i, if_neg (by omega), if_neg (by omega), if_neg (by omega), if_neg (by omega), if_neg (by omega), pne i (by omega)]
  have c10 : closeR r h st hv 10 = r 10 + payR r h hv := by rw [at_ 10, if_pos rfl]
  have c11 : closeR r h st hv 11 = if st = 3 then r 11 + payR r h hv else r 11 := by
    rw [at_ 11, if_neg (by omega)]
    by_cases q : st = 3
    · rw [if_pos ⟨rfl, q⟩, if_pos q]
    · rw [if_neg (by omega), if_neg q, if_neg (by omega), if_neg (by omega), if_neg (by omega), pne 11 (by omega)]
  have c12 : closeR r h st hv 12 = if st = 2 then r 12 + payR r h hv else r 12 := by
    rw [at_ 12, if_neg (by omega), if_neg (by omega)]
    by_cases q : st = 2
    · rw [if_pos ⟨rfl, q⟩, if_pos q]
    · rw [if_neg (by omega), if_neg q, if_neg (by omega), if_neg (by omega), pne 12 (by omega)]
  have cp : ∀ i, 13 ≤ i → i < 73 → closeR r h st hv i = payPR r h hv (szN r h) i := fun i h1 h2 => by
    rw [at_ i, if_neg (by omega), if_neg (by omega), if_neg (by omega), if_neg (by omega), if_neg (by omega)]
  have chf : ∀ o j, j < 6 → hfL (closeR r h st hv) o j = if o = h ∧ j = 4 then nI st else if o = h ∧ j = 5 then hfL r h 5 + payR r h hv else hfL r o j := fun o j hj => by
    unfold hfL
    by_cases j5 : j < 5
    · rw [if_pos j5, at_ (73 + 10 * o + j), if_neg (by omega), if_neg (by omega), if_neg (by omega)]
      by_cases q : o = h ∧ j = 4
      · rw [if_pos (c := 73 + 10 * o + j = 73 + 10 * h + 4) (by omega), if_pos q]
      · rw [if_neg (c := 73 + 10 * o + j = 73 + 10 * h + 4) (by omega), if_neg (c := 73 + 10 * o + j = 82 + 10 * h) (by omega), if_neg q, if_neg (c := o = h ∧ j = 5) (by omega), if_pos j5, pne _ (by omega)]
    · rw [if_neg j5, at_ (82 + 10 * o), if_neg (by omega), if_neg (by omega), if_neg (by omega), if_neg (by omega)]
      by_cases q : o = h
      · rw [if_pos (c := 82 + 10 * o = 82 + 10 * h) (by omega), if_neg (c := o = h ∧ j = 4) (by omega), if_pos (c := o = h ∧ j = 5) (by omega), if_neg (c := (5 : Nat) < 5) (by omega), q]
      · rw [if_neg (c := 82 + 10 * o = 82 + 10 * h) (by omega), if_neg (c := o = h ∧ j = 4) (by omega), if_neg (c := o = h ∧ j = 5) (by omega), if_neg j5, pne _ (by omega)]
  refine ⟨fun i hi => ?_, fun p j hp hj => ?_, fun o j ho hj => ?_, fun o ho => ?_⟩
  · rw [g4 i]
    by_cases i6 : i < 6
    · unfold nvR
      rw [if_pos i6]
      rcases (show i = 0 ∨ i = 1 ∨ i = 2 ∨ i = 3 ∨ i = 4 ∨ i = 5 by omega) with rfl | rfl | rfl | rfl | rfl | rfl
      · rw [clo _ (by omega)]; simp [L.n0]
      · rw [clo _ (by omega)]; simp [L.n1]
      · rw [clo _ (by omega)]; simp [L.n2]
      · rw [show 7 + 3 = 10 from rfl, c10, if_pos rfl, L.n3]
      · rw [show 7 + 4 = 11 from rfl, c11, L.n4]; simp
      · rw [show 7 + 5 = 12 from rfl, c12, L.n5]; simp
    · rw [if_neg (by omega), if_neg (by omega), if_neg (by omega), L.1 i hi]
      unfold nvR
      rw [if_neg i6, if_neg i6]
      by_cases i7 : i = 6
      · rw [if_pos i7, if_pos i7]
      · rw [if_neg i7, if_neg i7, clo _ (by omega)]
  · unfold pvL
    rw [e.ePpl]
    by_cases hpl : p < ppl r
    · rw [if_pos hpl, cp _ (by omega) (by omega)]
      by_cases j4 : j = 4
      · subst j4
        rw [g1 p hpl, show 13 + 10 * 4 + p = 53 + p by omega]
      · rw [g2 p j hp hj (Or.inl j4), L.2.1 p j hp hj, pne _ (by omega)]
        exact if_pos hpl
    · rw [if_neg hpl, g2 p j hp hj (Or.inr (by omega)), L.2.1 p j hp hj]
      exact if_neg hpl
  · have l164 := L.2.2.1 o j ho hj
    unfold hvL at l164 ⊢
    rw [e.eHrs, g3 (6 * o + j), l164]
    by_cases hol : o < hrs r
    · rw [if_pos hol, if_pos hol, chf o j hj]
      by_cases q : o = h ∧ j = 4
      · rw [if_pos q, if_pos (by omega)]
      · rw [if_neg q, if_neg (c := 6 * o + j = 6 * h + 4) (by omega)]
        by_cases q5 : o = h ∧ j = 5
        · rw [if_pos q5, if_pos (by omega), q5.1, q5.2]
        · rw [if_neg q5, if_neg (by omega)]
    · rw [if_neg hol, if_neg hol, if_neg (by omega), if_neg (by omega)]
  · unfold cvL
    rw [g5, L.2.2.2 o ho, e.eHrs, e.sz]
    unfold cvL
    have : encT (szN r o) (mbN r o) = encT (szN r o) (mbN (closeR r h st hv) o) := by
      unfold encT dg
      rw [e.mb (by omega), e.mb (by omega), e.mb (by omega)]
    rw [this]
end LCL
