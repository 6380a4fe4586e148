/-! the law's frame: its script, its calls at any count of cells -/
def RO (X : Cx) (ce sl : Nat) : Prop := match X with
  | (_, _, _, R, _, _, _, _, _, _, _, _) => ce ≤ R.cells ∧ sl ≤ R.slots
theorem RO.less {X : Cx} {ce sl : Nat} (h : RO X (ce + 1) (sl + 6)) : RO X ce sl := by
  obtain ⟨p, l, e, R, s, m, args, below, meth, c, G, nn⟩ := X
  exact ⟨by have := h.1; omega, by have := h.2; omega⟩
/-- the script: L ints at the old cell b -/
def LSc (X : Cx) (b L : Nat) (xs : Nat → Int32) : Prop := match X with
  | (_, _, _, _, s, _, _, _, _, _, G, _) => va_X b L xs s s.heap ∧ b < s.heap.size ∧ ¬ gA G b
section LR
variable {X : Cx} {cc : ByteArray} {own : String} {rt : Option FieldType} {fr lo nL : Nat} {ce sl pc : Nat} {lv : List (Nat × Value)} {st : List Value} {μ : Mem} {Q : State → Prop} {b L : Nat} {xs : Nat → Int32}
theorem l_sld (F : Fm X cc own rt fr lo nL) (S : LSc X b L xs) {i : Int32} (hd : decode cc pc = .ok (.iaload, 1)) (hin : vp_in i L) (K : WA X ce sl (pc + 1) lv (.int (xs i.toNatClampNeg) :: st) μ Q) : WA X ce sl pc lv (.int i :: .ref b :: st) μ Q := by
  obtain ⟨p, l, e, R, s, m, args, below, meth, c, G, nn⟩ := X
  obtain ⟨hx, hb, hml, hown, hts, hK, hA, hO, hsz, hr, hlk, hfr, hlo, hn, hfl, hNW⟩ := F
  intro H locs ls hH hS hl
  exact va_sld hx hb S.1 S.2.1 S.2.2 hS hin hd (K H locs ls hH hS hl)
theorem l_slen (F : Fm X cc own rt fr lo nL) (S : LSc X b L xs) (hd : decode cc pc = .ok (.arraylength, 1)) (K : WA X ce sl (pc + 1) lv (.int (nI L) :: st) μ Q) : WA X ce sl pc lv (.ref b :: st) μ Q := by
  obtain ⟨p, l, e, R, s, m, args, below, meth, c, G, nn⟩ := X
  obtain ⟨hx, hb, hml, hown, hts, hK, hA, hO, hsz, hr, hlk, hfr, hlo, hn, hfl, hNW⟩ := F
  intro H locs ls hH hS hl
  exact va_slen hx hb S.1 S.2.1 S.2.2 hS hd (K H locs ls hH hS hl)
theorem l_callV (F : Fm X cc own rt fr lo nL) (hro : RO X ce sl) {ix k ci : Nat} {C : String} {y : MethodName} {cb : ByteArray} {mL n : Nat} {ret : Option FieldType} {f2 l2 : Nat} {As : List Value} {vs : GG → List Value} {r : Option Value} {μ' : Mem} {ds : List Nat} (hd : decode cc pc = .ok (.invokevirtual ix, 3)) (hc : Con y cb mL ret f2 l2 vs μ r μ') (hw : CV own ix C y cb mL ret n) (hk : k < NC) (hs : shp k = .inl (ci, ds)) (hci : ∃ (T : u_T) (N : Nat), vwCl[ci]? = some (C, T, N)) (hvs : vs X.G = .ref (ga X.G k) :: As) {st0 : List Value} (hst : st0 = As.reverse ++ .ref (ga X.G k) :: st) (hn : As.length = n) (hrs : (st.map fun v => v.category).sum ≤ 8) (hR : f2 + 1 ≤ fr ∧ 8 + (mL + 11) + l2 ≤ lo)
    (K : WA X ce sl (pc + 3) lv (r.toList ++ st) μ' Q) : WA X ce sl pc lv st0 μ Q := by
  subst hst
  obtain ⟨p, l, e, R, s, m, args, below, meth, c, G, nn⟩ := X
  obtain ⟨hx, hb, hml, hown, hts, hKK, hA, hO, hsz, hr, hlk, hfr, hlo, hnn, hfl, hNW⟩ := F
  intro H locs ls hH hS hl
  obtain ⟨T, N, hci⟩ := hci
  have hM := hc l hfl G
  rw [show vs G = .ref (ga G k) :: As from hvs] at hM
  have hrv := va_recv (s := s) (H := H) hKK (wsl_P hH) hci (wsl_obj hk hs)
  exact W_run (va_runV (As := As) (rest := st) ⟨hx, hb, hml, hown, hts⟩ hM (cwV n hts hw.good rfl rfl rfl hw.2.2.2.2.2 ⟨Nat.le_trans hR.1 hfr, Nat.le_trans hR.2 hlo⟩) ⟨RU_blind, hrv, fun U hU hW => ⟨rfl, RU_at hKK hA hO hsz hNW hH hS hU hW⟩⟩ rfl hn (by rw [← hnn]; exact hl.1) rfl (lv_room hrs) hd ⟨hro.1, hro.2⟩) hS (fun H1 locs1 hH1 hS1 => K H1 locs1 ls hH1 hS1 hl)
/-- a wrapper of the law: static, with a table of its own -/
def CW (own : String) (ix : Nat) (y : MethodName) (cb : ByteArray) (mL : Nat) (ret : Option FieldType) (hh : List (Nat × Nat × Nat × Nat)) (n : Nat) : Prop :=
  Cond.methodLink own ix y ∈ lw_all ∧ Cond.static y ∈ lw_all ∧ Cond.initialized y.cls ∈ lw_all ∧ Cond.codeWith y cb mL ret hh ∈ lw_all ∧ (y.cls ≠ "java/lang/invoke/MethodHandle" ∧ y.cls ≠ "java/lang/invoke/VarHandle" ∧ (parseMethodDescriptor y.desc).map (fun d => d.parameters.length) = some n)
theorem CW.good {ix : Nat} {y : MethodName} {cb : ByteArray} {mL : Nat} {ret : Option FieldType} {hh : List (Nat × Nat × Nat × Nat)} {n : Nat} (h : CW own ix y cb mL ret hh n) : GoodIn lw_all (va_wsS own ix y (.codeWith y cb mL ret hh :: lw_all)) := by
  intro w hw
  rcases List.mem_append.mp hw with q | q
  · simp only [List.mem_cons, List.not_mem_nil, or_false] at q
    rcases q with rfl | rfl | rfl
    · exact ⟨h.1, all_good h.1⟩
    · exact ⟨h.2.1, all_good h.2.1⟩
    · exact ⟨h.2.2.1, all_good h.2.2.1⟩
  · rcases List.mem_cons.mp q with e | e
    · rw [e]; exact ⟨h.2.2.2.1, all_good h.2.2.2.1⟩
    · exact ⟨e, all_good e⟩
theorem W_run' {p : Program} {l : Launch} {e : Env} {R : Room} {s : State} {m : MethodId} {args : Array Value} {below : List Frame} {meth : Method} {c : Code} {H : Heap} {locs : List Loc} {cells slots mc ms : Nat} {Q : State → Prop} {pc : Nat} {ls : Array Slot} {rest st0 : List Value} {a : Array Value} {G : GG} {r : Option Value} {μ' : Mem}
    (hr : va_Run p l e R s m args below meth c H locs cells slots mc ms (F0 m pc ls st0) rest (QR G r μ' a) (gA G)) (hS : va_S (gA G) s.heap H locs)
    (kk : ∀ (H1 : Heap) (locs1 : List Loc), HR G μ' H1 → va_S (gA G) s.heap H1 locs1 → W p l e R s m args below meth c H1 locs1 (cells + mc) (slots + ms) Q (F0 m (pc + 3) ls (r.toList ++ rest))) : W p l e R s m args below meth c H locs cells slots Q (F0 m pc ls st0) := by
  intro T hT X
  obtain ⟨v, st₀, t, T', L, h0, X', hL, e1, e2, ⟨hv, hH1, hz, hk⟩, st⟩ := hr T hT X
  cases hv
  rw [h0] at hz hk
  obtain ⟨t2, a1, b1⟩ := kk T'.heap (locs ++ L) (by rw [e1]; exact hH1)
    ⟨Nat.le_trans hS.1 (by rw [e1]; exact hz), fun q h1 h2 => by rw [e1, hk q (Nat.lt_of_lt_of_le h1 hS.1) h2]; exact hS.2.1 q h1 h2, fun q hq => by
      rcases List.mem_append.mp hq with h | h
      · exact hS.2.2 q h
      · exact hL q h⟩ T' rfl X'
  exact ⟨t2, st t2 a1, b1⟩
theorem l_callW (F : Fm X cc own rt fr lo nL) (hro : RO X (ce + 1) (sl + 6)) {ix : Nat} {y : MethodName} {cb : ByteArray} {mL n : Nat} {ret : Option FieldType} {hh : List (Nat × Nat × Nat × Nat)} {f2 l2 : Nat} {As : List Value} {vs : GG → List Value} {r : Option Value} {μ' : Mem} (hd : decode cc pc = .ok (.invokestatic ix, 3)) (hc : ConW y cb mL ret hh f2 l2 vs μ r μ') (hw : CW own ix y cb mL ret hh n) (hvs : vs X.G = As) {st0 : List Value} (hst : st0 = As.reverse ++ st) (hn : As.length = n) (hrs : (st.map fun v => v.category).sum ≤ 8) (hR : f2 + 1 ≤ fr ∧ 8 + (mL + 11) + l2 ≤ lo)
    (K : WA X (ce + 1) (sl + 6) (pc + 3) lv (r.toList ++ st) μ' Q) : WA X ce sl pc lv st0 μ Q := by
  subst hst
  obtain ⟨p, l, e, R, s, m, args, below, meth, c, G, nn⟩ := X
  obtain ⟨hx, hb, hml, hown, hts, hKK, hA, hO, hsz, hr, hlk, hfr, hlo, hnn, hfl, hNW⟩ := F
  intro H locs ls hH hS hl
  have hM := hc l hfl G
  rw [show vs G = As from hvs] at hM
  exact W_run' (vx_runSW (As := As) (rest := st) ⟨hx, hb, hml, hown, hts⟩ hM (vx_cwSW n hts hw.good rfl rfl rfl hw.2.2.2.2 ⟨Nat.le_trans hR.1 hfr, Nat.le_trans hR.2 hlo⟩) ⟨RU_blind, fun U hU hW => ⟨rfl, RU_at hKK hA hO hsz hNW hH hS hU hW⟩⟩ rfl hn (by rw [← hnn]; exact hl.1) rfl (lv_room hrs) hd ⟨hro.1, hro.2⟩) hS (fun H1 locs1 hH1 hS1 => K H1 locs1 ls hH1 hS1 hl)
end LR
