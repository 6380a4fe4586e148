/-! the law's frame: its script, its calls at any count of cells -/
def RO (X : Cx) (ce sl : Nat) : Prop := match X with
  | (_, _, _, R, _, _, _, _, _, _, _, _) => ce ≤ R.cells ∧ sl ≤ R.slots
/-- the script: L ints at the old cell b -/
def LSc (X : Cx) (b L : Nat) (xs : Nat → Int32) : Prop := match X with
  | (_, _, _, _, s, _, _, _, _, _, G, _) => va_X b L xs s s.heap ∧ b < s.heap.size ∧ ¬ gA G b
section LR
variable {X : Cx} {cc : ByteArray} {own : String} {rt : Option FieldType} {fr lo nL : Nat} {ce sl pc : Nat} {lv : List (Nat × Value)} {st : List Value} {μ : Mem} {Q : State → Prop} {b L : Nat} {xs : Nat → Int32}
theorem l_sld (F : Fm X cc own rt fr lo nL) (S : LSc X b L xs) {i : Int32} (hd : decode cc pc = .ok (.iaload, 1)) (hin : vp_in i L) (K : WA X ce sl (pc + 1) lv (.int (xs i.toNatClampNeg) :: st) μ Q) : WA X ce sl pc lv (.int i :: .ref b :: st) μ Q := by
  obtain ⟨p, l, e, R, s, m, args, below, meth, c, G, nn⟩ := X
  obtain ⟨hx, hb, hml, hown, hts, hK, hA, hO, hsz, hr, hlk, hfr, hlo, hn, hfl, hNW⟩ := F
  intro H locs ls hH hS hl
  exact va_sld hx hb S.1 S.2.1 S.2.2 hS hin hd (K H locs ls hH hS hl)
theorem l_slen (F : Fm X cc own rt fr lo nL) (S : LSc X b L xs) (hd : decode cc pc = .ok (.arraylength, 1)) (K : WA X ce sl (pc + 1) lv (.int (nI L) :: st) μ Q) : WA X ce sl pc lv (.ref b :: st) μ Q := by
  obtain ⟨p, l, e, R, s, m, args, below, meth, c, G, nn⟩ := X
  obtain ⟨hx, hb, hml, hown, hts, hK, hA, hO, hsz, hr, hlk, hfr, hlo, hn, hfl, hNW⟩ := F
  intro H locs ls hH hS hl
  exact va_slen hx hb S.1 S.2.1 S.2.2 hS hd (K H locs ls hH hS hl)
theorem l_callV (F : Fm X cc own rt fr lo nL) (hro : RO X ce sl) {ix k ci : Nat} {C : String} {y : MethodName} {cb : ByteArray} {mL n : Nat} {ret : Option FieldType} {f2 l2 : Nat} {As : List Value} {vs : GG → List Value} {r : Option Value} {μ' : Mem} {ds : List Nat} (hd : decode cc pc = .ok (.invokevirtual ix, 3)) (hc : Con y cb mL ret f2 l2 vs μ r μ') (hw : CV own ix C y cb mL ret n) (hk : k < NC) (hs : shp k = .inl (ci, ds)) (hci : ∃ (T : u_T) (N : Nat), vwCl[ci]? = some (C, T, N)) (hvs : vs X.G = .ref (ga X.G k) :: As) {st0 : List Value} (hst : st0 = As.reverse ++ .ref (ga X.G k) :: st) (hn : As.length = n) (hrs : (st.map fun v => v.category).sum ≤ 8) (hR : f2 + 1 ≤ fr ∧ 8 + (mL + 11) + l2 ≤ lo)
    (K : WA X ce sl (pc + 3) lv (r.toList ++ st) μ' Q) : WA X ce sl pc lv st0 μ Q := by
  subst hst
  obtain ⟨p, l, e, R, s, m, args, below, meth, c, G, nn⟩ := X
  obtain ⟨hx, hb, hml, hown, hts, hKK, hA, hO, hsz, hr, hlk, hfr, hlo, hnn, hfl, hNW⟩ := F
  intro H locs ls hH hS hl
  obtain ⟨T, N, hci⟩ := hci
  have hM := hc l hfl G
  rw [show vs G = .ref (ga G k) :: As from hvs] at hM
  have hrv := va_recv (s := s) (H := H) hKK (wsl_P hH) hci (wsl_obj hk hs)
  exact W_run (va_runV (As := As) (rest := st) ⟨hx, hb, hml, hown, hts⟩ hM (cwV n hts hw.good rfl rfl rfl hw.2.2.2.2.2 ⟨Nat.le_trans hR.1 hfr, Nat.le_trans hR.2 hlo⟩) ⟨RU_blind, hrv, fun U hU hW => ⟨rfl, RU_at hKK hA hO hsz hNW hH hS hU hW⟩⟩ rfl hn (by rw [← hnn]; exact hl.1) rfl (lv_room hrs) hd ⟨hro.1, hro.2⟩) hS (fun H1 locs1 hH1 hS1 => K H1 locs1 ls hH1 hS1 hl)
theorem l_callS (F : Fm X cc own rt fr lo nL) (hro : RO X ce sl) {ix : Nat} {y : MethodName} {cb : ByteArray} {mL n : Nat} {ret : Option FieldType} {f2 l2 : Nat} {As : List Value} {vs : GG → List Value} {r : Option Value} {μ' : Mem} (hd : decode cc pc = .ok (.invokestatic ix, 3)) (hc : Con y cb mL ret f2 l2 vs μ r μ') (hw : CS own ix y cb mL ret n) (hvs : vs X.G = As) {st0 : List Value} (hst : st0 = As.reverse ++ st) (hn : As.length = n) (hrs : (st.map fun v => v.category).sum ≤ 8) (hR : f2 + 1 ≤ fr ∧ 8 + (mL + 11) + l2 ≤ lo)
    (K : WA X ce sl (pc + 3) lv (r.toList ++ st) μ' Q) : WA X ce sl pc lv st0 μ Q := by
  subst hst
  obtain ⟨p, l, e, R, s, m, args, below, meth, c, G, nn⟩ := X
  obtain ⟨hx, hb, hml, hown, hts, hKK, hA, hO, hsz, hr, hlk, hfr, hlo, hnn, hfl, hNW⟩ := F
  intro H locs ls hH hS hl
  have hM := hc l hfl G
  rw [show vs G = As from hvs] at hM
  exact W_run (va_runS (As := As) (rest := st) ⟨hx, hb, hml, hown, hts⟩ hM (va_cwS n hts hw.good rfl rfl rfl hw.2.2.2.2 ⟨Nat.le_trans hR.1 hfr, Nat.le_trans hR.2 hlo⟩) ⟨RU_blind, fun U hU hW => ⟨rfl, RU_at hKK hA hO hsz hNW hH hS hU hW⟩⟩ rfl hn (by rw [← hnn]; exact hl.1) rfl (lv_room hrs) hd ⟨hro.1, hro.2⟩) hS (fun H1 locs1 hH1 hS1 => K H1 locs1 ls hH1 hS1 hl)
end LR
/-- a reader of the script: its row of ints is an old cell -/
def RUc (G : GG) (μ : Mem) (b L : Nat) (xs : Nat → Int32) (U : State) : Prop := RU G μ U ∧ va_X b L xs U U.heap ∧ b < U.heap.size ∧ ¬ gA G b
def ConC (y : MethodName) (cc : ByteArray) (maxL : Nat) (rt : Option FieldType) (fr lo : Nat) (L : Nat) (xs : Nat → Int32) (k r : Int32) : Prop :=
  ∀ (l : Launch), l.flags = flags0 → ∀ (G : GG) (b : Nat) (μ : Mem), Met l y (ws_ y cc maxL rt) ({ frames := fr, cells := 0, slots := 0, locals := lo }) (va_Pc [.ref b, .int k] (RUc G μ b L xs)) (QR G (some (.int r)) μ) 0 0 (gA G)
theorem conc_of {y : MethodName} {cc : ByteArray} {maxL : Nat} {rt : Option FieldType} {fr lo : Nat} {L : Nat} {xs : Nat → Int32} {k r : Int32} (hy : plainName y.cls = true) (hlen : 2 ≤ maxL)
    (body : ∀ (X : Cx) (b : Nat) (μ : Mem), Fm X cc y.cls rt fr lo maxL → LSc X b L xs → WA X 0 0 0 [(0, .ref b), (1, .int k)] [] μ (EQ X (some (.int r)) μ)) : ConC y cc maxL rt fr lo L xs k r := by
  intro l hfl G b μ
  refine Met.ofW (cc := cc) (maxL := maxL) (ret := rt) hy rfl ?_
  intro p e s m args below meth c s₁ B hml hv
  obtain ⟨rfl, ⟨hH, hK, hA, hO, hsz, hNW⟩, hX, hbl, hbo⟩ := hv
  have hts := atoms_spec (ws := ws_ y cc maxL rt) B.pre
  have hown : s.vm.findClass y.cls = some m.cls := findClass_of_methodNamed B.named
  have hl := lv_entry [.ref b, .int k] (n := maxL) hlen
  rw [lg_entry_eq]
  exact body (p, l, e, _, s, m, _, below, meth, c, G, maxL) b μ ⟨B.exec, B.bytes, hml, hown, fun w h => hts w (List.mem_cons_of_mem _ h), hK, hA, hO, hsz, B.returns, B.notSynchronized, Nat.le_refl _, Nat.le_refl _, rfl, hfl, hNW⟩ ⟨hX, hbl, hbo⟩ s.heap [] _ hH va_S.rf hl
theorem RUc_blind {vs : List Value} {G : GG} {μ : Mem} {b L : Nat} {xs : Nat → Int32} : FrameBlind (va_Pc vs (RUc G μ b L xs)) := fun a U g mk h => ⟨h.1, ⟨h.2.1.1, va_K.moved (u := U) (U := U.calling g mk a) (Vm.Alike.refl U.vm) h.2.1.2.1, h.2.1.2.2.1, (OF.moved (u := U) (U := U.calling g mk a) (Vm.Alike.refl U.vm) h.2.1.2.2.2.1), h.2.1.2.2.2.2.1, NWs.same (u := U) (U := U.calling g mk a) rfl h.2.1.2.2.2.2.2⟩, va_X.moved (u := U) (U := U.calling g mk a) (Vm.Alike.refl U.vm) h.2.2.1, h.2.2.2⟩
section LR2
variable {X : Cx} {cc : ByteArray} {own : String} {rt : Option FieldType} {fr lo nL : Nat} {ce sl pc : Nat} {lv : List (Nat × Value)} {st : List Value} {μ : Mem} {Q : State → Prop} {b L : Nat} {xs : Nat → Int32}
theorem l_callC (F : Fm X cc own rt fr lo nL) (S : LSc X b L xs) (hro : RO X ce sl) {ix : Nat} {y : MethodName} {cb : ByteArray} {mL n : Nat} {ret : Option FieldType} {f2 l2 : Nat} {k r : Int32} (hd : decode cc pc = .ok (.invokestatic ix, 3)) (hc : ConC y cb mL ret f2 l2 L xs k r) (hw : CS own ix y cb mL ret n) (hn : 2 = n) (hrs : (st.map fun v => v.category).sum ≤ 8) (hR : f2 + 1 ≤ fr ∧ 8 + (mL + 11) + l2 ≤ lo)
    (K : WA X ce sl (pc + 3) lv (.int r :: st) μ Q) : WA X ce sl pc lv (.int k :: .ref b :: st) μ Q := by
  obtain ⟨p, l, e, R, s, m, args, below, meth, c, G, nn⟩ := X
  obtain ⟨hx, hb, hml, hown, hts, hKK, hA, hO, hsz, hr, hlk, hfr, hlo, hnn, hfl, hNW⟩ := F
  intro H locs ls hH hS hl
  have hM := hc l hfl G b μ
  exact W_run (r := some (.int r)) (va_runS (As := [.ref b, .int k]) (rest := st) ⟨hx, hb, hml, hown, hts⟩ hM (va_cwS n hts hw.good rfl rfl rfl hw.2.2.2.2 ⟨Nat.le_trans hR.1 hfr, Nat.le_trans hR.2 hlo⟩) ⟨RUc_blind, fun U hU hW => ⟨rfl, RU_at hKK hA hO hsz hNW hH hS hU hW, by rw [hU]; exact (S.1.moved hW.alike).kept (hS.2.1 b S.2.1 S.2.2), by rw [hU]; exact Nat.lt_of_lt_of_le S.2.1 hS.1, S.2.2⟩⟩ rfl hn (by rw [← hnn]; exact hl.1) rfl (lv_room hrs) hd ⟨hro.1, hro.2⟩) hS (fun H1 locs1 hH1 hS1 => K H1 locs1 ls hH1 hS1 hl)
end LR2
