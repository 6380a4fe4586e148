/-! methods that throw, the law's own methods that catch -/
def xIAE : String := "java/lang/IllegalArgumentException"
def xISE : String := "java/lang/IllegalStateException"
def xIOB : String := "java/lang/IndexOutOfBoundsException"
/-- how a call ends: an answer, or the class thrown; and the memory behind it -/
abbrev Oc : Type := (Option Value × Mem) ⊕ (String × Mem)
def QX (G : GG) (o : Oc) : Array Value → State → Outcome → State → Prop := fun _ st oc t => ∃ r μ', o = .inl (r, μ') ∧ oc = .returned r ∧ HR G μ' t.heap ∧ va_F (gA G) st t
def XX (G : GG) (o : Oc) : String → State → State → Prop := fun E st t => ∃ μ', o = .inr (E, μ') ∧ HR G μ' t.heap ∧ va_F (gA G) st t
def ConX (y : MethodName) (cc : ByteArray) (maxL : Nat) (rt : Option FieldType) (fr lo : Nat) (vs : GG → List Value) (μ : Mem) (o : Oc) : Prop :=
  ∀ (l : Launch), l.flags = flags0 → ∀ G : GG, vx_Met l y (ws_ y cc maxL rt) ({ frames := fr, cells := 1, slots := 6, locals := lo }) (va_Pc (vs G) (RU G μ)) (QX G o) (XX G o) 1 6 (gA G)
def EQX (X : Cx) (o : Oc) : State → Prop := match X with
  | (_, _, _, _, s, _, args, below, _, _, G, _) => vx_MQ below (QX G o) (XX G o) args s 1 6 (gA G)
/-- no row of this method's table, its room for one exception -/
def FX (X : Cx) : Prop := match X with
  | (_, _, _, R, _, _, _, _, _, c, _, _) => (∀ x ∈ c.exceptionTable.toList, False) ∧ R.cells = 1 ∧ R.slots = 6
theorem conx_of {y : MethodName} {cc : ByteArray} {maxL : Nat} {rt : Option FieldType} {fr lo : Nat} {vs : GG → List Value} {μ : Mem} {o : Oc} (hy : plainName y.cls = true) (hlen : ∀ G, (lg_sl (vs G)).length ≤ maxL) 
    (body : ∀ X : Cx, Fm X cc y.cls rt fr lo maxL → FX X → WA X 0 0 0 (lv_args 0 (vs X.G)) [] μ (EQX X o)) : ConX y cc maxL rt fr lo vs μ o := by
  intro l hfl G
  refine vx_ofW (cc := cc) (maxL := maxL) (ret := rt) hy rfl ?_
  intro p e s m args below meth c s₁ B hml hT hv
  obtain ⟨rfl, hH, hK, hA, hO, hsz, hNW⟩ := hv
  have hts := atoms_spec (ws := ws_ y cc maxL rt) B.pre
  have hown : s.vm.findClass y.cls = some m.cls := findClass_of_methodNamed B.named
  have hl := lv_entry (vs G) (n := maxL) (hlen G)
  rw [lg_entry_eq]
  exact body (p, l, e, _, s, m, _, below, meth, c, G, maxL) ⟨B.exec, B.bytes, hml, hown, fun w h => hts w (List.mem_cons_of_mem _ h), hK, hA, hO, hsz, B.returns, B.notSynchronized, Nat.le_refl _, Nat.le_refl _, rfl, hfl, hNW⟩ ⟨hT, rfl, rfl⟩ s.heap [] _ hH va_S.rf hl
theorem HR_kept {G : GG} {μ : Mem} {H H1 : Heap} (h : HR G μ H) (hq : ∀ q : Nat, q < H.size → H1[q]? = H[q]?) : HR G μ H1 := fun k hk => (h k hk).kept (hq _ (h k hk).lt)
section XR
variable {X : Cx} {cc : ByteArray} {own : String} {rt : Option FieldType} {fr lo nL : Nat} {ce sl pc : Nat} {lv : List (Nat × Value)} {st : List Value} {μ : Mem} {Q : State → Prop}
theorem x_iret (F : Fm X cc own rt fr lo nL) {v : Int32} {o : Oc} (hd : decode cc pc = .ok (.ireturn, 1)) (hrt : ∃ ty, rt = some ty ∧ narrow ty (.int v) = .int v) (ho : o = .inl (some (.int v), μ)) : WA X 0 0 pc lv [.int v] μ (EQX X o) := by
  obtain ⟨p, l, e, R, s, m, args, below, meth, c, G, nn⟩ := X
  obtain ⟨hx, hb, hml, hown, hts, hK, hA, hO, hsz, hr, hlk, hfr, hlo, hn, hfl, hNW⟩ := F
  intro H locs ls hH hS hl
  obtain ⟨ty, e1, e2⟩ := hrt
  refine W.widen (k := 1) (n := 6) (by omega) (by omega) ?_
  refine vx_ret ?_
  exact W.zret hx hb (hr.trans e1) e2 (fun t ht hW => ⟨_, _, ho, rfl, by rw [ht]; exact hH, hS.F ht⟩) hS.2.2 hd hlk
/-- what a throw needs of the tables -/
def TW (own : String) (ik ic : Nat) (E : String) : Prop := Cond.classLink own ik E ∈ lw_all ∧ Cond.initialized E ∈ lw_all ∧ Bundle.fit E = true ∧
  (∀ w ∈ (vx_atS own ic E ["java/lang/RuntimeException", "java/lang/Exception"]).filter goodWord, w ∈ lw_all) ∧ (∀ w ∈ (vx_atS own ic E ["java/lang/RuntimeException", "java/lang/Exception"]).filter (fun w => !goodWord w), w ∈ nwL) ∧
  ∀ w ∈ Cond.classLink own ik E :: Cond.initialized E :: vx_atS own ic E ["java/lang/RuntimeException", "java/lang/Exception"], vx_ot w = true
theorem flags_st {l : Launch} (h : l.flags = flags0) : l.stackTraces = false := by
  unfold Launch.stackTraces
  rw [h]
  decide +kernel
theorem x_throw (F : Fm X cc own rt fr lo nL) (T : FX X) {ik ic is : Nat} {E tx : String} {o : Oc} (hw : TW own ik ic E) (w3 : (own, is, tx) ∈ strL)
    (d0 : decode cc pc = .ok (.new ik, 3)) (d3 : decode cc (pc + 3) = .ok (.dup, 1)) (d4 : decode cc (pc + 4) = .ok (.ldc is, 2)) (d6 : decode cc (pc + 6) = .ok (.invokespecial ic, 3)) (d9 : decode cc (pc + 9) = .ok (.athrow, 1))
    (hfr2 : 6 ≤ fr) (hlo2 : (st.map fun v => v.category).sum + 82 ≤ lo) (ho : o = .inr (E, μ)) : WA X 0 0 pc lv st μ (EQX X o) := by
  obtain ⟨p, l, e, R, s, m, args, below, meth, c, G, nn⟩ := X
  obtain ⟨hx, hb, hml, hown, hts, hK, hA, hO, hsz, hr, hlk, hfr, hlo, hn, hfl, hNW⟩ := F
  intro H locs ls hH hS hl
  obtain ⟨w1, w2, w4, w5, w6, w7⟩ := hw
  obtain ⟨t1, t2, t3⟩ := T
  obtain ⟨a, ha⟩ := hNW.2.1 _ w3
  refine vx_throwS (A := gA G) hx hb (flags_st hfl) (names := ["java/lang/RuntimeException", "java/lang/Exception"]) hown w4 (by decide +kernel) (hts _ w1) (hts _ w2) ha
    (vx_hat (fun w hw => hts w (w5 w hw)) w6 (fun w hw => va_Nw.use (nwL_on w hw) (hNW.1 w hw))) w7 hO.2.2.2.2.1 hO.2.2.2.2.2 hS (by rw [hl.1, hn, hml]) d0 d3 d4 d6 d9 (fun x hx => (t1 x hx).elim) (by show 2 + 3 < R.frames; omega) (by show _ + (13 * (2 + 1) + 43) ≤ R.locals; omega) (by omega) (by omega) hlk
    (fun t hal hz hq => ⟨μ, ho, HR_kept hH hq, Nat.le_trans hS.1 hz, fun q h1 h2 => by rw [hq q (Nat.lt_of_lt_of_le h1 hS.1)]; exact hS.2.1 q h1 h2⟩) hS.2.2 (Nat.le_refl _) (Nat.le_refl _)
theorem x_throwW (F : Fm X cc own rt fr lo nL) (T : FX X) {ik ic is : Nat} {E tx : String} {o : Oc} (hw : TW own ik ic E) (w3 : (own, is, tx) ∈ strL)
    (d0 : decode cc pc = .ok (.new ik, 3)) (d3 : decode cc (pc + 3) = .ok (.dup, 1)) (d4 : decode cc (pc + 4) = .ok (.ldc_w is, 3)) (d6 : decode cc (pc + 7) = .ok (.invokespecial ic, 3)) (d9 : decode cc (pc + 10) = .ok (.athrow, 1))
    (hfr2 : 6 ≤ fr) (hlo2 : (st.map fun v => v.category).sum + 82 ≤ lo) (ho : o = .inr (E, μ)) : WA X 0 0 pc lv st μ (EQX X o) := by
  obtain ⟨p, l, e, R, s, m, args, below, meth, c, G, nn⟩ := X
  obtain ⟨hx, hb, hml, hown, hts, hK, hA, hO, hsz, hr, hlk, hfr, hlo, hn, hfl, hNW⟩ := F
  intro H locs ls hH hS hl
  obtain ⟨w1, w2, w4, w5, w6, w7⟩ := hw
  obtain ⟨t1, t2, t3⟩ := T
  obtain ⟨a, ha⟩ := hNW.2.1 _ w3
  refine vx_throwSW (A := gA G) hx hb (flags_st hfl) (names := ["java/lang/RuntimeException", "java/lang/Exception"]) hown w4 (by decide +kernel) (hts _ w1) (hts _ w2) ha
    (vx_hat (fun w hw => hts w (w5 w hw)) w6 (fun w hw => va_Nw.use (nwL_on w hw) (hNW.1 w hw))) w7 hO.2.2.2.2.1 hO.2.2.2.2.2 hS (by rw [hl.1, hn, hml]) d0 d3 d4 d6 d9 (fun x hx => (t1 x hx).elim) (by show 2 + 3 < R.frames; omega) (by show _ + (13 * (2 + 1) + 43) ≤ R.locals; omega) (by omega) (by omega) hlk
    (fun t hal hz hq => ⟨μ, ho, HR_kept hH hq, Nat.le_trans hS.1 hz, fun q h1 h2 => by rw [hq q (Nat.lt_of_lt_of_le h1 hS.1)]; exact hS.2.1 q h1 h2⟩) hS.2.2 (Nat.le_refl _) (Nat.le_refl _)
end XR
theorem tw_1 : TW RX7 57 61 xIAE := ⟨by decide +kernel, by decide +kernel, by decide +kernel, by decide +kernel, by decide +kernel, by decide +kernel⟩
theorem tw_2 : TW RX7 74 78 xISE := ⟨by decide +kernel, by decide +kernel, by decide +kernel, by decide +kernel, by decide +kernel, by decide +kernel⟩
theorem tw_3 : TW RX7 109 113 xIOB := ⟨by decide +kernel, by decide +kernel, by decide +kernel, by decide +kernel, by decide +kernel, by decide +kernel⟩
def xN (k : Nat) : String := if k = 1 then xIAE else if k = 2 then xISE else xIOB
def ocI : (Int32 × Mem) ⊕ (Nat × Mem) → Oc
  | .inl (v, μ) => .inl (some (.int v), μ)
  | .inr (k, μ) => .inr (xN k, μ)
/-! the law's own methods: a call in a try, rows that catch -/
def ConW (y : MethodName) (cc : ByteArray) (maxL : Nat) (rt : Option FieldType) (hh : List (Nat × Nat × Nat × Nat)) (fr lo : Nat) (vs : GG → List Value) (μ : Mem) (r : Option Value) (μ' : Mem) : Prop :=
  ∀ (l : Launch), l.flags = flags0 → ∀ G : GG, Met l y (.codeWith y cc maxL rt hh :: lw_all) ({ frames := fr, cells := 1, slots := 6, locals := lo }) (va_Pc (vs G) (RU G μ)) (QR G r μ') 1 6 (gA G)
theorem met_ofWH {l : Launch} {y : MethodName} {ws ws' : List Cond} {rm : Room} {Pc : Array Value → State → Prop} {Qc : Array Value → State → Outcome → State → Prop} {mc ms : Nat} {free : Addr → Prop} {cc : ByteArray} {maxL : Nat} {ret : Option FieldType} {hh : List (Nat × Nat × Nat × Nat)}
    (hy : plainName y.cls = true) (hw : ws = Cond.codeWith y cc maxL ret hh :: ws')
    (body : ∀ p e s m args below meth c s₁, BodyLoose p l y (headSpec ws rm) cc maxL ret e s m args below meth c s₁ → c.maxLocals = maxL → Pc args s →
      W p l e (headSpec ws rm).room s m args below meth c s.heap [] 0 0 (MQ below Qc args s mc ms free) (entryFrame m args maxL)) : Met l y ws rm Pc Qc mc ms free := by
  refine MetFree.of_bodyS (code := cc) (maxLocals := maxL) (ret := ret) hy ?_ ?_
  · intro args s m h hn
    obtain ⟨m9, meth, c, hn9, h1, h2, h3, h4, -, h5, h6, -⟩ := Cond.codeWith_spec (atoms_spec (ws := ws) h _ (by rw [hw]; exact List.mem_cons_self))
    cases hn.symm.trans hn9
    exact ⟨meth, c, h1, h2, h3, h4, h5, h6⟩
  · intro p e s m args below meth c s₁ B hml hP _
    have hh0 : s₁.heap = s.heap := by rw [B.state]; rfl
    obtain ⟨t, a1, o, b1, b2, b3⟩ := body p e s m args below meth c s₁ B hml hP s₁ hh0 (Stand.of_body B)
    exact ⟨t, o, a1, b1, b2, ⟨b3.1, b3.2⟩⟩
def FT (X : Cx) (hh : List (Nat × Nat × Nat × Nat)) : Prop := match X with
  | (_, _, _, R, _, _, _, _, _, c, _, _) => c.exceptionTable.toList = tableOf hh ∧ R.cells = 1 ∧ R.slots = 6
def EQW (X : Cx) (r : Option Value) (μ' : Mem) : State → Prop := match X with
  | (_, _, _, _, s, _, args, below, _, _, G, _) => MQ below (QR G r μ') args s 1 6 (gA G)
theorem conw_of {y : MethodName} {cc : ByteArray} {maxL : Nat} {rt : Option FieldType} {hh : List (Nat × Nat × Nat × Nat)} {fr lo : Nat} {vs : GG → List Value} {μ : Mem} {r : Option Value} {μ' : Mem} (hy : plainName y.cls = true) (hlen : ∀ G, (lg_sl (vs G)).length ≤ maxL)
    (body : ∀ X : Cx, Fm X cc y.cls rt fr lo maxL → FT X hh → WA X 0 0 0 (lv_args 0 (vs X.G)) [] μ (EQW X r μ')) : ConW y cc maxL rt hh fr lo vs μ r μ' := by
  intro l hfl G
  refine met_ofWH (cc := cc) (maxL := maxL) (ret := rt) (hh := hh) hy rfl ?_
  intro p e s m args below meth c s₁ B hml hv
  obtain ⟨rfl, hH, hK, hA, hO, hsz, hNW⟩ := hv
  have hts := atoms_spec (ws := .codeWith y cc maxL rt hh :: lw_all) B.pre
  have hown : s.vm.findClass y.cls = some m.cls := findClass_of_methodNamed B.named
  have htab := vx_table (x := y) B (hts _ List.mem_cons_self)
  have hl := lv_entry (vs G) (n := maxL) (hlen G)
  rw [lg_entry_eq]
  exact body (p, l, e, _, s, m, _, below, meth, c, G, maxL) ⟨B.exec, B.bytes, hml, hown, fun w h => hts w (List.mem_cons_of_mem _ h), hK, hA, hO, hsz, B.returns, B.notSynchronized, Nat.le_refl _, Nat.le_refl _, rfl, hfl, hNW⟩ ⟨htab, rfl, rfl⟩ s.heap [] _ hH va_S.rf hl
/-- q, an exception of class E, is thrown over the frame -/
def WX (X : Cx) (pc : Nat) (lv : List (Nat × Value)) (st : List Value) (E : String) (μ : Mem) (Q : State → Prop) : Prop := match X with
  | (p, l, e, R, s, m, args, below, meth, c, G, n) => ∀ (H : Heap) (locs : List Loc) (ls : Array Slot) (q : Nat) (ce : Cell), HR G μ H → va_S (gA G) s.heap H locs → lv_has ls n lv → H[q]? = some ce → ce.vm = .none → s.vm.findClass E = some ce.cls → vx_W p l e R s m args below meth c H locs 1 6 Q (F0 m pc ls st) q
section WR
variable {X : Cx} {cc : ByteArray} {own : String} {rt : Option FieldType} {fr lo nL : Nat} {ce sl pc : Nat} {lv : List (Nat × Value)} {st : List Value} {μ : Mem} {Q : State → Prop} {hh : List (Nat × Nat × Nat × Nat)}
theorem w_iret (F : Fm X cc own rt fr lo nL) {v : Int32} (hd : decode cc pc = .ok (.ireturn, 1)) (hrt : rt = some .int) : WA X 1 6 pc lv [.int v] μ (EQW X (some (.int v)) μ) := by
  obtain ⟨p, l, e, R, s, m, args, below, meth, c, G, nn⟩ := X
  obtain ⟨hx, hb, hml, hown, hts, hK, hA, hO, hsz, hr, hlk, hfr, hlo, hn, hfl, hNW⟩ := F
  intro H locs ls hH hS hl
  exact W.zret hx hb (hr.trans hrt) rfl (fun t ht hW => ⟨rfl, by rw [ht]; exact hH, hS.F ht⟩) hS.2.2 hd hlk
theorem w_call (F : Fm X cc own rt fr lo nL) (T : FT X hh) {ix k ci : Nat} {C : String} {y : MethodName} {cb : ByteArray} {mL n : Nat} {ret : Option FieldType} {f2 l2 : Nat} {As : List Value} {vs : GG → List Value} {o : Oc} {ds : List Nat} (hd : decode cc pc = .ok (.invokevirtual ix, 3)) (hc : ConX y cb mL ret f2 l2 vs μ o) (hw : CV own ix C y cb mL ret n) (hk : k < NC) (hs : shp k = .inl (ci, ds)) (hci : ∃ (T : u_T) (N : Nat), vwCl[ci]? = some (C, T, N)) (hvs : vs X.G = .ref (ga X.G k) :: As) {st0 : List Value} (hst : st0 = As.reverse ++ .ref (ga X.G k) :: st) (hn : As.length = n) (hrs : (st.map fun v => v.category).sum ≤ 8) (hR : f2 + 1 ≤ fr ∧ 8 + (mL + 11) + l2 ≤ lo)
    (K : ∀ r μ', o = .inl (r, μ') → WA X 1 6 (pc + 3) lv (r.toList ++ st) μ' Q) (KX : ∀ E μ', o = .inr (E, μ') → WX X pc lv st E μ' Q) : WA X 0 0 pc lv st0 μ Q := by
  subst hst
  obtain ⟨p, l, e, R, s, m, args, below, meth, c, G, nn⟩ := X
  obtain ⟨hx, hb, hml, hown, hts, hKK, hA, hO, hsz, hr, hlk, hfr, hlo, hnn, hfl, hNW⟩ := F
  obtain ⟨t1, t2, t3⟩ := T
  intro H locs ls hH hS hl
  obtain ⟨T, N, hci⟩ := hci
  have hM := hc l hfl G
  rw [show vs G = .ref (ga G k) :: As from hvs] at hM
  have hrv := va_recv (s := s) (H := H) hKK (wsl_P hH) hci (wsl_obj hk hs)
  have hrun := vx_runV (e := e) (H := H) (locs := locs) (cells := 0) (slots := 0) (below := below) (meth := meth) (g := F0 m pc ls (As.reverse ++ .ref (ga G k) :: st)) (As := As) (rest := st) ⟨hx, hb, hml, hown, hts⟩ hM (cwV n hts hw.good rfl rfl rfl hw.2.2.2.2.2 ⟨Nat.le_trans hR.1 hfr, Nat.le_trans hR.2 hlo⟩) ⟨RU_blind, hrv, fun U hU hW => ⟨rfl, RU_at hKK hA hO hsz hNW hH hS hU hW⟩⟩ rfl hn (by rw [← hnn]; exact hl.1) rfl (lv_room hrs) hd ⟨by omega, by omega⟩
  intro T' hT' X'
  rcases hrun T' hT' X' with ⟨v, st₀, t, T2, L, h0, X2, hL, e1, e2, ⟨r, μ', ho, hv, hH1, hF⟩, st2⟩ | ⟨q, st₀, t, T2, L, E, ce, h0, X2, hL, e1, e2, ⟨μ', ho, hH1, hF⟩, hce, hcv, hcl, st2⟩
  · cases hv
    obtain ⟨k1, k2, k3⟩ := vx_keep (A0 := gA G) (A1 := gA G) (free := gA G) h0 e1 hS (fun _ _ h => h) (fun _ h => h) hL hF
    obtain ⟨t3', a1, b1⟩ := K v μ' ho T2.heap (locs ++ L) ls (by rw [e1]; exact hH1) k3 hl T2 rfl X2
    exact ⟨t3', st2 t3' a1, b1⟩
  · obtain ⟨k1, k2, k3⟩ := vx_keep (A0 := gA G) (A1 := gA G) (free := gA G) h0 e1 hS (fun _ _ h => h) (fun _ h => h) hL hF
    obtain ⟨t3', a1, b1⟩ := KX E μ' ho T2.heap (locs ++ L) ls q ce (by rw [e1]; exact hH1) k3 hl (by rw [e1]; exact hce) hcv hcl T2 rfl X2
    exact ⟨t3', st2.trans a1, b1⟩
/-- a row of the table catches; those ahead name other classes -/
theorem w_catch (F : Fm X cc own rt fr lo nL) (T : FT X hh) {E : String} (pre : List ((Nat × Nat × Nat × Nat) × String)) (x : Nat × Nat × Nat × Nat) (suf : List (Nat × Nat × Nat × Nat)) (hsplit : hh = pre.map (·.1) ++ x :: suf)
    (hpass : ∀ z ∈ pre, z.1.2.2.2 ≠ 0 ∧ Cond.classLink own z.1.2.2.2 z.2 ∈ lw_all ∧ (E, z.2) ∈ ncL) (hx : covers ⟨x.1, x.2.1, x.2.2.1, x.2.2.2⟩ pc = true) (h0 : x.2.2.2 ≠ 0) (hlink : Cond.classLink own x.2.2.2 E ∈ lw_all) (hcast : Cond.castable E E ∈ nwL)
    (K : ∀ q : Nat, WA X 1 6 x.2.2.1 lv [.ref q] μ Q) : WX X pc lv st E μ Q := by
  obtain ⟨p, l, e, R, s, m, args, below, meth, c, G, nn⟩ := X
  obtain ⟨hex, hb, hml, hown, hts, hKK, hA, hO, hsz, hr, hlk, hfr, hlo, hnn, hfl, hNW⟩ := F
  obtain ⟨t1, t2, t3⟩ := T
  intro H locs ls q ce hH hS hl hce hcv hcl
  refine vx_catch hown (tableOf (pre.map (·.1))) ⟨x.1, x.2.1, x.2.2.1, x.2.2.2⟩ (tableOf suf) (by rw [t1, hsplit]; simp [tableOf]) (fun z hz => ?_) hx h0 (hts _ hlink) (va_Nw.use (nwL_on _ hcast) (hNW.1 _ hcast)) hce hcv hcl (K q H locs ls hH hS hl)
  obtain ⟨a, ha, rfl⟩ := List.mem_map.mp hz
  obtain ⟨b, hb2, rfl⟩ := List.mem_map.mp ha
  obtain ⟨p1, p2, p3⟩ := hpass b hb2
  exact Or.inr ⟨p1, b.2, hts _ p2, hNW.2.2 _ p3⟩
end WR
