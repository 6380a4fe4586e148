/-! objects as they are made: the new cells stand in a row, in the order of their numbers -/
def GB (G : GG) : Prop := ∀ k, k < NC → ga G k = G.2.2.2 + k
theorem GB.ad {G : GG} (h : GB G) : AD G := ⟨fun i j hi hj e => by rw [h i hi, h j hj] at e; omega, fun k hk => by
  show G.2.2.2 ≤ ga G k
  rw [h k hk]
  omega⟩
/-- the cells c to n - 1, as ov says, are the last ones of the heap -/
def HN (G : GG) (c n : Nat) (ov : Nat → va_E) (H : Heap) : Prop := H.size = G.2.2.2 + n ∧ ∀ k, c ≤ k → k < n → va_at (gD G) vwCl (ga G k, ov k) H
abbrev gC (G : GG) (c : Nat) : Nat → Prop := fun q => G.2.2.2 + c ≤ q
theorem gC_A {G : GG} {c q : Nat} (h : gC G c q) : gA G q := by
  show G.2.2.2 ≤ q
  have : G.2.2.2 + c ≤ q := h
  omega
def upE (ov : Nat → va_E) (k : Nat) (e : va_E) : Nat → va_E := fun j => if j = k then e else ov j
theorem upE_at (ov : Nat → va_E) (k : Nat) (e : va_E) : upE ov k e k = e := if_pos rfl
theorem upE_ne {ov : Nat → va_E} {k j : Nat} {e : va_E} (h : j ≠ k) : upE ov k e j = ov j := if_neg h
theorem HN.cong {G : GG} {c n : Nat} {ov ov' : Nat → va_E} {H : Heap} (h : HN G c n ov H) (e : ∀ k, c ≤ k → k < n → ov k = ov' k) : HN G c n ov' H := ⟨h.1, fun k h1 h2 => by rw [← e k h1 h2]; exact h.2 k h1 h2⟩
theorem HN.push {G : GG} {c n : Nat} {ov : Nat → va_E} {H H1 : Heap} {e : va_E} (hG : GB G) (hn : n < NC) (h : HN G c n ov H) (z : H1.size = H.size + 1) (o : ∀ q, q < H.size → H1[q]? = H[q]?) (hv : va_at (gD G) vwCl (ga G n, e) H1) : HN G c (n + 1) (upE ov n e) H1 := by
  refine ⟨by rw [z, h.1]; omega, fun k h1 h2 => ?_⟩
  by_cases q : k = n
  · subst q
    rw [upE_at]
    exact hv
  · rw [upE_ne q]
    exact (h.2 k h1 (by omega)).kept (o _ (by show ga G k < _; rw [hG k (by omega), h.1]; omega))
theorem HN.set {G : GG} {c n k : Nat} {ov : Nat → va_E} {H H1 : Heap} {e : va_E} (hG : GB G) (hn : n ≤ NC) (h : HN G c n ov H) (hk : k < n) (z : H1.size = H.size) (o : ∀ q, q ≠ ga G k → H1[q]? = H[q]?) (hv : va_at (gD G) vwCl (ga G k, e) H1) : HN G c n (upE ov k e) H1 := by
  refine ⟨by rw [z, h.1], fun j h1 h2 => ?_⟩
  by_cases q : j = k
  · subst q
    rw [upE_at]
    exact hv
  · rw [upE_ne q]
    exact (h.2 j h1 h2).kept (o _ (by
      show ga G j ≠ ga G k
      rw [hG j (by omega), hG k (by omega)]
      omega))
/-- the first settings, whole -/
def FS (G : GG) (H : Heap) : Prop := ∃ cell : Cell, H[ga G 200]? = some cell ∧ cell.cls = (gT G).1 ∧ cell.vm ≠ .unknown ∧ (∀ q, cell.vm ≠ .statics q) ∧ ({ cls := cell.cls, slots := cell.slots } : Cell) = arrV (gT G).1 7 (fun j => .int (fs1 j)) ∧ ¬ gA G (ga G 200)
theorem FS.kept {G : GG} {H H1 : Heap} (h : FS G H) (hq : ∀ a : Nat, a < H.size → ¬ gA G a → H1[a]? = H[a]?) : FS G H1 := by
  obtain ⟨cell, h1, h2, h3, h4, h5, h6⟩ := h
  exact ⟨cell, by rw [hq _ (Array.getElem?_eq_some_iff.mp h1).1 h6]; exact h1, h2, h3, h4, h5, h6⟩
def NU (G : GG) (U : State) : Prop := va_K (gD G) vwCl (tysT (gT G)) U ∧ OF G U U.heap ∧ NWs U ∧ FS G U.heap ∧ va_AO RX2 U
/-- what a frame that makes objects needs besides -/
def FN (X : Cx) : Prop := match X with
  | (_, _, _, _, s, _, _, _, meth, _, G, _) => GB G ∧ FS G s.heap ∧ va_AO RX2 s ∧ meth.name = "<init>"
def FN0 (X : Cx) : Prop := match X with
  | (_, _, _, _, s, _, _, _, _, _, G, _) => GB G ∧ FS G s.heap ∧ va_AO RX2 s
theorem FN.f0 {X : Cx} (h : FN X) : FN0 X := by
  obtain ⟨p, l, e, R, s, m, args, below, meth, c, G, n⟩ := X
  exact ⟨h.1, h.2.1, h.2.2.1⟩
def WN (X : Cx) (c n : Nat) (ov : Nat → va_E) (ce sl pc : Nat) (lv : List (Nat × Value)) (st : List Value) (Q : State → Prop) : Prop := match X with
  | (p, l, e, R, s, m, args, below, meth, cd, G, nn) => ∀ (H : Heap) (locs : List Loc) (ls : Array Slot), HN G c n ov H → va_S (gC G c) s.heap H locs → lv_has ls nn lv → W p l e R s m args below meth cd H locs ce sl Q (F0 m pc ls st)
/-- the end of a constructor -/
def NQ (X : Cx) (c n : Nat) (ov : Nat → va_E) (ce sl : Nat) : State → Prop := match X with
  | (_, _, _, _, s, _, args, below, _, _, G, _) => MQ below (fun _ st o t => o = .returned none ∧ HN G c n ov t.heap ∧ va_F (gC G c) st t) args s ce sl (gC G c)
/-- a constructor of the object at c: it makes the cells c + 1 to n - 1 -/
def ConN (y : MethodName) (cc : ByteArray) (maxL fr lo mc ms c n : Nat) (e0 : va_E) (ov : GG → Nat → va_E) : Prop :=
  ∀ (l : Launch), l.flags = flags0 → ∀ G : GG, GB G → Met l y (ws_ y cc maxL none) ({ frames := fr, cells := mc, slots := ms, locals := lo }) (va_Pc [.ref (ga G c)] (fun U => HN G c (c + 1) (fun _ => e0) U.heap ∧ NU G U)) (fun _ st o t => o = .returned none ∧ HN G c n (ov G) t.heap ∧ va_F (gC G c) st t) mc ms (gC G c)
theorem conN_of {y : MethodName} {cc : ByteArray} {maxL fr lo mc ms c n : Nat} {e0 : va_E} {ov : GG → Nat → va_E} (hy : plainName y.cls = true) (hyi : y.name = "<init>") (hlen : 1 ≤ maxL)
    (body : ∀ X : Cx, Fm X cc y.cls none fr lo maxL → FN X → RO X mc ms → WN X c (c + 1) (fun _ => e0) 0 0 0 [(0, .ref (ga X.G c))] [] (NQ X c n (ov X.G) mc ms)) : ConN y cc maxL fr lo mc ms c n e0 ov := by
  intro l hfl G hG
  refine Met.ofW (cc := cc) (maxL := maxL) (ret := none) hy rfl ?_
  intro p e s m args below meth cd s₁ B hml hv
  obtain ⟨rfl, hH, hK, hO, hNW, hFS, hAO⟩ := hv
  have hts := atoms_spec (ws := ws_ y cc maxL none) B.pre
  have hown : s.vm.findClass y.cls = some m.cls := findClass_of_methodNamed B.named
  have hin : meth.name = y.name := (name_of_methodNamed B.named B.method).1
  have hl := lv_entry [Value.ref (ga G c)] (n := maxL) hlen
  rw [lg_entry_eq]
  exact body (p, l, e, _, s, m, _, below, meth, cd, G, maxL) ⟨B.exec, B.bytes, hml, hown, fun w h => hts w (List.mem_cons_of_mem _ h), hK, hG.ad, hO, by rw [hH.1]; omega, B.returns, B.notSynchronized, Nat.le_refl _, Nat.le_refl _, rfl, hfl, hNW⟩ ⟨hG, hFS, hAO, hin.trans hyi⟩ ⟨Nat.le_refl _, Nat.le_refl _⟩ s.heap [] _ hH va_S.rf hl
section NROWS
variable {X : Cx} {cc : ByteArray} {own : String} {rt : Option FieldType} {fr lo nL : Nat} {c n ce sl pc : Nat} {ov : Nat → va_E} {lv : List (Nat × Value)} {st : List Value} {Q : State → Prop}
theorem n_aload_n (F : Fm X cc own rt fr lo nL) {q : Fin 4} {x : Nat} (hd : decode cc pc = .ok (.aload_n q, 1)) (k : Nat) (hk : lv[k]? = some ((q : Nat), .ref x)) (K : WN X c n ov ce sl (pc + 1) lv (.ref x :: st) Q) : WN X c n ov ce sl pc lv st Q := by
  obtain ⟨p, l, e, R, s, m, args, below, meth, cd, G, nn⟩ := X
  obtain ⟨hx, hb, -⟩ := F
  intro H locs ls hH hS hl
  exact lv_aload_n hx hb hd rfl (lv_at hl k hk) (K H locs ls hH hS hl)
theorem n_iload_n (F : Fm X cc own rt fr lo nL) {q : Fin 4} {x : Int32} (hd : decode cc pc = .ok (.iload_n q, 1)) (k : Nat) (hk : lv[k]? = some ((q : Nat), .int x)) (K : WN X c n ov ce sl (pc + 1) lv (.int x :: st) Q) : WN X c n ov ce sl pc lv st Q := by
  obtain ⟨p, l, e, R, s, m, args, below, meth, cd, G, nn⟩ := X
  obtain ⟨hx, hb, -⟩ := F
  intro H locs ls hH hS hl
  exact lv_iload_n hx hb hd rfl (lv_at hl k hk) (K H locs ls hH hS hl)
theorem n_iconst (F : Fm X cc own rt fr lo nL) {i : Int} {v : Int32} (hd : decode cc pc = .ok (.iconst i, 1)) (hv : Int32.ofInt i = v) (K : WN X c n ov ce sl (pc + 1) lv (.int v :: st) Q) : WN X c n ov ce sl pc lv st Q := by
  obtain ⟨p, l, e, R, s, m, args, below, meth, cd, G, nn⟩ := X
  obtain ⟨hx, hb, -⟩ := F
  intro H locs ls hH hS hl
  exact lv_iconst hx hb hd hv (K H locs ls hH hS hl)
theorem n_bipush (F : Fm X cc own rt fr lo nL) {i : Int} {v : Int32} (hd : decode cc pc = .ok (.bipush i, 2)) (hv : (Int8.ofInt i).toInt32 = v) (K : WN X c n ov ce sl (pc + 2) lv (.int v :: st) Q) : WN X c n ov ce sl pc lv st Q := by
  obtain ⟨p, l, e, R, s, m, args, below, meth, cd, G, nn⟩ := X
  obtain ⟨hx, hb, -⟩ := F
  intro H locs ls hH hS hl
  exact lv_bipush hx hb hd hv (K H locs ls hH hS hl)
theorem n_sipush (F : Fm X cc own rt fr lo nL) {i : Int} {v : Int32} (hd : decode cc pc = .ok (.sipush i, 3)) (hv : (Int16.ofInt i).toInt32 = v) (K : WN X c n ov ce sl (pc + 3) lv (.int v :: st) Q) : WN X c n ov ce sl pc lv st Q := by
  obtain ⟨p, l, e, R, s, m, args, below, meth, cd, G, nn⟩ := X
  obtain ⟨hx, hb, -⟩ := F
  intro H locs ls hH hS hl
  exact lv_sipush hx hb hd hv (K H locs ls hH hS hl)
theorem n_dup (F : Fm X cc own rt fr lo nL) {x : Nat} (hd : decode cc pc = .ok (.dup, 1)) (K : WN X c n ov ce sl (pc + 1) lv (.ref x :: .ref x :: st) Q) : WN X c n ov ce sl pc lv (.ref x :: st) Q := by
  obtain ⟨p, l, e, R, s, m, args, below, meth, cd, G, nn⟩ := X
  obtain ⟨hx, hb, -⟩ := F
  intro H locs ls hH hS hl
  exact lv_dup hx hb hd rfl (K H locs ls hH hS hl)
theorem n_istore_n (F : Fm X cc own rt fr lo nL) {w : Fin 4} {x : Int32} {lv' : List (Nat × Value)} (hd : decode cc pc = .ok (.istore_n w, 1)) (hi : (w : Nat) < nL) (hv : ((w : Nat), Value.int x) :: lv.filter (fun q => !(q.1 == (w : Nat)) && !(q.1 + 1 == (w : Nat) && q.2.category == 2)) = lv') (K : WN X c n ov ce sl (pc + 1) lv' st Q) : WN X c n ov ce sl pc lv (.int x :: st) Q := by
  obtain ⟨p, l, e, R, s, m, args, below, meth, cd, G, nn⟩ := X
  obtain ⟨hx, hb, hml, hown, hts, hK, hA, hO, hsz, hr, hlk, hfr, hlo, hn, hfl, hNW⟩ := F
  intro H locs ls hH hS hl
  subst hn
  exact lv_istore_n hx hb hd rfl hl hi hv (fun ls' hl' => K H locs ls' hH hS hl')
theorem n_istore (F : Fm X cc own rt fr lo nL) {i : Nat} {x : Int32} {lv' : List (Nat × Value)} (hd : decode cc pc = .ok (.istore i, 2)) (hi : i < nL) (hv : (i, Value.int x) :: lv.filter (fun q => !(q.1 == i) && !(q.1 + 1 == i && q.2.category == 2)) = lv') (K : WN X c n ov ce sl (pc + 2) lv' st Q) : WN X c n ov ce sl pc lv (.int x :: st) Q := by
  obtain ⟨p, l, e, R, s, m, args, below, meth, cd, G, nn⟩ := X
  obtain ⟨hx, hb, hml, hown, hts, hK, hA, hO, hsz, hr, hlk, hfr, hlo, hn, hfl, hNW⟩ := F
  intro H locs ls hH hS hl
  subst hn
  exact lv_istore hx hb hd hl hi hv (fun ls' hl' => K H locs ls' hH hS hl')
theorem n_astore_n (F : Fm X cc own rt fr lo nL) {w : Fin 4} {x : Nat} {lv' : List (Nat × Value)} (hd : decode cc pc = .ok (.astore_n w, 1)) (hi : (w : Nat) < nL) (hv : ((w : Nat), Value.ref x) :: lv.filter (fun q => !(q.1 == (w : Nat)) && !(q.1 + 1 == (w : Nat) && q.2.category == 2)) = lv') (K : WN X c n ov ce sl (pc + 1) lv' st Q) : WN X c n ov ce sl pc lv (.ref x :: st) Q := by
  obtain ⟨p, l, e, R, s, m, args, below, meth, cd, G, nn⟩ := X
  obtain ⟨hx, hb, hml, hown, hts, hK, hA, hO, hsz, hr, hlk, hfr, hlo, hn, hfl, hNW⟩ := F
  intro H locs ls hH hS hl
  subst hn
  exact lv_astore_n hx hb hd rfl hl hi hv (fun ls' hl' => K H locs ls' hH hS hl')
theorem n_astore (F : Fm X cc own rt fr lo nL) {i : Nat} {x : Nat} {lv' : List (Nat × Value)} (hd : decode cc pc = .ok (.astore i, 2)) (hi : i < nL) (hv : (i, Value.ref x) :: lv.filter (fun q => !(q.1 == i) && !(q.1 + 1 == i && q.2.category == 2)) = lv') (K : WN X c n ov ce sl (pc + 2) lv' st Q) : WN X c n ov ce sl pc lv (.ref x :: st) Q := by
  obtain ⟨p, l, e, R, s, m, args, below, meth, cd, G, nn⟩ := X
  obtain ⟨hx, hb, hml, hown, hts, hK, hA, hO, hsz, hr, hlk, hfr, hlo, hn, hfl, hNW⟩ := F
  intro H locs ls hH hS hl
  subst hn
  exact lv_astore hx hb hd hl hi hv (fun ls' hl' => K H locs ls' hH hS hl')
theorem n_iinc (F : Fm X cc own rt fr lo nL) {i : Nat} {d : Int} {x v : Int32} {lv' : List (Nat × Value)} (hd : decode cc pc = .ok (.iinc i d, 3)) (k : Nat) (hk : lv[k]? = some (i, .int x)) (hv0 : x + Int32.ofInt d = v) (hi : i < nL) (hv : (i, Value.int v) :: lv.filter (fun q => !(q.1 == i) && !(q.1 + 1 == i && q.2.category == 2)) = lv') (K : WN X c n ov ce sl (pc + 3) lv' st Q) : WN X c n ov ce sl pc lv st Q := by
  obtain ⟨p, l, e, R, s, m, args, below, meth, cd, G, nn⟩ := X
  obtain ⟨hx, hb, hml, hown, hts, hK, hA, hO, hsz, hr, hlk, hfr, hlo, hn, hfl, hNW⟩ := F
  intro H locs ls hH hS hl
  subst hn
  exact lv_iinc hx hb hd hl hk hv0 hi hv (fun ls' hl' => K H locs ls' hH hS hl')
theorem n_goto (F : Fm X cc own rt fr lo nL) {off : Int} {tgt : Nat} (hd : decode cc pc = .ok (.goto off, 3)) (ht : (pc : Int) + off = (tgt : Int)) (K : WN X c n ov ce sl tgt lv st Q) : WN X c n ov ce sl pc lv st Q := by
  obtain ⟨p, l, e, R, s, m, args, below, meth, cd, G, nn⟩ := X
  obtain ⟨hx, hb, -⟩ := F
  intro H locs ls hH hS hl
  exact lv_goto hx hb hd ht (K H locs ls hH hS hl)
theorem n_icmp_ge (F : Fm X cc own rt fr lo nL) {x y : Int32} {off : Int} {tgt : Nat} (hd : decode cc pc = .ok (.if_icmp .ge off, 3)) (ht : (pc : Int) + off = (tgt : Int)) (kt : y ≤ x → WN X c n ov ce sl tgt lv st Q) (kf : ¬ (y ≤ x) → WN X c n ov ce sl (pc + 3) lv st Q) : WN X c n ov ce sl pc lv (.int y :: .int x :: st) Q := by
  obtain ⟨p, l, e, R, s, m, args, below, meth, cd, G, nn⟩ := X
  obtain ⟨hx, hb, -⟩ := F
  intro H locs ls hH hS hl
  exact lv_icmp_ge hx hb hd ht (fun h => kt h H locs ls hH hS hl) (fun h => kf h H locs ls hH hS hl)
/-- Object's own constructor -/
def OI (own : String) (ix : Nat) : Prop := Cond.methodLink own ix Lib.objectInit ∈ lw_all ∧ Cond.instanceMethod Lib.objectInit ∈ lw_all ∧ Cond.code Lib.objectInit ⟨#[0xb1]⟩ 1 none ∈ lw_all
theorem n_objInit (F : Fm X cc own rt fr lo nL) {ix a : Nat} (hd : decode cc pc = .ok (.invokespecial ix, 3)) (hw : OI own ix) (h1 : 1 ≤ fr) (h2 : 12 ≤ lo) (K : WN X c n ov ce sl (pc + 3) lv [] Q) : WN X c n ov ce sl pc lv [.ref a] Q := by
  obtain ⟨p, l, e, R, s, m, args, below, meth, cd, G, nn⟩ := X
  obtain ⟨hx, hb, hml, hown, hts, hK, hA, hO, hsz, hr, hlk, hfr, hlo, hn, hfl, hNW⟩ := F
  intro H locs ls hH hS hl
  exact W.objInit hx hb hown (hts _ hw.1) (hts _ hw.2.1) (hts _ hw.2.2) rfl (by rw [hml, ← hn]; exact hl.1) rfl hd (Nat.le_trans h1 hfr) (Nat.le_trans h2 hlo) (K H locs ls hH hS hl)
end NROWS
