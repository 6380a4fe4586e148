theorem fa_nle {i : Int32} (h : i < 0) : ¬ (0 : Int32) ≤ i := fun q => by
  have a := Int32.lt_iff_toInt_lt.mp h
  have b := Int32.le_iff_toInt_le.mp q
  omega
theorem vp_lit0 {i : Int32} {n : Nat} (h : (decide (0 ≤ i) && decide (i.toNatClampNeg < n)) = true) : vp_in i n := by
  simp only [Bool.and_eq_true, decide_eq_true_eq] at h
  exact fun z => z.elim (fun z => absurd h.1 (fa_nle z)) (fun z => absurd h.2 (Nat.not_lt.mpr z))
theorem wsl_obj {G : GG} {μ : Mem} {k ci : Nat} {ds : List Nat} (hk : k < NC) (hs : shp k = .inl (ci, ds)) : (wsl G μ)[k]? = some (ga G k, .inr (ci, fvs (ga G) (μ.1 k) (μ.2 k) 0 ds)) := by
  rw [wsl_get hk, cel, hs]
theorem wsl_i {G : GG} {μ : Mem} {k n : Nat} (hk : k < NC) (hs : shp k = .inr (0, n)) : (wsl G μ)[k]? = some (ga G k, .inl ((gT G).1, n, .inl (μ.1 k))) := by
  rw [wsl_get hk, cel, hs]
  rfl
theorem wsl_q {G : GG} {μ : Mem} {k n : Nat} (hk : k < NC) (hs : shp k = .inr (1, n)) : (wsl G μ)[k]? = some (ga G k, .inl ((gT G).2.1, n, .inr (.inr (.inr (.inr (fun i => some (ga G (savedOff i)))))))) := by
  rw [wsl_get hk, cel, hs]
  rfl
theorem cel_o {G : GG} {μ : Mem} {k ci : Nat} {ds : List Nat} (hs : shp k = .inl (ci, ds)) : cel G μ k = .inr (ci, fvs (ga G) (μ.1 k) (μ.2 k) 0 ds) := by
  rw [cel, hs]
theorem cel_i {G : GG} {μ : Mem} {k n : Nat} (hs : shp k = .inr (0, n)) : cel G μ k = .inl ((gT G).1, n, .inl (μ.1 k)) := by
  rw [cel, hs]
  rfl
section ROWS
variable {X : Cx} {cc : ByteArray} {own : String} {rt : Option FieldType} {fr lo nL : Nat} {ce sl pc : Nat} {lv : List (Nat × Value)} {st : List Value} {μ : Mem} {Q : State → Prop}
theorem a_iconst (F : Fm X cc own rt fr lo nL) {n : Int} {v : Int32} (hd : decode cc pc = .ok (.iconst n, 1)) (hv : Int32.ofInt n = v) (K : WA X ce sl (pc + 1) lv (.int v :: st) μ Q) : WA X ce sl pc lv (st) μ Q := by
  obtain ⟨p, l, e, R, s, m, args, below, meth, c, G, nn⟩ := X
  obtain ⟨hx, hb, hml, hown, hts, hK, hA, hO, hsz, hr, hlk, hfr, hlo, hn, hfl, hNW⟩ := F
  intro H locs ls hH hS hl
  exact lv_iconst hx hb hd hv (K H locs ls hH hS hl)
theorem a_bipush (F : Fm X cc own rt fr lo nL) {n : Int} {v : Int32} (hd : decode cc pc = .ok (.bipush n, 2)) (hv : (Int8.ofInt n).toInt32 = v) (K : WA X ce sl (pc + 2) lv (.int v :: st) μ Q) : WA X ce sl pc lv (st) μ Q := by
  obtain ⟨p, l, e, R, s, m, args, below, meth, c, G, nn⟩ := X
  obtain ⟨hx, hb, hml, hown, hts, hK, hA, hO, hsz, hr, hlk, hfr, hlo, hn, hfl, hNW⟩ := F
  intro H locs ls hH hS hl
  exact lv_bipush hx hb hd hv (K H locs ls hH hS hl)
theorem a_sipush (F : Fm X cc own rt fr lo nL) {n : Int} {v : Int32} (hd : decode cc pc = .ok (.sipush n, 3)) (hv : (Int16.ofInt n).toInt32 = v) (K : WA X ce sl (pc + 3) lv (.int v :: st) μ Q) : WA X ce sl pc lv (st) μ Q := by
  obtain ⟨p, l, e, R, s, m, args, below, meth, c, G, nn⟩ := X
  obtain ⟨hx, hb, hml, hown, hts, hK, hA, hO, hsz, hr, hlk, hfr, hlo, hn, hfl, hNW⟩ := F
  intro H locs ls hH hS hl
  exact lv_sipush hx hb hd hv (K H locs ls hH hS hl)
theorem a_iload_n (F : Fm X cc own rt fr lo nL) {q : Fin 4} {x : Int32} (hd : decode cc pc = .ok (.iload_n q, 1)) (k : Nat) (hk : lv[k]? = some ((q : Nat), .int x)) (K : WA X ce sl (pc + 1) lv (.int x :: st) μ Q) : WA X ce sl pc lv (st) μ Q := by
  obtain ⟨p, l, e, R, s, m, args, below, meth, c, G, nn⟩ := X
  obtain ⟨hx, hb, hml, hown, hts, hK, hA, hO, hsz, hr, hlk, hfr, hlo, hn, hfl, hNW⟩ := F
  intro H locs ls hH hS hl
  exact lv_iload_n hx hb hd rfl (lv_at hl k hk) (K H locs ls hH hS hl)
theorem a_iload (F : Fm X cc own rt fr lo nL) {q : Nat} {x : Int32} (hd : decode cc pc = .ok (.iload q, 2)) (k : Nat) (hk : lv[k]? = some (q, .int x)) (K : WA X ce sl (pc + 2) lv (.int x :: st) μ Q) : WA X ce sl pc lv (st) μ Q := by
  obtain ⟨p, l, e, R, s, m, args, below, meth, c, G, nn⟩ := X
  obtain ⟨hx, hb, hml, hown, hts, hK, hA, hO, hsz, hr, hlk, hfr, hlo, hn, hfl, hNW⟩ := F
  intro H locs ls hH hS hl
  exact lv_iload hx hb hd (lv_at hl k hk) (K H locs ls hH hS hl)
theorem a_istore_n (F : Fm X cc own rt fr lo nL) {w : Fin 4} {x : Int32} {lv' : List (Nat × Value)} (hd : decode cc pc = .ok (.istore_n w, 1)) (hi : (w : Nat) < nL) (hv : ((w : Nat), Value.int x) :: lv.filter (fun q => !(q.1 == (w : Nat)) && !(q.1 + 1 == (w : Nat) && q.2.category == 2)) = lv') (K : WA X ce sl (pc + 1) lv' st μ Q) : WA X ce sl pc lv (.int x :: st) μ Q := by
  obtain ⟨p, l, e, R, s, m, args, below, meth, c, G, nn⟩ := X
  obtain ⟨hx, hb, hml, hown, hts, hK, hA, hO, hsz, hr, hlk, hfr, hlo, hn, hfl, hNW⟩ := F
  intro H locs ls hH hS hl
  subst hn
  exact lv_istore_n hx hb hd rfl hl hi hv (fun ls' hl' => K H locs ls' hH hS hl')
theorem a_istore (F : Fm X cc own rt fr lo nL) {i : Nat} {x : Int32} {lv' : List (Nat × Value)} (hd : decode cc pc = .ok (.istore i, 2)) (hi : i < nL) (hv : (i, Value.int x) :: lv.filter (fun q => !(q.1 == i) && !(q.1 + 1 == i && q.2.category == 2)) = lv') (K : WA X ce sl (pc + 2) lv' st μ Q) : WA X ce sl pc lv (.int x :: st) μ Q := by
  obtain ⟨p, l, e, R, s, m, args, below, meth, c, G, nn⟩ := X
  obtain ⟨hx, hb, hml, hown, hts, hK, hA, hO, hsz, hr, hlk, hfr, hlo, hn, hfl, hNW⟩ := F
  intro H locs ls hH hS hl
  subst hn
  exact lv_istore hx hb hd hl hi hv (fun ls' hl' => K H locs ls' hH hS hl')
theorem a_aload_n (F : Fm X cc own rt fr lo nL) {q : Fin 4} {x : Nat} (hd : decode cc pc = .ok (.aload_n q, 1)) (k : Nat) (hk : lv[k]? = some ((q : Nat), .ref x)) (K : WA X ce sl (pc + 1) lv (.ref x :: st) μ Q) : WA X ce sl pc lv (st) μ Q := by
  obtain ⟨p, l, e, R, s, m, args, below, meth, c, G, nn⟩ := X
  obtain ⟨hx, hb, hml, hown, hts, hK, hA, hO, hsz, hr, hlk, hfr, hlo, hn, hfl, hNW⟩ := F
  intro H locs ls hH hS hl
  exact lv_aload_n hx hb hd rfl (lv_at hl k hk) (K H locs ls hH hS hl)
theorem a_aload (F : Fm X cc own rt fr lo nL) {q : Nat} {x : Nat} (hd : decode cc pc = .ok (.aload q, 2)) (k : Nat) (hk : lv[k]? = some (q, .ref x)) (K : WA X ce sl (pc + 2) lv (.ref x :: st) μ Q) : WA X ce sl pc lv (st) μ Q := by
  obtain ⟨p, l, e, R, s, m, args, below, meth, c, G, nn⟩ := X
  obtain ⟨hx, hb, hml, hown, hts, hK, hA, hO, hsz, hr, hlk, hfr, hlo, hn, hfl, hNW⟩ := F
  intro H locs ls hH hS hl
  exact lv_aload hx hb hd (lv_at hl k hk) (K H locs ls hH hS hl)
theorem a_astore_n (F : Fm X cc own rt fr lo nL) {w : Fin 4} {x : Nat} {lv' : List (Nat × Value)} (hd : decode cc pc = .ok (.astore_n w, 1)) (hi : (w : Nat) < nL) (hv : ((w : Nat), Value.ref x) :: lv.filter (fun q => !(q.1 == (w : Nat)) && !(q.1 + 1 == (w : Nat) && q.2.category == 2)) = lv') (K : WA X ce sl (pc + 1) lv' st μ Q) : WA X ce sl pc lv (.ref x :: st) μ Q := by
  obtain ⟨p, l, e, R, s, m, args, below, meth, c, G, nn⟩ := X
  obtain ⟨hx, hb, hml, hown, hts, hK, hA, hO, hsz, hr, hlk, hfr, hlo, hn, hfl, hNW⟩ := F
  intro H locs ls hH hS hl
  subst hn
  exact lv_astore_n hx hb hd rfl hl hi hv (fun ls' hl' => K H locs ls' hH hS hl')
theorem a_astore (F : Fm X cc own rt fr lo nL) {i : Nat} {x : Nat} {lv' : List (Nat × Value)} (hd : decode cc pc = .ok (.astore i, 2)) (hi : i < nL) (hv : (i, Value.ref x) :: lv.filter (fun q => !(q.1 == i) && !(q.1 + 1 == i && q.2.category == 2)) = lv') (K : WA X ce sl (pc + 2) lv' st μ Q) : WA X ce sl pc lv (.ref x :: st) μ Q := by
  obtain ⟨p, l, e, R, s, m, args, below, meth, c, G, nn⟩ := X
  obtain ⟨hx, hb, hml, hown, hts, hK, hA, hO, hsz, hr, hlk, hfr, hlo, hn, hfl, hNW⟩ := F
  intro H locs ls hH hS hl
  subst hn
  exact lv_astore hx hb hd hl hi hv (fun ls' hl' => K H locs ls' hH hS hl')
theorem a_iinc (F : Fm X cc own rt fr lo nL) {i : Nat} {n : Int} {x v : Int32} {lv' : List (Nat × Value)} (hd : decode cc pc = .ok (.iinc i n, 3)) (k : Nat) (hk : lv[k]? = some (i, .int x)) (hv0 : x + Int32.ofInt n = v) (hi : i < nL) (hv : (i, Value.int v) :: lv.filter (fun q => !(q.1 == i) && !(q.1 + 1 == i && q.2.category == 2)) = lv') (K : WA X ce sl (pc + 3) lv' st μ Q) : WA X ce sl pc lv st μ Q := by
  obtain ⟨p, l, e, R, s, m, args, below, meth, c, G, nn⟩ := X
  obtain ⟨hx, hb, hml, hown, hts, hK, hA, hO, hsz, hr, hlk, hfr, hlo, hn, hfl, hNW⟩ := F
  intro H locs ls hH hS hl
  subst hn
  exact lv_iinc hx hb hd hl hk hv0 hi hv (fun ls' hl' => K H locs ls' hH hS hl')
theorem a_iadd (F : Fm X cc own rt fr lo nL) {x y : Int32} (hd : decode cc pc = .ok (.iadd, 1)) (K : WA X ce sl (pc + 1) lv (.int (x + y) :: st) μ Q) : WA X ce sl pc lv (.int y :: .int x :: st) μ Q := by
  obtain ⟨p, l, e, R, s, m, args, below, meth, c, G, nn⟩ := X
  obtain ⟨hx, hb, hml, hown, hts, hK, hA, hO, hsz, hr, hlk, hfr, hlo, hn, hfl, hNW⟩ := F
  intro H locs ls hH hS hl
  exact lv_iadd hx hb hd (K H locs ls hH hS hl)
theorem a_isub (F : Fm X cc own rt fr lo nL) {x y : Int32} (hd : decode cc pc = .ok (.isub, 1)) (K : WA X ce sl (pc + 1) lv (.int (x - y) :: st) μ Q) : WA X ce sl pc lv (.int y :: .int x :: st) μ Q := by
  obtain ⟨p, l, e, R, s, m, args, below, meth, c, G, nn⟩ := X
  obtain ⟨hx, hb, hml, hown, hts, hK, hA, hO, hsz, hr, hlk, hfr, hlo, hn, hfl, hNW⟩ := F
  intro H locs ls hH hS hl
  exact lv_isub hx hb hd (K H locs ls hH hS hl)
theorem a_imul (F : Fm X cc own rt fr lo nL) {x y : Int32} (hd : decode cc pc = .ok (.imul, 1)) (K : WA X ce sl (pc + 1) lv (.int (x * y) :: st) μ Q) : WA X ce sl pc lv (.int y :: .int x :: st) μ Q := by
  obtain ⟨p, l, e, R, s, m, args, below, meth, c, G, nn⟩ := X
  obtain ⟨hx, hb, hml, hown, hts, hK, hA, hO, hsz, hr, hlk, hfr, hlo, hn, hfl, hNW⟩ := F
  intro H locs ls hH hS hl
  exact lv_imul hx hb hd (K H locs ls hH hS hl)
theorem a_iand (F : Fm X cc own rt fr lo nL) {x y : Int32} (hd : decode cc pc = .ok (.iand, 1)) (K : WA X ce sl (pc + 1) lv (.int (x &&& y) :: st) μ Q) : WA X ce sl pc lv (.int y :: .int x :: st) μ Q := by
  obtain ⟨p, l, e, R, s, m, args, below, meth, c, G, nn⟩ := X
  obtain ⟨hx, hb, hml, hown, hts, hK, hA, hO, hsz, hr, hlk, hfr, hlo, hn, hfl, hNW⟩ := F
  intro H locs ls hH hS hl
  exact lv_iand hx hb hd (K H locs ls hH hS hl)
theorem a_ior (F : Fm X cc own rt fr lo nL) {x y : Int32} (hd : decode cc pc = .ok (.ior, 1)) (K : WA X ce sl (pc + 1) lv (.int (x ||| y) :: st) μ Q) : WA X ce sl pc lv (.int y :: .int x :: st) μ Q := by
  obtain ⟨p, l, e, R, s, m, args, below, meth, c, G, nn⟩ := X
  obtain ⟨hx, hb, hml, hown, hts, hK, hA, hO, hsz, hr, hlk, hfr, hlo, hn, hfl, hNW⟩ := F
  intro H locs ls hH hS hl
  exact lv_ior hx hb hd (K H locs ls hH hS hl)
theorem a_ixor (F : Fm X cc own rt fr lo nL) {x y : Int32} (hd : decode cc pc = .ok (.ixor, 1)) (K : WA X ce sl (pc + 1) lv (.int (x ^^^ y) :: st) μ Q) : WA X ce sl pc lv (.int y :: .int x :: st) μ Q := by
  obtain ⟨p, l, e, R, s, m, args, below, meth, c, G, nn⟩ := X
  obtain ⟨hx, hb, hml, hown, hts, hK, hA, hO, hsz, hr, hlk, hfr, hlo, hn, hfl, hNW⟩ := F
  intro H locs ls hH hS hl
  exact lv_ixor hx hb hd (K H locs ls hH hS hl)
theorem a_ishl (F : Fm X cc own rt fr lo nL) {x y : Int32} (hd : decode cc pc = .ok (.ishl, 1)) (K : WA X ce sl (pc + 1) lv (.int (x <<< (y &&& 31)) :: st) μ Q) : WA X ce sl pc lv (.int y :: .int x :: st) μ Q := by
  obtain ⟨p, l, e, R, s, m, args, below, meth, c, G, nn⟩ := X
  obtain ⟨hx, hb, hml, hown, hts, hK, hA, hO, hsz, hr, hlk, hfr, hlo, hn, hfl, hNW⟩ := F
  intro H locs ls hH hS hl
  exact lv_ishl hx hb hd (K H locs ls hH hS hl)
theorem a_ishr (F : Fm X cc own rt fr lo nL) {x y : Int32} (hd : decode cc pc = .ok (.ishr, 1)) (K : WA X ce sl (pc + 1) lv (.int (x >>> (y &&& 31)) :: st) μ Q) : WA X ce sl pc lv (.int y :: .int x :: st) μ Q := by
  obtain ⟨p, l, e, R, s, m, args, below, meth, c, G, nn⟩ := X
  obtain ⟨hx, hb, hml, hown, hts, hK, hA, hO, hsz, hr, hlk, hfr, hlo, hn, hfl, hNW⟩ := F
  intro H locs ls hH hS hl
  exact lv_ishr hx hb hd (K H locs ls hH hS hl)
theorem a_iushr (F : Fm X cc own rt fr lo nL) {x y : Int32} (hd : decode cc pc = .ok (.iushr, 1)) (K : WA X ce sl (pc + 1) lv (.int (x.toUInt32 >>> (y.toUInt32 &&& Int32.toUInt32 31)).toInt32 :: st) μ Q) : WA X ce sl pc lv (.int y :: .int x :: st) μ Q := by
  obtain ⟨p, l, e, R, s, m, args, below, meth, c, G, nn⟩ := X
  obtain ⟨hx, hb, hml, hown, hts, hK, hA, hO, hsz, hr, hlk, hfr, hlo, hn, hfl, hNW⟩ := F
  intro H locs ls hH hS hl
  exact lv_iushr hx hb hd rfl (K H locs ls hH hS hl)
theorem a_idiv (F : Fm X cc own rt fr lo nL) {x y : Int32} (hd : decode cc pc = .ok (.idiv, 1)) (hne : ¬ y = 0) (K : WA X ce sl (pc + 1) lv (.int (x / y) :: st) μ Q) : WA X ce sl pc lv (.int y :: .int x :: st) μ Q := by
  obtain ⟨p, l, e, R, s, m, args, below, meth, c, G, nn⟩ := X
  obtain ⟨hx, hb, hml, hown, hts, hK, hA, hO, hsz, hr, hlk, hfr, hlo, hn, hfl, hNW⟩ := F
  intro H locs ls hH hS hl
  exact lv_idiv hx hb hd hne (K H locs ls hH hS hl)
theorem a_irem (F : Fm X cc own rt fr lo nL) {x y : Int32} (hd : decode cc pc = .ok (.irem, 1)) (hne : ¬ y = 0) (K : WA X ce sl (pc + 1) lv (.int (x - x / y * y) :: st) μ Q) : WA X ce sl pc lv (.int y :: .int x :: st) μ Q := by
  obtain ⟨p, l, e, R, s, m, args, below, meth, c, G, nn⟩ := X
  obtain ⟨hx, hb, hml, hown, hts, hK, hA, hO, hsz, hr, hlk, hfr, hlo, hn, hfl, hNW⟩ := F
  intro H locs ls hH hS hl
  exact lv_irem hx hb hd hne (K H locs ls hH hS hl)
theorem a_dup (F : Fm X cc own rt fr lo nL) {v : Value} (hd : decode cc pc = .ok (.dup, 1)) (hv : v.category = 1) (K : WA X ce sl (pc + 1) lv (v :: v :: st) μ Q) : WA X ce sl pc lv (v :: st) μ Q := by
  obtain ⟨p, l, e, R, s, m, args, below, meth, c, G, nn⟩ := X
  obtain ⟨hx, hb, hml, hown, hts, hK, hA, hO, hsz, hr, hlk, hfr, hlo, hn, hfl, hNW⟩ := F
  intro H locs ls hH hS hl
  exact lv_dup hx hb hd hv (K H locs ls hH hS hl)
theorem a_dup2 (F : Fm X cc own rt fr lo nL) {v w : Value} (hd : decode cc pc = .ok (.dup2, 1)) (hv : v.category = 1) (hw : w.category = 1) (K : WA X ce sl (pc + 1) lv (v :: w :: v :: w :: st) μ Q) : WA X ce sl pc lv (v :: w :: st) μ Q := by
  obtain ⟨p, l, e, R, s, m, args, below, meth, c, G, nn⟩ := X
  obtain ⟨hx, hb, hml, hown, hts, hK, hA, hO, hsz, hr, hlk, hfr, hlo, hn, hfl, hNW⟩ := F
  intro H locs ls hH hS hl
  exact lv_dup2_11 hx hb hd hv hw (K H locs ls hH hS hl)
theorem a_dup2d (F : Fm X cc own rt fr lo nL) {v : Value} (hd : decode cc pc = .ok (.dup2, 1)) (hv : v.category = 2) (K : WA X ce sl (pc + 1) lv (v :: v :: st) μ Q) : WA X ce sl pc lv (v :: st) μ Q := by
  obtain ⟨p, l, e, R, s, m, args, below, meth, c, G, nn⟩ := X
  obtain ⟨hx, hb, hml, hown, hts, hK, hA, hO, hsz, hr, hlk, hfr, hlo, hn, hfl, hNW⟩ := F
  intro H locs ls hH hS hl
  exact lv_dup2_2 hx hb hd hv (K H locs ls hH hS hl)
theorem a_pop (F : Fm X cc own rt fr lo nL) {v : Value} (hd : decode cc pc = .ok (.pop, 1)) (hv : v.category = 1) (K : WA X ce sl (pc + 1) lv (st) μ Q) : WA X ce sl pc lv (v :: st) μ Q := by
  obtain ⟨p, l, e, R, s, m, args, below, meth, c, G, nn⟩ := X
  obtain ⟨hx, hb, hml, hown, hts, hK, hA, hO, hsz, hr, hlk, hfr, hlo, hn, hfl, hNW⟩ := F
  intro H locs ls hH hS hl
  exact lv_pop hx hb hd hv (K H locs ls hH hS hl)
theorem a_ldc (F : Fm X cc own rt fr lo nL) {ix : Nat} {v : Int32} (hd : decode cc pc = .ok (.ldc ix, 2)) (hw : Cond.constant own ix v ∈ lw_all) (K : WA X ce sl (pc + 2) lv (.int v :: st) μ Q) : WA X ce sl pc lv (st) μ Q := by
  obtain ⟨p, l, e, R, s, m, args, below, meth, c, G, nn⟩ := X
  obtain ⟨hx, hb, hml, hown, hts, hK, hA, hO, hsz, hr, hlk, hfr, hlo, hn, hfl, hNW⟩ := F
  intro H locs ls hH hS hl
  exact lv_ldc hx hb hown (hts _ hw) hd (K H locs ls hH hS hl)
theorem a_if_eq (F : Fm X cc own rt fr lo nL) {x : Int32} {off : Int} {tgt : Nat} (hd : decode cc pc = .ok (.ifCond .eq off, 3)) (ht : (pc : Int) + off = (tgt : Int)) (kt : x = 0 → WA X ce sl tgt lv st μ Q) (kf : ¬ (x = 0) → WA X ce sl (pc + 3) lv st μ Q) : WA X ce sl pc lv (.int x :: st) μ Q := by
  obtain ⟨p, l, e, R, s, m, args, below, meth, c, G, nn⟩ := X
  obtain ⟨hx, hb, hml, hown, hts, hK, hA, hO, hsz, hr, hlk, hfr, hlo, hn, hfl, hNW⟩ := F
  intro H locs ls hH hS hl
  exact lv_if_eq hx hb hd ht (fun h => kt h H locs ls hH hS hl) (fun h => kf (by first | exact h | exact fun q => q h) H locs ls hH hS hl)
theorem a_icmp_eq (F : Fm X cc own rt fr lo nL) {x y : Int32} {off : Int} {tgt : Nat} (hd : decode cc pc = .ok (.if_icmp .eq off, 3)) (ht : (pc : Int) + off = (tgt : Int)) (kt : x = y → WA X ce sl tgt lv st μ Q) (kf : ¬ (x = y) → WA X ce sl (pc + 3) lv st μ Q) : WA X ce sl pc lv (.int y :: .int x :: st) μ Q := by
  obtain ⟨p, l, e, R, s, m, args, below, meth, c, G, nn⟩ := X
  obtain ⟨hx, hb, hml, hown, hts, hK, hA, hO, hsz, hr, hlk, hfr, hlo, hn, hfl, hNW⟩ := F
  intro H locs ls hH hS hl
  exact lv_icmp_eq hx hb hd ht (fun h => kt h H locs ls hH hS hl) (fun h => kf (by first | exact h | exact fun q => q h) H locs ls hH hS hl)
theorem a_if_ne (F : Fm X cc own rt fr lo nL) {x : Int32} {off : Int} {tgt : Nat} (hd : decode cc pc = .ok (.ifCond .ne off, 3)) (ht : (pc : Int) + off = (tgt : Int)) (kt : x ≠ 0 → WA X ce sl tgt lv st μ Q) (kf : ¬ (x ≠ 0) → WA X ce sl (pc + 3) lv st μ Q) : WA X ce sl pc lv (.int x :: st) μ Q := by
  obtain ⟨p, l, e, R, s, m, args, below, meth, c, G, nn⟩ := X
  obtain ⟨hx, hb, hml, hown, hts, hK, hA, hO, hsz, hr, hlk, hfr, hlo, hn, hfl, hNW⟩ := F
  intro H locs ls hH hS hl
  exact lv_if_ne hx hb hd ht (fun h => kt h H locs ls hH hS hl) (fun h => kf (by first | exact h | exact fun q => q h) H locs ls hH hS hl)
theorem a_icmp_ne (F : Fm X cc own rt fr lo nL) {x y : Int32} {off : Int} {tgt : Nat} (hd : decode cc pc = .ok (.if_icmp .ne off, 3)) (ht : (pc : Int) + off = (tgt : Int)) (kt : x ≠ y → WA X ce sl tgt lv st μ Q) (kf : ¬ (x ≠ y) → WA X ce sl (pc + 3) lv st μ Q) : WA X ce sl pc lv (.int y :: .int x :: st) μ Q := by
  obtain ⟨p, l, e, R, s, m, args, below, meth, c, G, nn⟩ := X
  obtain ⟨hx, hb, hml, hown, hts, hK, hA, hO, hsz, hr, hlk, hfr, hlo, hn, hfl, hNW⟩ := F
  intro H locs ls hH hS hl
  exact lv_icmp_ne hx hb hd ht (fun h => kt h H locs ls hH hS hl) (fun h => kf (by first | exact h | exact fun q => q h) H locs ls hH hS hl)
theorem a_if_lt (F : Fm X cc own rt fr lo nL) {x : Int32} {off : Int} {tgt : Nat} (hd : decode cc pc = .ok (.ifCond .lt off, 3)) (ht : (pc : Int) + off = (tgt : Int)) (kt : x < 0 → WA X ce sl tgt lv st μ Q) (kf : ¬ (x < 0) → WA X ce sl (pc + 3) lv st μ Q) : WA X ce sl pc lv (.int x :: st) μ Q := by
  obtain ⟨p, l, e, R, s, m, args, below, meth, c, G, nn⟩ := X
  obtain ⟨hx, hb, hml, hown, hts, hK, hA, hO, hsz, hr, hlk, hfr, hlo, hn, hfl, hNW⟩ := F
  intro H locs ls hH hS hl
  exact lv_if_lt hx hb hd ht (fun h => kt h H locs ls hH hS hl) (fun h => kf (by first | exact h | exact fun q => q h) H locs ls hH hS hl)
theorem a_icmp_lt (F : Fm X cc own rt fr lo nL) {x y : Int32} {off : Int} {tgt : Nat} (hd : decode cc pc = .ok (.if_icmp .lt off, 3)) (ht : (pc : Int) + off = (tgt : Int)) (kt : x < y → WA X ce sl tgt lv st μ Q) (kf : ¬ (x < y) → WA X ce sl (pc + 3) lv st μ Q) : WA X ce sl pc lv (.int y :: .int x :: st) μ Q := by
  obtain ⟨p, l, e, R, s, m, args, below, meth, c, G, nn⟩ := X
  obtain ⟨hx, hb, hml, hown, hts, hK, hA, hO, hsz, hr, hlk, hfr, hlo, hn, hfl, hNW⟩ := F
  intro H locs ls hH hS hl
  exact lv_icmp_lt hx hb hd ht (fun h => kt h H locs ls hH hS hl) (fun h => kf (by first | exact h | exact fun q => q h) H locs ls hH hS hl)
theorem a_if_ge (F : Fm X cc own rt fr lo nL) {x : Int32} {off : Int} {tgt : Nat} (hd : decode cc pc = .ok (.ifCond .ge off, 3)) (ht : (pc : Int) + off = (tgt : Int)) (kt : 0 ≤ x → WA X ce sl tgt lv st μ Q) (kf : ¬ (0 ≤ x) → WA X ce sl (pc + 3) lv st μ Q) : WA X ce sl pc lv (.int x :: st) μ Q := by
  obtain ⟨p, l, e, R, s, m, args, below, meth, c, G, nn⟩ := X
  obtain ⟨hx, hb, hml, hown, hts, hK, hA, hO, hsz, hr, hlk, hfr, hlo, hn, hfl, hNW⟩ := F
  intro H locs ls hH hS hl
  exact lv_if_ge hx hb hd ht (fun h => kt h H locs ls hH hS hl) (fun h => kf (by first | exact h | exact fun q => q h) H locs ls hH hS hl)
theorem a_icmp_ge (F : Fm X cc own rt fr lo nL) {x y : Int32} {off : Int} {tgt : Nat} (hd : decode cc pc = .ok (.if_icmp .ge off, 3)) (ht : (pc : Int) + off = (tgt : Int)) (kt : y ≤ x → WA X ce sl tgt lv st μ Q) (kf : ¬ (y ≤ x) → WA X ce sl (pc + 3) lv st μ Q) : WA X ce sl pc lv (.int y :: .int x :: st) μ Q := by
  obtain ⟨p, l, e, R, s, m, args, below, meth, c, G, nn⟩ := X
  obtain ⟨hx, hb, hml, hown, hts, hK, hA, hO, hsz, hr, hlk, hfr, hlo, hn, hfl, hNW⟩ := F
  intro H locs ls hH hS hl
  exact lv_icmp_ge hx hb hd ht (fun h => kt h H locs ls hH hS hl) (fun h => kf (by first | exact h | exact fun q => q h) H locs ls hH hS hl)
theorem a_if_gt (F : Fm X cc own rt fr lo nL) {x : Int32} {off : Int} {tgt : Nat} (hd : decode cc pc = .ok (.ifCond .gt off, 3)) (ht : (pc : Int) + off = (tgt : Int)) (kt : 0 < x → WA X ce sl tgt lv st μ Q) (kf : ¬ (0 < x) → WA X ce sl (pc + 3) lv st μ Q) : WA X ce sl pc lv (.int x :: st) μ Q := by
  obtain ⟨p, l, e, R, s, m, args, below, meth, c, G, nn⟩ := X
  obtain ⟨hx, hb, hml, hown, hts, hK, hA, hO, hsz, hr, hlk, hfr, hlo, hn, hfl, hNW⟩ := F
  intro H locs ls hH hS hl
  exact lv_if_gt hx hb hd ht (fun h => kt h H locs ls hH hS hl) (fun h => kf (by first | exact h | exact fun q => q h) H locs ls hH hS hl)
theorem a_icmp_gt (F : Fm X cc own rt fr lo nL) {x y : Int32} {off : Int} {tgt : Nat} (hd : decode cc pc = .ok (.if_icmp .gt off, 3)) (ht : (pc : Int) + off = (tgt : Int)) (kt : y < x → WA X ce sl tgt lv st μ Q) (kf : ¬ (y < x) → WA X ce sl (pc + 3) lv st μ Q) : WA X ce sl pc lv (.int y :: .int x :: st) μ Q := by
  obtain ⟨p, l, e, R, s, m, args, below, meth, c, G, nn⟩ := X
  obtain ⟨hx, hb, hml, hown, hts, hK, hA, hO, hsz, hr, hlk, hfr, hlo, hn, hfl, hNW⟩ := F
  intro H locs ls hH hS hl
  exact lv_icmp_gt hx hb hd ht (fun h => kt h H locs ls hH hS hl) (fun h => kf (by first | exact h | exact fun q => q h) H locs ls hH hS hl)
theorem a_if_le (F : Fm X cc own rt fr lo nL) {x : Int32} {off : Int} {tgt : Nat} (hd : decode cc pc = .ok (.ifCond .le off, 3)) (ht : (pc : Int) + off = (tgt : Int)) (kt : x ≤ 0 → WA X ce sl tgt lv st μ Q) (kf : ¬ (x ≤ 0) → WA X ce sl (pc + 3) lv st μ Q) : WA X ce sl pc lv (.int x :: st) μ Q := by
  obtain ⟨p, l, e, R, s, m, args, below, meth, c, G, nn⟩ := X
  obtain ⟨hx, hb, hml, hown, hts, hK, hA, hO, hsz, hr, hlk, hfr, hlo, hn, hfl, hNW⟩ := F
  intro H locs ls hH hS hl
  exact lv_if_le hx hb hd ht (fun h => kt h H locs ls hH hS hl) (fun h => kf (by first | exact h | exact fun q => q h) H locs ls hH hS hl)
theorem a_icmp_le (F : Fm X cc own rt fr lo nL) {x y : Int32} {off : Int} {tgt : Nat} (hd : decode cc pc = .ok (.if_icmp .le off, 3)) (ht : (pc : Int) + off = (tgt : Int)) (kt : x ≤ y → WA X ce sl tgt lv st μ Q) (kf : ¬ (x ≤ y) → WA X ce sl (pc + 3) lv st μ Q) : WA X ce sl pc lv (.int y :: .int x :: st) μ Q := by
  obtain ⟨p, l, e, R, s, m, args, below, meth, c, G, nn⟩ := X
  obtain ⟨hx, hb, hml, hown, hts, hK, hA, hO, hsz, hr, hlk, hfr, hlo, hn, hfl, hNW⟩ := F
  intro H locs ls hH hS hl
  exact lv_icmp_le hx hb hd ht (fun h => kt h H locs ls hH hS hl) (fun h => kf (by first | exact h | exact fun q => q h) H locs ls hH hS hl)
theorem a_goto (F : Fm X cc own rt fr lo nL) {off : Int} {tgt : Nat} (hd : decode cc pc = .ok (.goto off, 3)) (ht : (pc : Int) + off = (tgt : Int)) (K : WA X ce sl tgt lv st μ Q) : WA X ce sl pc lv st μ Q := by
  obtain ⟨p, l, e, R, s, m, args, below, meth, c, G, nn⟩ := X
  obtain ⟨hx, hb, hml, hown, hts, hK, hA, hO, hsz, hr, hlk, hfr, hlo, hn, hfl, hNW⟩ := F
  intro H locs ls hH hS hl
  exact lv_goto hx hb hd ht (K H locs ls hH hS hl)
theorem a_ifnull (F : Fm X cc own rt fr lo nL) {a : Nat} {off : Int} (hd : decode cc pc = .ok (.ifnull off, 3)) (K : WA X ce sl (pc + 3) lv st μ Q) : WA X ce sl pc lv (.ref a :: st) μ Q := by
  obtain ⟨p, l, e, R, s, m, args, below, meth, c, G, nn⟩ := X
  obtain ⟨hx, hb, hml, hown, hts, hK, hA, hO, hsz, hr, hlk, hfr, hlo, hn, hfl, hNW⟩ := F
  intro H locs ls hH hS hl
  exact lv_ifnull hx hb hd (K H locs ls hH hS hl)
theorem a_ifnonnull (F : Fm X cc own rt fr lo nL) {a : Nat} {off : Int} {tgt : Nat} (hd : decode cc pc = .ok (.ifnonnull off, 3)) (ht : (pc : Int) + off = (tgt : Int)) (K : WA X ce sl tgt lv st μ Q) : WA X ce sl pc lv (.ref a :: st) μ Q := by
  obtain ⟨p, l, e, R, s, m, args, below, meth, c, G, nn⟩ := X
  obtain ⟨hx, hb, hml, hown, hts, hK, hA, hO, hsz, hr, hlk, hfr, hlo, hn, hfl, hNW⟩ := F
  intro H locs ls hH hS hl
  exact lv_ifnonnull hx hb hd ht (K H locs ls hH hS hl)
theorem a_swin (F : Fm X cc own rt fr lo nL) {dflt lw hi : Int} {offs : Array Int} {len : Nat} {x : Int32} {off : Int} {tgt : Nat} (hd : decode cc pc = .ok (.tableswitch dflt lw hi offs, len)) (h1 : ¬ x.toInt < lw) (h2 : ¬ hi < x.toInt) (ho : offs[(x.toInt - lw).toNat]? = some off) (ht : (pc : Int) + off = (tgt : Int)) (K : WA X ce sl tgt lv st μ Q) : WA X ce sl pc lv (.int x :: st) μ Q := by
  obtain ⟨p, l, e, R, s, m, args, below, meth, c, G, nn⟩ := X
  obtain ⟨hx, hb, hml, hown, hts, hK, hA, hO, hsz, hr, hlk, hfr, hlo, hn, hfl, hNW⟩ := F
  intro H locs ls hH hS hl
  exact lv_tableIn hx hb hd h1 h2 ho ht (K H locs ls hH hS hl)
theorem a_swout (F : Fm X cc own rt fr lo nL) {dflt lw hi : Int} {offs : Array Int} {len : Nat} {x : Int32} {tgt : Nat} (hd : decode cc pc = .ok (.tableswitch dflt lw hi offs, len)) (h : x.toInt < lw ∨ hi < x.toInt) (ht : (pc : Int) + dflt = (tgt : Int)) (K : WA X ce sl tgt lv st μ Q) : WA X ce sl pc lv (.int x :: st) μ Q := by
  obtain ⟨p, l, e, R, s, m, args, below, meth, c, G, nn⟩ := X
  obtain ⟨hx, hb, hml, hown, hts, hK, hA, hO, hsz, hr, hlk, hfr, hlo, hn, hfl, hNW⟩ := F
  intro H locs ls hH hS hl
  exact lv_tableOut hx hb hd h ht (K H locs ls hH hS hl)
theorem a_lv (F : Fm X cc own rt fr lo nL) {lv' : List (Nat × Value)} (ks : List Nat) (hl' : lv_pick lv ks = lv') (K : WA X ce sl pc lv' st μ Q) : WA X ce sl pc lv st μ Q := by
  obtain ⟨p, l, e, R, s, m, args, below, meth, c, G, nn⟩ := X
  obtain ⟨hx, hb, hml, hown, hts, hK, hA, hO, hsz, hr, hlk, hfr, hlo, hn, hfl, hNW⟩ := F
  intro H locs ls hH hS hl
  exact K H locs ls hH hS (lv_sub hl ks hl')
/-- a field's link: which place of which class -/
def FL (own : String) (ix ci j : Nat) : Prop := ∃ (C : String) (T : u_T) (N : Nat), vwCl[ci]? = some (C, T, N) ∧ (∀ w ∈ u_ws C T N, w ∈ lw_all) ∧ j < N ∧ Cond.fieldLink own ix (T j).1 (T j).2.1 (T j).2.2.1 ∈ lw_all
theorem a_geti (F : Fm X cc own rt fr lo nL) {ix ci j k : Nat} {ds : List Nat} (hd : decode cc pc = .ok (.getfield ix, 3)) (hf : FL own ix ci j) (hk : k < NC) (hs : shp k = .inl (ci, ds)) (hj : ds[j]? = some 0) (K : WA X ce sl (pc + 3) lv (.int (μ.1 k j) :: st) μ Q) : WA X ce sl pc lv (.ref (ga X.G k) :: st) μ Q := by
  obtain ⟨p, l, e, R, s, m, args, below, meth, c, G, nn⟩ := X
  obtain ⟨hx, hb, hml, hown, hts, hK, hA, hO, hsz, hr, hlk, hfr, hlo, hn, hfl, hNW⟩ := F
  intro H locs ls hH hS hl
  obtain ⟨C, T, N, h1, h2, h3, h4⟩ := hf
  exact va_get hx hb hts h2 hown hK (wsl_P hH) k (wsl_obj hk hs) h1 j h3 (hts _ h4) (fun _ h => h) ((fvs_get _ _ _ _ 0 j 0 hj).trans (by rw [Nat.zero_add]; rfl)) hd (K H locs ls hH hS hl)
theorem a_getr (F : Fm X cc own rt fr lo nL) {ix ci j k r : Nat} {ds : List Nat} (hd : decode cc pc = .ok (.getfield ix, 3)) (hf : FL own ix ci j) (hk : k < NC) (hs : shp k = .inl (ci, ds)) (hj : ds[j]? = some (r + 2)) (K : WA X ce sl (pc + 3) lv (.ref (ga X.G r) :: st) μ Q) : WA X ce sl pc lv (.ref (ga X.G k) :: st) μ Q := by
  obtain ⟨p, l, e, R, s, m, args, below, meth, c, G, nn⟩ := X
  obtain ⟨hx, hb, hml, hown, hts, hK, hA, hO, hsz, hr, hlk, hfr, hlo, hn, hfl, hNW⟩ := F
  intro H locs ls hH hS hl
  obtain ⟨C, T, N, h1, h2, h3, h4⟩ := hf
  exact va_get hx hb hts h2 hown hK (wsl_P hH) k (wsl_obj hk hs) h1 j h3 (hts _ h4) (fun _ h => h) (fvs_get _ _ _ _ 0 j (r + 2) hj) hd (K H locs ls hH hS hl)
def FP (own : String) (ix ci j : Nat) (ty : FieldType) : Prop := ∃ (C : String) (T : u_T) (N : Nat) (t0 : Nat → FieldType), vwCl[ci]? = some (C, T, N) ∧ (∀ w ∈ u_ws C T N, w ∈ lw_all) ∧ j < N ∧ Cond.fieldLink own ix (T j).1 (T j).2.1 (T j).2.2.1 ∈ lw_all ∧ (∀ k, k < N → parseFieldDescriptor (T k).2.2.1 = some (t0 k)) ∧ (∀ a, a < N → ∀ b, b < N → a ≠ b → (T a).2.1 ≠ (T b).2.1) ∧ (T j).2.2.2 = false ∧ parseFieldDescriptor (T j).2.2.1 = some ty
theorem a_puti (F : Fm X cc own rt fr lo nL) {ix ci j k : Nat} {ds : List Nat} {x : Int32} (hd : decode cc pc = .ok (.putfield ix, 3)) (hf : FP own ix ci j .int) (hk : k < NC) (hs : shp k = .inl (ci, ds)) (hj : ds[j]? = some 0) (K : WA X ce sl (pc + 3) lv st (si μ k j x) Q) : WA X ce sl pc lv (.int x :: .ref (ga X.G k) :: st) μ Q := by
  obtain ⟨p, l, e, R, s, m, args, below, meth, c, G, nn⟩ := X
  obtain ⟨hx, hb, hml, hown, hts, hK, hA, hO, hsz, hr, hlk, hfr, hlo, hn, hfl, hNW⟩ := F
  intro H locs ls hH hS hl
  obtain ⟨C, T, N, t0, h1, h2, h3, h4, h5, h6, h7, h8⟩ := hf
  refine va_put hx hb hts h2 t0 h5 h6 hown hK (wsl_P hH) (wsl_D hA) hS k (wsl_obj hk hs) h1 j h3 (hts _ h4) (fun _ h => h) h7 (ty := .int) (v := .int x) h8 rfl rfl (by rw [fvs_length]; exact (List.getElem?_eq_some_iff.mp hj).1) hd (fun H1 locs1 hP1 hD1 hS1 => ?_)
  have e := wsl_set (G := G) (μ := μ) (μ' := si μ k j x) (k := k) (x := .inr (ci, (fvs (ga G) (μ.1 k) (μ.2 k) 0 ds).set j (.int x))) (by rw [cel_o hs, fvs_seti _ _ _ _ _ _ _ hj, si_eq, Nat.zero_add]; rfl) (fun a ha => si_ne ha) (fun a ha => rfl)
  rw [e] at hP1
  exact K H1 locs1 ls (P_wsl hP1) hS1 hl
theorem a_ial (F : Fm X cc own rt fr lo nL) {k n : Nat} {i : Int32} (hd : decode cc pc = .ok (.iaload, 1)) (hk : k < NC) (hs : shp k = .inr (0, n)) (hin : vp_in i n) (K : WA X ce sl (pc + 1) lv (.int (μ.1 k i.toNatClampNeg) :: st) μ Q) : WA X ce sl pc lv (.int i :: .ref (ga X.G k) :: st) μ Q := by
  obtain ⟨p, l, e, R, s, m, args, below, meth, c, G, nn⟩ := X
  obtain ⟨hx, hb, hml, hown, hts, hK, hA, hO, hsz, hr, hlk, hfr, hlo, hn, hfl, hNW⟩ := F
  intro H locs ls hH hS hl
  exact va_iald hx hb hK (wsl_P hH) k 0 (wsl_i hk hs) rfl hin hd (K H locs ls hH hS hl)
theorem a_ias (F : Fm X cc own rt fr lo nL) {k n : Nat} {i x : Int32} (hd : decode cc pc = .ok (.iastore, 1)) (hk : k < NC) (hs : shp k = .inr (0, n)) (hin : vp_in i n) (K : WA X ce sl (pc + 1) lv st (si μ k i.toNatClampNeg x) Q) : WA X ce sl pc lv (.int x :: .int i :: .ref (ga X.G k) :: st) μ Q := by
  obtain ⟨p, l, e, R, s, m, args, below, meth, c, G, nn⟩ := X
  obtain ⟨hx, hb, hml, hown, hts, hK, hA, hO, hsz, hr, hlk, hfr, hlo, hn, hfl, hNW⟩ := F
  intro H locs ls hH hS hl
  refine va_iast hx hb hK (wsl_P hH) (wsl_D hA) hS k 0 (wsl_i hk hs) rfl hin hd (fun H1 locs1 hP1 hD1 hS1 => ?_)
  have e := wsl_set (G := G) (μ := μ) (μ' := si μ k i.toNatClampNeg x) (k := k) (x := .inl ((gT G).1, n, .inl (upd (μ.1 k) i.toNatClampNeg x))) (by rw [cel_i hs, si_eq]; rfl) (fun a ha => si_ne ha) (fun a ha => rfl)
  rw [e] at hP1
  exact K H1 locs1 ls (P_wsl hP1) hS1 hl
theorem a_ialc (F : Fm X cc own rt fr lo nL) {k n j : Nat} {i : Int32} (hd : decode cc pc = .ok (.iaload, 1)) (hk : k < NC) (hs : shp k = .inr (0, n)) (hj : i.toNatClampNeg = j) (hin : (decide (0 ≤ i) && decide (j < n)) = true) (K : WA X ce sl (pc + 1) lv (.int (μ.1 k j) :: st) μ Q) : WA X ce sl pc lv (.int i :: .ref (ga X.G k) :: st) μ Q := by
  subst hj
  exact a_ial F hd hk hs (vp_lit0 hin) K
theorem a_iasc (F : Fm X cc own rt fr lo nL) {k n j : Nat} {i x : Int32} (hd : decode cc pc = .ok (.iastore, 1)) (hk : k < NC) (hs : shp k = .inr (0, n)) (hj : i.toNatClampNeg = j) (hin : (decide (0 ≤ i) && decide (j < n)) = true) (K : WA X ce sl (pc + 1) lv st (si μ k j x) Q) : WA X ce sl pc lv (.int x :: .int i :: .ref (ga X.G k) :: st) μ Q := by
  subst hj
  exact a_ias F hd hk hs (vp_lit0 hin) K
theorem a_aal (F : Fm X cc own rt fr lo nL) {k n : Nat} {i : Int32} (hd : decode cc pc = .ok (.aaload, 1)) (hk : k < NC) (hs : shp k = .inr (1, n)) (hin : vp_in i n) (K : WA X ce sl (pc + 1) lv (.ref (ga X.G (savedOff i.toNatClampNeg)) :: st) μ Q) : WA X ce sl pc lv (.int i :: .ref (ga X.G k) :: st) μ Q := by
  obtain ⟨p, l, e, R, s, m, args, below, meth, c, G, nn⟩ := X
  obtain ⟨hx, hb, hml, hown, hts, hK, hA, hO, hsz, hr, hlk, hfr, hlo, hn, hfl, hNW⟩ := F
  intro H locs ls hH hS hl
  exact va_aldq hx hb hK (wsl_P hH) k 1 (wsl_q hk hs) rfl hin hd (K H locs ls hH hS hl)
theorem a_alen (F : Fm X cc own rt fr lo nL) {k n : Nat} (hd : decode cc pc = .ok (.arraylength, 1)) (hk : k < NC) (hs : shp k = .inr (0, n)) (K : WA X ce sl (pc + 1) lv (.int (Int32.ofNat n) :: st) μ Q) : WA X ce sl pc lv (.ref (ga X.G k) :: st) μ Q := by
  obtain ⟨p, l, e, R, s, m, args, below, meth, c, G, nn⟩ := X
  obtain ⟨hx, hb, hml, hown, hts, hK, hA, hO, hsz, hr, hlk, hfr, hlo, hn, hfl, hNW⟩ := F
  intro H locs ls hH hS hl
  exact va_alen hx hb hK (wsl_P hH) k 0 (wsl_i hk hs) rfl rfl hd (K H locs ls hH hS hl)
theorem a_gets1 (F : Fm X cc own rt fr lo nL) {ix : Nat} (hd : decode cc pc = .ok (.getstatic ix, 3)) (hw : Cond.fieldLink own ix "CourtRelays" "FIRST_SETTINGS" "[I" ∈ lw_all) (K : WA X ce sl (pc + 3) lv (.ref (ga X.G 200) :: st) μ Q) : WA X ce sl pc lv st μ Q := by
  obtain ⟨p, l, e, R, s, m, args, below, meth, c, G, nn⟩ := X
  obtain ⟨hx, hb, hml, hown, hts, hK, hA, hO, hsz, hr, hlk, hfr, hlo, hn, hfl, hNW⟩ := F
  intro H locs ls hH hS hl
  exact va_gets hx hb hO.1 hS hown (hts _ hw) (fun _ h => h) hd (K H locs ls hH hS hl)
theorem a_gets2 (F : Fm X cc own rt fr lo nL) {ix : Nat} (hd : decode cc pc = .ok (.getstatic ix, 3)) (hw : Cond.fieldLink own ix "CourtRelays" "MOST_OF_SETTINGS" "[I" ∈ lw_all) (K : WA X ce sl (pc + 3) lv (.ref (ga X.G 201) :: st) μ Q) : WA X ce sl pc lv st μ Q := by
  obtain ⟨p, l, e, R, s, m, args, below, meth, c, G, nn⟩ := X
  obtain ⟨hx, hb, hml, hown, hts, hK, hA, hO, hsz, hr, hlk, hfr, hlo, hn, hfl, hNW⟩ := F
  intro H locs ls hH hS hl
  exact va_gets hx hb hO.2.2.1 hS hown (hts _ hw) (fun _ h => h) hd (K H locs ls hH hS hl)
theorem a_len1 (F : Fm X cc own rt fr lo nL) (hd : decode cc pc = .ok (.arraylength, 1)) (K : WA X ce sl (pc + 1) lv (.int 7 :: st) μ Q) : WA X ce sl pc lv (.ref (ga X.G 200) :: st) μ Q := by
  obtain ⟨p, l, e, R, s, m, args, below, meth, c, G, nn⟩ := X
  obtain ⟨hx, hb, hml, hown, hts, hK, hA, hO, hsz, hr, hlk, hfr, hlo, hn, hfl, hNW⟩ := F
  intro H locs ls hH hS hl
  exact va_tlen hx hb hO.2.1 hS rfl hd (K H locs ls hH hS hl)
theorem a_ial2 (F : Fm X cc own rt fr lo nL) {i : Int32} (hd : decode cc pc = .ok (.iaload, 1)) (hin : vp_in i 7) (K : WA X ce sl (pc + 1) lv (.int (fs2 i.toNatClampNeg) :: st) μ Q) : WA X ce sl pc lv (.int i :: .ref (ga X.G 201) :: st) μ Q := by
  obtain ⟨p, l, e, R, s, m, args, below, meth, c, G, nn⟩ := X
  obtain ⟨hx, hb, hml, hown, hts, hK, hA, hO, hsz, hr, hlk, hfr, hlo, hn, hfl, hNW⟩ := F
  intro H locs ls hH hS hl
  exact va_ti hx hb hO.2.2.2 hS hin rfl hd (K H locs ls hH hS hl)
theorem a_mmin (F : Fm X cc own rt fr lo nL) {ix : Nat} {x y : Int32} (hd : decode cc pc = .ok (.invokestatic ix, 3)) (hw : Cond.methodLink own ix Lib.Math.min.name ∈ lw_all ∧ Cond.static Lib.Math.min.name ∈ lw_all ∧ Cond.initialized "java/lang/Math" ∈ lw_all ∧ Cond.code Lib.Math.min.name Lib.Math.min.code 2 (some .int) ∈ lw_all) (h1 : 1 ≤ fr) (h2 : (st.map fun v => v.category).sum + 13 ≤ lo) (h3 : ce = 0) (h4 : sl = 0) (K : WA X ce sl (pc + 3) lv (.int (if y < x then y else x) :: st) μ Q) : WA X ce sl pc lv (.int y :: .int x :: st) μ Q := by
  obtain ⟨p, l, e, R, s, m, args, below, meth, c, G, nn⟩ := X
  obtain ⟨hx, hb, hml, hown, hts, hK, hA, hO, hsz, hr, hlk, hfr, hlo, hn, hfl, hNW⟩ := F
  intro H locs ls hH hS hl
  subst h3; subst h4
  exact va_mmin hx hb (by rw [hml, hl.1, hn]) hown (hts _ hw.1) (hts _ hw.2.1) (hts _ hw.2.2.1) (hts _ hw.2.2.2) (by omega) (by omega) (Nat.zero_le _) (Nat.zero_le _) hd (K H locs ls hH hS hl)
theorem a_mmax (F : Fm X cc own rt fr lo nL) {ix : Nat} {x y : Int32} (hd : decode cc pc = .ok (.invokestatic ix, 3)) (hw : Cond.methodLink own ix Lib.Math.max.name ∈ lw_all ∧ Cond.static Lib.Math.max.name ∈ lw_all ∧ Cond.initialized "java/lang/Math" ∈ lw_all ∧ Cond.code Lib.Math.max.name Lib.Math.max.code 2 (some .int) ∈ lw_all) (h1 : 1 ≤ fr) (h2 : (st.map fun v => v.category).sum + 13 ≤ lo) (h3 : ce = 0) (h4 : sl = 0) (K : WA X ce sl (pc + 3) lv (.int (if x < y then y else x) :: st) μ Q) : WA X ce sl pc lv (.int y :: .int x :: st) μ Q := by
  obtain ⟨p, l, e, R, s, m, args, below, meth, c, G, nn⟩ := X
  obtain ⟨hx, hb, hml, hown, hts, hK, hA, hO, hsz, hr, hlk, hfr, hlo, hn, hfl, hNW⟩ := F
  intro H locs ls hH hS hl
  subst h3; subst h4
  exact va_mmax hx hb (by rw [hml, hl.1, hn]) hown (hts _ hw.1) (hts _ hw.2.1) (hts _ hw.2.2.1) (hts _ hw.2.2.2) (by omega) (by omega) (Nat.zero_le _) (Nat.zero_le _) hd (K H locs ls hH hS hl)
/-- System.arraycopy between two rows of ints of ours -/
theorem a_copy (F : Fm X cc own rt fr lo nL) {ix k0 k1 n0 n1 : Nat} {sp dp n : Int32} (hd : decode cc pc = .ok (.invokestatic ix, 3)) (hw : Cond.methodLink own ix arraycopyName ∈ lw_all ∧ Cond.native arraycopyName ∈ lw_all ∧ Cond.static arraycopyName ∈ lw_all ∧ Cond.initialized "java/lang/System" ∈ lw_all) (hk0 : k0 < NC) (hs0 : shp k0 = .inr (0, n0)) (hk1 : k1 < NC) (hs1 : shp k1 = .inr (0, n1)) (g1 : ¬ sp < 0) (g2 : ¬ dp < 0) (g3 : ¬ n < 0) (g4 : sp.toNatClampNeg + n.toNatClampNeg ≤ n0) (g5 : dp.toNatClampNeg + n.toNatClampNeg ≤ n1) (h1 : 1 ≤ fr) (h2 : (st.map fun v => v.category).sum + (nativeFrameWords "java/lang/System" "arraycopy" 5 + 11) ≤ lo)
    (K : WA X ce sl (pc + 3) lv st (sa μ k1 (va_cpy (μ.1 k0) (μ.1 k1) sp.toNatClampNeg dp.toNatClampNeg n.toNatClampNeg)) Q) : WA X ce sl pc lv (.int n :: .int dp :: .ref (ga X.G k1) :: .int sp :: .ref (ga X.G k0) :: st) μ Q := by
  obtain ⟨p, l, e, R, s, m, args, below, meth, c, G, nn⟩ := X
  obtain ⟨hx, hb, hml, hown, hts, hK, hA, hO, hsz, hr, hlk, hfr, hlo, hn, hfl, hNW⟩ := F
  intro H locs ls hH hS hl
  refine va_copyi hx hb (by rw [hml, hl.1, hn]) hown (hts _ hw.1) (hts _ hw.2.1) (hts _ hw.2.2.1) (hts _ hw.2.2.2) hK (wsl_P hH) (wsl_D hA) hS k0 k1 0 0 (wsl_i hk0 hs0) (wsl_i hk1 hs1) rfl rfl (ty := .int) rfl g1 g2 g3 g4 g5 (fun i hi => rfl) (by omega) (by omega) hd (fun H1 locs1 hP1 hD1 hS1 => ?_)
  have e := wsl_set (G := G) (μ := μ) (μ' := sa μ k1 (va_cpy (μ.1 k0) (μ.1 k1) sp.toNatClampNeg dp.toNatClampNeg n.toNatClampNeg)) (k := k1) (x := .inl ((gT G).1, n1, .inl (va_cpy (μ.1 k0) (μ.1 k1) sp.toNatClampNeg dp.toNatClampNeg n.toNatClampNeg))) (by rw [cel_i hs1]; simp [sa]) (fun a ha => by simp [sa, ha]) (fun a ha => rfl)
  rw [e] at hP1
  exact K H1 locs1 ls (P_wsl hP1) hS1 hl
theorem a_copyc (F : Fm X cc own rt fr lo nL) {ix k0 k1 n0 n1 z : Nat} {n : Int32} (hd : decode cc pc = .ok (.invokestatic ix, 3)) (hw : Cond.methodLink own ix arraycopyName ∈ lw_all ∧ Cond.native arraycopyName ∈ lw_all ∧ Cond.static arraycopyName ∈ lw_all ∧ Cond.initialized "java/lang/System" ∈ lw_all) (hk0 : k0 < NC) (hs0 : shp k0 = .inr (0, n0)) (hk1 : k1 < NC) (hs1 : shp k1 = .inr (0, n1)) (g3 : ¬ n < 0) (hz : n.toNatClampNeg = z) (g4 : z ≤ n0) (g5 : z ≤ n1) (h1 : 1 ≤ fr) (h2 : (st.map fun v => v.category).sum + (nativeFrameWords "java/lang/System" "arraycopy" 5 + 11) ≤ lo)
    (K : WA X ce sl (pc + 3) lv st (sa μ k1 (va_cpy (μ.1 k0) (μ.1 k1) 0 0 z)) Q) : WA X ce sl pc lv (.int n :: .int 0 :: .ref (ga X.G k1) :: .int 0 :: .ref (ga X.G k0) :: st) μ Q := by
  subst hz
  exact a_copy F hd hw hk0 hs0 hk1 hs1 (by decide) (by decide) g3 (by rw [show (0 : Int32).toNatClampNeg = 0 from rfl]; omega) (by rw [show (0 : Int32).toNatClampNeg = 0 from rfl]; omega) h1 h2 K
theorem a_nm {α : Sort _} {e : α} {P : α → Prop} (K : ∀ x, x = e → P x) : P e := K e rfl
/-- the ends of a method -/
theorem a_iret (F : Fm X cc own rt fr lo nL) {v : Int32} (hd : decode cc pc = .ok (.ireturn, 1)) (hrt : ∃ ty, rt = some ty ∧ narrow ty (.int v) = .int v) : WA X 0 0 pc lv [.int v] μ (EQ X (some (.int v)) μ) := by
  obtain ⟨p, l, e, R, s, m, args, below, meth, c, G, nn⟩ := X
  obtain ⟨hx, hb, hml, hown, hts, hK, hA, hO, hsz, hr, hlk, hfr, hlo, hn, hfl, hNW⟩ := F
  intro H locs ls hH hS hl
  obtain ⟨ty, e1, e2⟩ := hrt
  exact W.zret hx hb (hr.trans e1) e2 (fun t ht hW => ⟨rfl, by rw [ht]; exact hH, hS.F ht⟩) hS.2.2 hd hlk
theorem a_vret (F : Fm X cc own rt fr lo nL) (hd : decode cc pc = .ok (.return_, 1)) (hrt : rt = none) : WA X 0 0 pc lv [] μ (EQ X none μ) := by
  obtain ⟨p, l, e, R, s, m, args, below, meth, c, G, nn⟩ := X
  obtain ⟨hx, hb, hml, hown, hts, hK, hA, hO, hsz, hr, hlk, hfr, hlo, hn, hfl, hNW⟩ := F
  intro H locs ls hH hS hl
  exact W.vret hx hb (hr.trans hrt) (fun t ht hW => ⟨rfl, by rw [ht]; exact hH, hS.F ht⟩) hS.2.2 hd hlk
theorem a_ineg (F : Fm X cc own rt fr lo nL) {x : Int32} (hd : decode cc pc = .ok (.ineg, 1)) (K : WA X ce sl (pc + 1) lv (.int (-x) :: st) μ Q) : WA X ce sl pc lv (.int x :: st) μ Q := by
  obtain ⟨p, l, e, R, s, m, args, below, meth, c, G, nn⟩ := X
  obtain ⟨hx, hb, hml, hown, hts, hK, hA, hO, hsz, hr, hlk, hfr, hlo, hn, hfl, hNW⟩ := F
  intro H locs ls hH hS hl
  exact lv_ineg hx hb hd (K H locs ls hH hS hl)
theorem a_dup_x2 (F : Fm X cc own rt fr lo nL) {va vb vd : Value} (hd : decode cc pc = .ok (.dup_x2, 1)) (hva : va.category = 1) (hvb : vb.category = 1) (hvd : vd.category = 1) (K : WA X ce sl (pc + 1) lv (va :: vb :: vd :: va :: st) μ Q) : WA X ce sl pc lv (va :: vb :: vd :: st) μ Q := by
  obtain ⟨p, l, e, R, s, m, args, below, meth, c, G, nn⟩ := X
  obtain ⟨hx, hb, hml, hown, hts, hK, hA, hO, hsz, hr, hlk, hfr, hlo, hn, hfl, hNW⟩ := F
  intro H locs ls hH hS hl
  exact lv_dup_x2 hx hb hd hva hvb hvd (K H locs ls hH hS hl)
end ROWS
section CALLS
variable {X : Cx} {cc : ByteArray} {own : String} {rt : Option FieldType} {fr lo nL : Nat} {ce sl pc : Nat} {lv : List (Nat × Value)} {st : List Value} {μ : Mem} {Q : State → Prop}
theorem RU_at {G : GG} {μ : Mem} {s U : State} {H : Heap} {locs : List Loc} (hK : va_K (gD G) vwCl (tysT (gT G)) s) (hA : AD G) (hO : OF G s s.heap) (hsz : G.2.2.2 ≤ s.heap.size) (hNW : NWs s) (hH : HR G μ H) (hS : va_S (gA G) s.heap H locs) (hU : U.heap = H) (hW : s.WarmedH U.vm) : RU G μ U :=
  ⟨by rw [hU]; exact hH, va_K.moved hW.alike hK, hA, by rw [hU]; exact (hO.moved hW.alike).kept (fun a h1 h2 => hS.2.1 a h1 h2), by rw [hU]; exact Nat.le_trans hsz hS.1, NWs.warm hW hNW⟩
theorem RU_blind {vs : List Value} {G : GG} {μ : Mem} : FrameBlind (va_Pc vs (RU G μ)) := fun a U g mk h => ⟨h.1, h.2.1, va_K.moved (u := U) (U := U.calling g mk a) (Vm.Alike.refl U.vm) h.2.2.1, h.2.2.2.1, (OF.moved (u := U) (U := U.calling g mk a) (Vm.Alike.refl U.vm) h.2.2.2.2.1), h.2.2.2.2.2.1, NWs.same (u := U) (U := U.calling g mk a) rfl h.2.2.2.2.2.2⟩
theorem W_run {p : Program} {l : Launch} {e : Env} {R : Room} {s : State} {m : MethodId} {args : Array Value} {below : List Frame} {meth : Method} {c : Code} {H : Heap} {locs : List Loc} {cells slots : Nat} {Q : State → Prop} {pc : Nat} {ls : Array Slot} {rest st0 : List Value} {a : Array Value} {G : GG} {r : Option Value} {μ' : Mem}
    (hr : va_Run p l e R s m args below meth c H locs cells slots 0 0 (F0 m pc ls st0) rest (QR G r μ' a) (gA G)) (hS : va_S (gA G) s.heap H locs)
    (kk : ∀ (H1 : Heap) (locs1 : List Loc), HR G μ' H1 → va_S (gA G) s.heap H1 locs1 → W p l e R s m args below meth c H1 locs1 cells slots Q (F0 m (pc + 3) ls (r.toList ++ rest))) : W p l e R s m args below meth c H locs cells slots Q (F0 m pc ls st0) := by
  intro T hT X
  obtain ⟨v, st₀, t, T', L, h0, X', hL, e1, e2, ⟨hv, hH1, hz, hk⟩, st⟩ := hr T hT X
  cases hv
  rw [h0] at hz hk
  obtain ⟨t2, a1, b1⟩ := kk T'.heap (locs ++ L) (by rw [e1]; exact hH1)
    ⟨Nat.le_trans hS.1 (by rw [e1]; exact hz), fun q h1 h2 => by rw [e1, hk q (Nat.lt_of_lt_of_le h1 hS.1) h2]; exact hS.2.1 q h1 h2, fun q hq => by
      rcases List.mem_append.mp hq with h | h
      · exact hS.2.2 q h
      · exact hL q h⟩ T' rfl X'
  exact ⟨t2, st t2 a1, b1⟩
/-- a call by name of a method of the class C (its code in C itself) -/
def CV (own : String) (ix : Nat) (C : String) (y : MethodName) (cb : ByteArray) (mL : Nat) (ret : Option FieldType) (n : Nat) : Prop :=
  Cond.methodLink own ix y ∈ lw_all ∧ Cond.instanceMethod y ∈ lw_all ∧ Cond.selects C y y ∈ lw_all ∧ Cond.initialized C ∈ lw_all ∧ Cond.code y cb mL ret ∈ lw_all ∧ (y.cls = C ∧ y.cls ≠ "java/lang/invoke/MethodHandle" ∧ y.cls ≠ "java/lang/invoke/VarHandle" ∧ (parseMethodDescriptor y.desc).map (fun d => d.parameters.length) = some n)
theorem CV.good {own : String} {ix : Nat} {C : String} {y : MethodName} {cb : ByteArray} {mL : Nat} {ret : Option FieldType} {n : Nat} (h : CV own ix C y cb mL ret n) : GoodIn lw_all (wsV own ix C y (ws_ y cb mL ret)) := by
  intro w hw
  rcases List.mem_append.mp hw with q | q
  · simp only [List.mem_cons, List.not_mem_nil, or_false] at q
    rcases q with rfl | rfl | rfl | rfl
    · exact ⟨h.1, all_good h.1⟩
    · exact ⟨h.2.1, all_good h.2.1⟩
    · exact ⟨h.2.2.1, all_good h.2.2.1⟩
    · exact ⟨h.2.2.2.1, all_good h.2.2.2.1⟩
  · exact ws_in h.2.2.2.2.1 w q
theorem a_callV (F : Fm X cc own rt fr lo nL) {ix k ci : Nat} {C : String} {y : MethodName} {cb : ByteArray} {mL n : Nat} {ret : Option FieldType} {f2 l2 : Nat} {As : List Value} {vs : GG → List Value} {r : Option Value} {μ' : Mem} {ds : List Nat} (hd : decode cc pc = .ok (.invokevirtual ix, 3)) (hc : Con y cb mL ret f2 l2 vs μ r μ') (hw : CV own ix C y cb mL ret n) (hk : k < NC) (hs : shp k = .inl (ci, ds)) (hci : ∃ (T : u_T) (N : Nat), vwCl[ci]? = some (C, T, N)) (hvs : vs X.G = .ref (ga X.G k) :: As) {st0 : List Value} (hst : st0 = As.reverse ++ .ref (ga X.G k) :: st) (hn : As.length = n) (hrs : (st.map fun v => v.category).sum ≤ 8) (hR : f2 + 1 ≤ fr ∧ 8 + (mL + 11) + l2 ≤ lo)
    (K : WA X ce sl (pc + 3) lv (r.toList ++ st) μ' Q) : ce = 0 → sl = 0 → WA X ce sl pc lv st0 μ Q := by
  intro e1 e2
  subst e1; subst e2
  subst hst
  obtain ⟨p, l, e, R, s, m, args, below, meth, c, G, nn⟩ := X
  obtain ⟨hx, hb, hml, hown, hts, hKK, hA, hO, hsz, hr, hlk, hfr, hlo, hnn, hfl, hNW⟩ := F
  intro H locs ls hH hS hl
  obtain ⟨T, N, hci⟩ := hci
  have hM := hc l hfl G
  rw [show vs G = .ref (ga G k) :: As from hvs] at hM
  have hrv := va_recv (s := s) (H := H) hKK (wsl_P hH) hci (wsl_obj hk hs)
  exact W_run (va_runV (As := As) (rest := st) ⟨hx, hb, hml, hown, hts⟩ hM (cwV n hts hw.good rfl rfl rfl hw.2.2.2.2.2 ⟨Nat.le_trans hR.1 hfr, Nat.le_trans hR.2 hlo⟩) ⟨RU_blind, hrv, fun U hU hW => ⟨rfl, RU_at hKK hA hO hsz hNW hH hS hU hW⟩⟩ rfl hn (by rw [← hnn]; exact hl.1) rfl (lv_room hrs) hd ⟨Nat.zero_le _, Nat.zero_le _⟩) hS (fun H1 locs1 hH1 hS1 => K H1 locs1 ls hH1 hS1 hl)
def CS (own : String) (ix : Nat) (y : MethodName) (cb : ByteArray) (mL : Nat) (ret : Option FieldType) (n : Nat) : Prop :=
  Cond.methodLink own ix y ∈ lw_all ∧ Cond.static y ∈ lw_all ∧ Cond.initialized y.cls ∈ lw_all ∧ Cond.code y cb mL ret ∈ lw_all ∧ (y.cls ≠ "java/lang/invoke/MethodHandle" ∧ y.cls ≠ "java/lang/invoke/VarHandle" ∧ (parseMethodDescriptor y.desc).map (fun d => d.parameters.length) = some n)
theorem CS.good {own : String} {ix : Nat} {y : MethodName} {cb : ByteArray} {mL : Nat} {ret : Option FieldType} {n : Nat} (h : CS own ix y cb mL ret n) : GoodIn lw_all (va_wsS own ix y (ws_ y cb mL ret)) := by
  intro w hw
  rcases List.mem_append.mp hw with q | q
  · simp only [List.mem_cons, List.not_mem_nil, or_false] at q
    rcases q with rfl | rfl | rfl
    · exact ⟨h.1, all_good h.1⟩
    · exact ⟨h.2.1, all_good h.2.1⟩
    · exact ⟨h.2.2.1, all_good h.2.2.1⟩
  · exact ws_in h.2.2.2.1 w q
theorem a_callS (F : Fm X cc own rt fr lo nL) {ix : Nat} {y : MethodName} {cb : ByteArray} {mL n : Nat} {ret : Option FieldType} {f2 l2 : Nat} {As : List Value} {vs : GG → List Value} {r : Option Value} {μ' : Mem} (hd : decode cc pc = .ok (.invokestatic ix, 3)) (hc : Con y cb mL ret f2 l2 vs μ r μ') (hw : CS own ix y cb mL ret n) (hvs : vs X.G = As) {st0 : List Value} (hst : st0 = As.reverse ++ st) (hn : As.length = n) (hrs : (st.map fun v => v.category).sum ≤ 8) (hR : f2 + 1 ≤ fr ∧ 8 + (mL + 11) + l2 ≤ lo)
    (K : WA X ce sl (pc + 3) lv (r.toList ++ st) μ' Q) : ce = 0 → sl = 0 → WA X ce sl pc lv st0 μ Q := by
  intro e1 e2
  subst e1; subst e2
  subst hst
  obtain ⟨p, l, e, R, s, m, args, below, meth, c, G, nn⟩ := X
  obtain ⟨hx, hb, hml, hown, hts, hKK, hA, hO, hsz, hr, hlk, hfr, hlo, hnn, hfl, hNW⟩ := F
  intro H locs ls hH hS hl
  have hM := hc l hfl G
  rw [show vs G = As from hvs] at hM
  exact W_run (va_runS (As := As) (rest := st) ⟨hx, hb, hml, hown, hts⟩ hM (va_cwS n hts hw.good rfl rfl rfl hw.2.2.2.2 ⟨Nat.le_trans hR.1 hfr, Nat.le_trans hR.2 hlo⟩) ⟨RU_blind, fun U hU hW => ⟨rfl, RU_at hKK hA hO hsz hNW hH hS hU hW⟩⟩ rfl hn (by rw [← hnn]; exact hl.1) rfl (lv_room hrs) hd ⟨Nat.zero_le _, Nat.zero_le _⟩) hS (fun H1 locs1 hH1 hS1 => K H1 locs1 ls hH1 hS1 hl)
/-- a private static of a nest mate -/
def CN (own : String) (ix : Nat) (y : MethodName) (host : String) (cb : ByteArray) (mL : Nat) (ret : Option FieldType) (n : Nat) : Prop :=
  Cond.methodLinkNest own ix y host ∈ nwL ∧ Cond.static y ∈ lw_all ∧ Cond.initialized y.cls ∈ lw_all ∧ Cond.code y cb mL ret ∈ lw_all ∧ (y.cls ≠ "java/lang/invoke/MethodHandle" ∧ y.cls ≠ "java/lang/invoke/VarHandle" ∧ (parseMethodDescriptor y.desc).map (fun d => d.parameters.length) = some n)
theorem a_callSN (F : Fm X cc own rt fr lo nL) {ix : Nat} {y : MethodName} {host : String} {cb : ByteArray} {mL n : Nat} {ret : Option FieldType} {f2 l2 : Nat} {As : List Value} {vs : GG → List Value} {r : Option Value} {μ' : Mem} (hd : decode cc pc = .ok (.invokestatic ix, 3)) (hc : Con y cb mL ret f2 l2 vs μ r μ') (hw : CN own ix y host cb mL ret n) (hvs : vs X.G = As) {st0 : List Value} (hst : st0 = As.reverse ++ st) (hn : As.length = n) (hrs : (st.map fun v => v.category).sum ≤ 8) (hR : f2 + 1 ≤ fr ∧ 8 + (mL + 11) + l2 ≤ lo)
    (K : WA X ce sl (pc + 3) lv (r.toList ++ st) μ' Q) : ce = 0 → sl = 0 → WA X ce sl pc lv st0 μ Q := by
  intro e1 e2
  subst e1; subst e2
  subst hst
  obtain ⟨p, l, e, R, s, m, args, below, meth, c, G, nn⟩ := X
  obtain ⟨hx, hb, hml, hown, hts, hKK, hA, hO, hsz, hr, hlk, hfr, hlo, hnn, hfl, hNW⟩ := F
  intro H locs ls hH hS hl
  have hM := hc l hfl G
  rw [show vs G = As from hvs] at hM
  exact W_run (va_runSN (As := As) (rest := st) ⟨hx, hb, hml, hown, hts⟩ hM ⟨va_cnB n hts (ws_in hw.2.2.2.1) rfl rfl rfl (hNW.1 _ hw.1) (hts _ hw.2.2.1) hw.2.2.2.2 ⟨Nat.le_trans hR.1 hfr, Nat.le_trans hR.2 hlo⟩, hts _ hw.2.1, trivial⟩ ⟨RU_blind, fun U hU hW => ⟨rfl, RU_at hKK hA hO hsz hNW hH hS hU hW⟩⟩ rfl hn (by rw [← hnn]; exact hl.1) rfl (lv_room hrs) hd ⟨Nat.zero_le _, Nat.zero_le _⟩) hS (fun H1 locs1 hH1 hS1 => K H1 locs1 ls hH1 hS1 hl)
end CALLS
