/-! objects as they are made: rows that change the heap -/
section NROWS2
variable {X : Cx} {cc : ByteArray} {own : String} {rt : Option FieldType} {fr lo nL : Nat} {c n ce sl pc : Nat} {ov : Nat → va_E} {lv : List (Nat × Value)} {st : List Value} {Q : State → Prop}
theorem pushS {A : Nat → Prop} {H0 H H1 : Heap} {locs : List Loc} (hS : va_S A H0 H locs) (z : H1.size = H.size + 1) (o : ∀ q, q < H.size → H1[q]? = H[q]?) : va_S A H0 H1 locs := ⟨Nat.le_trans hS.1 (by omega), fun x h1 h2 => (o x (Nat.lt_of_lt_of_le h1 hS.1)).trans (hS.2.1 x h1 h2), hS.2.2⟩
theorem n_newa (F : Fm X cc own rt fr lo nL) (N0 : FN0 X) {N : Nat} (hro : RO X (ce + 1) (sl + N)) {v : Int32} (hd : decode cc pc = .ok (.newarray .int, 2)) (hw : Cond.arrayClass .int ∈ lw_all) (hv : ¬ v < 0) (hN : v.toNatClampNeg = N) (h4 : N * 4 ≤ 536870912) (hn : n < NC) (K : WN X c (n + 1) (upE ov n (.inl ((gT X.G).1, N, .inl (fun _ => 0)))) (ce + 1) (sl + N) (pc + 2) lv (.ref (ga X.G n) :: st) Q) : WN X c n ov ce sl pc lv (.int v :: st) Q := by
  obtain ⟨p, l, e, R, s, m, args, below, meth, cd, G, nn⟩ := X
  obtain ⟨hx, hb, hml, hown, hts, hK, hA, hO, hsz, hr, hlk, hfr, hlo, hnn, hfl, hNW⟩ := F
  obtain ⟨hG, hFS, hAO⟩ := N0
  intro H locs ls hH hS hl
  have an : ga G n = H.size := by rw [hG n hn, hH.1]
  refine va_newaK hx hb (atype := .int) (hts _ hw) (g := F0 m pc ls (.int v :: st)) rfl hd rfl hv hN h4 hro.1 hro.2 rfl fun H1 cA e1 z1 o1 hAr hNm => ?_
  have r1 : s.vm.findClass ("[" ++ FieldType.int.toString) = some (gT G).1 := (hK.2 0 ((gT G).1, .int) rfl).2
  have hcA : cA = (gT G).1 := Option.some.inj (hNm.symm.trans r1)
  subst hcA
  have k1 := K H1 locs ls (hH.push hG hn z1 o1 (by
    show H1[ga G n]? = some (vp_cell _ _)
    rw [an, vp_cell_i]
    exact e1)) (pushS hS z1 o1) hl
  rw [an] at k1
  exact k1
/-- a class whose objects are made: its fields by default -/
def NWc (own : String) (ix ci N : Nat) (fs : List Value) : Prop := ∃ (C : String) (T : u_T) (t0 : Nat → FieldType), vwCl[ci]? = some (C, T, N) ∧ (∀ w ∈ u_ws C T N, w ∈ lw_all) ∧ (∀ k, k < N → parseFieldDescriptor (T k).2.2.1 = some (t0 k)) ∧ Cond.classLink own ix C ∈ lw_all ∧ Cond.instantiable C N ∈ lw_all ∧ Cond.initialized C ∈ lw_all ∧ ∀ j, j < N → defaultValue (t0 j) = vp_V fs j
theorem n_new (F : Fm X cc own rt fr lo nL) (N0 : FN0 X) {ix ci N : Nat} {fs : List Value} (hro : RO X (ce + 1) (sl + N)) (hd : decode cc pc = .ok (.new ix, 3)) (hw : NWc own ix ci N fs) (hn : n < NC) (K : WN X c (n + 1) (upE ov n (.inr (ci, fs))) (ce + 1) (sl + N) (pc + 3) lv (.ref (ga X.G n) :: st) Q) : WN X c n ov ce sl pc lv st Q := by
  obtain ⟨p, l, e, R, s, m, args, below, meth, cd, G, nn⟩ := X
  obtain ⟨hx, hb, hml, hown, hts, hK, hA, hO, hsz, hr, hlk, hfr, hlo, hnn, hfl, hNW⟩ := F
  obtain ⟨hG, hFS, hAO⟩ := N0
  intro H locs ls hH hS hl
  have an : ga G n = H.size := by rw [hG n hn, hH.1]
  obtain ⟨C, T, t0, w1, w2, w3, w4, w5, w6, w7⟩ := hw
  have hKn := hK.1 ci _ w1
  refine W.newcK hx hb hown (hts _ w4) (hts _ w5) (hts _ w6) (g := F0 m pc ls st) rfl hd hro.1 hro.2 hKn.2.1 rfl fun H1 kC hkC e1 z1 o1 => ?_
  have k1 := K H1 locs ls (hH.push hG hn z1 o1 (by
    rw [an]
    exact ⟨_, w1, (u_born t0 hts w2 hKn hkC e1 w3).to w7⟩)) (pushS hS z1 o1) hl
  rw [an] at k1
  exact k1
/-- a final field of the object that a constructor makes -/
def PFc (own : String) (ix ci j : Nat) (ty : FieldType) : Prop := ∃ (C : String) (T : u_T) (N : Nat) (t0 : Nat → FieldType), vwCl[ci]? = some (C, T, N) ∧ (∀ w ∈ u_ws C T N, w ∈ lw_all) ∧ j < N ∧ Cond.fieldLink own ix (T j).1 (T j).2.1 (T j).2.2.1 ∈ lw_all ∧ (∀ k, k < N → parseFieldDescriptor (T k).2.2.1 = some (t0 k)) ∧ (∀ a, a < N → ∀ b, b < N → a ≠ b → (T a).2.1 ≠ (T b).2.1) ∧ (T j).2.2.2 = true ∧ (T j).1 = own ∧ parseFieldDescriptor (T j).2.2.1 = some ty
theorem n_putF (F : Fm X cc own rt fr lo nL) (N0 : FN X) {ix ci j : Nat} {fs : List Value} {v : Value} {ty : FieldType} (hd : decode cc pc = .ok (.putfield ix, 3)) (hw : PFc own ix ci j ty) (he : ov c = .inr (ci, fs)) (hcn : c < n) (hn : n ≤ NC) (hv : narrow ty v = v) (hf : fits ty v = true) (hj : j < fs.length) (K : WN X c n (upE ov c (.inr (ci, fs.set j v))) ce sl (pc + 3) lv st Q) : WN X c n ov ce sl pc lv (v :: .ref (ga X.G c) :: st) Q := by
  obtain ⟨p, l, e, R, s, m, args, below, meth, cd, G, nn⟩ := X
  obtain ⟨hx, hb, hml, hown, hts, hK, hA, hO, hsz, hr, hlk, hfr, hlo, hnn, hfl, hNW⟩ := F
  obtain ⟨hG, hFS, hAO, hin2⟩ := N0
  intro H locs ls hH hS hl
  obtain ⟨C, T, N, t0, w1, w2, w3, w4, w5, w6, hfin, hdecl, w9⟩ := hw
  have hap := va_apart (own := own) hts w2 t0 w5 w6 hK w1
  have hP := hH.2 c (Nat.le_refl c) hcn
  rw [he] at hP
  obtain ⟨r, h1, cell, q1, q2, q3, q4⟩ := hP
  have hrr : r = (C, T, N) := Option.some.inj (h1.symm.trans w1)
  subst hrr
  obtain ⟨hSl, hfc, kC, hkC, hkind⟩ := hK.1 ci _ w1
  obtain ⟨cf, kf, fi, f, hi, hsl⟩ := hSl j w3
  have hlay := hts _ (w2 _ (u_in_lay w3))
  unfold u_lay at hlay
  rw [if_pos hfin] at hlay
  have hst := (u_facts hfc hkC (u_lays hts w2 w3) hi).1
  have hcf : m.cls = cf := by
    obtain ⟨_, _, c', _, _, _, -, -, hf', -, -, -, hown2, -⟩ := Cond.laysFinal_spec hlay
    have e1 : c' = cf := by have := hi.symm.trans hf'; simp at this; exact this.1.symm
    rw [hdecl] at hown2
    rw [← e1]; exact Option.some.inj (hown.symm.trans hown2)
  have h6 := u_fits hfc hkC hkind (Or.inr hlay) hi w9 hv hf
  refine W.putFinK hx hb hown (hts _ w4) hi hst hcf hin2 (by rw [q2]; exact h6) q1 q3 (by rw [hsl]; exact k2_hasslot (q4 j w3)) (g := F0 m pc ls (v :: .ref (ga G c) :: st)) rfl rfl hd fun H' e1 e2 e3 => ?_
  rw [hsl] at e1 ⊢
  exact K H' _ ls (hH.set hG hn hcn e2 e3 ⟨_, w1, t_OB.to (V := updV (vp_V fs) j v) ⟨_, e1, q2, q3, t_set q4 hap w3 v⟩ (fun i _ => vp_updV_set hj v i)⟩) (hS.put e2 e3 (by
    show G.2.2.2 + c ≤ ga G c
    rw [hG c (by omega)]
    omega)) hl
theorem n_get (F : Fm X cc own rt fr lo nL) {ix ci j k : Nat} {fs : List Value} {v : Value} (hd : decode cc pc = .ok (.getfield ix, 3)) (hf : FL own ix ci j) (hck : c ≤ k) (hkn : k < n) (he : ov k = .inr (ci, fs)) (hv : fs[j]? = some v) (K : WN X c n ov ce sl (pc + 3) lv (v :: st) Q) : WN X c n ov ce sl pc lv (.ref (ga X.G k) :: st) Q := by
  obtain ⟨p, l, e, R, s, m, args, below, meth, cd, G, nn⟩ := X
  obtain ⟨hx, hb, hml, hown, hts, hK, hA, hO, hsz, hr, hlk, hfr, hlo, hnn, hfl, hNW⟩ := F
  intro H locs ls hH hS hl
  obtain ⟨C, T, N, h1, h2, h3, h4⟩ := hf
  have hP := hH.2 k hck hkn
  rw [he] at hP
  have hP1 : va_P (gD G) vwCl [(ga G k, .inr (ci, fs))] H := fun i q hq => by
    have hz : i < 1 := (List.getElem?_eq_some_iff.mp hq).1
    rw [show i = 0 by omega] at hq
    cases hq
    exact hP
  exact va_get hx hb hts h2 hown hK hP1 0 rfl h1 j h3 (hts _ h4) (fun _ h => h) hv hd (K H locs ls hH hS hl)
theorem n_iast (F : Fm X cc own rt fr lo nL) (N0 : FN0 X) {k N : Nat} {f : Nat → Int32} {i x : Int32} (hd : decode cc pc = .ok (.iastore, 1)) (hck : c ≤ k) (hkn : k < n) (hn : n ≤ NC) (he : ov k = .inl ((gT X.G).1, N, .inl f)) (hin : vp_in i N) (K : WN X c n (upE ov k (.inl ((gT X.G).1, N, .inl (fun j => if j = i.toNatClampNeg then x else f j)))) ce sl (pc + 1) lv st Q) : WN X c n ov ce sl pc lv (.int x :: .int i :: .ref (ga X.G k) :: st) Q := by
  obtain ⟨p, l, e, R, s, m, args, below, meth, cd, G, nn⟩ := X
  obtain ⟨hx, hb, hml, hown, hts, hK, hA, hO, hsz, hr, hlk, hfr, hlo, hnn, hfl, hNW⟩ := F
  obtain ⟨hG, hFS, hAO⟩ := N0
  intro H locs ls hH hS hl
  have hP := hH.2 k hck hkn
  rw [he] at hP
  have hP : H[ga G k]? = some (arrV (gT G).1 N (fun j => .int (f j))) := hP
  refine W.iast hx hb hP ((hK.2 0 ((gT G).1, .int) rfl).1 N (fun j => .int (f j))) (fun h => by cases h) (by rw [arrV_size]; exact hin) (g := F0 m pc ls (.int x :: .int i :: .ref (ga G k) :: st)) rfl rfl hd fun H' e1 e2 e3 => ?_
  refine K H' _ ls (hH.set hG hn hkn e2 e3 ?_) (hS.put e2 e3 (by
    show G.2.2.2 + c ≤ ga G k
    rw [hG k (by omega)]
    omega)) hl
  show H'[ga G k]? = some (vp_cell _ _)
  rw [e1, vp_cell_i, arrV_store]
  congr 2
  funext q
  by_cases hq : q = i.toNatClampNeg
  · simp [updV, hq]
  · simp [updV, hq]
theorem n_anew (F : Fm X cc own rt fr lo nL) (N0 : FN0 X) {ix N : Nat} (hro : RO X (ce + 1) (sl + N)) {v : Int32} (hd : decode cc pc = .ok (.anewarray ix, 3)) (hw : Cond.classLink own ix RX2 ∈ lw_all) (hv : ¬ v < 0) (hN : v.toNatClampNeg = N) (h4 : N * 4 ≤ 536870912) (hn : n < NC) (K : WN X c (n + 1) (upE ov n (.inl ((gT X.G).2.1, N, .inr (.inr (.inr (.inr (fun _ => none))))))) (ce + 1) (sl + N) (pc + 3) lv (.ref (ga X.G n) :: st) Q) : WN X c n ov ce sl pc lv (.int v :: st) Q := by
  obtain ⟨p, l, e, R, s, m, args, below, meth, cd, G, nn⟩ := X
  obtain ⟨hx, hb, hml, hown, hts, hK, hA, hO, hsz, hr, hlk, hfr, hlo, hnn, hfl, hNW⟩ := F
  obtain ⟨hG, hFS, hAO⟩ := N0
  intro H locs ls hH hS hl
  subst hN
  have an : ga G n = H.size := by rw [hG n hn, hH.1]
  refine W.anew hx hb hown (hts _ hw) (va_AO.use hAO) (g := F0 m pc ls (.int v :: st)) rfl hd rfl hv h4 hro.1 hro.2 fun cA kA comp f1 f2 f3 f4 => ?_
  obtain ⟨kA', comp', g1, g2, g3, g4⟩ : va_RA s (gT G).2.1 (.object RX2) := (hK.2 1 ((gT G).2.1, .object "CourtRelays$Court") rfl).2
  have hcA : cA = (gT G).2.1 := Option.some.inj (f1.symm.trans g4)
  subst hcA
  generalize hH1 : H.push ({ cls := (gT G).2.1, slots := Array.replicate v.toNatClampNeg .null, vm := .none } : Cell) = H1
  have z1 : H1.size = H.size + 1 := by rw [← hH1, Array.size_push]
  have e1 : H1[H.size]? = some (arrV (gT G).2.1 v.toNatClampNeg (fun _ => .null)) := by rw [← hH1, Array.getElem?_push_size, ← arrV_new]
  have o1 : ∀ q : Nat, q < H.size → H1[q]? = H[q]? := fun q hq => by rw [← hH1, Array.getElem?_push, if_neg (Nat.ne_of_lt hq)]
  have k1 := K H1 locs ls (hH.push hG hn z1 o1 (by
    show H1[ga G n]? = some (vp_cell _ _)
    rw [an, vp_cell_q]
    exact e1)) (pushS hS z1 o1) hl
  rw [an] at k1
  exact k1
theorem n_aast (F : Fm X cc own rt fr lo nL) (N0 : FN0 X) {k N vk : Nat} {f : Nat → Option Nat} {vs : List Value} {i : Int32} (hd : decode cc pc = .ok (.aastore, 1)) (hck : c ≤ k) (hkn : k < n) (hcv : c ≤ vk) (hvn : vk < n) (hn : n ≤ NC) (he : ov k = .inl ((gT X.G).2.1, N, .inr (.inr (.inr (.inr f))))) (hev : ov vk = .inr (2, vs)) (hin : vp_in i N) (K : WN X c n (upE ov k (.inl ((gT X.G).2.1, N, .inr (.inr (.inr (.inr (fun j => if j = i.toNatClampNeg then some (ga X.G vk) else f j))))))) ce sl (pc + 1) lv st Q) : WN X c n ov ce sl pc lv (.ref (ga X.G vk) :: .int i :: .ref (ga X.G k) :: st) Q := by
  obtain ⟨p, l, e, R, s, m, args, below, meth, cd, G, nn⟩ := X
  obtain ⟨hx, hb, hml, hown, hts, hK, hA, hO, hsz, hr, hlk, hfr, hlo, hnn, hfl, hNW⟩ := F
  obtain ⟨hG, hFS, hAO⟩ := N0
  intro H locs ls hH hS hl
  have hP := hH.2 k hck hkn
  rw [he] at hP
  have hP : H[ga G k]? = some (arrV (gT G).2.1 N (fun j => va_rf (f j))) := hP
  have hV := hH.2 vk hcv hvn
  rw [hev] at hV
  have hlt : i.toNatClampNeg < N := Nat.not_le.mp fun q => hin (Or.inr q)
  have h0 : ¬ i < 0 := fun q => hin (Or.inl q)
  obtain ⟨r', hr', cellV, g1, g2, g3, -⟩ := hV
  have hcls := (hK.1 2 (RX2, TX2, 7) rfl).2
  obtain ⟨kA, comp, k1, k2, k3, -⟩ : va_RA s (gT G).2.1 (.object RX2) := (hK.2 1 ((gT G).2.1, .object "CourtRelays$Court") rfl).2
  have hcomp : comp = (gD G).1 2 := Option.some.inj (k3.symm.trans hcls.1)
  subst hcomp
  obtain ⟨kC, hkC, -⟩ := hcls.2
  refine W.aast hx hb hP (fun q h => by cases h) (fun h => by cases h) k1 k2 rfl hkC ⟨h0, by rw [arrV_size]; exact hlt⟩ g1 (fun q h => by rw [g3] at h; cases h) (by rw [g2]; exact hkC) (by rw [g2]; exact va_assign hcls) (g := F0 m pc ls (.ref (ga G vk) :: .int i :: .ref (ga G k) :: st)) rfl rfl hd fun H' e1 e2 e3 => ?_
  refine K H' _ ls (hH.set hG hn hkn e2 e3 ?_) (hS.put e2 e3 (by
    show G.2.2.2 + c ≤ ga G k
    rw [hG k (by omega)]
    omega)) hl
  show H'[ga G k]? = some (vp_cell _ _)
  rw [e1, vp_cell_q, arrV_store]
  congr 2
  funext q
  by_cases hq : q = i.toNatClampNeg
  · simp [updV, hq, va_rf]
  · simp [updV, hq]
theorem n_vret (F : Fm X cc own none fr lo nL) {ov' : Nat → va_E} (hd : decode cc pc = .ok (.return_, 1)) (he : ∀ k, c ≤ k → k < n → ov k = ov' k) : WN X c n ov ce sl pc lv [] (NQ X c n ov' ce sl) := by
  obtain ⟨p, l, e, R, s, m, args, below, meth, cd, G, nn⟩ := X
  obtain ⟨hx, hb, hml, hown, hts, hK, hA, hO, hsz, hr, hlk, hfr, hlo, hnn, hfl, hNW⟩ := F
  intro H locs ls hH hS hl
  show W p l e R s m args below meth cd H locs ce sl (MQ below (fun _ st o t => o = .returned none ∧ HN G c n ov' t.heap ∧ va_F (gC G c) st t) args s ce sl (gC G c)) (F0 m pc ls [])
  exact W.vret hx hb hr (fun t ht hW => ⟨rfl, by rw [ht]; exact hH.cong he, hS.F ht⟩) hS.2.2 hd hlk
end NROWS2
