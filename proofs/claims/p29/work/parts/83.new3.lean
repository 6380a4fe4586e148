/-! objects as they are made: a constructor called, the settings cloned -/
theorem NU_blind {vs : List Value} {G : GG} {c : Nat} {e0 : va_E} : FrameBlind (va_Pc vs (fun U => HN G c (c + 1) (fun _ => e0) U.heap ∧ NU G U)) := fun a U g mk h => ⟨h.1, h.2.1, va_K.moved (u := U) (U := U.calling g mk a) (Vm.Alike.refl U.vm) h.2.2.1, OF.moved (u := U) (U := U.calling g mk a) (Vm.Alike.refl U.vm) h.2.2.2.1, NWs.same (u := U) (U := U.calling g mk a) rfl h.2.2.2.2.1, h.2.2.2.2.2.1, va_AO.moved (u := U) (U := U.calling g mk a) (Vm.Alike.refl U.vm) h.2.2.2.2.2.2⟩
theorem NU_at {G : GG} {c : Nat} {s U : State} {H : Heap} {locs : List Loc} (hK : va_K (gD G) vwCl (tysT (gT G)) s) (hO : OF G s s.heap) (hNW : NWs s) (hF : FS G s.heap) (hAO : va_AO RX2 s) (hS : va_S (gC G c) s.heap H locs) (hU : U.heap = H) (hW : s.WarmedH U.vm) : NU G U := by
  have k : ∀ a : Nat, a < s.heap.size → ¬ gA G a → H[a]? = s.heap[a]? := fun a h1 h2 => hS.2.1 a h1 (fun h => h2 (gC_A h))
  exact ⟨va_K.moved hW.alike hK, by rw [hU]; exact (hO.moved hW.alike).kept k, NWs.warm hW hNW, by rw [hU]; exact hF.kept k, va_AO.moved hW.alike hAO⟩
theorem W_runN {p : Program} {l : Launch} {e : Env} {R : Room} {s : State} {m : MethodId} {args : Array Value} {below : List Frame} {meth : Method} {c : Code} {H : Heap} {locs : List Loc} {cells slots mc ms : Nat} {Q : State → Prop} {pc : Nat} {ls : Array Slot} {rest st0 : List Value} {P : Heap → Prop} {A0 A1 : Nat → Prop}
    (hr : va_Run p l e R s m args below meth c H locs cells slots mc ms (F0 m pc ls st0) rest (fun st o t => o = .returned none ∧ P t.heap ∧ va_F A1 st t) A1) (hS : va_S A0 s.heap H locs) (hA : ∀ q, A1 q → A0 q)
    (kk : ∀ (H1 : Heap) (locs1 : List Loc), P H1 → (∀ q : Nat, q < H.size → ¬ A1 q → H1[q]? = H[q]?) → va_S A0 s.heap H1 locs1 → W p l e R s m args below meth c H1 locs1 (cells + mc) (slots + ms) Q (F0 m (pc + 3) ls rest)) : W p l e R s m args below meth c H locs cells slots Q (F0 m pc ls st0) := by
  intro T hT X
  obtain ⟨v, st₀, t, T', L, h0, X', hL, e1, e2, ⟨hv, hP, hz, hk⟩, st⟩ := hr T hT X
  cases hv
  rw [h0] at hz hk
  obtain ⟨t2, a1, b1⟩ := kk T'.heap (locs ++ L) (by rw [e1]; exact hP) (fun q h1 h2 => by rw [e1]; exact hk q h1 h2)
    ⟨Nat.le_trans hS.1 (by rw [e1]; exact hz), fun q h1 h2 => by rw [e1, hk q (Nat.lt_of_lt_of_le h1 hS.1) (fun h => h2 (hA q h))]; exact hS.2.1 q h1 h2, fun q hq => by
      rcases List.mem_append.mp hq with h | h
      · exact hS.2.2 q h
      · exact hA _ (hL q h)⟩ T' rfl X'
  exact ⟨t2, st t2 a1, b1⟩
section NROWS3
variable {X : Cx} {cc : ByteArray} {own : String} {rt : Option FieldType} {fr lo nL : Nat} {c n ce sl pc : Nat} {ov : Nat → va_E} {lv : List (Nat × Value)} {st : List Value} {Q : State → Prop}
theorem HN_after {G : GG} {c a n : Nat} {ov ov' : Nat → va_E} {H H1 : Heap} (hG : GB G) (hn : a < NC) (h : HN G c (a + 1) ov H) (h1 : HN G a n ov' H1) (o : ∀ q : Nat, q < H.size → ¬ gC G a q → H1[q]? = H[q]?) : HN G c n (fun k => if k < a then ov k else ov' k) H1 := by
  refine ⟨h1.1, fun k k1 k2 => ?_⟩
  show va_at (gD G) vwCl (ga G k, if k < a then ov k else ov' k) H1
  by_cases q : k < a
  · rw [if_pos q]
    exact (h.2 k k1 (by omega)).kept (o _ (by show ga G k < _; rw [hG k (by omega), h.1]; omega) (by
      show ¬ (G.2.2.2 + a ≤ ga G k)
      rw [hG k (by omega)]
      omega))
  · rw [if_neg q]
    exact h1.2 k (by omega) k2
def CIc (y : MethodName) (cb : ByteArray) (mL : Nat) : Prop := Cond.instanceMethod y ∈ lw_all ∧ Cond.initialized y.cls ∈ lw_all ∧ Cond.code y cb mL none ∈ lw_all ∧ y.name = "<init>" ∧ (y.cls ≠ "java/lang/invoke/MethodHandle" ∧ y.cls ≠ "java/lang/invoke/VarHandle" ∧ (parseMethodDescriptor y.desc).map (fun d => d.parameters.length) = some 0)
/-- a constructor, private or not, that its nest mate calls -/
theorem n_callIN (F : Fm X cc own rt fr lo nL) (N0 : FN0 X) {mc ms : Nat} (hro : RO X (ce + mc) (sl + ms)) {ix a n' mL f2 l2 : Nat} {y : MethodName} {host : String} {cb : ByteArray} {e0 : va_E} {ov' : GG → Nat → va_E} (hd : decode cc pc = .ok (.invokespecial ix, 3)) (hc : ConN y cb mL f2 l2 mc ms a n' e0 ov') (hl0 : Cond.methodLinkNest own ix y host ∈ nwL) (hw : CIc y cb mL) (hca : c ≤ a) (ha : a < NC) (he : ov a = e0) (hrs : (st.map fun v => v.category).sum ≤ 8) (hR : f2 + 1 ≤ fr ∧ 8 + (mL + 11) + l2 ≤ lo)
    (K : WN X c n' (fun k => if k < a then ov k else ov' X.G k) (ce + mc) (sl + ms) (pc + 3) lv st Q) : WN X c (a + 1) ov ce sl pc lv (.ref (ga X.G a) :: st) Q := by
  obtain ⟨p, l, e, R, s, m, args, below, meth, cd, G, nn⟩ := X
  obtain ⟨hx, hb, hml, hown, hts, hKK, hA, hO, hsz, hr, hlk, hfr, hlo, hnn, hfl, hNW⟩ := F
  obtain ⟨hG, hFS, hAO⟩ := N0
  intro H locs ls hH hS hl
  have hM := hc l hfl G hG
  have hca' : ∀ q, gC G a q → gC G c q := fun q h => by
    have : G.2.2.2 + a ≤ q := h
    show G.2.2.2 + c ≤ q
    omega
  refine W_runN (P := HN G a n' (ov' G)) (A1 := gC G a) (va_runIN (As := []) (rest := st) ⟨hx, hb, hml, hown, hts⟩ hM ⟨va_cnB 0 hts (ws_in hw.2.2.1) rfl rfl rfl (hNW.1 _ hl0) (hts _ hw.2.1) hw.2.2.2.2 ⟨Nat.le_trans hR.1 hfr, Nat.le_trans hR.2 hlo⟩, hw.2.2.2.1, hts _ hw.1⟩ ⟨NU_blind, fun U hU hW => ⟨rfl, by rw [hU]; exact ⟨hH.1, fun k k1 k2 => by rw [show k = a by omega, ← he]; exact hH.2 a hca (by omega)⟩, NU_at hKK hO hNW hFS hAO hS hU hW⟩⟩ rfl rfl (by rw [← hnn]; exact hl.1) rfl (lv_room hrs) hd ⟨hro.1, hro.2⟩) hS hca' (fun H1 locs1 h1 o1 hS1 => K H1 locs1 ls (HN_after hG ha hH h1 o1) hS1 hl)
theorem n_callI (F : Fm X cc own rt fr lo nL) (N0 : FN0 X) {mc ms : Nat} (hro : RO X (ce + mc) (sl + ms)) {ix a n' mL f2 l2 : Nat} {y : MethodName} {cb : ByteArray} {e0 : va_E} {ov' : GG → Nat → va_E} (hd : decode cc pc = .ok (.invokespecial ix, 3)) (hc : ConN y cb mL f2 l2 mc ms a n' e0 ov') (hl0 : Cond.methodLink own ix y ∈ lw_all) (hw : CIc y cb mL) (hca : c ≤ a) (ha : a < NC) (he : ov a = e0) (hrs : (st.map fun v => v.category).sum ≤ 8) (hR : f2 + 1 ≤ fr ∧ 8 + (mL + 11) + l2 ≤ lo)
    (K : WN X c n' (fun k => if k < a then ov k else ov' X.G k) (ce + mc) (sl + ms) (pc + 3) lv st Q) : WN X c (a + 1) ov ce sl pc lv (.ref (ga X.G a) :: st) Q := by
  obtain ⟨p, l, e, R, s, m, args, below, meth, cd, G, nn⟩ := X
  obtain ⟨hx, hb, hml, hown, hts, hKK, hA, hO, hsz, hr, hlk, hfr, hlo, hnn, hfl, hNW⟩ := F
  obtain ⟨hG, hFS, hAO⟩ := N0
  intro H locs ls hH hS hl
  have hM := hc l hfl G hG
  have hca' : ∀ q, gC G a q → gC G c q := fun q h => by
    have : G.2.2.2 + a ≤ q := h
    show G.2.2.2 + c ≤ q
    omega
  refine W_runN (P := HN G a n' (ov' G)) (A1 := gC G a) (va_runI (As := []) (rest := st) ⟨hx, hb, hml, hown, hts⟩ hM (cwI 0 hts (ws_in hw.2.2.1) rfl rfl rfl (hts _ hw.2.1) (hts _ hl0) (hts _ hw.1) hw.2.2.2.1 hw.2.2.2.2 ⟨Nat.le_trans hR.1 hfr, Nat.le_trans hR.2 hlo⟩) ⟨NU_blind, fun U hU hW => ⟨rfl, by rw [hU]; exact ⟨hH.1, fun k k1 k2 => by rw [show k = a by omega, ← he]; exact hH.2 a hca (by omega)⟩, NU_at hKK hO hNW hFS hAO hS hU hW⟩⟩ rfl rfl (by rw [← hnn]; exact hl.1) rfl (lv_room hrs) hd ⟨hro.1, hro.2⟩) hS hca' (fun H1 locs1 h1 o1 hS1 => K H1 locs1 ls (HN_after hG ha hH h1 o1) hS1 hl)
theorem n_gets (F : Fm X cc own rt fr lo nL) {ix : Nat} {host : String} (hd : decode cc pc = .ok (.getstatic ix, 3)) (hw : Cond.fieldLinkNest own ix "CourtRelays" "FIRST_SETTINGS" "[I" host ∈ nwL) (K : WN X c n ov ce sl (pc + 3) lv (.ref (ga X.G 200) :: st) Q) : WN X c n ov ce sl pc lv st Q := by
  obtain ⟨p, l, e, R, s, m, args, below, meth, cd, G, nn⟩ := X
  obtain ⟨hx, hb, hml, hown, hts, hKK, hA, hO, hsz, hr, hlk, hfr, hlo, hnn, hfl, hNW⟩ := F
  intro H locs ls hH hS hl
  exact va_getsN hx hb (hO.1.narrow (fun q h => gC_A h)) hS hown (va_Nw.use rfl (hNW.1 _ hw)) (fun _ h => h) hd (K H locs ls hH hS hl)
/-- the words of clone() -/
def CLw (own : String) (ix : Nat) : Prop := Cond.methodLink own ix ⟨"[I", "clone", "()Ljava/lang/Object;"⟩ ∈ lw_all ∧ Cond.sameMethod "[I" "java/lang/Object" "clone" "()Ljava/lang/Object;" ∈ lw_all ∧ Cond.native ⟨"java/lang/Object", "clone", "()Ljava/lang/Object;"⟩ ∈ lw_all ∧ Cond.instanceMethod ⟨"java/lang/Object", "clone", "()Ljava/lang/Object;"⟩ ∈ lw_all ∧ Cond.selects "[I" ⟨"[I", "clone", "()Ljava/lang/Object;"⟩ ⟨"java/lang/Object", "clone", "()Ljava/lang/Object;"⟩ ∈ lw_all ∧ Cond.castable "[I" "java/lang/Cloneable" ∈ nwL
theorem n_clone (F : Fm X cc own rt fr lo nL) (N0 : FN0 X) (hro : RO X (ce + 1) (sl + 7)) {ix : Nat} (hd : decode cc pc = .ok (.invokevirtual ix, 3)) (hw : CLw own ix) (hn : n < NC) (h1 : 1 ≤ fr) (h2 : (st.map fun v => v.category).sum + 14 ≤ lo) (K : WN X c (n + 1) (upE ov n (.inl ((gT X.G).1, 7, .inl fs1))) (ce + 1) (sl + 7) (pc + 3) lv (.ref (ga X.G n) :: st) Q) : WN X c n ov ce sl pc lv (.ref (ga X.G 200) :: st) Q := by
  obtain ⟨p, l, e, R, s, m, args, below, meth, cd, G, nn⟩ := X
  obtain ⟨hx, hb, hml, hown, hts, hK, hA, hO, hsz, hr, hlk, hfr, hlo, hnn, hfl, hNW⟩ := F
  obtain ⟨hG, hFS, hAO⟩ := N0
  intro H locs ls hH hS hl
  obtain ⟨w1, w2, w3, w4, w5, w6⟩ := hw
  have an : ga G n = H.size := by rw [hG n hn, hH.1]
  obtain ⟨cell, c1, c2, c3, c4, c5, c6⟩ := hFS
  have hsl : cell.slots = (arrV (gT G).1 7 (fun j => .int (fs1 j))).slots := by
    show ({ cls := cell.cls, slots := cell.slots } : Cell).slots = _
    rw [c5]
  have hsz7 : cell.slots.size = 7 := by rw [hsl, arrV_size]
  have r1 : s.vm.findClass ("[" ++ FieldType.int.toString) = some (gT G).1 := (hK.2 0 ((gT G).1, .int) rfl).2
  have hnm : s.vm.findClass "[I" = some (gT G).1 := by
    have e : "[" ++ FieldType.int.toString = "[I" := by decide +kernel
    rw [← e]
    exact r1
  obtain ⟨c0, t0', f1, f2, f3⟩ := Cond.castable_spec (va_Nw.use (A := args) rfl (hNW.1 _ w6))
  cases hnm.symm.trans f1
  intro T hT XX
  have hcH : H[ga G 200]? = some cell := by
    rw [hS.2.1 _ (Array.getElem?_eq_some_iff.mp c1).1 (fun h => c6 (gC_A h))]
    exact c1
  have hcellT : T.heap[ga G 200]? = some cell := by rw [hT]; exact hcH
  obtain ⟨-, kA, hkA, comp, hkind⟩ := State.isArrayOf_alike XX.warmed.alike ((hK.2 0 ((gT G).1, .int) rfl).1 0 (fun _ => .null))
  obtain ⟨-, kS, hkS, compS, hkindS⟩ := (hK.2 0 ((gT G).1, .int) rfl).1 0 (fun _ => .null)
  obtain ⟨vm', X', st'⟩ := XX.cloneArray hx hown (hts _ w1) (hts _ w2) (hts _ w3) (hts _ w4) (hts _ w5) (a := ga G 200) (cell := cell) hcellT c4 c3 (by rw [c2]; exact hnm) f2 (by rw [c2]; exact f3)
    (fun i v hv => by
      rw [c2]
      have hk' : T.vm.classes[(gT G).1]? = some kA := hkA
      have hfit : fits .int v = true := by
        rw [hsl] at hv
        exact va_fit (ty := .int) (F := fun j => .int (fs1 j)) (fun i _ => rfl) i v hv
      simpa [State.fitsSlot, State.slotType?, hk', hkind] using hfit)
    (g := F0 m pc ls (.ref (ga G 200) :: st)) rfl (by rw [hml, ← hnn]; exact hl.1) rfl (by rw [hb]; exact hd) (Nat.le_trans h1 hfr) (by show 2 * 0 + _ + 14 ≤ _; omega) hro.1 (by rw [hsz7]; exact hro.2) (hloader := by rw [c2]; exact Vm.clonesLoader_of_array hkS hkindS)
  rw [c5, hsz7] at X'
  generalize hH1 : H.push (arrV (gT G).1 7 (fun j => .int (fs1 j))) = H1
  have z1 : H1.size = H.size + 1 := by rw [← hH1, Array.size_push]
  have e1 : H1[H.size]? = some (arrV (gT G).1 7 (fun j => .int (fs1 j))) := by rw [← hH1, Array.getElem?_push_size]
  have o1 : ∀ q : Nat, q < H.size → H1[q]? = H[q]? := fun q hq => by rw [← hH1, Array.getElem?_push, if_neg (Nat.ne_of_lt hq)]
  have k1 := K H1 locs ls (hH.push hG hn z1 o1 (by
    show H1[ga G n]? = some (vp_cell _ _)
    rw [an, vp_cell_i]
    exact e1)) (pushS hS z1 o1) hl
  rw [an] at k1
  obtain ⟨t, b1, b2⟩ := k1 ((T.setVm vm').pushCell (arrV (gT G).1 7 (fun j => .int (fs1 j)))) (by rw [← hH1, ← hT]; rfl) X'
  refine ⟨t, st' t ?_, b2⟩
  rw [c5, hT]
  exact b1
theorem n_castI (F : Fm X cc own rt fr lo nL) {ix k N : Nat} {f : Nat → Int32} (hd : decode cc pc = .ok (.checkcast ix, 3)) (hw : Cond.classLink own ix "[I" ∈ lw_all) (hck : c ≤ k) (hkn : k < n) (he : ov k = .inl ((gT X.G).1, N, .inl f)) (K : WN X c n ov ce sl (pc + 3) lv (.ref (ga X.G k) :: st) Q) : WN X c n ov ce sl pc lv (.ref (ga X.G k) :: st) Q := by
  obtain ⟨p, l, e, R, s, m, args, below, meth, cd, G, nn⟩ := X
  obtain ⟨hx, hb, hml, hown, hts, hK, hA, hO, hsz, hr, hlk, hfr, hlo, hnn, hfl, hNW⟩ := F
  intro H locs ls hH hS hl
  have hP := hH.2 k hck hkn
  rw [he] at hP
  have hP1 : va_P (gD G) vwCl [(ga G k, .inl ((gT G).1, N, .inl f))] H := fun i q hq => by
    have hz : i < 1 := (List.getElem?_eq_some_iff.mp hq).1
    rw [show i = 0 by omega] at hq
    cases hq
    exact hP
  have r1 : s.vm.findClass ("[" ++ FieldType.int.toString) = some (gT G).1 := (hK.2 0 ((gT G).1, .int) rfl).2
  have hnm : s.vm.findClass "[I" = some (gT G).1 := by
    have e : "[" ++ FieldType.int.toString = "[I" := by decide +kernel
    rw [← e]
    exact r1
  exact va_castA hx hb hown (hts _ hw) hP1 0 rfl hnm hd (K H locs ls hH hS hl)
end NROWS3
