/-! objects as they are made: a field with its new array, a field with its new object -/
theorem RO.le {X : Cx} {a b a' b' : Nat} (h : RO X a b) (h1 : a' ≤ a) (h2 : b' ≤ b) : RO X a' b' := by
  obtain ⟨p, l, e, R, s, m, args, below, meth, c, G, n⟩ := X
  exact ⟨Nat.le_trans h1 h.1, Nat.le_trans h2 h.2⟩
theorem WN.cong {X : Cx} {c n : Nat} {ov ov' : Nat → va_E} {ce sl pc : Nat} {lv : List (Nat × Value)} {st : List Value} {Q : State → Prop} (h : WN X c n ov' ce sl pc lv st Q) (e : ∀ k, c ≤ k → k < n → ov k = ov' k) : WN X c n ov ce sl pc lv st Q := by
  obtain ⟨p, l, ee, R, s, m, args, below, meth, cd, G, nn⟩ := X
  intro H locs ls hH hS hl
  exact h H locs ls (hH.cong e) hS hl
theorem arrV_cg {cA : ClassId} {N : Nat} {f g : Nat → Value} (h : ∀ j, j < N → f j = g j) : arrV cA N f = arrV cA N g := by
  have e : (Array.ofFn (n := N) fun j => f j.val) = Array.ofFn (n := N) fun j => g j.val := congrArg Array.ofFn (funext fun j => h j.val j.isLt)
  unfold arrV
  rw [e]
theorem n_vret2 {X : Cx} {cc : ByteArray} {own : String} {fr lo nL : Nat} {c n ce sl pc : Nat} {ov ov' : Nat → va_E} {lv : List (Nat × Value)} (F : Fm X cc own none fr lo nL) (hd : decode cc pc = .ok (.return_, 1)) (he : ∀ H k, c ≤ k → k < n → va_at (gD X.G) vwCl (ga X.G k, ov k) H → va_at (gD X.G) vwCl (ga X.G k, ov' k) H) : WN X c n ov ce sl pc lv [] (NQ X c n ov' ce sl) := by
  obtain ⟨p, l, e, R, s, m, args, below, meth, cd, G, nn⟩ := X
  obtain ⟨hx, hb, hml, hown, hts, hK, hA, hO, hsz, hr, hlk, hfr, hlo, hnn, hfl, hNW⟩ := F
  intro H locs ls hH hS hl
  show W p l e R s m args below meth cd H locs ce sl (MQ below (fun _ st o t => o = .returned none ∧ HN G c n ov' t.heap ∧ va_F (gC G c) st t) args s ce sl (gC G c)) (F0 m pc ls [])
  exact W.vret hx hb hr (fun t ht hW => ⟨rfl, by rw [ht]; exact ⟨hH.1, fun k k1 k2 => he H k k1 k2 (hH.2 k k1 k2)⟩, hS.F ht⟩) hS.2.2 hd hlk
/-- an object at c and its arrays of ints -/
def Sf (G : GG) (c ci : Nat) (fs : List Value) (len : Nat → Nat) : Nat → va_E := fun k => if k = c then .inr (ci, fs) else .inl ((gT G).1, len (k - c), .inl (fun _ => 0))
/-- an object at c and what stands behind it in the end -/
def Of (G : GG) (c ci : Nat) (fs : List Value) : Nat → va_E := fun k => if k = c then .inr (ci, fs) else cel G mu0 k
section NROWS4
variable {X : Cx} {cc : ByteArray} {own : String} {rt : Option FieldType} {fr lo nL : Nat} {c n ce sl pc : Nat} {lv : List (Nat × Value)} {st : List Value} {Q : State → Prop}
theorem n_fld (F : Fm X cc own rt fr lo nL) (N0 : FN X) {N : Nat} (hro : RO X (ce + 1) (sl + N)) {v : Int32} {ix ci j : Nat} {fs fs' : List Value} {len : Nat → Nat} (hd1 : decode cc pc = .ok (.newarray .int, 2)) (hd2 : decode cc (pc + 2) = .ok (.putfield ix, 3)) (ha : Cond.arrayClass .int ∈ lw_all) (hw : PFc own ix ci j (.array .int)) (hv : ¬ v < 0) (hN : v.toNatClampNeg = N) (h4 : N * 4 ≤ 536870912) (hn : n < NC) (hcn : c < n) (hlen : len (n - c) = N) (hj : j < fs.length) (hfs : fs.set j (.ref (ga X.G n)) = fs')
    (K : WN X c (n + 1) (Sf X.G c ci fs' len) (ce + 1) (sl + N) (pc + 5) lv st Q) : WN X c n (Sf X.G c ci fs len) ce sl pc lv (.int v :: .ref (ga X.G c) :: st) Q := by
  refine n_newa F N0.f0 hro hd1 ha hv hN h4 hn ?_
  refine n_putF (ci := ci) (j := j) (fs := fs) (ty := .array .int) F N0 hd2 hw (by rw [upE_ne (by omega)]; exact if_pos rfl) (by omega) (by omega) rfl rfl hj ?_
  refine WN.cong K fun k k1 k2 => ?_
  unfold Sf
  by_cases z : k = c
  · rw [z, upE_at, if_pos rfl, hfs]
  · rw [upE_ne z, if_neg z]
    by_cases y : k = n
    · rw [y, upE_at, hlen]
    · rw [upE_ne y, if_neg z]
theorem n_mk (F : Fm X cc own rt fr lo nL) (N0 : FN X) {N mc ms : Nat} (hro : RO X (ce + 1 + mc) (sl + N + ms)) {ix1 ix2 ix4 ci ci2 j n' mL f2 l2 : Nat} {y : MethodName} {cb : ByteArray} {fs fs' fs0 : List Value} {ty : FieldType} (hd1 : decode cc pc = .ok (.new ix1, 3)) (hd2 : decode cc (pc + 3) = .ok (.dup, 1)) (hd3 : decode cc (pc + 4) = .ok (.invokespecial ix2, 3)) (hd4 : decode cc (pc + 7) = .ok (.putfield ix4, 3))
    (hnew : NWc own ix1 ci2 N fs0) (hcon : ConN y cb mL f2 l2 mc ms n n' (.inr (ci2, fs0)) (fun G => cel G mu0)) (hl0 : (∃ host, Cond.methodLinkNest own ix2 y host ∈ nwL) ∨ Cond.methodLink own ix2 y ∈ lw_all) (hw : CIc y cb mL) (hpf : PFc own ix4 ci j ty) (hfit : ∀ a : Nat, narrow ty (.ref a) = .ref a ∧ fits ty (.ref a) = true) (hcn : c < n) (hn : n < NC) (hnn : n < n') (hn' : n' ≤ NC) (hj : j < fs.length) (hfs : fs.set j (.ref (ga X.G n)) = fs') (hR : f2 + 1 ≤ fr ∧ 8 + (mL + 11) + l2 ≤ lo)
    (K : WN X c n' (Of X.G c ci fs') (ce + 1 + mc) (sl + N + ms) (pc + 10) lv [] Q) : WN X c n (Of X.G c ci fs) ce sl pc lv [.ref (ga X.G c)] Q := by
  refine n_new F N0.f0 (hro.le (by omega) (by omega)) hd1 hnew hn ?_
  refine n_dup F hd2 ?_
  have rest : WN X c n' (fun k => if k < n then upE (Of X.G c ci fs) n (.inr (ci2, fs0)) k else cel X.G mu0 k) (ce + 1 + mc) (sl + N + ms) (pc + 7) lv [.ref (ga X.G n), .ref (ga X.G c)] Q := by
    refine n_putF (ci := ci) (j := j) (fs := fs) (ty := ty) F N0 hd4 hpf ?_ (by omega) hn' (hfit _).1 (hfit _).2 hj ?_
    · show (if c < n then upE (Of X.G c ci fs) n (.inr (ci2, fs0)) c else cel X.G mu0 c) = _
      rw [if_pos hcn, upE_ne (by omega)]
      exact if_pos rfl
    · refine WN.cong K fun k k1 k2 => ?_
      unfold Of
      by_cases z : k = c
      · rw [z, upE_at, if_pos rfl, hfs]
      · rw [upE_ne z, if_neg z]
        show (if k < n then upE (Of X.G c ci fs) n (.inr (ci2, fs0)) k else cel X.G mu0 k) = _
        by_cases q : k < n
        · rw [if_pos q, upE_ne (by omega)]
          exact if_neg z
        · rw [if_neg q]
  rcases hl0 with ⟨host, hl0⟩ | hl0
  · exact n_callIN (a := n) F N0.f0 hro hd3 hcon hl0 hw (by omega) hn (upE_at _ _ _) (by simp [Value.category]) hR rest
  · exact n_callI (a := n) F N0.f0 hro hd3 hcon hl0 hw (by omega) hn (upE_at _ _ _) (by simp [Value.category]) hR rest
end NROWS4
/-! what the cells hold in the end -/
section CEL
variable {G : GG} {c : Nat}
theorem celC_0 (h : isC c) : cel G mu0 c = .inr (2, [.ref (ga G (c + 1)), .ref (ga G (c + 8)), .ref (ga G (c + 18)), .int 0, .int 0, .int 0, .int 0]) := by
  rcases h with rfl | rfl | rfl | rfl | rfl | rfl | rfl | rfl <;> rfl
theorem celC_1 (h : isC c) : cel G mu0 (c + 1) = .inr (6, [.int 0, .ref (ga G (c + 2)), .ref (ga G (c + 3)), .ref (ga G (c + 4)), .ref (ga G (c + 5)), .ref (ga G (c + 6)), .ref (ga G (c + 7))]) := by
  rcases h with rfl | rfl | rfl | rfl | rfl | rfl | rfl | rfl <;> rfl
theorem celC_a (h : isC c) : ∀ j, j < 6 → cel G mu0 (c + 2 + j) = .inl ((gT G).1, 10, .inl (fun _ => 0)) := by
  intro j hj
  rcases h with rfl | rfl | rfl | rfl | rfl | rfl | rfl | rfl <;> rcases (show j = 0 ∨ j = 1 ∨ j = 2 ∨ j = 3 ∨ j = 4 ∨ j = 5 by omega) with rfl | rfl | rfl | rfl | rfl | rfl <;> rfl
theorem celC_8 (h : isC c) : cel G mu0 (c + 8) = .inr (3, [.int 0, .ref (ga G (c + 9)), .ref (ga G (c + 10)), .ref (ga G (c + 11)), .ref (ga G (c + 12)), .ref (ga G (c + 13)), .ref (ga G (c + 14)), .ref (ga G (c + 15)), .ref (ga G (c + 16)), .ref (ga G (c + 17))]) := by
  rcases h with rfl | rfl | rfl | rfl | rfl | rfl | rfl | rfl <;> rfl
theorem celC_b (h : isC c) : ∀ j, j < 8 → cel G mu0 (c + 9 + j) = .inl ((gT G).1, 30, .inl (fun _ => 0)) := by
  intro j hj
  rcases h with rfl | rfl | rfl | rfl | rfl | rfl | rfl | rfl <;> rcases (show j = 0 ∨ j = 1 ∨ j = 2 ∨ j = 3 ∨ j = 4 ∨ j = 5 ∨ j = 6 ∨ j = 7 by omega) with rfl | rfl | rfl | rfl | rfl | rfl | rfl | rfl <;> rfl
theorem celC_17 (h : isC c) : cel G mu0 (c + 17) = .inl ((gT G).1, 90, .inl (fun _ => 0)) := by
  rcases h with rfl | rfl | rfl | rfl | rfl | rfl | rfl | rfl <;> rfl
theorem celC_18 (h : isC c) : cel G mu0 (c + 18) = .inl ((gT G).1, 7, .inl fs1) := by
  rcases h with rfl | rfl | rfl | rfl | rfl | rfl | rfl | rfl <;> rfl
end CEL
