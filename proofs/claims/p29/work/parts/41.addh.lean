/-! calls: addHearing -/
theorem GD_ent {r : Row} {kd lg s len t : Nat} (R : RW r) (e9 : r 9 = nI t) (ht : t ≤ 20000) (h30 : hrs r < 30) (hk : kd < 3) (hl : lg < 10) (hs1 : 1 ≤ s) (hs : s ≤ 2000) (hl1 : 10 ≤ len) (hl2 : len ≤ 240) : RW (entR r (nI kd) (nI lg) (nI (t + s)) (nI len)) ∧ entR r (nI kd) (nI lg) (nI (t + s)) (nI len) 9 = nI t ∧ hrs (entR r (nI kd) (nI lg) (nI (t + s)) (nI len)) = hrs r + 1 := by
  obtain ⟨⟨hn, cw, ti, nc, lt⟩, hw, pe, tm, mo⟩ := R
  have h10 := hn.1
  have q8 : entR r (nI kd) (nI lg) (nI (t + s)) (nI len) 8 = nI (hrs r + 1) := by rw [entR_8, hn.2.2.2, pz_s]
  have ne : ∀ i, i ≠ 8 → (i < 73 + 10 * hrs r ∨ 83 + 10 * hrs r ≤ i) → entR r (nI kd) (nI lg) (nI (t + s)) (nI len) i = r i := fun i h1 h2 => entR_ne h1 h2
  have eh : ∀ j, j < 10 → entR r (nI kd) (nI lg) (nI (t + s)) (nI len) (73 + 10 * hrs r + j) = if j = 0 then nI kd else if j = 1 then nI lg else if j = 2 then nI (t + s) else if j = 3 then nI len else if 6 ≤ j ∧ j ≤ 8 then -1 else 0 := fun j hj => entR_h hj
  generalize entR r (nI kd) (nI lg) (nI (t + s)) (nI len) = E at q8 ne eh ⊢
  have v0 : E (73 + 10 * hrs r) = nI kd := eh 0 (by omega)
  have v1 : E (73 + 10 * hrs r + 1) = nI lg := eh 1 (by omega)
  have v2 : E (73 + 10 * hrs r + 2) = nI (t + s) := eh 2 (by omega)
  have v3 : E (73 + 10 * hrs r + 3) = nI len := eh 3 (by omega)
  have v4 : E (73 + 10 * hrs r + 4) = 0 := eh 4 (by omega)
  have v5 : E (73 + 10 * hrs r + 5) = nI 0 := eh 5 (by omega)
  have v6 : ∀ k, k < 3 → E (79 + 10 * hrs r + k) = -1 := fun k hk => by
    rw [show 79 + 10 * hrs r + k = 73 + 10 * hrs r + (6 + k) by omega, eh _ (by omega), if_neg (by omega), if_neg (by omega), if_neg (by omega), if_neg (by omega), if_pos (by omega)]
  have eH : hrs E = hrs r + 1 := by
    show (E 8).toNatClampNeg = _
    rw [q8, pz_cl (by omega)]
  have eP : ppl E = ppl r := by unfold ppl; rw [ne 7 (by omega) (by omega)]
  have sh : ∀ o, o < hrs r → SHr r E o := fun o ho k hk => ne _ (by omega) (by omega)
  have nz : szN E (hrs r) = 0 := by unfold szN; rw [v5, pz_cl (by omega)]
  have nl : lst E (hrs r) = true := by unfold lst; rw [v4]; rfl
  have ni : ∀ x, inCh E x (hrs r) = false := fun x => by unfold inCh; rw [nz]; rfl
  have ncw : ChW E (hrs r) := ⟨by omega, by rw [nz]; exact v5, fun k hk => by omega, fun k _ h2 => v6 k h2, fun i j hi hj => by omega⟩
  have nlg : lngR E (hrs r) = lg := by unfold lngR; rw [v1, pz_cl (by omega)]
  have nkd : kndR E (hrs r) = kd := by unfold kndR; rw [v0, pz_cl (by omega)]
  have e9' : E 9 = nI t := by rw [ne 9 (by omega) (by omega)]; exact e9
  have sp : ∀ o, o < hrs E → o = hrs r ∨ o < hrs r := fun o ho => by omega
  refine ⟨⟨⟨?_, fun o ho => ?_, ⟨fun p hp => ?_, fun i hi => ?_⟩, ?_, ?_⟩, fun o ho => ?_, fun p hp => ?_, fun o ho => ?_, ?_⟩, e9', eH⟩
  · obtain ⟨a, b, d, f⟩ := hn
    exact ⟨by omega, by rw [eP, ne 7 (by omega) (by omega)]; exact b, by omega, by rw [eH]; exact q8⟩
  · rcases sp o ho with rfl | h
    · exact ncw
    · exact (sh o h).chw (by omega) (cw o h)
  · rw [eP] at hp
    rw [ne _ (by omega) (by omega)]
    exact ti.1 p hp
  · rw [ne _ (by omega) (by omega)]
    exact ti.2 i hi
  · intro p a b p10 ab ha hb la lb hc ia ib
    rcases sp a ha with rfl | ha
    · rw [ni] at ia; cases ia
    rcases sp b hb with rfl | hb
    · rw [ni] at ib; cases ib
    rw [(sh a ha).eLst] at la
    rw [(sh b hb).eLst] at lb
    rw [(sh a ha).eCl (sh b hb)] at hc
    rw [(sh a ha).eIn (cw a ha).1] at ia
    rw [(sh b hb).eIn (cw b hb).1] at ib
    exact nc p a b p10 ab ha hb la lb hc ia ib
  · intro o ho lo
    rw [e9']
    rcases sp o ho with rfl | h
    · unfold endR
      rw [v2, v3, pz_add, pz_lt (by omega) (by omega)]
      omega
    · rw [(sh o h).eLst] at lo
      rw [(sh o h).eEnd, ← e9]
      exact lt o h lo
  · rcases sp o ho with rfl | h
    · exact ⟨ncw, by omega, by rw [nlg]; exact v1, by omega, by rw [nkd]; exact v0⟩
    · exact (sh o h).hw (by omega) (hw o h)
  · rw [eP] at hp
    rw [ne (13 + p) (by omega) (by omega), ne (23 + p) (by omega) (by omega), ne (33 + p) (by omega) (by omega)]
    exact pe p hp
  · rcases sp o ho with rfl | h
    · rw [v2, v3]
      exact ⟨⟨t + s, by omega, rfl⟩, ⟨len, hl2, rfl⟩⟩
    · rw [sh o h 2 (by omega), sh o h 3 (by omega)]
      exact tm o h
  · obtain ⟨P, V, Q, a, b, d, f, q⟩ := mo
    refine ⟨P, V, Q, by rw [ne 10 (by omega) (by omega)]; exact a, by rw [ne 11 (by omega) (by omega)]; exact b, by rw [ne 12 (by omega) (by omega)]; exact d, f, ?_⟩
    rw [eH, clo, nl, if_pos rfl, clo_cong (fun o ho => (sh o ho).eLst)]
    exact q
