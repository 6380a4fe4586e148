/-! calls: undo, setting, append, clearBuffer, ifVacated -/
theorem RW_cong {r r' : Row} (R : RW r) (g : ∀ i, i < 373 → r' i = r i) : RW r' := by
  obtain ⟨⟨hn, cw, ti, nc, lt⟩, hw, pe, tm, mo⟩ := R
  have h30 := hn.2.2.1
  have h10 := hn.1
  have eH : hrs r' = hrs r := by unfold hrs; rw [g 8 (by omega)]
  have eP : ppl r' = ppl r := by unfold ppl; rw [g 7 (by omega)]
  have sh : ∀ o, o < hrs r → SHr r r' o := fun o ho k hk => g _ (by omega)
  refine ⟨⟨?_, fun o ho => ?_, ⟨fun p hp => ?_, fun i hi => ?_⟩, ?_, ?_⟩, fun o ho => ?_, fun p hp => ?_, fun o ho => ?_, ?_⟩
  · obtain ⟨a, b, d, f⟩ := hn
    exact ⟨by omega, by rw [eP, g 7 (by omega)]; exact b, by omega, by rw [eH, g 8 (by omega)]; exact f⟩
  · rw [eH] at ho
    exact (sh o ho).chw (by omega) (cw o ho)
  · rw [eP] at hp
    rw [g _ (by omega)]
    exact ti.1 p hp
  · rw [g _ (by omega)]
    exact ti.2 i hi
  · intro p a b p10 ab ha hb la lb hc ia ib
    rw [eH] at ha hb
    rw [(sh a ha).eLst] at la
    rw [(sh b hb).eLst] at lb
    rw [(sh a ha).eCl (sh b hb)] at hc
    rw [(sh a ha).eIn (cw a ha).1] at ia
    rw [(sh b hb).eIn (cw b hb).1] at ib
    exact nc p a b p10 ab ha hb la lb hc ia ib
  · intro o ho lo
    rw [eH] at ho
    rw [(sh o ho).eLst] at lo
    rw [(sh o ho).eEnd, g 9 (by omega)]
    exact lt o ho lo
  · rw [eH] at ho
    exact (sh o ho).hw (by omega) (hw o ho)
  · rw [eP] at hp
    rw [g (13 + p) (by omega), g (23 + p) (by omega), g (33 + p) (by omega)]
    exact pe p hp
  · rw [eH] at ho
    rw [sh o ho 2 (by omega), sh o ho 3 (by omega)]
    exact tm o ho
  · obtain ⟨P, V, Q, a, b, d, f, q⟩ := mo
    refine ⟨P, V, Q, by rw [g 10 (by omega)]; exact a, by rw [g 11 (by omega)]; exact b, by rw [g 12 (by omega)]; exact d, f, ?_⟩
    rw [eH, clo_cong (fun o ho => (sh o ho).eLst)]
    exact q
