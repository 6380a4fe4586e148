/-! what the start gives: classes, arrays, the static tables, the written texts -/
abbrev pre0 : List Cond := flatC (Jvm.Cond.and given_1 narrow_1)
abbrev FSt : Term := .static "CourtRelays" "FIRST_SETTINGS" "[I"
abbrev MSt : Term := .static "CourtRelays" "MOST_OF_SETTINGS" "[I"
theorem p_FSarr : Cond.arrayOf FSt .int ∈ pre0 := by decide +kernel
theorem p_MSarr : Cond.arrayOf MSt .int ∈ pre0 := by decide +kernel
theorem p_FSlen : Cond.eq (.length FSt) (.int 7) ∈ pre0 := by decide +kernel
theorem p_MSlen : Cond.eq (.length MSt) (.int 7) ∈ pre0 := by decide +kernel
theorem p_FSel : ∀ j, j < 7 → Cond.eq (.elem FSt (.int (Int32.ofNat j))) (.int (fs1 j)) ∈ pre0 := by decide +kernel
theorem p_MSel : ∀ j, j < 7 → Cond.eq (.elem MSt (.int (Int32.ofNat j))) (.int (fs2 j)) ∈ pre0 := by decide +kernel
theorem p_FSex : Cond.exactly FSt "[I" ∈ pre0 := by decide +kernel
theorem q_FS : Cond.laysStatic "CourtRelays" "FIRST_SETTINGS" "[I" ∈ lw_tbl := List.mem_append_right _ (List.mem_of_getElem? (i := 120) (by decide +kernel))
theorem q_MS : Cond.laysStatic "CourtRelays" "MOST_OF_SETTINGS" "[I" ∈ lw_tbl := List.mem_append_right _ (List.mem_of_getElem? (i := 594) (by decide +kernel))
theorem q_AO : Cond.arrayOver (.object RX2) ∈ lw_tbl := List.mem_append_right _ (List.mem_of_getElem? (i := 161) (by decide +kernel))
theorem q_ini : Cond.initialized "CourtRelays" ∈ lw_tbl := List.mem_append_right _ (List.mem_of_getElem? (i := 1) (by decide +kernel))
theorem q_in0 : Cond.instantiable RX0 2 ∈ lw_tbl := List.mem_append_right _ (List.mem_of_getElem? (i := 175) (by decide +kernel))
theorem q_in1 : Cond.instantiable RX1 11 ∈ lw_tbl := List.mem_append_right _ (List.mem_of_getElem? (i := 206) (by decide +kernel))
theorem q_in2 : Cond.instantiable RX2 7 ∈ lw_tbl := List.mem_append_right _ (List.mem_of_getElem? (i := 27) (by decide +kernel))
theorem q_in3 : Cond.instantiable RX3 10 ∈ lw_tbl := List.mem_append_right _ (List.mem_of_getElem? (i := 71) (by decide +kernel))
theorem q_in4 : Cond.instantiable RX4 3 ∈ lw_tbl := List.mem_append_right _ (List.mem_of_getElem? (i := 155) (by decide +kernel))
theorem q_in5 : Cond.instantiable RX5 6 ∈ lw_tbl := List.mem_append_right _ (List.mem_of_getElem? (i := 187) (by decide +kernel))
theorem q_in6 : Cond.instantiable RX6 7 ∈ lw_tbl := List.mem_append_right _ (List.mem_of_getElem? (i := 33) (by decide +kernel))
theorem q_in7 : Cond.instantiable RX7 6 ∈ lw_tbl := List.mem_append_right _ (List.mem_of_getElem? (i := 19) (by decide +kernel))
theorem len_of {args : Array Value} {s : State} {tm : Term} {v : Value} (h : (Term.length tm).eval args s none [] s = some v) : ∃ (a : Addr) (cell : Cell), tm.eval args s none [] s = some (.ref a) ∧ s.heap[a]? = some cell ∧ cell.slots.size < 2147483648 := by
  simp only [Term.eval, Option.bind_eq_bind] at h
  cases ht : tm.eval args s none [] s with
  | none => simp [ht] at h
  | some x =>
    cases x <;> simp [ht] at h
    case ref a =>
      obtain ⟨cell, hcell, h⟩ := Option.bind_eq_some_iff.mp h
      by_cases hn : cell.slots.size < 2147483648
      · exact ⟨a, cell, rfl, (State.arrayAt?_spec hcell).1, hn⟩
      · rw [if_neg hn] at h; cases h
/-- the addresses: the old tables, then the new cells in a row -/
abbrev stG (D : va_G) (T : ClassId × ClassId × ClassId) (t1 t2 base : Nat) : GG := (D, T, (fun k => if k = 200 then t1 else if k = 201 then t2 else base + k), base)
theorem stG_B (D : va_G) (T : ClassId × ClassId × ClassId) (t1 t2 base : Nat) : GB (stG D T t1 t2 base) := fun k hk => by
  have hk : k < 166 := hk
  show (if k = 200 then t1 else if k = 201 then t2 else base + k) = base + k
  rw [if_neg (by omega), if_neg (by omega)]
theorem st_K {b : Nat} {s : State} (hts : ∀ w ∈ lw_tbl, w.before #[Value.ref b] s = true) : ∃ D : va_G, ∀ (k : Nat) (q : vw_C), vwCl[k]? = some q → u_Kn s q.1 q.2.1 q.2.2 (D.1 k) (D.2 k) := by
  have hta : ∀ w ∈ lw_all, w.before #[Value.ref b] s = true := fun w h => hts w (all_tbl h)
  obtain ⟨c0, i0, k0⟩ := u_known (C := RX0) (T := TX0) (N := 2) hta inA0 (hts _ q_in0)
  obtain ⟨c1, i1, k1⟩ := u_known (C := RX1) (T := TX1) (N := 11) hta inA1 (hts _ q_in1)
  obtain ⟨c2, i2, k2⟩ := u_known (C := RX2) (T := TX2) (N := 7) hta inA2 (hts _ q_in2)
  obtain ⟨c3, i3, k3⟩ := u_known (C := RX3) (T := TX3) (N := 10) hta inA3 (hts _ q_in3)
  obtain ⟨c4, i4, k4⟩ := u_known (C := RX4) (T := TX4) (N := 3) hta inA4 (hts _ q_in4)
  obtain ⟨c5, i5, k5⟩ := u_known (C := RX5) (T := TX5) (N := 6) hta inA5 (hts _ q_in5)
  obtain ⟨c6, i6, k6⟩ := u_known (C := RX6) (T := TX6) (N := 7) hta inA6 (hts _ q_in6)
  obtain ⟨c7, i7, k7⟩ := u_known (C := RX7) (T := TX7) (N := 6) hta inA7 (hts _ q_in7)
  refine ⟨(fun k => if k = 0 then c0 else if k = 1 then c1 else if k = 2 then c2 else if k = 3 then c3 else if k = 4 then c4 else if k = 5 then c5 else if k = 6 then c6 else c7, fun k => if k = 0 then i0 else if k = 1 then i1 else if k = 2 then i2 else if k = 3 then i3 else if k = 4 then i4 else if k = 5 then i5 else if k = 6 then i6 else i7), ?_⟩
  intro k q hq
  match k, hq with
  | 0, hq => cases hq; exact k0
  | 1, hq => cases hq; exact k1
  | 2, hq => cases hq; exact k2
  | 3, hq => cases hq; exact k3
  | 4, hq => cases hq; exact k4
  | 5, hq => cases hq; exact k5
  | 6, hq => cases hq; exact k6
  | 7, hq => cases hq; exact k7
  | k + 8, hq => simp [vwCl] at hq
theorem st_A {b : Nat} {s : State} (hts : ∀ w ∈ lw_tbl, w.before #[Value.ref b] s = true) : ∃ T : ClassId × ClassId × ClassId, s.vm.findClass "[I" = some T.1 ∧ ∀ (k : Nat) (q : ClassId × FieldType), (tysT T)[k]? = some q → ArrOfT s q.1 q.2 ∧ va_RA s q.1 q.2 := by
  obtain ⟨cI, kI, compI, fI, gI, hI⟩ := Cond.arrayClass_spec (hts _ (all_tbl ac_int))
  obtain ⟨comp, cQ, kQ, q1, q2, q3, q4, q5⟩ := Cond.arrayOver_spec (hts _ q_AO)
  refine ⟨(cI, cQ, cI), ?_, fun k q hq => ?_⟩
  · have e : "[" ++ FieldType.int.toString = "[I" := by decide +kernel
    rw [← e]
    exact fI
  · match k, hq with
    | 0, hq => cases hq; exact ⟨fun n z => ⟨fun k h => (by cases h), kI, gI, compI, hI⟩, fI⟩
    | 1, hq => cases hq; exact ⟨fun n z => ⟨fun k h => (by cases h), kQ, q3, comp, q4⟩, kQ, comp, q3, q4, q1, q5⟩
    | k + 2, hq => simp [tysT] at hq
theorem st_W {b : Nat} {s : State} (hts : ∀ w ∈ lw_tbl, w.before #[Value.ref b] s = true) : NWs s :=
  ⟨fun w hw => va_Nw.of (nwL_on w hw) (hts w (nwL_tbl w hw)), fun q hq => absurd hq List.not_mem_nil, fun q hq => absurd hq List.not_mem_nil⟩
