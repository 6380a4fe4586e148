/-! the start, whole -/
theorem st_F {b : Nat} {s : State} {T : ClassId × ClassId × ClassId} (hT : s.vm.findClass "[I" = some T.1) (hts : ∀ w ∈ lw_tbl, w.before #[Value.ref b] s = true) (hs : ∀ w ∈ pre0, w.before #[Value.ref b] s = true) (D : va_G) : ∃ t1 t2 : Nat, OF (stG D T t1 t2 s.heap.size) s s.heap ∧ FS (stG D T t1 t2 s.heap.size) s.heap := by
  have hA : ∀ a : Nat, a < s.heap.size → ¬ (s.heap.size ≤ a) := fun a h => Nat.not_le.mpr h
  obtain ⟨t1, e1, v1⟩ := va_Tof (ty := .int) (N := 7) (f := fun j => .int (fs1 j)) (A := fun q : Nat => s.heap.size ≤ q) (by decide) (hs _ p_FSarr) (va_eqt (hs _ p_FSlen)) (fun j hj => va_eqt (hs _ (p_FSel j hj))) hA
  obtain ⟨t2, e2, v2⟩ := va_Tof (ty := .int) (N := 7) (f := fun j => .int (fs2 j)) (A := fun q : Nat => s.heap.size ≤ q) (by decide) (hs _ p_MSarr) (va_eqt (hs _ p_MSlen)) (fun j hj => va_eqt (hs _ (p_MSel j hj))) hA
  refine ⟨t1, t2, ⟨va_Zof (hts _ q_FS) (hts _ q_ini) e1 hA, v1, va_Zof (hts _ q_MS) (hts _ q_ini) e2 hA, v2⟩, ?_⟩
  obtain ⟨a, c, cell, k, x1, x2, x3, x4, x5, x6, -⟩ := Cond.exactly_spec (hs _ p_FSex)
  obtain ⟨a2, cell2, y1, y2, y3⟩ := len_of (va_eqt (hs _ p_FSlen))
  obtain ⟨cell3, z1, z2, z3, z4, z5, z6, z7⟩ := v1
  cases e1.symm.trans x1
  cases e1.symm.trans y1
  cases z1.symm.trans x3
  cases z1.symm.trans y2
  cases hT.symm.trans x2
  have h7 : cell.slots.size = 7 := by
    have e : nI cell.slots.size = nI 7 := z5
    have e' := congrArg Int32.toInt e
    rw [nI_toInt y3, nI_toInt (by decide)] at e'
    omega
  have hsl : cell.slots = Array.ofFn (n := 7) fun j => Value.int (fs1 j.val) := by
    apply Array.ext
    · rw [h7, Array.size_ofFn]
    · intro i h1 h2
      have hh := z6 i (by omega)
      rw [Array.getElem?_eq_getElem h1] at hh
      rw [Option.some.inj hh, Array.getElem_ofFn]
  refine ⟨cell, z1, x6, z3, z2.1, ?_, z7⟩
  rw [hsl, x6]
  rfl
