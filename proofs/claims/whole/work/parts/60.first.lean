/-! calls: firstError -/
section FIRST
variable {m : Mem} {A : Ab}
def cod (A : Ab) (i : Nat) : Nat := (A.bc i).toNatClampNeg
theorem cod_ok (ok : Ok A) {i : Nat} (hi : i < A.bl) : A.bc i = nI (cod A i) ∧ cod A i ≤ 200 := by
  obtain ⟨q, q1, q2, q3⟩ := ok.2.2.2.2 i hi
  unfold cod
  rw [q3, pz_cl (by omega)]
  exact ⟨rfl, by omega⟩
theorem Fr157.ac {m m' : Mem} (h : Fr157 m m') (hC : AC m A) : AC m' A := hC.scr fun a ha => h.1 a (by omega)
theorem Fr157.am {m m' : Mem} (h : Fr157 m m') (hM : AM m A) : AM m' A := by
  obtain ⟨h1, h2, h3, h4, h5⟩ := hM
  refine ⟨?_, ?_, fun k hk i hi => ?_, ?_, fun i hi => ?_⟩
  · rw [h.1 163 (by omega)]; exact h1
  · rw [h.1 162 (by omega)]; exact h2
  · rw [h.1 164 (by omega)]; exact h3 k hk i hi
  · rw [h.1 162 (by omega)]; exact h4
  · rw [h.1 165 (by omega)]; exact h5 i hi
theorem FrT.fr {m m' : Mem} (h : FrT m m') : FrM m m' := ⟨fun a ha => h.1 a (by omega) (by omega), h.2.2⟩
theorem FrT.am {m m' : Mem} (h : FrT m m') (hM : AM m A) : AM m' A := by
  obtain ⟨h1, h2, h3, h4, h5⟩ := hM
  refine ⟨?_, ?_, fun k hk i hi => ?_, ?_, fun i hi => ?_⟩
  · rw [h.1 163 (by omega) (by omega)]; exact h1
  · rw [h.2.1 1 (by omega) (by omega) (by omega)]; exact h2
  · rw [h.1 164 (by omega) (by omega)]; exact h3 k hk i hi
  · rw [h.2.1 3 (by omega) (by omega) (by omega)]; exact h4
  · rw [h.1 165 (by omega) (by omega)]; exact h5 i hi
theorem o_firstError (hC : AC m A) (hM : AM m A) (ok : Ok A) : OPV (f_X7_firstError m) f_X8_firstError := by
  have b60 := ok.2.1
  obtain ⟨m1, e1, f1, -⟩ := s5_read (b := cod A) (N := A.bl) hC.2.2.1 b60 (fun i hi => ⟨by rw [hC.2.2.2 i hi]; exact (cod_ok ok hi).1, (cod_ok ok hi).2⟩)
  have am1 := (f1.am hM).set5 (j := 5) (by decide) (by decide) 0
  obtain ⟨m2, e2, f2, -⟩ := s8_rightUpTo (b := cod A) (N := A.bl) am1.2.2.2.1 b60 (fun i hi => ⟨by rw [am1.2.2.2.2 i hi]; exact (cod_ok ok hi).1, (cod_ok ok hi).2⟩)
  refine ⟨nI (pE (cod A) A.bl), m1, m2, A, ?_, ?_, (f1.ac hC).frM ((FrM.rf.put (by omega)).tr f2.fr) ok.1, f2.am am1, ok⟩
  · rw [f_X7_firstError, e1, pz_bnd2]
  · rw [f_X8_firstError, pz_nm, e2, pz_bnd2]
end FIRST
