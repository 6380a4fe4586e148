/-! missing: the model's loops; the call -/
section MISS3
variable {m : Mem} {r : Row} {A : Ab} {kd p k : Nat} {x : Int32}
theorem s8_leadsL (hz : m.1 163 = r) (hn : NumW r) (hP : PEO r) (hk : kd < 10) (hp : p < ppl r) (h100 : k < 100) (f : Bool) : f_X8_missingNow_L61 (nI kd) m (nI p) (r (13 + p)) (bI f, nI k) = some (.inl (bI (f || ldk r kd p k), nI (k + 1))) := by
  have h10 := hn.1
  have ed : nI k / 10 = nI (k / 10) := by rw [show (10 : Int32) = nI 10 from rfl, pk_div (by omega) (by omega) (by omega)]
  have er : nI k - nI k / 10 * 10 = nI (k % 10) := by rw [show (10 : Int32) = nI 10 from rfl, pk_rem (by omega) (by omega) (by omega)]
  have eb : (nI (k / 10) = nI p) = (k / 10 = p) := pz_eq (by omega) (by omega)
  have ec : (nI (k % 10) = nI p) = (k % 10 = p) := pz_eq (by omega) (by omega)
  have ecb : (nI (k % 10) = nI (k / 10)) = (k % 10 = k / 10) := pz_eq (by omega) (by omega)
  have e31 : (if bI (isp r (nI (k / 10))) = 0 then some 0 else (if nI (k / 10) = nI p then some 0 else gIn (nI (23 + k / 10)) 373 <| nm (r (23 + k / 10)) fun x25 => nm ((x25 >>> (nI kd &&& 31)) &&& 1) fun x26 => (if x26 = 1 then gIn (nI (13 + k / 10)) 373 <| nm (r (13 + k / 10)) fun x29 => (if (x29 &&& r (13 + p)) = 0 then some 0 else some 1) else some 0))) = (some (bI (sec r kd p (k / 10))) : Option Int32) := by
    rw [isp_b hn (by omega), bI_ite, pz_in (by omega) (by omega), pz_in (by omega) (by omega)]
    simp only [pz_nm]
    rw [shr1 _ hk, bI_one]
    unfold sec
    by_cases a : k / 10 < ppl r
    · rw [if_pos (by simpa using a)]
      have ms := meet_MK (sp_MK hP a) (sp_MK hP hp)
      by_cases b : k / 10 = p
      · rw [if_pos (by rw [eb]; exact b)]
        simp [b, bI]
      · rw [if_neg (by rw [eb]; exact b)]
        by_cases d : bt (r (23 + k / 10)) kd = true
        · rw [if_pos d]
          have d' : cer r kd (k / 10) = true := d
          cases e : shr r (k / 10) p
          · rw [if_pos (by rw [ms]; exact e)]
            simp [bI]
          · rw [if_neg (by rw [ms]; intro z; rw [show shr r (k / 10) p = false from z] at e; cases e)]
            simp [a, b, d', bI]
        · rw [if_neg d]
          have d' : cer r kd (k / 10) = false := by unfold cer; simpa using d
          simp [d', bI]
    · rw [if_neg (by simpa using a)]
      simp [a, bI]
  have e50 : (if bI (sec r kd p (k / 10)) = 0 then some 0 else (if bI (isp r (nI (k % 10))) = 0 then some 0 else (if nI (k % 10) = nI p then some 0 else (if nI (k % 10) = nI (k / 10) then some 0 else gIn (nI (23 + k % 10)) 373 <| nm (r (23 + k % 10)) fun x41 => nm ((x41 >>> (nI kd &&& 31)) &&& 1) fun x42 => (if x42 = 1 then gIn (nI (13 + k % 10)) 373 <| nm (r (13 + k % 10)) fun x46 => gIn (nI (13 + k / 10)) 373 <| nm (r (13 + k / 10)) fun x48 => (if (x46 &&& x48) = 0 then some 0 else some 1) else some 0))))) = (some (bI (sec r kd p (k / 10) && thd r kd p (k / 10) (k % 10))) : Option Int32) := by
    rw [bI_ite, isp_b hn (by omega), bI_ite, pz_in (by omega) (by omega), pz_in (by omega) (by omega)]
    simp only [pz_nm]
    rw [pz_in (by omega) (by omega), shr1 _ hk, bI_one]
    by_cases s : sec r kd p (k / 10) = true
    · rw [if_pos s, s, Bool.true_and]
      have hb := (sec_iff.mp s).1
      unfold thd
      by_cases a : k % 10 < ppl r
      · rw [if_pos (by simpa using a)]
        have ms := meet_MK (sp_MK hP a) (sp_MK hP hb)
        by_cases b : k % 10 = p
        · rw [if_pos (by rw [ec]; exact b)]
          simp [b, bI]
        · rw [if_neg (by rw [ec]; exact b)]
          by_cases b2 : k % 10 = k / 10
          · rw [if_pos (by rw [ecb]; exact b2)]
            simp [b2, bI]
          · rw [if_neg (by rw [ecb]; exact b2)]
            by_cases d : bt (r (23 + k % 10)) kd = true
            · rw [if_pos d]
              have d' : cer r kd (k % 10) = true := d
              cases e : shr r (k % 10) (k / 10)
              · rw [if_pos (by rw [ms]; exact e)]
                simp [bI]
              · rw [if_neg (by rw [ms]; intro z; rw [show shr r (k % 10) (k / 10) = false from z] at e; cases e)]
                simp [a, b, b2, d', bI]
            · rw [if_neg d]
              have d' : cer r kd (k % 10) = false := by unfold cer; simpa using d
              simp [d', bI]
      · rw [if_neg (by simpa using a)]
        simp [a, bI]
    · rw [if_neg s]
      have s' : sec r kd p (k / 10) = false := by simpa using s
      rw [s']
      rfl
  rw [f_X8_missingNow_L61, er, ed]
  rw [show (100 : Int32) = nI 100 from rfl, if_neg (by rw [pz_le (by omega) (by omega)]; omega), s8_isPerson hz hn, pz_bnd, s8_isPerson hz hn, show (23 : Int32) = nI 23 from rfl, show (13 : Int32) = nI 13 from rfl]
  simp only [pz_add, pz_bnd]
  rw [pz_cl (k := 23 + k / 10) (by omega), pz_cl (k := 13 + k / 10) (by omega), hz, e31, pz_bnd]
  simp only [pz_nm]
  rw [pz_cl (k := 23 + k % 10) (by omega), pz_cl (k := 13 + k % 10) (by omega)]
  simp only [pz_nm] at e50
  rw [e50, pz_bnd, bI_ite, bI_ite, bI_ite, pz_in (by omega) (by omega), pz_in (by omega) (by omega), and1, and1, bI_one, bI_one, pz_s]
  unfold ldk sp
  cases f <;> cases sec r kd p (k / 10) <;> cases thd r kd p (k / 10) (k % 10) <;> cases bt (r (13 + k / 10)) 0 <;> cases bt (r (13 + k % 10)) 0 <;> rfl
theorem s8_missNow (hz : m.1 163 = r) (hn : NumW r) (hP : PEO r) (hk : kd < 10) : ∃ M, f_X8_missingNow (nI kd) m = some M ∧ MK M (fun l => decide (1 ≤ l) && !exN (fun q => cer r kd q && (lds r kd q && sp r q l)) (ppl r)) := by
  have h10 := hn.1
  have e : ∃ M, lp (f_X8_missingNow_L4 (nI kd) m) 1000000 (0, 0) = some M ∧ MK M (fun l => exN (fun q => cer r kd q && (lds r kd q && sp r q l)) (ppl r)) := by
    refine lp_inv (fun i (s : Int32 × Int32) => s.2 = nI i ∧ MK s.1 (fun l => exN (fun q => cer r kd q && (lds r kd q && sp r q l)) i)) (N := ppl r) (fun i s hi hI => ?_) (fun s hI => ?_) _ ⟨rfl, MK.none⟩ (by omega)
    · obtain ⟨N, w⟩ := s
      obtain ⟨rfl, hN⟩ := hI
      dsimp only at hN
      have ms := sp_MK hP hi
      rw [f_X8_missingNow_L4, hz, hn.2.1, if_neg (by rw [pz_le (by omega) (by omega)]; omega), show (23 : Int32) = nI 23 from rfl, show (13 : Int32) = nI 13 from rfl, pz_add, pz_add, pz_in (by omega) (by omega), pz_cl (by omega)]
      simp only [pz_nm]
      rw [shr1 _ hk, bI_one, pz_in (by omega) (by omega), pz_cl (by omega), pz_s]
      by_cases a : bt (r (23 + i)) kd = true
      · rw [if_pos a]
        have ac : cer r kd i = true := a
        have e14 : (if r (13 + i) &&& 1 = 1 then some (1 : Int32) else some 0) = some (bI (sp r i 0)) := by
          rw [and1, bI_one]
          unfold sp
          by_cases z : bt (r (13 + i)) 0 = true
          · rw [if_pos z, z]; rfl
          · have z' : bt (r (13 + i)) 0 = false := by simpa using z
            rw [if_neg z, z']; rfl
        have el : lp (f_X8_missingNow_L61 (nI kd) m (nI i) (r (13 + i))) 1000000 (bI (sp r i 0), 0) = some (bI (lds r kd i)) := by
          have := lp_cnt (body := f_X8_missingNow_L61 (nI kd) m (nI i) (r (13 + i))) (fun k => (bI (sp r i 0 || exN (ldk r kd i) k), nI k)) (N := 100) (t := bI (lds r kd i)) (fun k hk' => by
            rw [s8_leadsL hz hn hP hk hi hk', exN, Bool.or_assoc]) (by
            rw [f_X8_missingNow_L61, show (100 : Int32) = nI 100 from rfl, if_pos (by rw [pz_le (by omega) (by omega)]; omega)]
            rfl) (n := 1000000) (by omega)
          have z0 : (sp r i 0 || exN (ldk r kd i) 0) = sp r i 0 := by simp [exN]
          rw [z0] at this
          exact this
        rw [e14, pz_bnd, el, pz_bnd, bI_ite]
        by_cases d : lds r kd i = true
        · rw [if_pos d]
          refine ⟨_, rfl, rfl, ?_⟩
          exact (hN.or ms).cong fun l _ => by simp [exN, ac, d]
        · rw [if_neg d]
          have d' : lds r kd i = false := by simpa using d
          refine ⟨_, rfl, rfl, ?_⟩
          exact (hN.or MK.none).cong fun l _ => by simp [exN, ac, d']
      · rw [if_neg a]
        have ac : cer r kd i = false := by unfold cer; simpa using a
        refine ⟨_, rfl, rfl, ?_⟩
        exact hN.cong fun l _ => by simp [exN, ac]
    · obtain ⟨N, w⟩ := s
      obtain ⟨rfl, hN⟩ := hI
      rw [f_X8_missingNow_L4, hz, hn.2.1, if_pos (by rw [pz_le (by omega) (by omega)]; omega)]
      exact ⟨N, rfl, hN⟩
  obtain ⟨M, e, hM⟩ := e
  exact ⟨_, by rw [f_X8_missingNow, e, pz_bnd, pz_nm], MK_1022.diff hM⟩
theorem miss_same {c : Nat} {m' : Mem} (hC : CR0 c m r) (hz : m'.1 163 = r) (hn : NumW r) (hP : PEO r) (hk : kd < 10) : ∃ M, f_X6_languagesWithoutChain c (nI kd) m = some M ∧ f_X8_missingNow (nI kd) m' = some M := by
  obtain ⟨M, e, h⟩ := s6_without hC hn hP hk
  obtain ⟨N, e2, h2⟩ := s8_missNow hz hn hP hk
  refine ⟨M, e, ?_⟩
  rw [e2]
  refine congrArg some (h2.uniq (h.cong fun l hl => ?_))
  by_cases q : 1 ≤ l
  · rw [rch3 q hn.1]
  · simp [q]
theorem o_missing (hC : AC m A) (hM : AM m A) (ok : Ok A) : OPS (w_L_missing x m) (f_X8_missing x) := by
  have gd := ok.2.2.1
  have hn := gd.1.1.1
  cases hv : wth x 0 2
  · refine ops_throw hC hM ok (c := 1) (by decide) ?_ ?_
    · rw [w_L_missing, e_X7_missing, s7_wth, pz_bnd, bI_ite, if_neg (by rw [hv]; simp), pz_bnd]
      rfl
    · rw [f_X8_missing, s8_wth, pz_bnd, bI_ite, if_neg (by rw [hv]; simp), pz_bnd, pz_nm, si_at, if_neg (by decide)]
  obtain ⟨k, -, k7, rfl⟩ := wth_of (a := 0) (b := 2) (by omega) (by omega) hv
  obtain ⟨M, e1, -⟩ := miss_same (kd := k) hC.1.1 hM.1 hn gd.1.2.2.1 (by omega)
  refine ops_read hC hM ok (y := M) ⟨m, ?_, hC, FrX.rf⟩ (fun m1 am => ⟨si m1 162 5 0, ?_, am.set5 (by decide) (by decide) 0, FrM.rf.put (by omega), si_at _ _ _ _⟩)
  · rw [w_L_missing, e_X7_missing, s7_wth, pz_bnd, bI_ite, if_pos hv, e1, pz_bnd, pz_bnd]
  · obtain ⟨M', e1', e2⟩ := miss_same (kd := k) hC.1.1 (am.set5 (j := 5) (by decide) (by decide) 0).1 hn gd.1.2.2.1 (by omega)
    rw [e1] at e1'
    rw [f_X8_missing, s8_wth, pz_bnd, bI_ite, if_pos hv, pz_bnd, pz_nm, si_at, if_pos (by decide), e2, pz_bnd, ← Option.some.inj e1']
end MISS3
