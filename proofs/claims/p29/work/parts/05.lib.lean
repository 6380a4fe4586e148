/-! THE MACHINE OVER ONE MEMORY: after the constructors the objects stand still; what moves is a table of ints (and of longs), by cell and place. -/
abbrev Mem : Type := (Nat → Nat → Int32) × (Nat → Nat → Int64)
/-- the tables, the classes of the arrays, the addresses of the cells, where the new heap begins -/
abbrev GG : Type := va_G × (ClassId × ClassId × ClassId) × (Nat → Nat) × Nat
abbrev gD (G : GG) : va_G := G.1
abbrev gT (G : GG) : ClassId × ClassId × ClassId := G.2.1
abbrev ga (G : GG) : Nat → Nat := G.2.2.1
abbrev gA (G : GG) : Nat → Prop := fun q => G.2.2.2 ≤ q
abbrev tysT (T : ClassId × ClassId × ClassId) : List (ClassId × FieldType) := [(T.1, .int), (T.2.1, .object "CourtRelays$Court")]
def NC : Nat := 166
def shpC (c r : Nat) : (Nat × List Nat) ⊕ (Nat × Nat) :=
  if r = 0 then .inl (2, [c + 1 + 2, c + 8 + 2, c + 18 + 2, 0, 0, 0, 0])
  else if r = 1 then .inl (6, [0, c + 2 + 2, c + 3 + 2, c + 4 + 2, c + 5 + 2, c + 6 + 2, c + 7 + 2])
  else if r < 8 then .inr (0, 10)
  else if r = 8 then .inl (3, [0, c + 9 + 2, c + 10 + 2, c + 11 + 2, c + 12 + 2, c + 13 + 2, c + 14 + 2, c + 15 + 2, c + 16 + 2, c + 17 + 2])
  else if r < 17 then .inr (0, 30)
  else if r = 17 then .inr (0, 90)
  else .inr (0, 7)
def shpT : List ((Nat × List Nat) ⊕ (Nat × Nat)) :=
  [.inl (0, [0, 156 + 2]), .inr (0, 60), .inl (5, [0, 0, 0, 0, 0, 0]), .inl (1, [0, 0, 0, 0, 0, 0, 0, 0, 159 + 2, 160 + 2, 161 + 2]), .inr (0, 10), .inr (0, 10), .inr (0, 10),
   .inr (0, 14), .inr (0, 30), .inr (0, 48), .inr (0, 8)]
/-- what stands at a cell: an object (class, its fields: 0 an int, 1 a long, k + 2 the cell k), or an array (0 of ints, 1 of courts, 2 of longs; its length) -/
def shp (k : Nat) : (Nat × List Nat) ⊕ (Nat × Nat) :=
  if k = 0 then .inl (7, [1 + 2, 20 + 2, 39 + 2, 155 + 2, 157 + 2, 158 + 2])
  else if k < 39 then shpC (k - (k - 1) % 19) ((k - 1) % 19)
  else if k = 39 then .inl (4, [0, 0, 40 + 2])
  else if k = 40 then .inr (1, 6)
  else if k < 155 then shpC (k - (k - 41) % 19) ((k - 41) % 19)
  else shpT.getD (k - 155) (.inr (0, 0))
def fv (ad : Nat → Nat) (f : Nat → Int32) (g : Nat → Int64) (j d : Nat) : Value := match d with
  | 0 => .int (f j)
  | 1 => .long (g j)
  | r + 2 => .ref (ad r)
def fvs (ad : Nat → Nat) (f : Nat → Int32) (g : Nat → Int64) : Nat → List Nat → List Value
  | _, [] => []
  | j, d :: ds => fv ad f g j d :: fvs ad f g (j + 1) ds
theorem fvs_length (ad : Nat → Nat) (f : Nat → Int32) (g : Nat → Int64) : ∀ (ds : List Nat) (b : Nat), (fvs ad f g b ds).length = ds.length
  | [], _ => rfl
  | _ :: ds, b => by rw [fvs, List.length_cons, List.length_cons, fvs_length ad f g ds (b + 1)]
theorem fvs_get (ad : Nat → Nat) (f : Nat → Int32) (g : Nat → Int64) : ∀ (ds : List Nat) (b j d : Nat), ds[j]? = some d → (fvs ad f g b ds)[j]? = some (fv ad f g (b + j) d)
  | [], _, j, d, h => by simp at h
  | e :: ds, b, 0, d, h => by
    have : e = d := by simpa using h
    subst this
    rfl
  | e :: ds, b, j + 1, d, h => by
    have h' : ds[j]? = some d := by simpa using h
    have := fvs_get ad f g ds (b + 1) j d h'
    rw [show b + 1 + j = b + (j + 1) by omega] at this
    exact this
theorem fvs_cong (ad : Nat → Nat) {f f' : Nat → Int32} {g g' : Nat → Int64} : ∀ (ds : List Nat) (b : Nat), (∀ i, b ≤ i → f i = f' i) → (∀ i, b ≤ i → g i = g' i) → fvs ad f g b ds = fvs ad f' g' b ds
  | [], _, _, _ => rfl
  | d :: ds, b, h, h2 => by
    rw [fvs, fvs, fvs_cong ad ds (b + 1) (fun i hi => h i (by omega)) (fun i hi => h2 i (by omega))]
    congr 1
    match d with
    | 0 => simp only [fv, h b (Nat.le_refl b)]
    | 1 => simp only [fv, h2 b (Nat.le_refl b)]
    | r + 2 => rfl
theorem fvs_seti (ad : Nat → Nat) (f : Nat → Int32) (g : Nat → Int64) (v : Int32) : ∀ (ds : List Nat) (b j : Nat), ds[j]? = some 0 → (fvs ad f g b ds).set j (.int v) = fvs ad (fun i => if i = b + j then v else f i) g b ds
  | [], _, j, h => by simp at h
  | e :: ds, b, 0, h => by
    have he : e = 0 := by simpa using h
    subst he
    show Value.int v :: fvs ad f g (b + 1) ds = fv ad _ g b 0 :: fvs ad _ g (b + 1) ds
    rw [fvs_cong ad (f' := fun i => if i = b + 0 then v else f i) (g' := g) ds (b + 1) (fun i hi => by rw [if_neg (by omega)]) (fun _ _ => rfl)]
    simp [fv]
  | e :: ds, b, j + 1, h => by
    have h' : ds[j]? = some 0 := by simpa using h
    have ih := fvs_seti ad f g v ds (b + 1) j h'
    show fv ad f g b e :: (fvs ad f g (b + 1) ds).set j (.int v) = fv ad _ g b e :: fvs ad _ g (b + 1) ds
    rw [ih, show b + 1 + j = b + (j + 1) by omega]
    congr 1
    match e with
    | 0 => simp only [fv]; rw [if_neg (by omega)]
    | 1 => rfl
    | r + 2 => rfl
theorem fvs_setl (ad : Nat → Nat) (f : Nat → Int32) (g : Nat → Int64) (v : Int64) : ∀ (ds : List Nat) (b j : Nat), ds[j]? = some 1 → (fvs ad f g b ds).set j (.long v) = fvs ad f (fun i => if i = b + j then v else g i) b ds
  | [], _, j, h => by simp at h
  | e :: ds, b, 0, h => by
    have he : e = 1 := by simpa using h
    subst he
    show Value.long v :: fvs ad f g (b + 1) ds = fv ad f _ b 1 :: fvs ad f _ (b + 1) ds
    rw [fvs_cong ad (f' := f) (g' := fun i => if i = b + 0 then v else g i) ds (b + 1) (fun _ _ => rfl) (fun i hi => by rw [if_neg (by omega)])]
    simp [fv]
  | e :: ds, b, j + 1, h => by
    have h' : ds[j]? = some 1 := by simpa using h
    have ih := fvs_setl ad f g v ds (b + 1) j h'
    show fv ad f g b e :: (fvs ad f g (b + 1) ds).set j (.long v) = fv ad f _ b e :: fvs ad f _ (b + 1) ds
    rw [ih, show b + 1 + j = b + (j + 1) by omega]
    congr 1
    match e with
    | 0 => rfl
    | 1 => simp only [fv]; rw [if_neg (by omega)]
    | r + 2 => rfl
/-- the addresses of the six saved courts -/
def savedOff (i : Nat) : Nat := 41 + 19 * i
def cel (G : GG) (μ : Mem) (k : Nat) : va_E := match shp k with
  | .inl (ci, ds) => .inr (ci, fvs (ga G) (μ.1 k) (μ.2 k) 0 ds)
  | .inr (0, n) => .inl ((gT G).1, n, .inl (μ.1 k))
  | .inr (1, n) => .inl ((gT G).2.1, n, .inr (.inr (.inr (.inr (fun i => some (ga G (savedOff i)))))))
  | .inr (_, n) => .inl ((gT G).2.2, n, .inr (.inl (μ.2 k)))
theorem cel_cong {G : GG} {μ μ' : Mem} {k : Nat} (h : μ.1 k = μ'.1 k) (h2 : μ.2 k = μ'.2 k) : cel G μ k = cel G μ' k := by
  unfold cel
  rw [h, h2]
def HR (G : GG) (μ : Mem) (H : Heap) : Prop := ∀ k, k < NC → va_at (gD G) vwCl (ga G k, cel G μ k) H
def AD (G : GG) : Prop := (∀ i j, i < NC → j < NC → ga G i = ga G j → i = j) ∧ ∀ k, k < NC → gA G (ga G k)
def wsl (G : GG) (μ : Mem) : va_W := (List.range NC).map fun k => (ga G k, cel G μ k)
theorem wsl_get {G : GG} {μ : Mem} {k : Nat} (h : k < NC) : (wsl G μ)[k]? = some (ga G k, cel G μ k) := by
  unfold wsl
  rw [List.getElem?_map, List.getElem?_range h]
  rfl
theorem wsl_lt {G : GG} {μ : Mem} {k : Nat} {q : Nat × va_E} (h : (wsl G μ)[k]? = some q) : k < NC ∧ q = (ga G k, cel G μ k) := by
  have hk : k < NC := by
    have := (List.getElem?_eq_some_iff.mp h).1
    simpa [wsl] using this
  rw [wsl_get hk] at h
  exact ⟨hk, (Option.some.inj h).symm⟩
theorem wsl_P {G : GG} {μ : Mem} {H : Heap} (h : HR G μ H) : va_P (gD G) vwCl (wsl G μ) H := by
  intro k q hq
  obtain ⟨hk, rfl⟩ := wsl_lt hq
  exact h k hk
theorem P_wsl {G : GG} {μ : Mem} {H : Heap} (h : va_P (gD G) vwCl (wsl G μ) H) : HR G μ H := fun k hk => h k _ (wsl_get hk)
theorem wsl_D {G : GG} {μ : Mem} (h : AD G) : va_D (gA G) (wsl G μ) := by
  refine ⟨fun i j p q hp hq e => ?_, fun k q hq => ?_⟩
  · obtain ⟨hi, rfl⟩ := wsl_lt hp
    obtain ⟨hj, rfl⟩ := wsl_lt hq
    exact h.1 i j hi hj e
  · obtain ⟨hk, rfl⟩ := wsl_lt hq
    exact h.2 k hk
theorem wsl_set {G : GG} {μ μ' : Mem} {k : Nat} {x : va_E} (hx : cel G μ' k = x) (h1 : ∀ j, j ≠ k → μ'.1 j = μ.1 j) (h2 : ∀ j, j ≠ k → μ'.2 j = μ.2 j) : (wsl G μ).set k (ga G k, x) = wsl G μ' := by
  apply List.ext_getElem?
  intro j
  by_cases hj : j < NC
  · rw [wsl_get hj]
    by_cases hk : k = j
    · subst hk
      rw [List.getElem?_set_self (by simpa [wsl] using hj), hx]
    · rw [List.getElem?_set_ne hk, wsl_get hj]
      have hk' : j ≠ k := fun e => hk e.symm
      rw [cel_cong (h1 j hk') (h2 j hk')]
  · have hl : ∀ μ : Mem, (wsl G μ).length = NC := fun μ => by simp [wsl]
    have h1 := hl μ
    have h2 := hl μ'
    rw [List.getElem?_eq_none (l := wsl G μ') (by omega), List.getElem?_eq_none (l := (wsl G μ).set k (ga G k, x)) (by rw [List.length_set]; omega)]
def si (μ : Mem) (k j : Nat) (v : Int32) : Mem := (fun a i => if a = k ∧ i = j then v else μ.1 a i, μ.2)
def slm (μ : Mem) (k j : Nat) (v : Int64) : Mem := (μ.1, fun a i => if a = k ∧ i = j then v else μ.2 a i)
def sa (μ : Mem) (k : Nat) (f : Nat → Int32) : Mem := (fun a => if a = k then f else μ.1 a, μ.2)
theorem si_ne {μ : Mem} {k j : Nat} {v : Int32} {a : Nat} (h : a ≠ k) : (si μ k j v).1 a = μ.1 a := by
  funext i
  show (if a = k ∧ i = j then v else μ.1 a i) = _
  rw [if_neg (fun q => h q.1)]
theorem si_eq {μ : Mem} {k j : Nat} {v : Int32} : (si μ k j v).1 k = fun i => if i = j then v else μ.1 k i := by
  funext i
  show (if k = k ∧ i = j then v else μ.1 k i) = _
  simp
theorem sl_ne {μ : Mem} {k j : Nat} {v : Int64} {a : Nat} (h : a ≠ k) : (slm μ k j v).2 a = μ.2 a := by
  funext i
  show (if a = k ∧ i = j then v else μ.2 a i) = _
  rw [if_neg (fun q => h q.1)]
theorem sl_eq {μ : Mem} {k j : Nat} {v : Int64} : (slm μ k j v).2 k = fun i => if i = j then v else μ.2 k i := by
  funext i
  show (if k = k ∧ i = j then v else μ.2 k i) = _
  simp
/-- the law's script: L ints at an old cell -/
abbrev fs1 : Nat → Int32 := fun j => ([2, 1, 1, 600, 60, 1440, 20] : List Int32).getD j 0
abbrev fs2 : Nat → Int32 := fun j => ([20, 20, 20, 1000, 2000, 5000, 100] : List Int32).getD j 0
/-- the statics, which nobody writes: at 200 and 201 the two tables -/
def OF (G : GG) (U : State) (H : Heap) : Prop :=
  va_Z "CourtRelays" "FIRST_SETTINGS" "[I" (.ref (ga G 200)) (gA G) U H ∧ va_T .int (ga G 200) 7 (fun j => .int (fs1 j)) (gA G) U H ∧
  va_Z "CourtRelays" "MOST_OF_SETTINGS" "[I" (.ref (ga G 201)) (gA G) U H ∧ va_T .int (ga G 201) 7 (fun j => .int (fs2 j)) (gA G) U H
theorem OF.moved {G : GG} {u U : State} {H : Heap} (hvm : u.vm.Alike U.vm) (h : OF G u H) : OF G U H := ⟨h.1.moved hvm, h.2.1.moved hvm, h.2.2.1.moved hvm, h.2.2.2.moved hvm⟩
theorem OF.kept {G : GG} {U : State} {H H1 : Heap} (h : OF G U H) (hq : ∀ a : Nat, a < H.size → ¬ gA G a → H1[a]? = H[a]?) : OF G U H1 := ⟨h.1.kept hq, h.2.1.kept hq, h.2.2.1.kept hq, h.2.2.2.kept hq⟩
/-- the words that a warming keeps, though they aren't of the good ones: links between nest mates, casts, declarations -/
def nwL : List Cond := [(Jvm.Cond.methodLinkNest "CourtRelays" (9 : Nat) ({ cls := "CourtRelays$Court", name := "<init>", desc := "()V" } : Jvm.MethodName) "CourtRelays"), (Jvm.Cond.methodLinkNest "CourtRelays$Court" (11 : Nat) ({ cls := "CourtRelays$Staff", name := "<init>", desc := "()V" } : Jvm.MethodName) "CourtRelays"), (Jvm.Cond.methodLinkNest "CourtRelays$Court" (20 : Nat) ({ cls := "CourtRelays$Docket", name := "<init>", desc := "()V" } : Jvm.MethodName) "CourtRelays"), (Jvm.Cond.fieldLinkNest "CourtRelays$Court" (25 : Nat) "CourtRelays" "FIRST_SETTINGS" "[I" "CourtRelays"), (Jvm.Cond.castable "[I" "java/lang/Cloneable"), (Jvm.Cond.methodLinkNest "CourtRelays$History" (17 : Nat) ({ cls := "CourtRelays$Court", name := "<init>", desc := "()V" } : Jvm.MethodName) "CourtRelays"), (Jvm.Cond.methodLinkNest "CourtRelays" (28 : Nat) ({ cls := "CourtRelays$Buffer", name := "<init>", desc := "()V" } : Jvm.MethodName) "CourtRelays"), (Jvm.Cond.methodLinkNest "CourtRelays" (35 : Nat) ({ cls := "CourtRelays$ListReader", name := "<init>", desc := "()V" } : Jvm.MethodName) "CourtRelays"), (Jvm.Cond.methodLinkNest "CourtRelays" (42 : Nat) ({ cls := "CourtRelays$ChainSearch", name := "<init>", desc := "()V" } : Jvm.MethodName) "CourtRelays"), (Jvm.Cond.methodLinkNest "CourtRelays$Docket" (61 : Nat) ({ cls := "CourtRelays", name := "maskOf", desc := "(III)I" } : Jvm.MethodName) "CourtRelays"), (Jvm.Cond.methodLinkNest "CourtRelays$Court" (80 : Nat) ({ cls := "CourtRelays", name := "maskOf", desc := "(III)I" } : Jvm.MethodName) "CourtRelays"), (Jvm.Cond.methodLinkNest "CourtRelays$Staff" (51 : Nat) ({ cls := "CourtRelays", name := "bitOf", desc := "(I)I" } : Jvm.MethodName) "CourtRelays"), (Jvm.Cond.methodLinkNest "CourtRelays$Docket" (53 : Nat) ({ cls := "CourtRelays", name := "bitOf", desc := "(I)I" } : Jvm.MethodName) "CourtRelays"), (Jvm.Cond.methodLinkNest "CourtRelays$Court" (151 : Nat) ({ cls := "CourtRelays", name := "bitOf", desc := "(I)I" } : Jvm.MethodName) "CourtRelays")]
/-- the written texts of the exceptions -/
def strL : List (String × Nat × String) := []
/-- no exception of the one class is one of the other -/
def ncL : List (String × String) := []
def NWs (U : State) : Prop := (∀ w ∈ nwL, va_Nw w U) ∧ (∀ q ∈ strL, ∃ a, vk_R q.1 q.2.1 q.2.2 a U) ∧ ∀ q ∈ ncL, va_Nc q.1 q.2 U
theorem nwL_tbl : ∀ w ∈ nwL, w ∈ lw_tbl := by decide +kernel
theorem nwL_on : ∀ w ∈ nwL, w.onTables = true := by decide +kernel
theorem NWs.same {u U : State} (h : u.vm = U.vm) (hZ : NWs u) : NWs U := ⟨fun w hw => va_Nw.same (nwL_on w hw) h (hZ.1 w hw), fun q hq => by
  obtain ⟨a, ha⟩ := hZ.2.1 q hq
  exact ⟨a, vk_R.same h.symm ha⟩, fun q hq => va_Nc.moved (by rw [h]; exact Vm.Alike.refl _) (hZ.2.2 q hq)⟩
theorem nwL_all {P : Cond → Prop} (h1 : ∀ a i x h, P (.methodLinkNest a i x h)) (h2 : ∀ a i b n d h, P (.fieldLinkNest a i b n d h)) (h3 : ∀ a b, P (.castable a b)) (h4 : ∀ x, P (.declares x)) : ∀ w ∈ nwL, P w := by
  unfold nwL
  simp only [List.forall_mem_cons, List.not_mem_nil, false_imp_iff, implies_true, and_true, h1, h2, h3, h4]
theorem NWs.warm {s U : State} (hW : s.WarmedH U.vm) (hZ : NWs s) : NWs U := by
  have key : ∀ w ∈ nwL, va_Nw w s → va_Nw w U := nwL_all (fun a i x h => va_Nw.warmM hW) (fun a i b n d h => va_Nw.warmF hW) (fun a b => va_Nw.warmC hW) (fun x => va_Nw.warmD hW)
  exact ⟨fun w hw => key w hw (hZ.1 w hw), fun q hq => by
    obtain ⟨a, ha⟩ := hZ.2.1 q hq
    exact ⟨a, vk_R.warm hW ha⟩, fun q hq => va_Nc.moved hW.alike (hZ.2.2 q hq)⟩
/-- a state over which the class's and the law's methods run -/
def RU (G : GG) (μ : Mem) (U : State) : Prop := HR G μ U.heap ∧ va_K (gD G) vwCl (tysT (gT G)) U ∧ AD G ∧ OF G U U.heap ∧ G.2.2.2 ≤ U.heap.size ∧ NWs U
/-- all good words of the tables -/
def lw_all : List Cond := lw_tbl.filter goodWord
theorem all_of {w : Cond} (h : w ∈ lw_tbl) (g : goodWord w = true) : w ∈ lw_all := List.mem_filter.mpr ⟨h, g⟩
theorem all_tbl {w : Cond} (h : w ∈ lw_all) : w ∈ lw_tbl := (List.mem_filter.mp h).1
theorem all_good {w : Cond} (h : w ∈ lw_all) : (w.onTables && w.keeps) = true ∨ ∃ ty, w = .arrayClass ty := good_of_word (List.mem_filter.mp h).2
abbrev ws_ (y : MethodName) (cc : ByteArray) (n : Nat) (ret : Option FieldType) : List Cond := .code y cc n ret :: lw_all
theorem ws_in {y : MethodName} {cc : ByteArray} {n : Nat} {ret : Option FieldType} (h : Cond.code y cc n ret ∈ lw_all) : GoodIn lw_all (ws_ y cc n ret) := by
  intro w hw
  rcases List.mem_cons.mp hw with e | e
  · rw [e]; exact ⟨h, all_good h⟩
  · exact ⟨e, all_good e⟩
/-- a method's answer and the memory behind it -/
def QR (G : GG) (r : Option Value) (μ' : Mem) : Array Value → State → Outcome → State → Prop := fun _ st o t => o = .returned r ∧ HR G μ' t.heap ∧ va_F (gA G) st t
def Con (y : MethodName) (cc : ByteArray) (maxL : Nat) (rt : Option FieldType) (fr lo : Nat) (vs : GG → List Value) (μ : Mem) (r : Option Value) (μ' : Mem) : Prop :=
  ∀ (l : Launch), l.flags = flags0 → ∀ G : GG, Met l y (ws_ y cc maxL rt) ({ frames := fr, cells := 0, slots := 0, locals := lo }) (va_Pc (vs G) (RU G μ)) (QR G r μ') 0 0 (gA G)
/-- a frame's surroundings -/
abbrev Cx : Type := Program × Launch × Env × Room × State × MethodId × Array Value × List Frame × Method × Code × GG × Nat
abbrev Cx.G (X : Cx) : GG := X.2.2.2.2.2.2.2.2.2.2.1
abbrev Cx.S (X : Cx) : State := X.2.2.2.2.1
def Fm (X : Cx) (cc : ByteArray) (own : String) (rt : Option FieldType) (fr lo nL : Nat) : Prop := match X with
  | (p, l, _, R, s, m, args, _, meth, c, G, n) => p.tables.exec = Jvm.exec ∧ c.code = cc ∧ c.maxLocals = nL ∧ s.vm.findClass own = some m.cls ∧ (∀ w ∈ lw_all, w.before args s = true) ∧ va_K (gD G) vwCl (tysT (gT G)) s ∧ AD G ∧ OF G s s.heap ∧ G.2.2.2 ≤ s.heap.size ∧
    meth.sig.returnType = rt ∧ meth.locks = false ∧ fr ≤ R.frames ∧ lo ≤ R.locals ∧ n = nL ∧ l.flags = flags0 ∧ NWs s
def WA (X : Cx) (ce sl pc : Nat) (lv : List (Nat × Value)) (st : List Value) (μ : Mem) (Q : State → Prop) : Prop := match X with
  | (p, l, e, R, s, m, args, below, meth, c, G, n) => ∀ (H : Heap) (locs : List Loc) (ls : Array Slot), HR G μ H → va_S (gA G) s.heap H locs → lv_has ls n lv → W p l e R s m args below meth c H locs ce sl Q (F0 m pc ls st)
/-- a method's end -/
def EQ (X : Cx) (r : Option Value) (μ' : Mem) : State → Prop := match X with
  | (_, _, _, _, s, _, args, below, _, _, G, _) => MQ below (QR G r μ') args s 0 0 (gA G)
theorem con_of {y : MethodName} {cc : ByteArray} {maxL : Nat} {rt : Option FieldType} {fr lo : Nat} {vs : GG → List Value} {μ : Mem} {r : Option Value} {μ' : Mem} (hy : plainName y.cls = true) (hlen : ∀ G, (lg_sl (vs G)).length ≤ maxL) 
    (body : ∀ X : Cx, Fm X cc y.cls rt fr lo maxL → WA X 0 0 0 (lv_args 0 (vs X.G)) [] μ (EQ X r μ')) : Con y cc maxL rt fr lo vs μ r μ' := by
  intro l hfl G
  refine Met.ofW (cc := cc) (maxL := maxL) (ret := rt) hy rfl ?_
  intro p e s m args below meth c s₁ B hml hv
  obtain ⟨rfl, hH, hK, hA, hO, hsz, hNW⟩ := hv
  have hts := atoms_spec (ws := ws_ y cc maxL rt) B.pre
  have hown : s.vm.findClass y.cls = some m.cls := findClass_of_methodNamed B.named
  have hl := lv_entry (vs G) (n := maxL) (hlen G)
  rw [lg_entry_eq]
  exact body (p, l, e, _, s, m, _, below, meth, c, G, maxL) ⟨B.exec, B.bytes, hml, hown, fun w h => hts w (List.mem_cons_of_mem _ h), hK, hA, hO, hsz, B.returns, B.notSynchronized, Nat.le_refl _, Nat.le_refl _, rfl, hfl, hNW⟩ s.heap [] _ hH va_S.rf hl
