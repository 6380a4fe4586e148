def RX0 : String := "CourtRelays$Buffer"
def TX0 : u_T := fun k => match k with
  | 0 => ("CourtRelays$Buffer", "length", "I", false)
  | _ => ("CourtRelays$Buffer", "codes", "[I", true)
def tyX0 : Nat → FieldType := fun k => match k with
  | 0 => .int
  | _ => .array .int
abbrev wsX00 : List Cond := u_ws RX0 TX0 2
theorem nmX0 : ∀ a, a < 2 → ∀ b, b < 2 → a ≠ b → (TX0 a).2.1 ≠ (TX0 b).2.1 := by decide +kernel
theorem tyX0_ok : ∀ k, k < 2 → parseFieldDescriptor (TX0 k).2.2.1 = some (tyX0 k) := by decide +kernel
abbrev cX0_init : ByteArray := prog_2_method_1_code
def yX0_init : MethodName := ⟨RX0, "<init>", "()V"⟩
def RX1 : String := "CourtRelays$ChainSearch"
def TX1 : u_T := fun k => match k with
  | 0 => ("CourtRelays$ChainSearch", "earned", "I", false)
  | 1 => ("CourtRelays$ChainSearch", "size", "I", false)
  | 2 => ("CourtRelays$ChainSearch", "first", "I", false)
  | 3 => ("CourtRelays$ChainSearch", "second", "I", false)
  | 4 => ("CourtRelays$ChainSearch", "third", "I", false)
  | 5 => ("CourtRelays$ChainSearch", "people", "I", false)
  | 6 => ("CourtRelays$ChainSearch", "beginners", "I", false)
  | 7 => ("CourtRelays$ChainSearch", "enders", "I", false)
  | 8 => ("CourtRelays$ChainSearch", "followers", "[I", true)
  | 9 => ("CourtRelays$ChainSearch", "alone", "[I", true)
  | _ => ("CourtRelays$ChainSearch", "shared", "[I", true)
def tyX1 : Nat → FieldType := fun k => match k with
  | 0 => .int
  | 1 => .int
  | 2 => .int
  | 3 => .int
  | 4 => .int
  | 5 => .int
  | 6 => .int
  | 7 => .int
  | 8 => .array .int
  | 9 => .array .int
  | _ => .array .int
abbrev wsX10 : List Cond := u_ws RX1 TX1 11
theorem nmX1 : ∀ a, a < 11 → ∀ b, b < 11 → a ≠ b → (TX1 a).2.1 ≠ (TX1 b).2.1 := by decide +kernel
theorem tyX1_ok : ∀ k, k < 11 → parseFieldDescriptor (TX1 k).2.2.1 = some (tyX1 k) := by decide +kernel
abbrev cX1_init : ByteArray := prog_3_method_1_code
def yX1_init : MethodName := ⟨RX1, "<init>", "()V"⟩
def RX2 : String := "CourtRelays$Court"
def TX2 : u_T := fun k => match k with
  | 0 => ("CourtRelays$Court", "staff", "LCourtRelays$Staff;", true)
  | 1 => ("CourtRelays$Court", "docket", "LCourtRelays$Docket;", true)
  | 2 => ("CourtRelays$Court", "settings", "[I", true)
  | 3 => ("CourtRelays$Court", "minute", "I", false)
  | 4 => ("CourtRelays$Court", "paid", "I", false)
  | 5 => ("CourtRelays$Court", "paidForVacated", "I", false)
  | _ => ("CourtRelays$Court", "paidForAdjourned", "I", false)
def tyX2 : Nat → FieldType := fun k => match k with
  | 0 => .object "CourtRelays$Staff"
  | 1 => .object "CourtRelays$Docket"
  | 2 => .array .int
  | 3 => .int
  | 4 => .int
  | 5 => .int
  | _ => .int
abbrev wsX20 : List Cond := u_ws RX2 TX2 7
theorem nmX2 : ∀ a, a < 7 → ∀ b, b < 7 → a ≠ b → (TX2 a).2.1 ≠ (TX2 b).2.1 := by decide +kernel
theorem tyX2_ok : ∀ k, k < 7 → parseFieldDescriptor (TX2 k).2.2.1 = some (tyX2 k) := by decide +kernel
abbrev cX2_init : ByteArray := prog_4_method_1_code
def yX2_init : MethodName := ⟨RX2, "<init>", "()V"⟩
abbrev cX2_copyFrom : ByteArray := prog_4_method_2_code
def yX2_copyFrom : MethodName := ⟨RX2, "copyFrom", "(LCourtRelays$Court;)V"⟩
abbrev cX2_hasStarted : ByteArray := prog_4_method_3_code
def yX2_hasStarted : MethodName := ⟨RX2, "hasStarted", "(I)Z"⟩
abbrev cX2_isAhead : ByteArray := prog_4_method_4_code
def yX2_isAhead : MethodName := ⟨RX2, "isAhead", "(I)Z"⟩
abbrev cX2_isUnderWay : ByteArray := prog_4_method_5_code
def yX2_isUnderWay : MethodName := ⟨RX2, "isUnderWay", "(I)Z"⟩
abbrev cX2_reasonAgainst : ByteArray := prog_4_method_6_code
def yX2_reasonAgainst : MethodName := ⟨RX2, "reasonAgainst", "(IIII)I"⟩
abbrev cX2_earns : ByteArray := prog_4_method_7_code
def yX2_earns : MethodName := ⟨RX2, "earns", "(IIZ)I"⟩
abbrev cX2_payOf : ByteArray := prog_4_method_8_code
def yX2_payOf : MethodName := ⟨RX2, "payOf", "(III)I"⟩
abbrev cX2_chainPay : ByteArray := prog_4_method_9_code
def yX2_chainPay : MethodName := ⟨RX2, "chainPay", "(II)I"⟩
abbrev cX2_payByNotice : ByteArray := prog_4_method_10_code
def yX2_payByNotice : MethodName := ⟨RX2, "payByNotice", "(I)I"⟩
abbrev cX2_close : ByteArray := prog_4_method_12_code
def yX2_close : MethodName := ⟨RX2, "close", "(III)I"⟩
abbrev cX2_passMinute : ByteArray := prog_4_method_13_code
def yX2_passMinute : MethodName := ⟨RX2, "passMinute", "()I"⟩
abbrev cX2_tireAndRest : ByteArray := prog_4_method_14_code
def yX2_tireAndRest : MethodName := ⟨RX2, "tireAndRest", "()V"⟩
abbrev cX2_adjournTired : ByteArray := prog_4_method_15_code
def yX2_adjournTired : MethodName := ⟨RX2, "adjournTired", "()V"⟩
abbrev cX2_working : ByteArray := prog_4_method_16_code
def yX2_working : MethodName := ⟨RX2, "working", "()I"⟩
abbrev cX2_workplaceOf : ByteArray := prog_4_method_17_code
def yX2_workplaceOf : MethodName := ⟨RX2, "workplaceOf", "(I)I"⟩
abbrev cX2_ofInterpreter : ByteArray := prog_4_method_18_code
def yX2_ofInterpreter : MethodName := ⟨RX2, "ofInterpreter", "(II)I"⟩
abbrev cX2_ofHearing : ByteArray := prog_4_method_19_code
def yX2_ofHearing : MethodName := ⟨RX2, "ofHearing", "(II)I"⟩
abbrev cX2_numberOf : ByteArray := prog_4_method_20_code
def yX2_numberOf : MethodName := ⟨RX2, "numberOf", "(I)I"⟩
def RX3 : String := "CourtRelays$Docket"
def TX3 : u_T := fun k => match k with
  | 0 => ("CourtRelays$Docket", "count", "I", false)
  | 1 => ("CourtRelays$Docket", "kind", "[I", true)
  | 2 => ("CourtRelays$Docket", "language", "[I", true)
  | 3 => ("CourtRelays$Docket", "start", "[I", true)
  | 4 => ("CourtRelays$Docket", "length", "[I", true)
  | 5 => ("CourtRelays$Docket", "stage", "[I", true)
  | 6 => ("CourtRelays$Docket", "size", "[I", true)
  | 7 => ("CourtRelays$Docket", "paid", "[I", true)
  | 8 => ("CourtRelays$Docket", "members", "[I", true)
  | _ => ("CourtRelays$Docket", "chain", "[I", true)
def tyX3 : Nat → FieldType := fun k => match k with
  | 0 => .int
  | 1 => .array .int
  | 2 => .array .int
  | 3 => .array .int
  | 4 => .array .int
  | 5 => .array .int
  | 6 => .array .int
  | 7 => .array .int
  | 8 => .array .int
  | _ => .array .int
abbrev wsX30 : List Cond := u_ws RX3 TX3 10
theorem nmX3 : ∀ a, a < 10 → ∀ b, b < 10 → a ≠ b → (TX3 a).2.1 ≠ (TX3 b).2.1 := by decide +kernel
theorem tyX3_ok : ∀ k, k < 10 → parseFieldDescriptor (TX3 k).2.2.1 = some (tyX3 k) := by decide +kernel
abbrev cX3_init : ByteArray := prog_5_method_1_code
def yX3_init : MethodName := ⟨RX3, "<init>", "()V"⟩
abbrev cX3_copyFrom : ByteArray := prog_5_method_2_code
def yX3_copyFrom : MethodName := ⟨RX3, "copyFrom", "(LCourtRelays$Docket;)V"⟩
abbrev cX3_has : ByteArray := prog_5_method_3_code
def yX3_has : MethodName := ⟨RX3, "has", "(I)Z"⟩
abbrev cX3_enter : ByteArray := prog_5_method_4_code
def yX3_enter : MethodName := ⟨RX3, "enter", "(IIII)I"⟩
abbrev cX3_isListed : ByteArray := prog_5_method_5_code
def yX3_isListed : MethodName := ⟨RX3, "isListed", "(I)Z"⟩
abbrev cX3_end : ByteArray := prog_5_method_6_code
def yX3_end : MethodName := ⟨RX3, "end", "(I)I"⟩
abbrev cX3_member : ByteArray := prog_5_method_7_code
def yX3_member : MethodName := ⟨RX3, "member", "(II)I"⟩
abbrev cX3_holds : ByteArray := prog_5_method_8_code
def yX3_holds : MethodName := ⟨RX3, "holds", "(II)Z"⟩
abbrev cX3_giveChain : ByteArray := prog_5_method_9_code
def yX3_giveChain : MethodName := ⟨RX3, "giveChain", "(IIII)V"⟩
abbrev cX3_listedAndClashing : ByteArray := prog_5_method_10_code
def yX3_listedAndClashing : MethodName := ⟨RX3, "listedAndClashing", "(II)Z"⟩
abbrev cX3_busyFor : ByteArray := prog_5_method_11_code
def yX3_busyFor : MethodName := ⟨RX3, "busyFor", "(I)I"⟩
abbrev cX3_clashesOf : ByteArray := prog_5_method_12_code
def yX3_clashesOf : MethodName := ⟨RX3, "clashesOf", "(I)I"⟩
abbrev cX3_listedWith : ByteArray := prog_5_method_13_code
def yX3_listedWith : MethodName := ⟨RX3, "listedWith", "(I)I"⟩
abbrev cX3_countStage : ByteArray := prog_5_method_14_code
def yX3_countStage : MethodName := ⟨RX3, "countStage", "(I)I"⟩
abbrev cX3_countListedManned : ByteArray := prog_5_method_15_code
def yX3_countListedManned : MethodName := ⟨RX3, "countListedManned", "()I"⟩
def RX4 : String := "CourtRelays$History"
def TX4 : u_T := fun k => match k with
  | 0 => ("CourtRelays$History", "count", "I", false)
  | 1 => ("CourtRelays$History", "oldest", "I", false)
  | _ => ("CourtRelays$History", "saved", "[LCourtRelays$Court;", true)
def tyX4 : Nat → FieldType := fun k => match k with
  | 0 => .int
  | 1 => .int
  | _ => .array (.object "CourtRelays$Court")
abbrev wsX40 : List Cond := u_ws RX4 TX4 3
theorem nmX4 : ∀ a, a < 3 → ∀ b, b < 3 → a ≠ b → (TX4 a).2.1 ≠ (TX4 b).2.1 := by decide +kernel
theorem tyX4_ok : ∀ k, k < 3 → parseFieldDescriptor (TX4 k).2.2.1 = some (tyX4 k) := by decide +kernel
abbrev cX4_init : ByteArray := prog_6_method_1_code
def yX4_init : MethodName := ⟨RX4, "<init>", "()V"⟩
abbrev cX4_save : ByteArray := prog_6_method_2_code
def yX4_save : MethodName := ⟨RX4, "save", "(LCourtRelays$Court;)V"⟩
def RX5 : String := "CourtRelays$ListReader"
def TX5 : u_T := fun k => match k with
  | 0 => ("CourtRelays$ListReader", "hearings", "I", false)
  | 1 => ("CourtRelays$ListReader", "at", "I", false)
  | 2 => ("CourtRelays$ListReader", "kind", "I", false)
  | 3 => ("CourtRelays$ListReader", "language", "I", false)
  | 4 => ("CourtRelays$ListReader", "in", "I", false)
  | _ => ("CourtRelays$ListReader", "length", "I", false)
def tyX5 : Nat → FieldType := fun k => match k with
  | 0 => .int
  | 1 => .int
  | 2 => .int
  | 3 => .int
  | 4 => .int
  | _ => .int
abbrev wsX50 : List Cond := u_ws RX5 TX5 6
theorem nmX5 : ∀ a, a < 6 → ∀ b, b < 6 → a ≠ b → (TX5 a).2.1 ≠ (TX5 b).2.1 := by decide +kernel
theorem tyX5_ok : ∀ k, k < 6 → parseFieldDescriptor (TX5 k).2.2.1 = some (tyX5 k) := by decide +kernel
abbrev cX5_init : ByteArray := prog_7_method_1_code
def yX5_init : MethodName := ⟨RX5, "<init>", "()V"⟩
def RX6 : String := "CourtRelays$Staff"
def TX6 : u_T := fun k => match k with
  | 0 => ("CourtRelays$Staff", "count", "I", false)
  | 1 => ("CourtRelays$Staff", "languages", "[I", true)
  | 2 => ("CourtRelays$Staff", "certificates", "[I", true)
  | 3 => ("CourtRelays$Staff", "rate", "[I", true)
  | 4 => ("CourtRelays$Staff", "tiredness", "[I", true)
  | 5 => ("CourtRelays$Staff", "paid", "[I", true)
  | _ => ("CourtRelays$Staff", "worked", "[I", true)
def tyX6 : Nat → FieldType := fun k => match k with
  | 0 => .int
  | 1 => .array .int
  | 2 => .array .int
  | 3 => .array .int
  | 4 => .array .int
  | 5 => .array .int
  | _ => .array .int
abbrev wsX60 : List Cond := u_ws RX6 TX6 7
theorem nmX6 : ∀ a, a < 7 → ∀ b, b < 7 → a ≠ b → (TX6 a).2.1 ≠ (TX6 b).2.1 := by decide +kernel
theorem tyX6_ok : ∀ k, k < 7 → parseFieldDescriptor (TX6 k).2.2.1 = some (tyX6 k) := by decide +kernel
abbrev cX6_init : ByteArray := prog_8_method_1_code
def yX6_init : MethodName := ⟨RX6, "<init>", "()V"⟩
abbrev cX6_copyFrom : ByteArray := prog_8_method_2_code
def yX6_copyFrom : MethodName := ⟨RX6, "copyFrom", "(LCourtRelays$Staff;)V"⟩
abbrev cX6_has : ByteArray := prog_8_method_3_code
def yX6_has : MethodName := ⟨RX6, "has", "(I)Z"⟩
abbrev cX6_hire : ByteArray := prog_8_method_4_code
def yX6_hire : MethodName := ⟨RX6, "hire", "(III)I"⟩
abbrev cX6_speaks : ByteArray := prog_8_method_5_code
def yX6_speaks : MethodName := ⟨RX6, "speaks", "(II)Z"⟩
abbrev cX6_shareLanguage : ByteArray := prog_8_method_6_code
def yX6_shareLanguage : MethodName := ⟨RX6, "shareLanguage", "(II)Z"⟩
abbrev cX6_leadToCourt : ByteArray := prog_8_method_7_code
def yX6_leadToCourt : MethodName := ⟨RX6, "leadToCourt", "(IIII)Z"⟩
abbrev cX6_certifiedFor : ByteArray := prog_8_method_9_code
def yX6_certifiedFor : MethodName := ⟨RX6, "certifiedFor", "(I)I"⟩
abbrev cX6_tiredAbove : ByteArray := prog_8_method_10_code
def yX6_tiredAbove : MethodName := ⟨RX6, "tiredAbove", "(I)I"⟩
abbrev cX6_work : ByteArray := prog_8_method_11_code
def yX6_work : MethodName := ⟨RX6, "work", "(II)V"⟩
abbrev cX6_rest : ByteArray := prog_8_method_12_code
def yX6_rest : MethodName := ⟨RX6, "rest", "(II)V"⟩
abbrev cX6_pay : ByteArray := prog_8_method_13_code
def yX6_pay : MethodName := ⟨RX6, "pay", "(II)V"⟩
def RX7 : String := "CourtRelays"
def TX7 : u_T := fun k => match k with
  | 0 => ("CourtRelays", "now", "LCourtRelays$Court;", true)
  | 1 => ("CourtRelays", "would", "LCourtRelays$Court;", true)
  | 2 => ("CourtRelays", "history", "LCourtRelays$History;", true)
  | 3 => ("CourtRelays", "buffer", "LCourtRelays$Buffer;", true)
  | 4 => ("CourtRelays", "reader", "LCourtRelays$ListReader;", true)
  | _ => ("CourtRelays", "search", "LCourtRelays$ChainSearch;", true)
def tyX7 : Nat → FieldType := fun k => match k with
  | 0 => .object "CourtRelays$Court"
  | 1 => .object "CourtRelays$Court"
  | 2 => .object "CourtRelays$History"
  | 3 => .object "CourtRelays$Buffer"
  | 4 => .object "CourtRelays$ListReader"
  | _ => .object "CourtRelays$ChainSearch"
abbrev wsX70 : List Cond := u_ws RX7 TX7 6
theorem nmX7 : ∀ a, a < 6 → ∀ b, b < 6 → a ≠ b → (TX7 a).2.1 ≠ (TX7 b).2.1 := by decide +kernel
theorem tyX7_ok : ∀ k, k < 6 → parseFieldDescriptor (TX7 k).2.2.1 = some (tyX7 k) := by decide +kernel
abbrev cX7_init : ByteArray := prog_1_method_1_code
def yX7_init : MethodName := ⟨RX7, "<init>", "()V"⟩
abbrev cX7_addInterpreter : ByteArray := prog_1_method_2_code
def yX7_addInterpreter : MethodName := ⟨RX7, "addInterpreter", "(III)I"⟩
abbrev cX7_addHearing : ByteArray := prog_1_method_3_code
def yX7_addHearing : MethodName := ⟨RX7, "addHearing", "(IIII)I"⟩
abbrev cX7_certify : ByteArray := prog_1_method_4_code
def yX7_certify : MethodName := ⟨RX7, "certify", "(II)I"⟩
abbrev cX7_set : ByteArray := prog_1_method_5_code
def yX7_set : MethodName := ⟨RX7, "set", "(II)I"⟩
abbrev cX7_assign : ByteArray := prog_1_method_6_code
def yX7_assign : MethodName := ⟨RX7, "assign", "(IIII)I"⟩
abbrev cX7_release : ByteArray := prog_1_method_7_code
def yX7_release : MethodName := ⟨RX7, "release", "(I)I"⟩
abbrev cX7_swap : ByteArray := prog_1_method_8_code
def yX7_swap : MethodName := ⟨RX7, "swap", "(III)I"⟩
abbrev cX7_vacate : ByteArray := prog_1_method_9_code
def yX7_vacate : MethodName := ⟨RX7, "vacate", "(I)I"⟩
abbrev cX7_pass : ByteArray := prog_1_method_10_code
def yX7_pass : MethodName := ⟨RX7, "pass", "(I)I"⟩
abbrev cX7_interpreter : ByteArray := prog_1_method_16_code
def yX7_interpreter : MethodName := ⟨RX7, "interpreter", "(II)I"⟩
abbrev cX7_hearing : ByteArray := prog_1_method_17_code
def yX7_hearing : MethodName := ⟨RX7, "hearing", "(II)I"⟩
abbrev cX7_count : ByteArray := prog_1_method_18_code
def yX7_count : MethodName := ⟨RX7, "count", "(I)I"⟩
abbrev cX7_whyNot : ByteArray := prog_1_method_20_code
def yX7_whyNot : MethodName := ⟨RX7, "whyNot", "(IIII)I"⟩
abbrev cX7_within : ByteArray := prog_1_method_28_code
def yX7_within : MethodName := ⟨RX7, "within", "(III)Z"⟩
abbrev cX7_isSetting : ByteArray := prog_1_method_29_code
def yX7_isSetting : MethodName := ⟨RX7, "isSetting", "(I)Z"⟩
abbrev cX7_nameInterpreters : ByteArray := prog_1_method_30_code
def yX7_nameInterpreters : MethodName := ⟨RX7, "nameInterpreters", "(III)Z"⟩
abbrev cX7_areRowOfDifferent : ByteArray := prog_1_method_31_code
def yX7_areRowOfDifferent : MethodName := ⟨RX7, "areRowOfDifferent", "(III)Z"⟩
abbrev cX7_bitOf : ByteArray := prog_1_method_33_code
def yX7_bitOf : MethodName := ⟨RX7, "bitOf", "(I)I"⟩
abbrev cX7_maskOf : ByteArray := prog_1_method_34_code
def yX7_maskOf : MethodName := ⟨RX7, "maskOf", "(III)I"⟩
def RX8 : String := "CourtRelaysModel"
def TX8 : u_T := fun k => match k with
  | _ => ("", "", "", false)
def tyX8 : Nat → FieldType := fun k => match k with
  | _ => .int
abbrev wsX80 : List Cond := u_ws RX8 TX8 0
theorem nmX8 : ∀ a, a < 0 → ∀ b, b < 0 → a ≠ b → (TX8 a).2.1 ≠ (TX8 b).2.1 := by decide +kernel
theorem tyX8_ok : ∀ k, k < 0 → parseFieldDescriptor (TX8 k).2.2.1 = some (tyX8 k) := by decide +kernel
def RJx8e188 : String := "java/lang/Cloneable"
def TJx8e188 : u_T := fun k => match k with
  | _ => ("", "", "", false)
def tyJx8e188 : Nat → FieldType := fun k => match k with
  | _ => .int
def RJ6 : String := "java/lang/Integer"
def TJ6 : u_T := fun k => match k with
  | _ => ("", "", "", false)
def tyJ6 : Nat → FieldType := fun k => match k with
  | _ => .int
abbrev cJ6_bitCount_0f7a4 : ByteArray := prog_16_method_49_code
def yJ6_bitCount_0f7a4 : MethodName := ⟨RJ6, "bitCount", "(I)I"⟩
def RJ9 : String := "java/lang/Math"
def TJ9 : u_T := fun k => match k with
  | _ => ("", "", "", false)
def tyJ9 : Nat → FieldType := fun k => match k with
  | _ => .int
abbrev cJ9_max_7cf53 : ByteArray := prog_17_method_65_code
def yJ9_max_7cf53 : MethodName := ⟨RJ9, "max", "(II)I"⟩
abbrev cJ9_min_7cf53 : ByteArray := prog_17_method_69_code
def yJ9_min_7cf53 : MethodName := ⟨RJ9, "min", "(II)I"⟩
def RJ0 : String := "java/lang/String"
def TJ0 : u_T := fun k => match k with
  | _ => ("", "", "", false)
def tyJ0 : Nat → FieldType := fun k => match k with
  | _ => .int
def RJ10 : String := "java/lang/System"
def TJ10 : u_T := fun k => match k with
  | _ => ("", "", "", false)
def tyJ10 : Nat → FieldType := fun k => match k with
  | _ => .int
def RL : String := "CourtRelaysLaw"
abbrev cL_cell : ByteArray := method_2_code
def yL_cell : MethodName := ⟨RL, "cell", "([II)I"⟩
abbrev cL_at : ByteArray := method_3_code
def yL_at : MethodName := ⟨RL, "at", "(II)I"⟩
abbrev cL_size : ByteArray := method_4_code
def yL_size : MethodName := ⟨RL, "size", "(I)I"⟩
abbrev cL_who : ByteArray := method_5_code
def yL_who : MethodName := ⟨RL, "who", "(II)I"⟩
abbrev cL_has : ByteArray := method_6_code
def yL_has : MethodName := ⟨RL, "has", "(II)Z"⟩
abbrev cL_earns : ByteArray := method_7_code
def yL_earns : MethodName := ⟨RL, "earns", "([I[I[IIII)I"⟩
abbrev cL_together : ByteArray := method_8_code
def yL_together : MethodName := ⟨RL, "together", "([I[I[I[III)I"⟩
abbrev cL_pays : ByteArray := method_9_code
def yL_pays : MethodName := ⟨RL, "pays", "([I[I[I[III)I"⟩
abbrev cL_clash : ByteArray := method_10_code
def yL_clash : MethodName := ⟨RL, "clash", "([III)Z"⟩
abbrev cL_why : ByteArray := method_11_code
def yL_why : MethodName := ⟨RL, "why", "([I[I[I[III)I"⟩
abbrev cL_minute : ByteArray := method_12_code
def yL_minute : MethodName := ⟨RL, "minute", "([I[I[I[I)I"⟩
abbrev cL_chains : ByteArray := method_13_code
def yL_chains : MethodName := ⟨RL, "chains", "(LCourtRelays;II[I[I[I[I)Z"⟩
abbrev cL_act : ByteArray := method_14_code
def yL_act : MethodName := ⟨RL, "act", "(LCourtRelays;II[I[I[I[I)Z"⟩
abbrev cL_agree : ByteArray := method_15_code
def yL_agree : MethodName := ⟨RL, "agree", "(LCourtRelays;[I[I[I[I)Z"⟩
abbrev cL_law : ByteArray := code
def yL_law : MethodName := ⟨RL, "law", "([I)Z"⟩
abbrev vwCl : List vw_C := [(RX0, TX0, 2), (RX1, TX1, 11), (RX2, TX2, 7), (RX3, TX3, 10), (RX4, TX4, 3), (RX5, TX5, 6), (RX6, TX6, 7), (RX7, TX7, 6)]
