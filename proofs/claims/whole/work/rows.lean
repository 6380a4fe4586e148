section
-- ===== PART A: goes FIRST, ahead of the names: the tables' words, and 'selects' of the private methods out of them =====
/-- a private method of a class that the tables say can be made, by its rows of tables_1 -/
def lw_okq (q : MethodName × Nat) : Prop := (q.1.cls ≠ "java/lang/invoke/MethodHandle" ∧ q.1.cls ≠ "java/lang/invoke/VarHandle") ∧ Cond.instantiable q.1.cls q.2 ∈ tables_1 ∧ Cond.privateMethod q.1 ∈ tables_1 ∧ Cond.instanceMethod q.1 ∈ tables_1
theorem lw_p0 : lw_okq (⟨"CourtRelays$ListReader", "begin", "()V"⟩, 6) := ⟨⟨by decide +kernel, by decide +kernel⟩, List.mem_of_getElem? (i := 204) (by decide +kernel), List.mem_of_getElem? (i := 305) (by decide +kernel), List.mem_of_getElem? (i := 306) (by decide +kernel)⟩
theorem lw_p1 : lw_okq (⟨"CourtRelays$ListReader", "take", "(I)Z"⟩, 6) := ⟨⟨by decide +kernel, by decide +kernel⟩, List.mem_of_getElem? (i := 204) (by decide +kernel), List.mem_of_getElem? (i := 313) (by decide +kernel), List.mem_of_getElem? (i := 314) (by decide +kernel)⟩
theorem lw_p2 : lw_okq (⟨"CourtRelays$ListReader", "takeKind", "(I)Z"⟩, 6) := ⟨⟨by decide +kernel, by decide +kernel⟩, List.mem_of_getElem? (i := 204) (by decide +kernel), List.mem_of_getElem? (i := 317) (by decide +kernel), List.mem_of_getElem? (i := 318) (by decide +kernel)⟩
theorem lw_p3 : lw_okq (⟨"CourtRelays$ListReader", "takeLanguage", "(I)Z"⟩, 6) := ⟨⟨by decide +kernel, by decide +kernel⟩, List.mem_of_getElem? (i := 204) (by decide +kernel), List.mem_of_getElem? (i := 321) (by decide +kernel), List.mem_of_getElem? (i := 322) (by decide +kernel)⟩
theorem lw_p4 : lw_okq (⟨"CourtRelays$ListReader", "takeSign", "(I)Z"⟩, 6) := ⟨⟨by decide +kernel, by decide +kernel⟩, List.mem_of_getElem? (i := 204) (by decide +kernel), List.mem_of_getElem? (i := 325) (by decide +kernel), List.mem_of_getElem? (i := 326) (by decide +kernel)⟩
theorem lw_p5 : lw_okq (⟨"CourtRelays$ListReader", "takeIn", "(I)Z"⟩, 6) := ⟨⟨by decide +kernel, by decide +kernel⟩, List.mem_of_getElem? (i := 204) (by decide +kernel), List.mem_of_getElem? (i := 329) (by decide +kernel), List.mem_of_getElem? (i := 330) (by decide +kernel)⟩
theorem lw_p6 : lw_okq (⟨"CourtRelays$ListReader", "takeLength", "(I)Z"⟩, 6) := ⟨⟨by decide +kernel, by decide +kernel⟩, List.mem_of_getElem? (i := 204) (by decide +kernel), List.mem_of_getElem? (i := 336) (by decide +kernel), List.mem_of_getElem? (i := 337) (by decide +kernel)⟩
theorem lw_p7 : lw_okq (⟨"CourtRelays$ChainSearch", "keep", "(IIIII)V"⟩, 11) := ⟨⟨by decide +kernel, by decide +kernel⟩, List.mem_of_getElem? (i := 230) (by decide +kernel), List.mem_of_getElem? (i := 377) (by decide +kernel), List.mem_of_getElem? (i := 378) (by decide +kernel)⟩
theorem lw_p8 : lw_okq (⟨"CourtRelays$ChainSearch", "prepare", "(LCourtRelays$Court;I)V"⟩, 11) := ⟨⟨by decide +kernel, by decide +kernel⟩, List.mem_of_getElem? (i := 230) (by decide +kernel), List.mem_of_getElem? (i := 386) (by decide +kernel), List.mem_of_getElem? (i := 387) (by decide +kernel)⟩
theorem lw_p9 : lw_okq (⟨"CourtRelays$ChainSearch", "trySeconds", "(II)V"⟩, 11) := ⟨⟨by decide +kernel, by decide +kernel⟩, List.mem_of_getElem? (i := 230) (by decide +kernel), List.mem_of_getElem? (i := 419) (by decide +kernel), List.mem_of_getElem? (i := 420) (by decide +kernel)⟩
theorem lw_p10 : lw_okq (⟨"CourtRelays$ChainSearch", "tryThirds", "(II)V"⟩, 11) := ⟨⟨by decide +kernel, by decide +kernel⟩, List.mem_of_getElem? (i := 230) (by decide +kernel), List.mem_of_getElem? (i := 423) (by decide +kernel), List.mem_of_getElem? (i := 424) (by decide +kernel)⟩
theorem lw_p11 : lw_okq (⟨"CourtRelays$ChainSearch", "offer", "(IIIII)V"⟩, 11) := ⟨⟨by decide +kernel, by decide +kernel⟩, List.mem_of_getElem? (i := 230) (by decide +kernel), List.mem_of_getElem? (i := 427) (by decide +kernel), List.mem_of_getElem? (i := 428) (by decide +kernel)⟩
theorem lw_p12 : lw_okq (⟨"java/lang/Throwable", "fillInStackTrace", "(I)Ljava/lang/Throwable;"⟩, 6) := ⟨⟨by decide +kernel, by decide +kernel⟩, List.mem_of_getElem? (i := 500) (by decide +kernel), List.mem_of_getElem? (i := 498) (by decide +kernel), List.mem_of_getElem? (i := 499) (by decide +kernel)⟩
theorem lw_p13 : lw_okq (⟨"CourtRelays", "imagineLater", "(I)V"⟩, 6) := ⟨⟨by decide +kernel, by decide +kernel⟩, List.mem_of_getElem? (i := 21) (by decide +kernel), List.mem_of_getElem? (i := 555) (by decide +kernel), List.mem_of_getElem? (i := 556) (by decide +kernel)⟩
theorem lw_p14 : lw_okq (⟨"CourtRelays", "mixInterpreters", "(J)J"⟩, 6) := ⟨⟨by decide +kernel, by decide +kernel⟩, List.mem_of_getElem? (i := 21) (by decide +kernel), List.mem_of_getElem? (i := 612) (by decide +kernel), List.mem_of_getElem? (i := 613) (by decide +kernel)⟩
theorem lw_p15 : lw_okq (⟨"CourtRelays", "mixHearings", "(J)J"⟩, 6) := ⟨⟨by decide +kernel, by decide +kernel⟩, List.mem_of_getElem? (i := 21) (by decide +kernel), List.mem_of_getElem? (i := 634) (by decide +kernel), List.mem_of_getElem? (i := 635) (by decide +kernel)⟩
def lw_privs_1 : List (MethodName × Nat) := [(⟨"CourtRelays$ListReader", "begin", "()V"⟩, 6), (⟨"CourtRelays$ListReader", "take", "(I)Z"⟩, 6), (⟨"CourtRelays$ListReader", "takeKind", "(I)Z"⟩, 6), (⟨"CourtRelays$ListReader", "takeLanguage", "(I)Z"⟩, 6), (⟨"CourtRelays$ListReader", "takeSign", "(I)Z"⟩, 6), (⟨"CourtRelays$ListReader", "takeIn", "(I)Z"⟩, 6), (⟨"CourtRelays$ListReader", "takeLength", "(I)Z"⟩, 6), (⟨"CourtRelays$ChainSearch", "keep", "(IIIII)V"⟩, 11), (⟨"CourtRelays$ChainSearch", "prepare", "(LCourtRelays$Court;I)V"⟩, 11), (⟨"CourtRelays$ChainSearch", "trySeconds", "(II)V"⟩, 11), (⟨"CourtRelays$ChainSearch", "tryThirds", "(II)V"⟩, 11), (⟨"CourtRelays$ChainSearch", "offer", "(IIIII)V"⟩, 11), (⟨"java/lang/Throwable", "fillInStackTrace", "(I)Ljava/lang/Throwable;"⟩, 6), (⟨"CourtRelays", "imagineLater", "(I)V"⟩, 6), (⟨"CourtRelays", "mixInterpreters", "(J)J"⟩, 6), (⟨"CourtRelays", "mixHearings", "(J)J"⟩, 6)]
theorem lw_r1 : ∀ q ∈ lw_privs_1, lw_okq q := List.forall_mem_cons.mpr ⟨lw_p0, List.forall_mem_cons.mpr ⟨lw_p1, List.forall_mem_cons.mpr ⟨lw_p2, List.forall_mem_cons.mpr ⟨lw_p3, List.forall_mem_cons.mpr ⟨lw_p4, List.forall_mem_cons.mpr ⟨lw_p5, List.forall_mem_cons.mpr ⟨lw_p6, List.forall_mem_cons.mpr ⟨lw_p7, List.forall_mem_cons.mpr ⟨lw_p8, List.forall_mem_cons.mpr ⟨lw_p9, List.forall_mem_cons.mpr ⟨lw_p10, List.forall_mem_cons.mpr ⟨lw_p11, List.forall_mem_cons.mpr ⟨lw_p12, List.forall_mem_cons.mpr ⟨lw_p13, List.forall_mem_cons.mpr ⟨lw_p14, List.forall_mem_cons.mpr ⟨lw_p15, fun _ h => absurd h List.not_mem_nil⟩⟩⟩⟩⟩⟩⟩⟩⟩⟩⟩⟩⟩⟩⟩⟩
theorem lw_p16 : lw_okq (⟨"CourtRelays", "nameInterpreters", "(III)Z"⟩, 6) := ⟨⟨by decide +kernel, by decide +kernel⟩, List.mem_of_getElem? (i := 21) (by decide +kernel), List.mem_of_getElem? (i := 783) (by decide +kernel), List.mem_of_getElem? (i := 784) (by decide +kernel)⟩
theorem lw_p17 : lw_okq (⟨"CourtRelays$ListReader", "enterOne", "(LCourtRelays$Court;)V"⟩, 6) := ⟨⟨by decide +kernel, by decide +kernel⟩, List.mem_of_getElem? (i := 204) (by decide +kernel), List.mem_of_getElem? (i := 882) (by decide +kernel), List.mem_of_getElem? (i := 883) (by decide +kernel)⟩
theorem lw_p18 : lw_okq (⟨"CourtRelaysModel", "save", "()V"⟩, 17) := ⟨⟨by decide +kernel, by decide +kernel⟩, List.mem_of_getElem? (i := 963) (by decide +kernel), List.mem_of_getElem? (i := 1035) (by decide +kernel), List.mem_of_getElem? (i := 1036) (by decide +kernel)⟩
theorem lw_p19 : lw_okq (⟨"CourtRelaysModel", "putHearing", "(IIII)I"⟩, 17) := ⟨⟨by decide +kernel, by decide +kernel⟩, List.mem_of_getElem? (i := 963) (by decide +kernel), List.mem_of_getElem? (i := 1043) (by decide +kernel), List.mem_of_getElem? (i := 1044) (by decide +kernel)⟩
theorem lw_p20 : lw_okq (⟨"CourtRelaysModel", "put", "(III)V"⟩, 17) := ⟨⟨by decide +kernel, by decide +kernel⟩, List.mem_of_getElem? (i := 963) (by decide +kernel), List.mem_of_getElem? (i := 1047) (by decide +kernel), List.mem_of_getElem? (i := 1048) (by decide +kernel)⟩
theorem lw_p21 : lw_okq (⟨"CourtRelaysModel", "isPerson", "(I)Z"⟩, 17) := ⟨⟨by decide +kernel, by decide +kernel⟩, List.mem_of_getElem? (i := 963) (by decide +kernel), List.mem_of_getElem? (i := 1055) (by decide +kernel), List.mem_of_getElem? (i := 1056) (by decide +kernel)⟩
theorem lw_p22 : lw_okq (⟨"CourtRelaysModel", "refusedChain", "(IIII)I"⟩, 17) := ⟨⟨by decide +kernel, by decide +kernel⟩, List.mem_of_getElem? (i := 963) (by decide +kernel), List.mem_of_getElem? (i := 1073) (by decide +kernel), List.mem_of_getElem? (i := 1074) (by decide +kernel)⟩
theorem lw_p23 : lw_okq (⟨"CourtRelaysModel", "isHearing", "(I)Z"⟩, 17) := ⟨⟨by decide +kernel, by decide +kernel⟩, List.mem_of_getElem? (i := 963) (by decide +kernel), List.mem_of_getElem? (i := 1077) (by decide +kernel), List.mem_of_getElem? (i := 1078) (by decide +kernel)⟩
theorem lw_p24 : lw_okq (⟨"CourtRelaysModel", "lay", "(III)V"⟩, 17) := ⟨⟨by decide +kernel, by decide +kernel⟩, List.mem_of_getElem? (i := 963) (by decide +kernel), List.mem_of_getElem? (i := 1081) (by decide +kernel), List.mem_of_getElem? (i := 1082) (by decide +kernel)⟩
theorem lw_p25 : lw_okq (⟨"CourtRelaysModel", "reason", "(I)I"⟩, 17) := ⟨⟨by decide +kernel, by decide +kernel⟩, List.mem_of_getElem? (i := 963) (by decide +kernel), List.mem_of_getElem? (i := 1085) (by decide +kernel), List.mem_of_getElem? (i := 1086) (by decide +kernel)⟩
theorem lw_p26 : lw_okq (⟨"CourtRelaysModel", "isListed", "(I)Z"⟩, 17) := ⟨⟨by decide +kernel, by decide +kernel⟩, List.mem_of_getElem? (i := 963) (by decide +kernel), List.mem_of_getElem? (i := 1089) (by decide +kernel), List.mem_of_getElem? (i := 1090) (by decide +kernel)⟩
theorem lw_p27 : lw_okq (⟨"CourtRelaysModel", "of", "(II)I"⟩, 17) := ⟨⟨by decide +kernel, by decide +kernel⟩, List.mem_of_getElem? (i := 963) (by decide +kernel), List.mem_of_getElem? (i := 1093) (by decide +kernel), List.mem_of_getElem? (i := 1094) (by decide +kernel)⟩
theorem lw_p28 : lw_okq (⟨"CourtRelaysModel", "hasStarted", "(I)Z"⟩, 17) := ⟨⟨by decide +kernel, by decide +kernel⟩, List.mem_of_getElem? (i := 963) (by decide +kernel), List.mem_of_getElem? (i := 1097) (by decide +kernel), List.mem_of_getElem? (i := 1098) (by decide +kernel)⟩
theorem lw_p29 : lw_okq (⟨"CourtRelaysModel", "isChain", "(I)Z"⟩, 17) := ⟨⟨by decide +kernel, by decide +kernel⟩, List.mem_of_getElem? (i := 963) (by decide +kernel), List.mem_of_getElem? (i := 1101) (by decide +kernel), List.mem_of_getElem? (i := 1102) (by decide +kernel)⟩
theorem lw_p30 : lw_okq (⟨"CourtRelaysModel", "areCertified", "(I)Z"⟩, 17) := ⟨⟨by decide +kernel, by decide +kernel⟩, List.mem_of_getElem? (i := 963) (by decide +kernel), List.mem_of_getElem? (i := 1105) (by decide +kernel), List.mem_of_getElem? (i := 1106) (by decide +kernel)⟩
theorem lw_p31 : lw_okq (⟨"CourtRelaysModel", "areBusy", "(I)Z"⟩, 17) := ⟨⟨by decide +kernel, by decide +kernel⟩, List.mem_of_getElem? (i := 963) (by decide +kernel), List.mem_of_getElem? (i := 1109) (by decide +kernel), List.mem_of_getElem? (i := 1110) (by decide +kernel)⟩
def lw_privs_2 : List (MethodName × Nat) := [(⟨"CourtRelays", "nameInterpreters", "(III)Z"⟩, 6), (⟨"CourtRelays$ListReader", "enterOne", "(LCourtRelays$Court;)V"⟩, 6), (⟨"CourtRelaysModel", "save", "()V"⟩, 17), (⟨"CourtRelaysModel", "putHearing", "(IIII)I"⟩, 17), (⟨"CourtRelaysModel", "put", "(III)V"⟩, 17), (⟨"CourtRelaysModel", "isPerson", "(I)Z"⟩, 17), (⟨"CourtRelaysModel", "refusedChain", "(IIII)I"⟩, 17), (⟨"CourtRelaysModel", "isHearing", "(I)Z"⟩, 17), (⟨"CourtRelaysModel", "lay", "(III)V"⟩, 17), (⟨"CourtRelaysModel", "reason", "(I)I"⟩, 17), (⟨"CourtRelaysModel", "isListed", "(I)Z"⟩, 17), (⟨"CourtRelaysModel", "of", "(II)I"⟩, 17), (⟨"CourtRelaysModel", "hasStarted", "(I)Z"⟩, 17), (⟨"CourtRelaysModel", "isChain", "(I)Z"⟩, 17), (⟨"CourtRelaysModel", "areCertified", "(I)Z"⟩, 17), (⟨"CourtRelaysModel", "areBusy", "(I)Z"⟩, 17)]
theorem lw_r2 : ∀ q ∈ lw_privs_2, lw_okq q := List.forall_mem_cons.mpr ⟨lw_p16, List.forall_mem_cons.mpr ⟨lw_p17, List.forall_mem_cons.mpr ⟨lw_p18, List.forall_mem_cons.mpr ⟨lw_p19, List.forall_mem_cons.mpr ⟨lw_p20, List.forall_mem_cons.mpr ⟨lw_p21, List.forall_mem_cons.mpr ⟨lw_p22, List.forall_mem_cons.mpr ⟨lw_p23, List.forall_mem_cons.mpr ⟨lw_p24, List.forall_mem_cons.mpr ⟨lw_p25, List.forall_mem_cons.mpr ⟨lw_p26, List.forall_mem_cons.mpr ⟨lw_p27, List.forall_mem_cons.mpr ⟨lw_p28, List.forall_mem_cons.mpr ⟨lw_p29, List.forall_mem_cons.mpr ⟨lw_p30, List.forall_mem_cons.mpr ⟨lw_p31, fun _ h => absurd h List.not_mem_nil⟩⟩⟩⟩⟩⟩⟩⟩⟩⟩⟩⟩⟩⟩⟩⟩
theorem lw_p32 : lw_okq (⟨"CourtRelaysModel", "isBusy", "(II)Z"⟩, 17) := ⟨⟨by decide +kernel, by decide +kernel⟩, List.mem_of_getElem? (i := 963) (by decide +kernel), List.mem_of_getElem? (i := 1113) (by decide +kernel), List.mem_of_getElem? (i := 1114) (by decide +kernel)⟩
theorem lw_p33 : lw_okq (⟨"CourtRelaysModel", "isIn", "(II)Z"⟩, 17) := ⟨⟨by decide +kernel, by decide +kernel⟩, List.mem_of_getElem? (i := 963) (by decide +kernel), List.mem_of_getElem? (i := 1117) (by decide +kernel), List.mem_of_getElem? (i := 1118) (by decide +kernel)⟩
theorem lw_p34 : lw_okq (⟨"CourtRelaysModel", "clash", "(II)Z"⟩, 17) := ⟨⟨by decide +kernel, by decide +kernel⟩, List.mem_of_getElem? (i := 963) (by decide +kernel), List.mem_of_getElem? (i := 1121) (by decide +kernel), List.mem_of_getElem? (i := 1122) (by decide +kernel)⟩
theorem lw_p35 : lw_okq (⟨"CourtRelaysModel", "endOf", "(I)I"⟩, 17) := ⟨⟨by decide +kernel, by decide +kernel⟩, List.mem_of_getElem? (i := 963) (by decide +kernel), List.mem_of_getElem? (i := 1125) (by decide +kernel), List.mem_of_getElem? (i := 1126) (by decide +kernel)⟩
theorem lw_p36 : lw_okq (⟨"CourtRelaysModel", "assignTried", "(I)V"⟩, 17) := ⟨⟨by decide +kernel, by decide +kernel⟩, List.mem_of_getElem? (i := 963) (by decide +kernel), List.mem_of_getElem? (i := 1129) (by decide +kernel), List.mem_of_getElem? (i := 1130) (by decide +kernel)⟩
theorem lw_p37 : lw_okq (⟨"CourtRelaysModel", "payFor", "(II)I"⟩, 17) := ⟨⟨by decide +kernel, by decide +kernel⟩, List.mem_of_getElem? (i := 963) (by decide +kernel), List.mem_of_getElem? (i := 1133) (by decide +kernel), List.mem_of_getElem? (i := 1134) (by decide +kernel)⟩
theorem lw_p38 : lw_okq (⟨"CourtRelaysModel", "earns", "(III)I"⟩, 17) := ⟨⟨by decide +kernel, by decide +kernel⟩, List.mem_of_getElem? (i := 963) (by decide +kernel), List.mem_of_getElem? (i := 1137) (by decide +kernel), List.mem_of_getElem? (i := 1138) (by decide +kernel)⟩
theorem lw_p39 : lw_okq (⟨"CourtRelaysModel", "isOpen", "(I)Z"⟩, 17) := ⟨⟨by decide +kernel, by decide +kernel⟩, List.mem_of_getElem? (i := 963) (by decide +kernel), List.mem_of_getElem? (i := 1145) (by decide +kernel), List.mem_of_getElem? (i := 1146) (by decide +kernel)⟩
theorem lw_p40 : lw_okq (⟨"CourtRelaysModel", "halvesBy", "(I)I"⟩, 17) := ⟨⟨by decide +kernel, by decide +kernel⟩, List.mem_of_getElem? (i := 963) (by decide +kernel), List.mem_of_getElem? (i := 1157) (by decide +kernel), List.mem_of_getElem? (i := 1158) (by decide +kernel)⟩
theorem lw_p41 : lw_okq (⟨"CourtRelaysModel", "pay", "(II)I"⟩, 17) := ⟨⟨by decide +kernel, by decide +kernel⟩, List.mem_of_getElem? (i := 963) (by decide +kernel), List.mem_of_getElem? (i := 1161) (by decide +kernel), List.mem_of_getElem? (i := 1162) (by decide +kernel)⟩
theorem lw_p42 : lw_okq (⟨"CourtRelaysModel", "go", "(I)I"⟩, 17) := ⟨⟨by decide +kernel, by decide +kernel⟩, List.mem_of_getElem? (i := 963) (by decide +kernel), List.mem_of_getElem? (i := 1169) (by decide +kernel), List.mem_of_getElem? (i := 1170) (by decide +kernel)⟩
theorem lw_p43 : lw_okq (⟨"CourtRelaysModel", "minute", "()I"⟩, 17) := ⟨⟨by decide +kernel, by decide +kernel⟩, List.mem_of_getElem? (i := 963) (by decide +kernel), List.mem_of_getElem? (i := 1173) (by decide +kernel), List.mem_of_getElem? (i := 1174) (by decide +kernel)⟩
theorem lw_p44 : lw_okq (⟨"CourtRelaysModel", "tireAll", "()V"⟩, 17) := ⟨⟨by decide +kernel, by decide +kernel⟩, List.mem_of_getElem? (i := 963) (by decide +kernel), List.mem_of_getElem? (i := 1177) (by decide +kernel), List.mem_of_getElem? (i := 1178) (by decide +kernel)⟩
theorem lw_p45 : lw_okq (⟨"CourtRelaysModel", "worksIn", "(I)I"⟩, 17) := ⟨⟨by decide +kernel, by decide +kernel⟩, List.mem_of_getElem? (i := 963) (by decide +kernel), List.mem_of_getElem? (i := 1181) (by decide +kernel), List.mem_of_getElem? (i := 1182) (by decide +kernel)⟩
theorem lw_p46 : lw_okq (⟨"CourtRelaysModel", "adjourn", "(I)V"⟩, 17) := ⟨⟨by decide +kernel, by decide +kernel⟩, List.mem_of_getElem? (i := 963) (by decide +kernel), List.mem_of_getElem? (i := 1185) (by decide +kernel), List.mem_of_getElem? (i := 1186) (by decide +kernel)⟩
theorem lw_p47 : lw_okq (⟨"CourtRelaysModel", "isTooTired", "(I)Z"⟩, 17) := ⟨⟨by decide +kernel, by decide +kernel⟩, List.mem_of_getElem? (i := 963) (by decide +kernel), List.mem_of_getElem? (i := 1189) (by decide +kernel), List.mem_of_getElem? (i := 1190) (by decide +kernel)⟩
def lw_privs_3 : List (MethodName × Nat) := [(⟨"CourtRelaysModel", "isBusy", "(II)Z"⟩, 17), (⟨"CourtRelaysModel", "isIn", "(II)Z"⟩, 17), (⟨"CourtRelaysModel", "clash", "(II)Z"⟩, 17), (⟨"CourtRelaysModel", "endOf", "(I)I"⟩, 17), (⟨"CourtRelaysModel", "assignTried", "(I)V"⟩, 17), (⟨"CourtRelaysModel", "payFor", "(II)I"⟩, 17), (⟨"CourtRelaysModel", "earns", "(III)I"⟩, 17), (⟨"CourtRelaysModel", "isOpen", "(I)Z"⟩, 17), (⟨"CourtRelaysModel", "halvesBy", "(I)I"⟩, 17), (⟨"CourtRelaysModel", "pay", "(II)I"⟩, 17), (⟨"CourtRelaysModel", "go", "(I)I"⟩, 17), (⟨"CourtRelaysModel", "minute", "()I"⟩, 17), (⟨"CourtRelaysModel", "tireAll", "()V"⟩, 17), (⟨"CourtRelaysModel", "worksIn", "(I)I"⟩, 17), (⟨"CourtRelaysModel", "adjourn", "(I)V"⟩, 17), (⟨"CourtRelaysModel", "isTooTired", "(I)Z"⟩, 17)]
theorem lw_r3 : ∀ q ∈ lw_privs_3, lw_okq q := List.forall_mem_cons.mpr ⟨lw_p32, List.forall_mem_cons.mpr ⟨lw_p33, List.forall_mem_cons.mpr ⟨lw_p34, List.forall_mem_cons.mpr ⟨lw_p35, List.forall_mem_cons.mpr ⟨lw_p36, List.forall_mem_cons.mpr ⟨lw_p37, List.forall_mem_cons.mpr ⟨lw_p38, List.forall_mem_cons.mpr ⟨lw_p39, List.forall_mem_cons.mpr ⟨lw_p40, List.forall_mem_cons.mpr ⟨lw_p41, List.forall_mem_cons.mpr ⟨lw_p42, List.forall_mem_cons.mpr ⟨lw_p43, List.forall_mem_cons.mpr ⟨lw_p44, List.forall_mem_cons.mpr ⟨lw_p45, List.forall_mem_cons.mpr ⟨lw_p46, List.forall_mem_cons.mpr ⟨lw_p47, fun _ h => absurd h List.not_mem_nil⟩⟩⟩⟩⟩⟩⟩⟩⟩⟩⟩⟩⟩⟩⟩⟩
theorem lw_p48 : lw_okq (⟨"CourtRelaysModel", "rightUpTo", "()I"⟩, 17) := ⟨⟨by decide +kernel, by decide +kernel⟩, List.mem_of_getElem? (i := 963) (by decide +kernel), List.mem_of_getElem? (i := 1205) (by decide +kernel), List.mem_of_getElem? (i := 1206) (by decide +kernel)⟩
theorem lw_p49 : lw_okq (⟨"CourtRelaysModel", "takes", "(I)Z"⟩, 17) := ⟨⟨by decide +kernel, by decide +kernel⟩, List.mem_of_getElem? (i := 963) (by decide +kernel), List.mem_of_getElem? (i := 1209) (by decide +kernel), List.mem_of_getElem? (i := 1210) (by decide +kernel)⟩
theorem lw_p50 : lw_okq (⟨"CourtRelaysModel", "takesKind", "(I)Z"⟩, 17) := ⟨⟨by decide +kernel, by decide +kernel⟩, List.mem_of_getElem? (i := 963) (by decide +kernel), List.mem_of_getElem? (i := 1213) (by decide +kernel), List.mem_of_getElem? (i := 1214) (by decide +kernel)⟩
theorem lw_p51 : lw_okq (⟨"CourtRelaysModel", "endHearing", "()V"⟩, 17) := ⟨⟨by decide +kernel, by decide +kernel⟩, List.mem_of_getElem? (i := 963) (by decide +kernel), List.mem_of_getElem? (i := 1217) (by decide +kernel), List.mem_of_getElem? (i := 1218) (by decide +kernel)⟩
theorem lw_p52 : lw_okq (⟨"CourtRelaysModel", "takesDigit", "(I)Z"⟩, 17) := ⟨⟨by decide +kernel, by decide +kernel⟩, List.mem_of_getElem? (i := 963) (by decide +kernel), List.mem_of_getElem? (i := 1221) (by decide +kernel), List.mem_of_getElem? (i := 1222) (by decide +kernel)⟩
theorem lw_p53 : lw_okq (⟨"CourtRelaysModel", "personNow", "(II)I"⟩, 17) := ⟨⟨by decide +kernel, by decide +kernel⟩, List.mem_of_getElem? (i := 963) (by decide +kernel), List.mem_of_getElem? (i := 1237) (by decide +kernel), List.mem_of_getElem? (i := 1238) (by decide +kernel)⟩
theorem lw_p54 : lw_okq (⟨"CourtRelaysModel", "listedWith", "(I)I"⟩, 17) := ⟨⟨by decide +kernel, by decide +kernel⟩, List.mem_of_getElem? (i := 963) (by decide +kernel), List.mem_of_getElem? (i := 1241) (by decide +kernel), List.mem_of_getElem? (i := 1242) (by decide +kernel)⟩
theorem lw_p55 : lw_okq (⟨"CourtRelaysModel", "hearingNow", "(II)I"⟩, 17) := ⟨⟨by decide +kernel, by decide +kernel⟩, List.mem_of_getElem? (i := 963) (by decide +kernel), List.mem_of_getElem? (i := 1249) (by decide +kernel), List.mem_of_getElem? (i := 1250) (by decide +kernel)⟩
theorem lw_p56 : lw_okq (⟨"CourtRelaysModel", "clashes", "(I)I"⟩, 17) := ⟨⟨by decide +kernel, by decide +kernel⟩, List.mem_of_getElem? (i := 963) (by decide +kernel), List.mem_of_getElem? (i := 1253) (by decide +kernel), List.mem_of_getElem? (i := 1254) (by decide +kernel)⟩
theorem lw_p57 : lw_okq (⟨"CourtRelaysModel", "counted", "(I)I"⟩, 17) := ⟨⟨by decide +kernel, by decide +kernel⟩, List.mem_of_getElem? (i := 963) (by decide +kernel), List.mem_of_getElem? (i := 1261) (by decide +kernel), List.mem_of_getElem? (i := 1262) (by decide +kernel)⟩
theorem lw_p58 : lw_okq (⟨"CourtRelaysModel", "hearingsIn", "(IZ)I"⟩, 17) := ⟨⟨by decide +kernel, by decide +kernel⟩, List.mem_of_getElem? (i := 963) (by decide +kernel), List.mem_of_getElem? (i := 1265) (by decide +kernel), List.mem_of_getElem? (i := 1266) (by decide +kernel)⟩
theorem lw_p59 : lw_okq (⟨"CourtRelaysModel", "working", "()I"⟩, 17) := ⟨⟨by decide +kernel, by decide +kernel⟩, List.mem_of_getElem? (i := 963) (by decide +kernel), List.mem_of_getElem? (i := 1269) (by decide +kernel), List.mem_of_getElem? (i := 1270) (by decide +kernel)⟩
theorem lw_p60 : lw_okq (⟨"CourtRelaysModel", "cheapestNow", "(II)I"⟩, 17) := ⟨⟨by decide +kernel, by decide +kernel⟩, List.mem_of_getElem? (i := 963) (by decide +kernel), List.mem_of_getElem? (i := 1285) (by decide +kernel), List.mem_of_getElem? (i := 1286) (by decide +kernel)⟩
theorem lw_p61 : lw_okq (⟨"CourtRelaysModel", "layCheapest", "(I)Z"⟩, 17) := ⟨⟨by decide +kernel, by decide +kernel⟩, List.mem_of_getElem? (i := 963) (by decide +kernel), List.mem_of_getElem? (i := 1289) (by decide +kernel), List.mem_of_getElem? (i := 1290) (by decide +kernel)⟩
theorem lw_p62 : lw_okq (⟨"CourtRelaysModel", "tryChain", "(I)V"⟩, 17) := ⟨⟨by decide +kernel, by decide +kernel⟩, List.mem_of_getElem? (i := 963) (by decide +kernel), List.mem_of_getElem? (i := 1294) (by decide +kernel), List.mem_of_getElem? (i := 1295) (by decide +kernel)⟩
theorem lw_p63 : lw_okq (⟨"CourtRelaysModel", "tiredThen", "(II)I"⟩, 17) := ⟨⟨by decide +kernel, by decide +kernel⟩, List.mem_of_getElem? (i := 963) (by decide +kernel), List.mem_of_getElem? (i := 1302) (by decide +kernel), List.mem_of_getElem? (i := 1303) (by decide +kernel)⟩
def lw_privs_4 : List (MethodName × Nat) := [(⟨"CourtRelaysModel", "rightUpTo", "()I"⟩, 17), (⟨"CourtRelaysModel", "takes", "(I)Z"⟩, 17), (⟨"CourtRelaysModel", "takesKind", "(I)Z"⟩, 17), (⟨"CourtRelaysModel", "endHearing", "()V"⟩, 17), (⟨"CourtRelaysModel", "takesDigit", "(I)Z"⟩, 17), (⟨"CourtRelaysModel", "personNow", "(II)I"⟩, 17), (⟨"CourtRelaysModel", "listedWith", "(I)I"⟩, 17), (⟨"CourtRelaysModel", "hearingNow", "(II)I"⟩, 17), (⟨"CourtRelaysModel", "clashes", "(I)I"⟩, 17), (⟨"CourtRelaysModel", "counted", "(I)I"⟩, 17), (⟨"CourtRelaysModel", "hearingsIn", "(IZ)I"⟩, 17), (⟨"CourtRelaysModel", "working", "()I"⟩, 17), (⟨"CourtRelaysModel", "cheapestNow", "(II)I"⟩, 17), (⟨"CourtRelaysModel", "layCheapest", "(I)Z"⟩, 17), (⟨"CourtRelaysModel", "tryChain", "(I)V"⟩, 17), (⟨"CourtRelaysModel", "tiredThen", "(II)I"⟩, 17)]
theorem lw_r4 : ∀ q ∈ lw_privs_4, lw_okq q := List.forall_mem_cons.mpr ⟨lw_p48, List.forall_mem_cons.mpr ⟨lw_p49, List.forall_mem_cons.mpr ⟨lw_p50, List.forall_mem_cons.mpr ⟨lw_p51, List.forall_mem_cons.mpr ⟨lw_p52, List.forall_mem_cons.mpr ⟨lw_p53, List.forall_mem_cons.mpr ⟨lw_p54, List.forall_mem_cons.mpr ⟨lw_p55, List.forall_mem_cons.mpr ⟨lw_p56, List.forall_mem_cons.mpr ⟨lw_p57, List.forall_mem_cons.mpr ⟨lw_p58, List.forall_mem_cons.mpr ⟨lw_p59, List.forall_mem_cons.mpr ⟨lw_p60, List.forall_mem_cons.mpr ⟨lw_p61, List.forall_mem_cons.mpr ⟨lw_p62, List.forall_mem_cons.mpr ⟨lw_p63, fun _ h => absurd h List.not_mem_nil⟩⟩⟩⟩⟩⟩⟩⟩⟩⟩⟩⟩⟩⟩⟩⟩
theorem lw_p64 : lw_okq (⟨"CourtRelaysModel", "keep", "()V"⟩, 17) := ⟨⟨by decide +kernel, by decide +kernel⟩, List.mem_of_getElem? (i := 963) (by decide +kernel), List.mem_of_getElem? (i := 1306) (by decide +kernel), List.mem_of_getElem? (i := 1307) (by decide +kernel)⟩
theorem lw_p65 : lw_okq (⟨"CourtRelaysModel", "layBack", "()V"⟩, 17) := ⟨⟨by decide +kernel, by decide +kernel⟩, List.mem_of_getElem? (i := 963) (by decide +kernel), List.mem_of_getElem? (i := 1310) (by decide +kernel), List.mem_of_getElem? (i := 1311) (by decide +kernel)⟩
theorem lw_p66 : lw_okq (⟨"CourtRelaysModel", "vacatedThen", "(II)I"⟩, 17) := ⟨⟨by decide +kernel, by decide +kernel⟩, List.mem_of_getElem? (i := 963) (by decide +kernel), List.mem_of_getElem? (i := 1318) (by decide +kernel), List.mem_of_getElem? (i := 1319) (by decide +kernel)⟩
theorem lw_p67 : lw_okq (⟨"CourtRelaysModel", "mannableNow", "()I"⟩, 17) := ⟨⟨by decide +kernel, by decide +kernel⟩, List.mem_of_getElem? (i := 963) (by decide +kernel), List.mem_of_getElem? (i := 1326) (by decide +kernel), List.mem_of_getElem? (i := 1327) (by decide +kernel)⟩
theorem lw_p68 : lw_okq (⟨"CourtRelaysModel", "missingNow", "(I)I"⟩, 17) := ⟨⟨by decide +kernel, by decide +kernel⟩, List.mem_of_getElem? (i := 963) (by decide +kernel), List.mem_of_getElem? (i := 1334) (by decide +kernel), List.mem_of_getElem? (i := 1335) (by decide +kernel)⟩
theorem lw_p69 : lw_okq (⟨"CourtRelaysModel", "share", "()D"⟩, 17) := ⟨⟨by decide +kernel, by decide +kernel⟩, List.mem_of_getElem? (i := 963) (by decide +kernel), List.mem_of_getElem? (i := 1342) (by decide +kernel), List.mem_of_getElem? (i := 1343) (by decide +kernel)⟩
theorem lw_p70 : lw_okq (⟨"CourtRelaysModel", "mix", "(J)V"⟩, 17) := ⟨⟨by decide +kernel, by decide +kernel⟩, List.mem_of_getElem? (i := 963) (by decide +kernel), List.mem_of_getElem? (i := 1351) (by decide +kernel), List.mem_of_getElem? (i := 1352) (by decide +kernel)⟩
theorem lw_p71 : lw_okq (⟨"CourtRelaysModel", "mixHearing", "(I)V"⟩, 17) := ⟨⟨by decide +kernel, by decide +kernel⟩, List.mem_of_getElem? (i := 963) (by decide +kernel), List.mem_of_getElem? (i := 1356) (by decide +kernel), List.mem_of_getElem? (i := 1357) (by decide +kernel)⟩
def lw_privs_5 : List (MethodName × Nat) := [(⟨"CourtRelaysModel", "keep", "()V"⟩, 17), (⟨"CourtRelaysModel", "layBack", "()V"⟩, 17), (⟨"CourtRelaysModel", "vacatedThen", "(II)I"⟩, 17), (⟨"CourtRelaysModel", "mannableNow", "()I"⟩, 17), (⟨"CourtRelaysModel", "missingNow", "(I)I"⟩, 17), (⟨"CourtRelaysModel", "share", "()D"⟩, 17), (⟨"CourtRelaysModel", "mix", "(J)V"⟩, 17), (⟨"CourtRelaysModel", "mixHearing", "(I)V"⟩, 17)]
theorem lw_r5 : ∀ q ∈ lw_privs_5, lw_okq q := List.forall_mem_cons.mpr ⟨lw_p64, List.forall_mem_cons.mpr ⟨lw_p65, List.forall_mem_cons.mpr ⟨lw_p66, List.forall_mem_cons.mpr ⟨lw_p67, List.forall_mem_cons.mpr ⟨lw_p68, List.forall_mem_cons.mpr ⟨lw_p69, List.forall_mem_cons.mpr ⟨lw_p70, List.forall_mem_cons.mpr ⟨lw_p71, fun _ h => absurd h List.not_mem_nil⟩⟩⟩⟩⟩⟩⟩⟩
def lw_privs : List (MethodName × Nat) := lw_privs_1 ++ (lw_privs_2 ++ (lw_privs_3 ++ (lw_privs_4 ++ (lw_privs_5))))
def lw_tbl : List Cond := k2_sels lw_privs ++ tables_1
theorem lw_privs_ok : ∀ q ∈ lw_privs, lw_okq q := by
  show ∀ q ∈ lw_privs_1 ++ (lw_privs_2 ++ (lw_privs_3 ++ (lw_privs_4 ++ (lw_privs_5)))), lw_okq q
  exact List.forall_mem_append.mpr ⟨lw_r1, List.forall_mem_append.mpr ⟨lw_r2, List.forall_mem_append.mpr ⟨lw_r3, List.forall_mem_append.mpr ⟨lw_r4, lw_r5⟩⟩⟩⟩
/-- the streams that the claim lets the run draw from -/
abbrev lw_cs : List Choice := [Jvm.Choice.named "NaN.bits"]
theorem lw_bits : nanBits ∈ lw_cs := by first | decide | exact List.mem_cons_self | simp [lw_cs, nanBits]
end
section
/-! ===== BEGIN words of one list among another's, by their places ===== -/
theorem goodIn_r {big : List Cond} (ws : List Cond) (ps : List Nat) (hp : ws = ps.filterMap (fun i => big[i]?)) (h : ws.all goodWord = true) : GoodIn big ws := by
  intro w hw
  have h1 := List.all_eq_true.mp h w hw
  rw [hp] at hw
  obtain ⟨i, -, hi⟩ := List.mem_filterMap.mp hw
  have hm : w ∈ big := by first | exact List.mem_of_getElem? hi | exact List.getElem?_mem hi
  exact ⟨hm, good_of_word h1⟩
theorem goodIn_app {big a b : List Cond} (ha : GoodIn big a) (hb : GoodIn big b) : GoodIn big (a ++ b) := fun w h => (List.mem_append.mp h).elim (ha w) (hb w)
theorem goodIn_ca {big a b : List Cond} {c : Cond} (ha : GoodIn big (c :: a)) (hb : GoodIn big b) : GoodIn big (c :: (a ++ b)) := fun w h => (List.mem_cons.mp h).elim (fun e => ha w (List.mem_cons.mpr (Or.inl e))) (fun h => (List.mem_append.mp h).elim (fun h => ha w (List.mem_cons.mpr (Or.inr h))) (hb w))
theorem goodIn_sub {big ws : List Cond} (hm : ∀ w ∈ ws, w ∈ big) (h : ws.all goodWord = true) : GoodIn big ws := fun w hw => ⟨hm w hw, good_of_word (List.all_eq_true.mp h w hw)⟩
/-! ===== END ===== -/

/-! ===== BEGIN exceptions that leave a method, and their catching by the caller (launches without stack traces) ===== -/
section VXA
/-! The laws vx_back, vx_callV, vx_callS, vx_callSW, vx_throw0, vx_throwS follow proofs of the library, with one case more: JvmDerived/Free/Laws.lean (Back.of_free), Shelf42/LK1.lean (callV, callS), Shelf/KitTraced.lean (throwNew0V, throwNewS). -/
/-- where a method has thrown q: the class by its name, the cell, what was written, the world -/
def vx_T (XC : String → State → State → Prop) (st : State) (q : Addr) (t : State) (mc ms : Nat) (free : Addr → Prop) : Prop :=
  ∃ (E : String) (ce : Cell) (L : List Loc), XC E st t ∧ t.heap[q]? = some ce ∧ ce.vm = .none ∧ st.vm.findClass E = some ce.cls ∧ st.WarmedH t.vm ∧ st.sameButNew ({ t with vm := st.vm } : State) L mc ms ∧ ∀ z ∈ L, free z.base
def vx_Q (Qc : Array Value → State → Outcome → State → Prop) (XC : String → State → State → Prop) (mc ms : Nat) (free : Addr → Prop) : Array Value → State → Outcome → State → Prop := fun a st o t =>
  (Qc a st o t ∧ ∃ L, FrameEnd st o t L mc ms ∧ ∀ q ∈ L, free q.base) ∨ ∃ q, o = .threw q ∧ vx_T XC st q t mc ms free
/-- a callee that returns or throws -/
def vx_Met (l : Launch) (y : MethodName) (ws : List Cond) (rm : Room) (Pc : Array Value → State → Prop) (Qc : Array Value → State → Outcome → State → Prop) (XC : String → State → State → Prop) (mc ms : Nat) (free : Addr → Prop) : Prop :=
  MetFree l y (headSpec ws rm) Pc (fun _ _ _ _ _ => True) (vx_Q Qc XC mc ms free)
def vx_Post (XC : String → State → State → Prop) (mc ms : Nat) (free : Addr → Prop) : Pt → Array Value → Addr → Pt → Prop := fun A a q B =>
  ∃ (g : JFrame) (mk : MethodId) (t : State) (L : List Loc) (E : String) (ce : Cell), B.U.heap = t.heap ∧ B.U.vm = t.vm ∧ XC E (A.U.calling g mk a) t ∧ t.heap[q]? = some ce ∧ ce.vm = .none ∧ A.U.vm.findClass E = some ce.cls ∧ B.locs = A.locs ++ L ∧ (∀ z ∈ L, free z.base) ∧ B.cells = A.cells + mc ∧ B.slots = A.slots + ms
def vx_Back (l : Launch) (R : Room) (p : Program) (e : Env) (below : List Frame) (s : State) (sargs : Array Value) (y : MethodName) (len W9 : Nat)
    (Pre : Pt → Array Value → Prop) (Post : Pt → Array Value → Option Value → Pt → Prop) (PostX : Pt → Array Value → Addr → Pt → Prop) : Prop :=
  ∀ (m : MethodId) (meth : Method) (c : Code) (A : Pt) (g : JFrame) (ig : Instr) (mk : MethodId) (a : Array Value),
    Stand p l e R s m sargs below meth c A.U A.locs A.cells A.slots → g.method = m → g.locals.size = c.maxLocals → decode c.code g.pc = .ok (ig, len) →
    2 * g.monitorRoom + (g.stack.map fun v => v.category).sum ≤ W9 → A.U.methodNamed? y = some mk → Pre A a →
    (∃ (v : Option Value) (B : Pt), Stand p l e R s m sargs below meth c B.U B.locs B.cells B.slots ∧ Post A a v B ∧
      Steps p.tables e below (doInvoke e (A.U.setTop g) [] mk a).1 (B.U.setTop { g with pc := g.pc + len, stack := v.toList ++ g.stack })) ∨
    (∃ (q : Addr) (B : Pt), Stand p l e R s m sargs below meth c B.U B.locs B.cells B.slots ∧ PostX A a q B ∧
      Steps p.tables e below (doInvoke e (A.U.setTop g) [] mk a).1 ((B.U.setTop g).pushFrame (.throwing q)))
section Payer
variable {l : Launch} {R : Room} {p : Program} {e : Env} {below : List Frame} {s : State} {sargs : Array Value} {y : MethodName} {len W9 : Nat}
theorem vx_back {ws : List Cond} {rm : Room} {Pc : Array Value → State → Prop} {Qc : Array Value → State → Outcome → State → Prop} {XC : String → State → State → Prop} {mc ms : Nat} {free : Addr → Prop} {bytes : ByteArray} {maxL : Nat} {ret : Option FieldType}
    (hM : vx_Met l y ws rm Pc Qc XC mc ms free) (hblind : FrameBlind Pc) (hrc : rm.cells = mc) (hrs : rm.slots = ms)
    (hframes : rm.frames + 1 ≤ R.frames) (hlocals : W9 + (maxL + 11) + rm.locals ≤ R.locals)
    (hws : ∀ w ∈ ws, ∀ a' U, s.WarmedH U.vm → w.before a' U = true) (hcode : Cond.code y bytes maxL ret ∈ ws) (hinit : ∀ a' U, s.WarmedH U.vm → (Cond.initialized y.cls).before a' U = true) :
    vx_Back l R p e below s sargs y len W9 (PreOf R mc ms Pc) (PostOf Qc mc ms free) (vx_Post XC mc ms free) := by
  intro m meth c A g ig mk a X hg hsize hdg hW hn hp
  have h1 : (headSpec ws rm).pre.before a A.U = true := atoms_intro fun w hw => hws w hw _ _ X.warmed
  have h2 : (Cond.code y bytes maxL ret).before a A.U = true := hws _ hcode _ _ X.warmed
  have h3 : (Cond.initialized y.cls).before a A.U = true := hinit _ _ X.warmed
  have h4 : A.cells + (headSpec ws rm).room.cells ≤ R.cells := by rw [show (headSpec ws rm).room.cells = mc from hrc]; exact hp.1
  have h5 : A.slots + (headSpec ws rm).room.slots ≤ R.slots := by rw [show (headSpec ws rm).room.slots = ms from hrs]; exact hp.2.1
  have hPc : Pc a (A.U.calling g mk a) := hblind _ _ _ _ hp.2.2
  obtain ⟨U, Ls, c0, s0⟩ := A
  dsimp only [Pt.U, Pt.locs, Pt.cells, Pt.slots] at h1 h2 h3 h4 h5 X hn hPc ⊢
  obtain ⟨methY, cY, hmY, hcY, -, hlY, -, -, -, -⟩ := Cond.code_spec hn h2
  obtain ⟨kY, hkY, -⟩ := className_of_methodNamed hn
  have hinitY : kY.init = .initialized := Cond.initialized_spec (findClass_of_methodNamed hn) hkY h3
  have h : At U g.method c below := by rw [hg]; exact X.here
  have hlocals9 : W9 + (maxL + 11) + (headSpec ws rm).room.locals ≤ R.locals := hlocals
  have happ : (headSpec ws rm).appliesLoose y e.platform (U.calling g mk a) = true :=
    Spec.appliesLoose_calling (g := g) h hdg hn hkY hinitY
      (X.room_calling (g := g) (R' := (headSpec ws rm).room) hsize hmY hcY hframes (by rw [hlY]; omega) h4 h5) h1
  obtain ⟨mid, hmid⟩ := h.above
  have hfr : (U.setTop g).frames = (.java g :: mid) ++ below := by rw [State.frames_setTop' g h.top, hmid]; rfl
  obtain ⟨o, s₂, hsteps, -, hend, hq⟩ := Steps.callFree hM p X.admits X.cas X.clock (acts := []) hfr happ hPc trivial
  have hq' : vx_Q Qc XC mc ms free a (U.calling g mk a) o s₂ := hq
  rw [State.frames_setTop' g h.top] at hend
  obtain ⟨g₀, hg0⟩ := Option.isSome_iff_exists.mp h.top
  obtain ⟨r, hr⟩ := State.topJava?_eq_some.mp hg0
  have hr' : (({ U with heap := s₂.heap, slotsUsed := s₂.slotsUsed } : State).setVm s₂.vm).frames = .java g₀ :: r := hr
  rcases hq' with ⟨hqc, L, hfe, hL⟩ | ⟨q, rfl, E, ce, L, hx, hce, hcv, hcl, hW₂, hsm, hL⟩
  · obtain ⟨⟨v, rfl⟩, hW₂, e2, q2, q3, q4, q5, q6⟩ := id hfe
    have e3 : s₂ = ({ (U.calling g mk a).setFrames s₂.frames with heap := s₂.heap, slotsUsed := s₂.slotsUsed } : State).setVm s₂.vm := by
      have : s₂ = ({ s₂ with vm := (U.calling g mk a).vm } : State).setVm s₂.vm := rfl
      rw [e2] at this
      exact this
    obtain ⟨c₂, i₂, len₂, hc₂, hd₂, hf₂⟩ := hend
    have hW' : U.WarmedH s₂.vm := hW₂
    have hcc : c₂ = c := by
      have h1 : s₂.code? g.method = U.code? g.method := by
        rw [State.code?_eq, State.code?_eq, hW'.alike.method?]
      exact Option.some.inj (hc₂.symm.trans (h1.trans h.code))
    subst hcc
    have hlen : len₂ = len := by rw [hdg] at hd₂; cases hd₂; rfl
    subst hlen
    have hs₂ : s₂ = (({ U with heap := s₂.heap, slotsUsed := s₂.slotsUsed } : State).setVm s₂.vm).setTop { g with pc := g.pc + len₂, stack := v.toList ++ g.stack } := by
      refine e3.trans ?_
      rw [hf₂, State.calling_eq h.top, State.setFrames_setFrames, State.setTop_of_frames _ hr', hr]
      rfl
    have hsame : U.sameButNew ({ U with heap := s₂.heap, slotsUsed := s₂.slotsUsed } : State) L mc ms := by
      refine ⟨?_, q2, q3, q4, q5, q6⟩
      obtain ⟨t, ht, -⟩ := State.frames_cons hr
      show ({ U with heap := s₂.heap, slotsUsed := s₂.slotsUsed } : State) = { U.setFrames U.frames with heap := s₂.heap, slotsUsed := s₂.slotsUsed }
      rw [State.setFrames_self ht]
    subst hg
    refine Or.inl ⟨v, ⟨(({ U with heap := s₂.heap, slotsUsed := s₂.slotsUsed } : State).setVm s₂.vm), Ls ++ L, c0 + mc, s0 + ms⟩,
      ⟨X.admits, X.cas, X.clock, X.frames, X.room, X.hears, X.method, X.code, (X.here.setHeapUsed s₂.heap s₂.slotsUsed).setVm hW'.alike, X.tail, State.WarmedH.trans X.warmed hW', X.limits, X.bytes, X.same.trans (hsame.setVm s.vm)⟩,
      ⟨g, mk, s₂, L, rfl, rfl, hqc, rfl, hL, rfl, rfl⟩, ?_⟩
    show Steps p.tables e below _ ((({ U with heap := s₂.heap, slotsUsed := s₂.slotsUsed } : State).setVm s₂.vm).setTop { g with pc := g.pc + len₂, stack := v.toList ++ g.stack })
    rw [← hs₂]
    exact hsteps
  · obtain ⟨e2, q2, q3, q4, q5, q6⟩ := id hsm
    have e3 : s₂ = ({ (U.calling g mk a).setFrames s₂.frames with heap := s₂.heap, slotsUsed := s₂.slotsUsed } : State).setVm s₂.vm := by
      have : s₂ = ({ s₂ with vm := (U.calling g mk a).vm } : State).setVm s₂.vm := rfl
      rw [e2] at this
      exact this
    have hf₂ : s₂.frames = .throwing q :: .java g :: U.frames.tail := hend
    have hW' : U.WarmedH s₂.vm := hW₂
    have hs₂ : s₂ = ((({ U with heap := s₂.heap, slotsUsed := s₂.slotsUsed } : State).setVm s₂.vm).setTop g).pushFrame (.throwing q) := by
      refine e3.trans ?_
      rw [hf₂, State.calling_eq h.top, State.setFrames_setFrames, State.pushFrame, State.frames_setTop _ hr', State.setTop_of_frames _ hr', State.setFrames_setFrames, hr]
      rfl
    have hsame : U.sameButNew ({ U with heap := s₂.heap, slotsUsed := s₂.slotsUsed } : State) L mc ms := by
      refine ⟨?_, q2, q3, q4, q5, q6⟩
      obtain ⟨t, ht, -⟩ := State.frames_cons hr
      show ({ U with heap := s₂.heap, slotsUsed := s₂.slotsUsed } : State) = { U.setFrames U.frames with heap := s₂.heap, slotsUsed := s₂.slotsUsed }
      rw [State.setFrames_self ht]
    subst hg
    refine Or.inr ⟨q, ⟨(({ U with heap := s₂.heap, slotsUsed := s₂.slotsUsed } : State).setVm s₂.vm), Ls ++ L, c0 + mc, s0 + ms⟩,
      ⟨X.admits, X.cas, X.clock, X.frames, X.room, X.hears, X.method, X.code, (X.here.setHeapUsed s₂.heap s₂.slotsUsed).setVm hW'.alike, X.tail, State.WarmedH.trans X.warmed hW', X.limits, X.bytes, X.same.trans (hsame.setVm s.vm)⟩,
      ⟨g, mk, s₂, L, E, ce, rfl, rfl, hx, hce, hcv, hcl, rfl, hL, rfl, rfl⟩, ?_⟩
    show Steps p.tables e below _ (((({ U with heap := s₂.heap, slotsUsed := s₂.slotsUsed } : State).setVm s₂.vm).setTop g).pushFrame (.throwing q))
    rw [← hs₂]
    exact hsteps
end Payer
section Calls
variable {p : Program} {l : Launch} {e : Env} {R : Room} {s : State} {m : MethodId} {args : Array Value} {below : List Frame} {meth : Method} {c : Code} {T : State} {locs : List Loc} {cells slots : Nat}
theorem vx_callV (X : Stand p l e R s m args below meth c T locs cells slots) (hexec : p.tables.exec = Jvm.exec) {own C : String} {index : Nat} {y : MethodName} {bytes : ByteArray} {maxL : Nat} {ret : Option FieldType}
    (hown : s.vm.findClass own = some m.cls) (hlink : (Cond.methodLink own index y).before args s = true) (hinst : (Cond.instanceMethod y).before args s = true) (hsel : (Cond.selects C y y).before args s = true)
    (hcode : (Cond.code y bytes maxL ret).before args s = true) (hy : y.cls ≠ "java/lang/invoke/MethodHandle" ∧ y.cls ≠ "java/lang/invoke/VarHandle")
    {W9 : Nat} {Pre : Pt → Array Value → Prop} {Post : Pt → Array Value → Option Value → Pt → Prop} {PostX : Pt → Array Value → Addr → Pt → Prop} (hK : vx_Back l R p e below s args y 3 W9 Pre Post PostX)
    {b : Addr} {cellB : Cell} (hcell : T.heap[b]? = some cellB) (hobj : cellB.vm.isStatics = false) (hcls : s.vm.findClass C = some cellB.cls)
    {g : JFrame} (hg : g.method = m) (hsize : g.locals.size = c.maxLocals) {argsL rest : List Value} (hlen : ∀ sig, parseMethodDescriptor y.desc = some sig → argsL.length = sig.parameters.length)
    (hstack : g.stack = argsL.reverse ++ .ref b :: rest) (hW : 2 * g.monitorRoom + (rest.map fun v => v.category).sum ≤ W9) (hdg : decode c.code g.pc = .ok (.invokevirtual index, 3))
    (hpre : ∀ vm₁, s.WarmedH vm₁ → Pre ⟨T.setVm vm₁, locs, cells, slots⟩ (Value.ref b :: argsL).toArray) :
    (∃ (v : Option Value) (vm₁ : Vm) (B : Pt), s.WarmedH vm₁ ∧ Stand p l e R s m args below meth c B.U B.locs B.cells B.slots ∧ Post ⟨T.setVm vm₁, locs, cells, slots⟩ (Value.ref b :: argsL).toArray v B ∧
      ∀ target, Steps p.tables e below (B.U.setTop { g with pc := g.pc + 3, stack := v.toList ++ rest }) target → Steps p.tables e below (T.setTop g) target) ∨
    (∃ (q : Addr) (vm₁ : Vm) (B : Pt), s.WarmedH vm₁ ∧ Stand p l e R s m args below meth c B.U B.locs B.cells B.slots ∧ PostX ⟨T.setVm vm₁, locs, cells, slots⟩ (Value.ref b :: argsL).toArray q B ∧
      Steps p.tables e below (T.setTop g) ((B.U.setTop { g with stack := rest }).pushFrame (.throwing q))) := by
  obtain ⟨mk, methM, hnamed, hmethM, hstM, habM⟩ := Cond.instanceMethod_spec hinst
  obtain ⟨methM', cM, hmethM', -, -, -, -, -, -, hsigM⟩ := Cond.code_spec hnamed hcode
  cases hmethM.symm.trans hmethM'
  obtain ⟨c2, r2, m2, q1, q2, q3, q4, kP, hkP, hkPi⟩ := Cond.selects_spec hsel
  cases hcls.symm.trans q1
  cases (State.methodFound?_of_named hnamed hy).symm.trans q2
  cases hnamed.symm.trans q3
  have hselP : selectMethod e.platform s.vm cellB.cls mk = .method mk := by rw [Launch.admits_selectMethod X.admits]; exact q4
  obtain ⟨vm₁, X₁, hstep₁⟩ := X.invokevirtual hexec hown hlink hnamed hmethM hstM hkP hkPi hy (a := b) (cell := cellB) hcell
    (fun z h => by rw [h] at hobj; cases hobj) hselP hmethM habM hkP hkPi (g := g) hg (argsL := argsL) (rest := rest) (hlen _ hsigM) hstack hdg
  rcases hK m meth c ⟨T.setVm vm₁, locs, cells, slots⟩ { g with stack := rest } (.invokevirtual index) mk (Value.ref b :: argsL).toArray X₁ hg hsize hdg hW (X₁.named hnamed) (hpre vm₁ X₁.warmed) with ⟨v, B, X', hpost, hsteps⟩ | ⟨q, B, X', hpost, hsteps⟩
  · exact Or.inl ⟨v, vm₁, B, X₁.warmed, X', hpost, fun target h => hstep₁ _ fun acts => by rw [doInvoke_state]; exact hsteps.trans h⟩
  · exact Or.inr ⟨q, vm₁, B, X₁.warmed, X', hpost, hstep₁ _ fun acts => by rw [doInvoke_state]; exact hsteps⟩
theorem vx_callS (X : Stand p l e R s m args below meth c T locs cells slots) (hexec : p.tables.exec = Jvm.exec) {own : String} {index : Nat} {y : MethodName} {bytes : ByteArray} {maxL : Nat} {ret : Option FieldType}
    (hown : s.vm.findClass own = some m.cls) (hlink : (Cond.methodLink own index y).before args s = true) (hstat : (Cond.static y).before args s = true) (hinit : (Cond.initialized y.cls).before args s = true)
    (hcode : (Cond.code y bytes maxL ret).before args s = true) (hy : y.cls ≠ "java/lang/invoke/MethodHandle" ∧ y.cls ≠ "java/lang/invoke/VarHandle")
    {W9 : Nat} {Pre : Pt → Array Value → Prop} {Post : Pt → Array Value → Option Value → Pt → Prop} {PostX : Pt → Array Value → Addr → Pt → Prop} (hK : vx_Back l R p e below s args y 3 W9 Pre Post PostX)
    {g : JFrame} (hg : g.method = m) (hsize : g.locals.size = c.maxLocals) {argsL rest : List Value} (hlen : ∀ sig, parseMethodDescriptor y.desc = some sig → argsL.length = sig.parameters.length)
    (hstack : g.stack = argsL.reverse ++ rest) (hW : 2 * g.monitorRoom + (rest.map fun v => v.category).sum ≤ W9) (hdg : decode c.code g.pc = .ok (.invokestatic index, 3))
    (hpre : ∀ vm₁, s.WarmedH vm₁ → Pre ⟨T.setVm vm₁, locs, cells, slots⟩ argsL.toArray) :
    (∃ (v : Option Value) (vm₁ : Vm) (B : Pt), s.WarmedH vm₁ ∧ Stand p l e R s m args below meth c B.U B.locs B.cells B.slots ∧ Post ⟨T.setVm vm₁, locs, cells, slots⟩ argsL.toArray v B ∧
      ∀ target, Steps p.tables e below (B.U.setTop { g with pc := g.pc + 3, stack := v.toList ++ rest }) target → Steps p.tables e below (T.setTop g) target) ∨
    (∃ (q : Addr) (vm₁ : Vm) (B : Pt), s.WarmedH vm₁ ∧ Stand p l e R s m args below meth c B.U B.locs B.cells B.slots ∧ PostX ⟨T.setVm vm₁, locs, cells, slots⟩ argsL.toArray q B ∧
      Steps p.tables e below (T.setTop g) ((B.U.setTop { g with stack := rest }).pushFrame (.throwing q))) := by
  obtain ⟨mk, hnamed⟩ := Cond.code_named hcode
  obtain ⟨methM, cM, hmethM, -, -, -, -, -, -, hsigM⟩ := Cond.code_spec hnamed hcode
  have hstatic : methM.isStatic = true := Cond.static_spec hnamed hmethM hstat
  obtain ⟨kP, hkP, -⟩ := className_of_methodNamed hnamed
  have hinitP : kP.init = .initialized := Cond.initialized_spec (findClass_of_methodNamed hnamed) hkP hinit
  obtain ⟨vm₁, X₁, hstep₁⟩ := X.invokestatic hexec hown hlink hnamed hmethM hstatic hkP hinitP hy (g := g) hg (argsL := argsL) (rest := rest) (hlen _ hsigM) hstack hdg
  rcases hK m meth c ⟨T.setVm vm₁, locs, cells, slots⟩ { g with stack := rest } (.invokestatic index) mk argsL.toArray X₁ hg hsize hdg hW (X₁.named hnamed) (hpre vm₁ X₁.warmed) with ⟨v, B, X', hpost, hsteps⟩ | ⟨q, B, X', hpost, hsteps⟩
  · exact Or.inl ⟨v, vm₁, B, X₁.warmed, X', hpost, fun target h => hstep₁ _ fun acts => by rw [doInvoke_state]; exact hsteps.trans h⟩
  · exact Or.inr ⟨q, vm₁, B, X₁.warmed, X', hpost, hstep₁ _ fun acts => by rw [doInvoke_state]; exact hsteps⟩
end Calls
theorem vx_cls {s : State} {T : State} {vm₁ : Vm} {E : String} {k : ClassId} (hW : s.WarmedH vm₁) (h : (T.setVm vm₁).vm.findClass E = some k) : s.vm.findClass E = some k := by
  have h1 : vm₁.findClass E = some k := h
  rw [hW.alike.findClass] at h1
  exact h1
/-- the method's frame g, with q thrown over it -/
def vx_W (p : Program) (l : Launch) (e : Env) (R : Room) (s : State) (m : MethodId) (args : Array Value) (below : List Frame) (meth : Method) (c : Code) (H : Heap) (locs : List Loc) (cells slots : Nat) (Q : State → Prop) (g : JFrame) (q : Addr) : Prop :=
  ∀ T : State, T.heap = H → Stand p l e R s m args below meth c T locs cells slots → ∃ t, Steps p.tables e below ((T.setTop g).pushFrame (.throwing q)) t ∧ Q t
def vx_Run (p : Program) (l : Launch) (e : Env) (R : Room) (s : State) (m : MethodId) (args : Array Value) (below : List Frame) (meth : Method) (c : Code) (H : Heap) (locs : List Loc) (cells slots mc ms : Nat) (g : JFrame) (rest : List Value) (Qa : State → Outcome → State → Prop) (XC : String → State → State → Prop) (free : Addr → Prop) : Prop :=
  ∀ T : State, T.heap = H → Stand p l e R s m args below meth c T locs cells slots →
    (∃ (v : Option Value) (st₀ t T' : State) (L : List Loc), st₀.heap = H ∧ Stand p l e R s m args below meth c T' (locs ++ L) (cells + mc) (slots + ms) ∧ (∀ q ∈ L, free q.base) ∧ T'.heap = t.heap ∧ T'.vm = t.vm ∧ Qa st₀ (.returned v) t ∧
      Goes p e below T g T' { g with pc := g.pc + 3, stack := v.toList ++ rest }) ∨
    (∃ (q : Addr) (st₀ t T' : State) (L : List Loc) (E : String) (ce : Cell), st₀.heap = H ∧ Stand p l e R s m args below meth c T' (locs ++ L) (cells + mc) (slots + ms) ∧ (∀ z ∈ L, free z.base) ∧ T'.heap = t.heap ∧ T'.vm = t.vm ∧ XC E st₀ t ∧ t.heap[q]? = some ce ∧ ce.vm = .none ∧ s.vm.findClass E = some ce.cls ∧
      Steps p.tables e below (T.setTop g) ((T'.setTop { g with stack := rest }).pushFrame (.throwing q)))
def vx_X {S : Type} (px : S → Prop) (B : String → S → State → Prop) (A : Nat → Prop) : String → State → State → Prop := fun E st t => ∃ u : S, px u ∧ B E u t ∧ va_F A st t
section Runs
variable {p : Program} {l : Launch} {e : Env} {R : Room} {s : State} {m : MethodId} {args : Array Value} {below : List Frame} {meth : Method} {c : Code} {H : Heap} {locs : List Loc} {cells slots : Nat}
variable {y : MethodName} {bytes cc : ByteArray} {maxL nL mc ms n index : Nat} {ret : Option FieldType} {ws : List Cond} {rm : Room} {Pc : Array Value → State → Prop} {Qc : Array Value → State → Outcome → State → Prop} {XC : String → State → State → Prop} {free : Addr → Prop} {Ts : List Cond} {own C : String} {b : Addr} {As rest : List Value} {g : JFrame}
theorem vx_callBack (cb : CallB R s args own index y bytes maxL ret ws rm mc ms n) (hM : vx_Met l y ws rm Pc Qc XC mc ms free) (hbl : FrameBlind Pc) : vx_Back l R p e below s args y 3 8 (PreOf R mc ms Pc) (PostOf Qc mc ms free) (vx_Post XC mc ms free) := by
  obtain ⟨hrc, hrs, hfr, hlo, hws, hcw, -, hini, -⟩ := cb
  exact vx_back (bytes := bytes) (maxL := maxL) (ret := ret) hM hbl hrc hrs hfr hlo hws hcw (fun a' U hW => word_at hW (Or.inl (by first | rfl | simp [Cond.onTables, Cond.keeps, Cond.steady])) hini)
theorem vx_runV (S : CallFix p m c cc nL s args Ts own) (hM : vx_Met l y ws rm Pc Qc XC mc ms free) (cw : CallW R s args own C index y bytes maxL ret ws rm mc ms n) (hp : PreV s H C b Pc As)
    (hg : g.method = m) (hn : As.length = n) (hsize : g.locals.size = nL) (hstack : g.stack = As.reverse ++ .ref b :: rest) (hW : 2 * g.monitorRoom + (rest.map fun v => v.category).sum ≤ 8) (hdg : decode cc g.pc = .ok (.invokevirtual index, 3)) (hf : cells + mc ≤ R.cells ∧ slots + ms ≤ R.slots) :
    vx_Run p l e R s m args below meth c H locs cells slots mc ms g rest (Qc (Value.ref b :: As).toArray) XC free := by
  have hK : vx_Back l R p e below s args y 3 8 (PreOf R mc ms Pc) (PostOf Qc mc ms free) (vx_Post XC mc ms free) := vx_callBack cw.1 hM hp.1
  obtain ⟨⟨-, -, -, -, -, -, hcode, -, hy, hlen, hl⟩, hin, hse⟩ := cw
  obtain ⟨hx, hb, hml, ho, -⟩ := S
  obtain ⟨-, ⟨cellB, hcB, hoB, hclB⟩, hPc⟩ := hp
  intro T hT X
  rcases vx_callV X hx (C := C) (bytes := bytes) (maxL := maxL) (ret := ret) ho hl hin hse hcode hy hK (by rw [hT]; exact hcB) hoB hclB hg (hsize.trans hml.symm) (argsL := As) (rest := rest) (fun sig h => hn.trans (hlen sig h)) hstack hW (by rw [hb]; exact hdg)
    (fun vm₁ hW₁ => ⟨hf.1, hf.2, hPc (T.setVm vm₁) hT hW₁⟩) with ⟨v, vm₁, ⟨U', l2, c2, s2⟩, hW₁, X', ⟨g', mk, t, L, e1, e2, hq, h1, hL, h2, h3⟩, st⟩ | ⟨q, vm₁, ⟨U', l2, c2, s2⟩, hW₁, X', ⟨g', mk, t, L, E, ce, e1, e2, hq, hce, hcv, hcl, h1, hL, h2, h3⟩, st⟩
  · dsimp only [Pt.U, Pt.locs, Pt.cells, Pt.slots] at X' e1 e2 h1 h2 h3 st
    subst h1; subst h2; subst h3
    exact Or.inl ⟨v, (T.setVm vm₁).calling g' mk (Value.ref b :: As).toArray, t, U', L, hT, X', hL, e1, e2, hq, st⟩
  · dsimp only [Pt.U, Pt.locs, Pt.cells, Pt.slots] at X' e1 e2 h1 h2 h3 st hcl
    subst h1; subst h2; subst h3
    exact Or.inr ⟨q, (T.setVm vm₁).calling g' mk (Value.ref b :: As).toArray, t, U', L, E, ce, hT, X', hL, e1, e2, hq, hce, hcv, vx_cls hW₁ hcl, st⟩
theorem vx_runS (S : CallFix p m c cc nL s args Ts own) (hM : vx_Met l y ws rm Pc Qc XC mc ms free) (cw : CallB R s args own index y bytes maxL ret ws rm mc ms n ∧ (Cond.static y).before args s = true) (hp : PreS s H Pc As)
    (hg : g.method = m) (hn : As.length = n) (hsize : g.locals.size = nL) (hstack : g.stack = As.reverse ++ rest) (hW : 2 * g.monitorRoom + (rest.map fun v => v.category).sum ≤ 8) (hdg : decode cc g.pc = .ok (.invokestatic index, 3)) (hf : cells + mc ≤ R.cells ∧ slots + ms ≤ R.slots) :
    vx_Run p l e R s m args below meth c H locs cells slots mc ms g rest (Qc As.toArray) XC free := by
  have hK : vx_Back l R p e below s args y 3 8 (PreOf R mc ms Pc) (PostOf Qc mc ms free) (vx_Post XC mc ms free) := vx_callBack cw.1 hM hp.1
  obtain ⟨⟨-, -, -, -, -, -, hcode, hini, hy, hlen, hl⟩, hstt⟩ := cw
  obtain ⟨hx, hb, hml, ho, -⟩ := S
  intro T hT X
  rcases vx_callS X hx (bytes := bytes) (maxL := maxL) (ret := ret) ho hl hstt hini hcode hy hK hg (hsize.trans hml.symm) (argsL := As) (rest := rest) (fun sig h => hn.trans (hlen sig h)) hstack hW (by rw [hb]; exact hdg)
    (fun vm₁ hW₁ => ⟨hf.1, hf.2, hp.2 (T.setVm vm₁) hT hW₁⟩) with ⟨v, vm₁, ⟨U', l2, c2, s2⟩, hW₁, X', ⟨g', mk, t, L, e1, e2, hq, h1, hL, h2, h3⟩, st⟩ | ⟨q, vm₁, ⟨U', l2, c2, s2⟩, hW₁, X', ⟨g', mk, t, L, E, ce, e1, e2, hq, hce, hcv, hcl, h1, hL, h2, h3⟩, st⟩
  · dsimp only [Pt.U, Pt.locs, Pt.cells, Pt.slots] at X' e1 e2 h1 h2 h3 st
    subst h1; subst h2; subst h3
    exact Or.inl ⟨v, (T.setVm vm₁).calling g' mk As.toArray, t, U', L, hT, X', hL, e1, e2, hq, st⟩
  · dsimp only [Pt.U, Pt.locs, Pt.cells, Pt.slots] at X' e1 e2 h1 h2 h3 st hcl
    subst h1; subst h2; subst h3
    exact Or.inr ⟨q, (T.setVm vm₁).calling g' mk As.toArray, t, U', L, E, ce, hT, X', hL, e1, e2, hq, hce, hcv, vx_cls hW₁ hcl, st⟩
end Runs
section Rows
variable {p : Program} {l : Launch} {e : Env} {R : Room} {s : State} {m : MethodId} {args : Array Value} {below : List Frame} {meth : Method} {c : Code} {H : Heap} {locs : List Loc} {cells slots : Nat} {Q : State → Prop}
variable {mc ms : Nat} {free : Addr → Prop} {A0 A1 : Nat → Prop} {H0 : Heap} {a : Array Value} {pc : Nat} {ls : Array Slot} {st0 rest : List Value}
theorem vx_keep {st₀ t T' : State} {L : List Loc} (h0 : st₀.heap = H) (e1 : T'.heap = t.heap) (hS : va_S A0 H0 H locs) (hA : ∀ q, q < H.size → A1 q → A0 q) (hf : ∀ q, free q → A0 q) (hL : ∀ q ∈ L, free q.base) (hF : va_F A1 st₀ t) :
    H.size ≤ T'.heap.size ∧ (∀ q : Nat, q < H.size → ¬ A1 q → T'.heap[q]? = H[q]?) ∧ va_S A0 H0 T'.heap (locs ++ L) := by
  obtain ⟨hz, hk⟩ := hF
  rw [h0] at hz hk
  exact ⟨by rw [e1]; exact hz, fun q h1 h2 => by rw [e1]; exact hk q h1 h2,
    ⟨Nat.le_trans hS.1 (by rw [e1]; exact hz), fun q h1 h2 => by rw [e1, hk q (Nat.lt_of_lt_of_le h1 hS.1) (fun z => h2 (hA q (Nat.lt_of_lt_of_le h1 hS.1) z))]; exact hS.2.1 q h1 h2, fun q hq => by
      rcases List.mem_append.mp hq with h | h
      · exact hS.2.2 q h
      · exact hf _ (hL q h)⟩⟩
theorem vx_calli {S SX : Type} {post : Int32 → S → Prop} {px : SX → Prop} {B : S → State → Prop} {BX : String → SX → State → Prop} {AX : Nat → Prop} (hr : vx_Run p l e R s m args below meth c H locs cells slots mc ms (F0 m pc ls st0) rest (va_Qi post B A1 a) (vx_X px BX AX) free) (hS : va_S A0 H0 H locs) (hA : ∀ q, q < H.size → A1 q → A0 q) (hf : ∀ q, free q → A0 q) (hAX : ∀ q, q < H.size → AX q → A0 q)
    (kx : ∀ (E : String) (ce : Cell) (q9 : Addr) (u : SX) (t : State) (H1 : Heap) (locs1 : List Loc), t.heap = H1 → s.vm.Alike t.vm → px u → BX E u t → H.size ≤ H1.size → (∀ q : Nat, q < H.size → ¬ AX q → H1[q]? = H[q]?) → va_S A0 H0 H1 locs1 → H1[q9]? = some ce → ce.vm = .none → s.vm.findClass E = some ce.cls → vx_W p l e R s m args below meth c H1 locs1 (cells + mc) (slots + ms) Q (F0 m pc ls rest) q9)
    (kk : ∀ (r : Int32) (u : S) (t : State) (H1 : Heap) (locs1 : List Loc), t.heap = H1 → s.vm.Alike t.vm → post r u → B u t → H.size ≤ H1.size → (∀ q : Nat, q < H.size → ¬ A1 q → H1[q]? = H[q]?) → va_S A0 H0 H1 locs1 → W p l e R s m args below meth c H1 locs1 (cells + mc) (slots + ms) Q (F0 m (pc + 3) ls (.int r :: rest))) : W p l e R s m args below meth c H locs cells slots Q (F0 m pc ls st0) := by
  intro T hT X
  rcases hr T hT X with ⟨v, st₀, t, T', L, h0, X', hL, e1, e2, ⟨⟨r, u, hv, hp, hb⟩, hF⟩, st⟩ | ⟨q, st₀, t, T', L, E, ce, h0, X', hL, e1, e2, ⟨u, hp, hb, hF⟩, hce, hcv, hcl, st⟩
  · cases hv
    obtain ⟨k1, k2, k3⟩ := vx_keep h0 e1 hS hA hf hL hF
    obtain ⟨t2, a1, b1⟩ := kk r u t T'.heap (locs ++ L) e1.symm (by rw [← e2]; exact X'.warmed.alike) hp hb k1 k2 k3 T' rfl X'
    exact ⟨t2, st t2 a1, b1⟩
  · obtain ⟨k1, k2, k3⟩ := vx_keep h0 e1 hS hAX hf hL hF
    obtain ⟨t2, a1, b1⟩ := kx E ce q u t T'.heap (locs ++ L) e1.symm (by rw [← e2]; exact X'.warmed.alike) hp hb k1 k2 k3 (by rw [e1]; exact hce) hcv hcl T' rfl X'
    exact ⟨t2, st.trans a1, b1⟩
theorem vx_calll {S SX : Type} {post : Int64 → S → Prop} {px : SX → Prop} {B : S → State → Prop} {BX : String → SX → State → Prop} {AX : Nat → Prop} (hr : vx_Run p l e R s m args below meth c H locs cells slots mc ms (F0 m pc ls st0) rest (va_Ql post B A1 a) (vx_X px BX AX) free) (hS : va_S A0 H0 H locs) (hA : ∀ q, q < H.size → A1 q → A0 q) (hf : ∀ q, free q → A0 q) (hAX : ∀ q, q < H.size → AX q → A0 q)
    (kx : ∀ (E : String) (ce : Cell) (q9 : Addr) (u : SX) (t : State) (H1 : Heap) (locs1 : List Loc), t.heap = H1 → s.vm.Alike t.vm → px u → BX E u t → H.size ≤ H1.size → (∀ q : Nat, q < H.size → ¬ AX q → H1[q]? = H[q]?) → va_S A0 H0 H1 locs1 → H1[q9]? = some ce → ce.vm = .none → s.vm.findClass E = some ce.cls → vx_W p l e R s m args below meth c H1 locs1 (cells + mc) (slots + ms) Q (F0 m pc ls rest) q9)
    (kk : ∀ (r : Int64) (u : S) (t : State) (H1 : Heap) (locs1 : List Loc), t.heap = H1 → s.vm.Alike t.vm → post r u → B u t → H.size ≤ H1.size → (∀ q : Nat, q < H.size → ¬ A1 q → H1[q]? = H[q]?) → va_S A0 H0 H1 locs1 → W p l e R s m args below meth c H1 locs1 (cells + mc) (slots + ms) Q (F0 m (pc + 3) ls (.long r :: rest))) : W p l e R s m args below meth c H locs cells slots Q (F0 m pc ls st0) := by
  intro T hT X
  rcases hr T hT X with ⟨v, st₀, t, T', L, h0, X', hL, e1, e2, ⟨⟨r, u, hv, hp, hb⟩, hF⟩, st⟩ | ⟨q, st₀, t, T', L, E, ce, h0, X', hL, e1, e2, ⟨u, hp, hb, hF⟩, hce, hcv, hcl, st⟩
  · cases hv
    obtain ⟨k1, k2, k3⟩ := vx_keep h0 e1 hS hA hf hL hF
    obtain ⟨t2, a1, b1⟩ := kk r u t T'.heap (locs ++ L) e1.symm (by rw [← e2]; exact X'.warmed.alike) hp hb k1 k2 k3 T' rfl X'
    exact ⟨t2, st t2 a1, b1⟩
  · obtain ⟨k1, k2, k3⟩ := vx_keep h0 e1 hS hAX hf hL hF
    obtain ⟨t2, a1, b1⟩ := kx E ce q u t T'.heap (locs ++ L) e1.symm (by rw [← e2]; exact X'.warmed.alike) hp hb k1 k2 k3 (by rw [e1]; exact hce) hcv hcl T' rfl X'
    exact ⟨t2, st.trans a1, b1⟩
theorem vx_callf {S SX : Type} {post : UInt32 → S → Prop} {px : SX → Prop} {B : S → State → Prop} {BX : String → SX → State → Prop} {AX : Nat → Prop} (hr : vx_Run p l e R s m args below meth c H locs cells slots mc ms (F0 m pc ls st0) rest (va_Qf post B A1 a) (vx_X px BX AX) free) (hS : va_S A0 H0 H locs) (hA : ∀ q, q < H.size → A1 q → A0 q) (hf : ∀ q, free q → A0 q) (hAX : ∀ q, q < H.size → AX q → A0 q)
    (kx : ∀ (E : String) (ce : Cell) (q9 : Addr) (u : SX) (t : State) (H1 : Heap) (locs1 : List Loc), t.heap = H1 → s.vm.Alike t.vm → px u → BX E u t → H.size ≤ H1.size → (∀ q : Nat, q < H.size → ¬ AX q → H1[q]? = H[q]?) → va_S A0 H0 H1 locs1 → H1[q9]? = some ce → ce.vm = .none → s.vm.findClass E = some ce.cls → vx_W p l e R s m args below meth c H1 locs1 (cells + mc) (slots + ms) Q (F0 m pc ls rest) q9)
    (kk : ∀ (r : UInt32) (u : S) (t : State) (H1 : Heap) (locs1 : List Loc), t.heap = H1 → s.vm.Alike t.vm → post r u → B u t → H.size ≤ H1.size → (∀ q : Nat, q < H.size → ¬ A1 q → H1[q]? = H[q]?) → va_S A0 H0 H1 locs1 → W p l e R s m args below meth c H1 locs1 (cells + mc) (slots + ms) Q (F0 m (pc + 3) ls (.float r :: rest))) : W p l e R s m args below meth c H locs cells slots Q (F0 m pc ls st0) := by
  intro T hT X
  rcases hr T hT X with ⟨v, st₀, t, T', L, h0, X', hL, e1, e2, ⟨⟨r, u, hv, hp, hb⟩, hF⟩, st⟩ | ⟨q, st₀, t, T', L, E, ce, h0, X', hL, e1, e2, ⟨u, hp, hb, hF⟩, hce, hcv, hcl, st⟩
  · cases hv
    obtain ⟨k1, k2, k3⟩ := vx_keep h0 e1 hS hA hf hL hF
    obtain ⟨t2, a1, b1⟩ := kk r u t T'.heap (locs ++ L) e1.symm (by rw [← e2]; exact X'.warmed.alike) hp hb k1 k2 k3 T' rfl X'
    exact ⟨t2, st t2 a1, b1⟩
  · obtain ⟨k1, k2, k3⟩ := vx_keep h0 e1 hS hAX hf hL hF
    obtain ⟨t2, a1, b1⟩ := kx E ce q u t T'.heap (locs ++ L) e1.symm (by rw [← e2]; exact X'.warmed.alike) hp hb k1 k2 k3 (by rw [e1]; exact hce) hcv hcl T' rfl X'
    exact ⟨t2, st.trans a1, b1⟩
theorem vx_calld {S SX : Type} {post : UInt64 → S → Prop} {px : SX → Prop} {B : S → State → Prop} {BX : String → SX → State → Prop} {AX : Nat → Prop} (hr : vx_Run p l e R s m args below meth c H locs cells slots mc ms (F0 m pc ls st0) rest (va_Qd post B A1 a) (vx_X px BX AX) free) (hS : va_S A0 H0 H locs) (hA : ∀ q, q < H.size → A1 q → A0 q) (hf : ∀ q, free q → A0 q) (hAX : ∀ q, q < H.size → AX q → A0 q)
    (kx : ∀ (E : String) (ce : Cell) (q9 : Addr) (u : SX) (t : State) (H1 : Heap) (locs1 : List Loc), t.heap = H1 → s.vm.Alike t.vm → px u → BX E u t → H.size ≤ H1.size → (∀ q : Nat, q < H.size → ¬ AX q → H1[q]? = H[q]?) → va_S A0 H0 H1 locs1 → H1[q9]? = some ce → ce.vm = .none → s.vm.findClass E = some ce.cls → vx_W p l e R s m args below meth c H1 locs1 (cells + mc) (slots + ms) Q (F0 m pc ls rest) q9)
    (kk : ∀ (r : UInt64) (u : S) (t : State) (H1 : Heap) (locs1 : List Loc), t.heap = H1 → s.vm.Alike t.vm → post r u → B u t → H.size ≤ H1.size → (∀ q : Nat, q < H.size → ¬ A1 q → H1[q]? = H[q]?) → va_S A0 H0 H1 locs1 → W p l e R s m args below meth c H1 locs1 (cells + mc) (slots + ms) Q (F0 m (pc + 3) ls (.double r :: rest))) : W p l e R s m args below meth c H locs cells slots Q (F0 m pc ls st0) := by
  intro T hT X
  rcases hr T hT X with ⟨v, st₀, t, T', L, h0, X', hL, e1, e2, ⟨⟨r, u, hv, hp, hb⟩, hF⟩, st⟩ | ⟨q, st₀, t, T', L, E, ce, h0, X', hL, e1, e2, ⟨u, hp, hb, hF⟩, hce, hcv, hcl, st⟩
  · cases hv
    obtain ⟨k1, k2, k3⟩ := vx_keep h0 e1 hS hA hf hL hF
    obtain ⟨t2, a1, b1⟩ := kk r u t T'.heap (locs ++ L) e1.symm (by rw [← e2]; exact X'.warmed.alike) hp hb k1 k2 k3 T' rfl X'
    exact ⟨t2, st t2 a1, b1⟩
  · obtain ⟨k1, k2, k3⟩ := vx_keep h0 e1 hS hAX hf hL hF
    obtain ⟨t2, a1, b1⟩ := kx E ce q u t T'.heap (locs ++ L) e1.symm (by rw [← e2]; exact X'.warmed.alike) hp hb k1 k2 k3 (by rw [e1]; exact hce) hcv hcl T' rfl X'
    exact ⟨t2, st.trans a1, b1⟩
theorem vx_callv {S SX : Type} {post : S → Prop} {px : SX → Prop} {B : S → State → Prop} {BX : String → SX → State → Prop} {AX : Nat → Prop} (hr : vx_Run p l e R s m args below meth c H locs cells slots mc ms (F0 m pc ls st0) rest (va_Qv post B A1 a) (vx_X px BX AX) free) (hS : va_S A0 H0 H locs) (hA : ∀ q, q < H.size → A1 q → A0 q) (hf : ∀ q, free q → A0 q) (hAX : ∀ q, q < H.size → AX q → A0 q)
    (kx : ∀ (E : String) (ce : Cell) (q9 : Addr) (u : SX) (t : State) (H1 : Heap) (locs1 : List Loc), t.heap = H1 → s.vm.Alike t.vm → px u → BX E u t → H.size ≤ H1.size → (∀ q : Nat, q < H.size → ¬ AX q → H1[q]? = H[q]?) → va_S A0 H0 H1 locs1 → H1[q9]? = some ce → ce.vm = .none → s.vm.findClass E = some ce.cls → vx_W p l e R s m args below meth c H1 locs1 (cells + mc) (slots + ms) Q (F0 m pc ls rest) q9)
    (kk : ∀ (u : S) (t : State) (H1 : Heap) (locs1 : List Loc), t.heap = H1 → s.vm.Alike t.vm → post u → B u t → H.size ≤ H1.size → (∀ q : Nat, q < H.size → ¬ A1 q → H1[q]? = H[q]?) → va_S A0 H0 H1 locs1 → W p l e R s m args below meth c H1 locs1 (cells + mc) (slots + ms) Q (F0 m (pc + 3) ls (rest))) : W p l e R s m args below meth c H locs cells slots Q (F0 m pc ls st0) := by
  intro T hT X
  rcases hr T hT X with ⟨v, st₀, t, T', L, h0, X', hL, e1, e2, ⟨⟨u, hv, hp, hb⟩, hF⟩, st⟩ | ⟨q, st₀, t, T', L, E, ce, h0, X', hL, e1, e2, ⟨u, hp, hb, hF⟩, hce, hcv, hcl, st⟩
  · cases hv
    obtain ⟨k1, k2, k3⟩ := vx_keep h0 e1 hS hA hf hL hF
    obtain ⟨t2, a1, b1⟩ := kk u t T'.heap (locs ++ L) e1.symm (by rw [← e2]; exact X'.warmed.alike) hp hb k1 k2 k3 T' rfl X'
    exact ⟨t2, st t2 a1, b1⟩
  · obtain ⟨k1, k2, k3⟩ := vx_keep h0 e1 hS hAX hf hL hF
    obtain ⟨t2, a1, b1⟩ := kx E ce q u t T'.heap (locs ++ L) e1.symm (by rw [← e2]; exact X'.warmed.alike) hp hb k1 k2 k3 (by rw [e1]; exact hce) hcv hcl T' rfl X'
    exact ⟨t2, st.trans a1, b1⟩
/-- caught by the row x of this method's table; the rows ahead don't take it -/
theorem vx_catch {own name : String} {E : String} {ce : Cell} {q : Addr} (hown : s.vm.findClass own = some m.cls) (pre : List ExceptionTableEntry) (x : ExceptionTableEntry) (suf : List ExceptionTableEntry) (hsplit : c.exceptionTable.toList = pre ++ x :: suf)
    (hpass : ∀ z ∈ pre, covers z pc = false ∨ (z.catchType ≠ 0 ∧ ∃ nm : String, (Cond.classLink own z.catchType nm).before args s = true ∧ va_Nc E nm s)) (hx : covers x pc = true) (h0 : x.catchType ≠ 0)
    (hlink : (Cond.classLink own x.catchType name).before args s = true) (hcast : (Cond.castable E name).before args s = true) (hcell : H[q]? = some ce) (hv : ce.vm = .none) (hcl : s.vm.findClass E = some ce.cls)
    (kk : W p l e R s m args below meth c H locs cells slots Q (F0 m x.handlerPc ls [.ref q])) : vx_W p l e R s m args below meth c H locs cells slots Q (F0 m pc ls rest) q := by
  intro T hT X
  have hpl : e.platform.magicAccessors = ({} : Platform).magicAccessors := by rw [X.admits.platform]
  obtain ⟨c3, c4, hc3, hc4, hasg⟩ := Cond.castable_spec hcast
  cases Option.some.inj (hc3.symm.trans hcl)
  obtain ⟨c5, hc5, hcl5⟩ := Cond.classLink_spec hown hlink e.platform hpl
  cases Option.some.inj (hc4.symm.trans hc5)
  obtain ⟨vm', X', st⟩ := X.thenCaughtThrough q (g := F0 m pc ls rest) rfl (Steps.refl _) (by rw [hT]; exact hcell) (by rw [hv]; rfl) (by obtain ⟨k9, h9, -⟩ := Vm.findClass_spec hcl; exact ⟨k9, h9⟩) pre x suf hsplit
    (fun z hz => by
      rcases hpass z hz with h | ⟨hz0, nm, hl1, hn1⟩
      · exact Or.inl h
      · obtain ⟨c6, hc6, hcl6⟩ := Cond.classLink_spec hown hl1 e.platform hpl
        obtain ⟨a8, b8, h1, h2, h3⟩ := hn1
        cases Option.some.inj (h1.symm.trans hcl)
        cases Option.some.inj (h2.symm.trans hc6)
        exact Or.inr ⟨hz0, _, hcl6, h3⟩) hx (Or.inr ⟨h0, c4, hcl5, hasg⟩)
  obtain ⟨t, a1, b1⟩ := kk (T.setVm vm') hT X'
  exact ⟨t, st.trans a1, b1⟩
end Rows
section Ends
variable {p : Program} {l : Launch} {e : Env} {R : Room} {s : State} {m : MethodId} {args : Array Value} {below : List Frame} {meth : Method} {c : Code} {H : Heap} {locs : List Loc} {cells slots : Nat} {Q : State → Prop}
variable {mc ms : Nat} {free : Addr → Prop} {A0 A1 : Nat → Prop} {H0 : Heap} {a : Array Value} {ls : Array Slot} {st0 rest : List Value}
variable {Qc : Array Value → State → Outcome → State → Prop} {XC : String → State → State → Prop}
/-- what a body that may throw owes at its end -/
def vx_MQ (below : List Frame) (Qc : Array Value → State → Outcome → State → Prop) (XC : String → State → State → Prop) (a : Array Value) (s : State) (mc ms : Nat) (free : Addr → Prop) : State → Prop := fun t =>
  ∃ o, t.status = .running ∧ Ended t below o ∧ vx_Q Qc XC mc ms free a s o t
theorem vx_ret {g : JFrame} {mc ms : Nat} (k : W p l e R s m args below meth c H locs cells slots (MQ below Qc args s mc ms free) g) : W p l e R s m args below meth c H locs cells slots (vx_MQ below Qc XC args s mc ms free) g := by
  intro T hT X
  obtain ⟨t, a1, o, b1, b2, b3, b4⟩ := k T hT X
  exact ⟨t, a1, o, b1, b2, Or.inl ⟨b3, b4⟩⟩
/-- not caught here: it goes on to the caller -/
theorem vx_widen {g : JFrame} {q : Addr} {k n : Nat} (h1 : cells ≤ k) (h2 : slots ≤ n) (kk : vx_W p l e R s m args below meth c H locs k n Q g q) : vx_W p l e R s m args below meth c H locs cells slots Q g q := fun T hT X => kk T hT (stand_widen X h1 h2)
theorem vx_out {pc : Nat} {E : String} {ce : Cell} {q : Addr} {mc ms : Nat} (hout : ∀ x ∈ c.exceptionTable.toList, covers x pc = false) (hlocks : meth.locks = false) (hcell : H[q]? = some ce) (hv : ce.vm = .none) (hcl : s.vm.findClass E = some ce.cls)
    (hx : ∀ t : State, t.heap = H → s.vm.Alike t.vm → XC E s t) (hf : ∀ z ∈ locs, free z.base) (hc : cells ≤ mc) (hs : slots ≤ ms) :
    vx_W p l e R s m args below meth c H locs cells slots (vx_MQ below Qc XC args s mc ms free) (F0 m pc ls rest) q := by
  intro T hT X
  obtain ⟨st1, hrun, hend, hW, hsm⟩ := X.leaveThrown q (g := F0 m pc ls rest) rfl rfl rfl hout hlocks
  have hcell9 : (T.setFrames (.throwing q :: below)).heap[q]? = some ce := by
    show T.heap[q]? = some ce
    rw [hT]; exact hcell
  exact ⟨_, st1, .threw q, hrun, hend, Or.inr ⟨q, rfl, E, ce, locs, hx _ hT hW.alike, hcell9, hv, hcl, hW, hsm.mono hc hs, hf⟩⟩
theorem vx_frame {U : State} {k n : Nat} (h : s.sameButNew ({ U with vm := s.vm } : State) locs k n) : s.heap.size ≤ U.heap.size ∧ ∀ q : Nat, q < s.heap.size → (∀ z ∈ locs, z.base ≠ q) → U.heap[q]? = s.heap[q]? := by
  obtain ⟨-, h2, -, -, -, h6⟩ := h
  refine ⟨h2, fun q hq hz => ?_⟩
  obtain ⟨c9, e1, e2, e3, e4⟩ := h6 q _ (Array.getElem?_eq_getElem hq)
  have hs : c9.slots = (s.heap[q]).slots := Array.ext_getElem? fun i => e4 i fun hm => hz _ hm rfl
  have h9 : c9 = s.heap[q] := by
    rw [hs] at e2
    exact e2
  have e5 : U.heap[q]? = some c9 := e1
  rw [e5, h9, Array.getElem?_eq_getElem hq]
/-- the words of a throw but the four that speak of the heap -/
def vx_no (w : Cond) : Bool := decide (w ≠ .isRef (.static Bundle.tN "UNASSIGNED_STACK" Bundle.steD)) && decide (w ≠ .isRef (.static Bundle.tN "SUPPRESSED_SENTINEL" Bundle.listD)) && decide (w ≠ .laysStatic Bundle.tN "UNASSIGNED_STACK" Bundle.steD) && decide (w ≠ .laysStatic Bundle.tN "SUPPRESSED_SENTINEL" Bundle.listD)
def vx_at0 (own : String) (ic : Nat) (X : String) (names : List String) : List Cond := (Bundle.ownAtoms0 own ic X names).filter vx_no
def vx_atS (own : String) (ic : Nat) (X : String) (names : List String) : List Cond := (Bundle.ownAtoms own ic X names).filter vx_no
/-- a word that the tables alone decide, or a good one -/
def vx_ot (w : Cond) : Bool := w.onTables || goodWord w
theorem vx_ot_at {args a' : Array Value} {s U : State} {w : Cond} (hW : s.WarmedH U.vm) (hvm : s.vm = U.vm) (hg : vx_ot w = true) (h : w.before args s = true) : w.before a' U = true := by
  simp only [vx_ot, Bool.or_eq_true] at hg
  rcases hg with hg | hg
  · exact va_tabs hg hvm h
  · exact word_at hW (good_of_word hg) h
/-- a list's words: the good ones out of the method's own list, the others by premises of their own -/
theorem vx_hat {args : Array Value} {s : State} {L B : List Cond} (h1 : ∀ w ∈ L.filter goodWord, w.before args s = true) (h2 : ∀ w ∈ L.filter (fun w => !goodWord w), w ∈ B) (h3 : ∀ w ∈ B, w.before args s = true) : ∀ w ∈ L, w.before args s = true := by
  intro w hw
  by_cases g : goodWord w = true
  · exact h1 w (List.mem_filter.mpr ⟨hw, g⟩)
  · refine h3 w (h2 w (List.mem_filter.mpr ⟨hw, ?_⟩))
    show (!goodWord w) = true
    cases hgw : goodWord w
    · rfl
    · exact absurd hgw g
theorem vx_c {args : Array Value} {s : State} {w : Cond} {B : List Cond} (h : w.before args s = true) (t : ∀ w ∈ B, w.before args s = true) : ∀ w' ∈ w :: B, w'.before args s = true := fun w' h' => (List.mem_cons.mp h').elim (fun e => by rw [e]; exact h) (t w')
theorem vx_n {args : Array Value} {s : State} : ∀ w ∈ ([] : List Cond), w.before args s = true := fun _ h => nomatch h
theorem vx_own {args : Array Value} {s : State} {L : List Cond} (h1 : ∀ w ∈ L.filter vx_no, w.before args s = true)
    (hU : (Cond.isRef (.static Bundle.tN "UNASSIGNED_STACK" Bundle.steD)).before args s = true) (hN : (Cond.isRef (.static Bundle.tN "SUPPRESSED_SENTINEL" Bundle.listD)).before args s = true)
    (lU : (Cond.laysStatic Bundle.tN "UNASSIGNED_STACK" Bundle.steD).before args s = true) (lN : (Cond.laysStatic Bundle.tN "SUPPRESSED_SENTINEL" Bundle.listD).before args s = true) : ∀ w ∈ L, w.before args s = true := by
  intro w hw
  by_cases e1 : w = .isRef (.static Bundle.tN "UNASSIGNED_STACK" Bundle.steD)
  · rw [e1]; exact hU
  · by_cases e2 : w = .isRef (.static Bundle.tN "SUPPRESSED_SENTINEL" Bundle.listD)
    · rw [e2]; exact hN
    · by_cases e3 : w = .laysStatic Bundle.tN "UNASSIGNED_STACK" Bundle.steD
      · rw [e3]; exact lU
      · by_cases e4 : w = .laysStatic Bundle.tN "SUPPRESSED_SENTINEL" Bundle.listD
        · rw [e4]; exact lN
        · exact h1 w (List.mem_filter.mpr ⟨hw, by unfold vx_no; rw [decide_eq_true e1, decide_eq_true e2, decide_eq_true e3, decide_eq_true e4]; rfl⟩)
/-- where a static field lies, its class's statics cell in H -/
def vx_L (C n d : String) (A : Nat → Prop) (U : State) (H : Heap) : Prop := ∃ (c : ClassId) (k : Class) (i : Nat) (f : Field) (a : Nat) (cell : Cell), U.vm.findClass C = some c ∧ U.fieldFound? C n d = some (c, k, i, f) ∧ f.isStatic = true ∧ k.statics = some a ∧ H[a]? = some cell ∧ cell.vm.isStatics = true ∧ cell.cls = c ∧ f.slot < cell.slots.size ∧ k.staticTypes[f.slot]? = some f.type ∧ ¬ A a
theorem vx_L.moved {C n d : String} {A : Nat → Prop} {u U : State} {H : Heap} (hvm : u.vm.Alike U.vm) (h : vx_L C n d A u H) : vx_L C n d A U H := by
  obtain ⟨c, k, i, f, a, cell, h1, h2, h3, h4, h5, h6, h7, h8, h9, h10⟩ := h
  obtain ⟨k', hi', he⟩ := State.fieldFound?_setVm hvm h2
  exact ⟨c, k', i, f, a, cell, by rw [hvm.findClass]; exact h1, hi', h3, by rw [he]; exact h4, h5, h6, h7, h8, by rw [he]; exact h9, h10⟩
theorem vx_L.kept {C n d : String} {A : Nat → Prop} {U : State} {H H1 : Heap} (h : vx_L C n d A U H) (hq : ∀ a : Nat, a < H.size → ¬ A a → H1[a]? = H[a]?) : vx_L C n d A U H1 := by
  obtain ⟨c, k, i, f, a, cell, h1, h2, h3, h4, h5, h6, h7, h8, h9, h10⟩ := h
  exact ⟨c, k, i, f, a, cell, h1, h2, h3, h4, by rw [hq a (Array.getElem?_eq_some_iff.mp h5).1 h10]; exact h5, h6, h7, h8, h9, h10⟩
theorem vx_L.narrow {C n d : String} {A B : Nat → Prop} {U : State} {H : Heap} (h : vx_L C n d A U H) (hAB : ∀ q, B q → A q) : vx_L C n d B U H := by
  obtain ⟨c, k, i, f, a, cell, h1, h2, h3, h4, h5, h6, h7, h8, h9, h10⟩ := h
  exact ⟨c, k, i, f, a, cell, h1, h2, h3, h4, h5, h6, h7, h8, h9, fun z => h10 (hAB _ z)⟩
theorem vx_L.word {C n d : String} {A : Nat → Prop} {s : State} {args : Array Value} (h : vx_L C n d A s s.heap) : (Cond.laysStatic C n d).before args s = true := by
  obtain ⟨c, k, i, f, a, cell, h1, h2, h3, h4, h5, h6, h7, h8, h9, -⟩ := h
  show (Cond.laysStatic C n d).holds args s none s [] = true
  exact Cond.laysStatic_of h1 h2 h3 h4 h5 h6 h7 h8 h9
/-- .. and what it holds: null or some reference -/
def vx_Zq (C n d : String) (A : Nat → Prop) (U : State) (H : Heap) : Prop := va_Zq C n d A U H ∧ vx_L C n d A U H
theorem vx_Zq.moved {C n d : String} {A : Nat → Prop} {u U : State} {H : Heap} (hvm : u.vm.Alike U.vm) (h : vx_Zq C n d A u H) : vx_Zq C n d A U H := ⟨va_Zq.moved hvm h.1, vx_L.moved hvm h.2⟩
theorem vx_Zq.kept {C n d : String} {A : Nat → Prop} {U : State} {H H1 : Heap} (h : vx_Zq C n d A U H) (hq : ∀ a : Nat, a < H.size → ¬ A a → H1[a]? = H[a]?) : vx_Zq C n d A U H1 := ⟨va_Zq.kept h.1 hq, vx_L.kept h.2 hq⟩
theorem vx_Zq.narrow {C n d : String} {A B : Nat → Prop} {U : State} {H : Heap} (h : vx_Zq C n d A U H) (hAB : ∀ q, B q → A q) : vx_Zq C n d B U H := ⟨va_Zq.narrow h.1 hAB, vx_L.narrow h.2 hAB⟩
theorem vx_Zqof {args : Array Value} {s : State} {C n d : String} {A : Nat → Prop} (hl : (Cond.laysStatic C n d).before args s = true) (hini : (Cond.initialized C).before args s = true) (h : (Cond.isRef (.static C n d)).before args s = true) (hA : ∀ a : Nat, a < s.heap.size → ¬ A a) : vx_Zq C n d A s s.heap := by
  refine ⟨va_Zqof hl hini h hA, ?_⟩
  obtain ⟨c, k, i, f, a, cell, h1, h2, h3, h4, h5, h6, h7, h8, h9⟩ := Cond.laysStatic_spec hl
  exact ⟨c, k, i, f, a, cell, h1, h2, h3, h4, h5, h6, h7, h8, h9, hA a (Array.getElem?_eq_some_iff.mp h5).1⟩
theorem vx_isRef {C n d : String} {v : Value} {A : Nat → Prop} {s : State} {args : Array Value} (h : va_Z C n d v A s s.heap) (hv : v.isRef = true) : (Cond.isRef (.static C n d)).before args s = true := by
  obtain ⟨cf, kf, fi, f, a, cell, h1, h2, h3, h4, h5, h6, h7, -⟩ := h
  have he : (Term.static C n d).eval args s none [] s = some v := by
    simp [Term.eval, State.fieldNamed?, h1, h2, h4, h5, h6, h7]
  simp only [Cond.before, Cond.holds, Cond.value, he]
  cases v <;> simp_all [Value.isRef]
theorem vx_isRefq {C n d : String} {A : Nat → Prop} {s : State} {args : Array Value} (h : va_Zq C n d A s s.heap) : (Cond.isRef (.static C n d)).before args s = true := by
  rcases h with h | ⟨t, h⟩
  · exact vx_isRef h rfl
  · exact vx_isRef h rfl
/-- the same frame, seen from here: as if the method were called anew in this heap -/
theorem vx_rebase {T : State} (X : Stand p l e R s m args below meth c T locs cells slots) {R' : Room} (hf : R'.frames ≤ R.frames) (hl : R'.locals ≤ R.locals) (hc : cells + R'.cells ≤ R.cells) (hs : slots + R'.slots ≤ R.slots) :
    Stand p l e R' ((T.setVm s.vm).setFrames (.invoking m args :: below)) m args below meth c T [] 0 0 := by
  have htop : (T.setVm s.vm).topJava?.isSome := X.here.top
  have hF : ((T.setVm s.vm).setFrames (.invoking m args :: below)).frames = .invoking m args :: below := State.frames_setFrames _ (State.cur_lt_of_top htop)
  obtain ⟨g₀, hg0⟩ := Option.isSome_iff_exists.mp htop
  obtain ⟨r, hr⟩ := State.topJava?_eq_some.mp hg0
  have hl9 : e.platform.stackLimits (T.setVm s.vm).me = e.platform.stackLimits s.me := X.limits
  have hb9 : (T.setVm s.vm).me.stackBytes = s.me.stackBytes := X.bytes
  refine ⟨X.admits, X.cas, X.clock, hF, ?_, X.hears, X.method, X.code, X.here, X.tail, X.warmed, ?_, ?_, ?_⟩
  · have h := X.room
    have hU : ((T.setVm s.vm).setFrames (.invoking m args :: below)).localsInUse = s.localsInUse := by
      rw [State.localsInUse_invoking hF (meth := meth) (c := c) X.method X.code, State.localsInUse_invoking X.frames X.method X.code]
    simp only [State.hasRoom, Bool.and_eq_true, decide_eq_true_eq] at h ⊢
    obtain ⟨⟨⟨⟨h1, h2, h3, h4, h5, h6⟩, h7⟩, h8⟩, h9⟩ := h
    rw [X.frames, List.length_cons] at h2 h3
    have q1 := X.heapSize
    have q2 := X.used
    simp only [hF, hU, List.length_cons, State.stackLimits_setFrames, State.stackBytes_setFrames, hl9, hb9]
    refine ⟨⟨⟨⟨by omega, by omega, by omega, by omega, by omega, h6⟩, ?_⟩, ?_⟩, X.book⟩
    · show T.heap.size + R'.cells ≤ e.platform.maxCells
      omega
    · show T.slotsUsed + R'.slots ≤ e.platform.maxSlots
      omega
  · rw [State.stackLimits_setFrames]; rfl
  · rw [State.stackBytes_setFrames]; rfl
  · refine ⟨?_, Nat.le_refl _, Nat.le_refl _, ?_, ?_, fun a c9 h9 => ⟨c9, h9, rfl, rfl, fun _ _ => rfl⟩⟩
    · obtain ⟨t, ht, -⟩ := State.frames_cons hr
      show T.setVm s.vm = { ((T.setVm s.vm).setFrames (.invoking m args :: below)).setFrames (T.setVm s.vm).frames with heap := T.heap, slotsUsed := T.slotsUsed }
      rw [State.setFrames_setFrames, State.setFrames_self ht]
      rfl
    · show T.slotsUsed = T.slotsUsed + ((T.heap.toList.drop T.heap.size).map (·.slots.size)).sum
      rw [List.drop_eq_nil_of_le (Nat.le_of_eq Array.length_toList)]
      rfl
    · show ((T.heap.toList.drop T.heap.size).map (·.slots.size)).sum ≤ 0
      rw [List.drop_eq_nil_of_le (Nat.le_of_eq Array.length_toList)]
      exact Nat.le_refl _
/-- 'throw new E()': new; dup; invokespecial; athrow -/
theorem vx_throw0 {cc : ByteArray} {pc : Nat} (hexec : p.tables.exec = Jvm.exec) (hb : c.code = cc) (hl : l.stackTraces = false) {own cls : String} {names : List String} {ik ic mc ms : Nat} {A : Nat → Prop}
    (hown : s.vm.findClass own = some m.cls) (hcls : Bundle.fit cls = true) (hnames : ∀ n ∈ names, Bundle.fit n = true)
    (hk : (Cond.classLink own ik cls).before args s = true) (hini : (Cond.initialized cls).before args s = true) (hat : ∀ w ∈ vx_at0 own ic cls names, w.before args s = true)
    (hgood : ∀ w ∈ Cond.classLink own ik cls :: Cond.initialized cls :: vx_at0 own ic cls names, vx_ot w = true)
    (hU : vx_Zq Bundle.tN "UNASSIGNED_STACK" Bundle.steD A s s.heap) (hN : vx_Zq Bundle.tN "SUPPRESSED_SENTINEL" Bundle.listD A s s.heap) (hS : va_S A s.heap H locs) (hsize : ls.size = c.maxLocals)
    (d0 : decode cc pc = .ok (.new ik, 3)) (d3 : decode cc (pc + 3) = .ok (.dup, 1)) (d4 : decode cc (pc + 4) = .ok (.invokespecial ic, 3)) (d7 : decode cc (pc + 7) = .ok (.athrow, 1))
    (hout : ∀ x ∈ c.exceptionTable.toList, covers x (pc + 7) = false)
    (hRframes : names.length + 3 < R.frames) (hRlocals : (rest.map fun v => v.category).sum + (13 * (names.length + 1) + 42) ≤ R.locals) (hRcells : cells + 1 ≤ R.cells) (hRslots : slots + 6 ≤ R.slots) (hlocks : meth.locks = false)
    (hx : ∀ t : State, s.vm.Alike t.vm → H.size ≤ t.heap.size → (∀ q : Nat, q < H.size → t.heap[q]? = H[q]?) → XC cls s t)
    (hf : ∀ z ∈ locs, free z.base) (hc : cells + 1 ≤ mc) (hs : slots + 6 ≤ ms) :
    W p l e R s m args below meth c H locs cells slots (vx_MQ below Qc XC args s mc ms free) (F0 m pc ls rest) := by
  intro T hT X
  have htr : e.platform.stackTraces = false := (show e.platform.stackTraces = l.stackTraces by rw [X.admits.platform]).trans hl
  have Y := vx_rebase X (R' := { frames := R.frames, locals := R.locals, cells := 1, slots := 6 }) (Nat.le_refl _) (Nat.le_refl _) hRcells hRslots
  obtain ⟨s', hA⟩ : ∃ z, z = (T.setVm s.vm).setFrames (.invoking m args :: below) := ⟨_, rfl⟩
  rw [← hA] at Y
  have hvm : s'.vm = s.vm := by rw [hA]; rfl
  have hhp : s'.heap = H := by rw [hA]; exact hT
  have hW0 : s.WarmedH s'.vm := by rw [hvm]; exact State.WarmedH.refl s
  have hat' : ∀ w ∈ vx_at0 own ic cls names, w.before args s' = true := fun w hw => vx_ot_at hW0 hvm.symm (hgood w (List.mem_cons_of_mem _ (List.mem_cons_of_mem _ hw))) (hat w hw)
  have hk' : (Cond.classLink own ik cls).before args s' = true := vx_ot_at hW0 hvm.symm (hgood _ List.mem_cons_self) hk
  have hini' : (Cond.initialized cls).before args s' = true := vx_ot_at hW0 hvm.symm (hgood _ (List.mem_cons_of_mem _ List.mem_cons_self)) hini
  have hU' : vx_Zq Bundle.tN "UNASSIGNED_STACK" Bundle.steD A s' s'.heap := by rw [hhp]; exact vx_Zq.moved hW0.alike (hU.kept hS.2.1)
  have hN' : vx_Zq Bundle.tN "SUPPRESSED_SENTINEL" Bundle.listD A s' s'.heap := by rw [hhp]; exact vx_Zq.moved hW0.alike (hN.kept hS.2.1)
  have h : ∀ w ∈ Bundle.ownAtoms0 own ic cls names, w.before args s' = true := vx_own hat' (vx_isRefq hU'.1) (vx_isRefq hN'.1) hU'.2.word hN'.2.word
  have hown' : s'.vm.findClass own = some m.cls := by rw [hvm]; exact hown
  have hins : (Cond.instantiable cls 6).before args s' = true := h _ (by simp [Bundle.ownAtoms0])
  obtain ⟨vm₁, cX, kX, hfX, hkX, -, -, X₁, st1⟩ := Y.newCold hexec (own := own) (C := cls) (index := ik) (n := 6) hown' hk' hins hini'
    (g := F0 m pc ls rest) rfl (by rw [hb]; exact d0) (Nat.le_refl _) (Nat.le_refl _)
  generalize hT1 : (T.setVm vm₁).pushCell { cls := cX, slots := kX.instanceTypes.map defaultValue, vm := .none } = T1 at X₁ st1
  have hcat : (Value.ref T.heap.size).category = 1 := rfl
  have hcellA : T1.heap[T.heap.size]? = some (freshCell cX kX) := by rw [← hT1]; exact State.heap_pushCell_size _ _
  have d3' : decode c.code (pc + 3) = .ok (.dup, 1) := by rw [hb]; exact d3
  obtain ⟨U, hsteps, hrun, hend, hW, hsame, ce, hce, hO⟩ := X₁.ctorThrow0 hexec htr (own := own) (cls := cls) (names := names) (ic := ic) hown' hcls hnames h (fun x hx => nomatch hx) hfX hkX hcellA (by rw [hhp, hT]; exact Nat.le_refl _)
    (g := { method := m, pc := pc + 4, locals := ls, stack := .ref T.heap.size :: .ref T.heap.size :: rest, locked := none }) rfl hsize rfl rfl (rest := rest) rfl
    (by rw [hb]; exact d4) (by rw [hb]; exact d7) hout hRframes (by simp only [List.map_cons, List.sum_cons, hcat]; omega) hlocks
  obtain ⟨f1, f2⟩ := vx_frame hsame
  rw [hhp] at f1 f2
  have hWs : s.WarmedH U.vm := State.WarmedH.trans hW0 hW
  have hcl : s.vm.findClass cls = some ce.cls := by
    have h9 := hO.cls
    rw [hvm] at h9
    exact h9
  have hall : s.sameButNew ({ U with vm := s.vm } : State) locs mc ms := by
    subst hA
    obtain ⟨e1, e2⟩ := hsame
    rw [State.setFrames_setFrames] at e1
    have h2 : (T.setVm s.vm).sameButNew ({ U with vm := s.vm } : State) [] (0 + 1) (0 + 6) := ⟨e1, e2⟩
    have h3 := X.same.trans h2
    rw [List.append_nil] at h3
    exact h3.mono hc hs
  refine ⟨U, ?_, .threw T.heap.size, hrun, hend, Or.inr ⟨T.heap.size, rfl, cls, ce, locs, hx U hWs.alike f1 (fun q hq => f2 q hq (fun z hz => nomatch hz)), hce, hO.vm, hcl, hWs, hall, hf⟩⟩
  refine st1 _ ?_
  show Steps p.tables e below (T1.setTop { method := m, pc := pc + 3, locals := ls, stack := .ref T.heap.size :: rest, locked := none }) _
  jvm_step X₁.here [X₁.here.top, hexec, d3', Value.category]
  exact hsteps
/-- 'throw new E("text")': new; dup; ldc; invokespecial; athrow -/
theorem vx_throwS {cc : ByteArray} {pc : Nat} (hexec : p.tables.exec = Jvm.exec) (hb : c.code = cc) (hl : l.stackTraces = false) {own cls text : String} {names : List String} {ik is ic mc ms sa : Nat} {A : Nat → Prop}
    (hown : s.vm.findClass own = some m.cls) (hcls : Bundle.fit cls = true) (hnames : ∀ n ∈ names, Bundle.fit n = true)
    (hk : (Cond.classLink own ik cls).before args s = true) (hini : (Cond.initialized cls).before args s = true) (hstr : vk_R own is text sa s) (hat : ∀ w ∈ vx_atS own ic cls names, w.before args s = true)
    (hgood : ∀ w ∈ Cond.classLink own ik cls :: Cond.initialized cls :: vx_atS own ic cls names, vx_ot w = true)
    (hU : vx_Zq Bundle.tN "UNASSIGNED_STACK" Bundle.steD A s s.heap) (hN : vx_Zq Bundle.tN "SUPPRESSED_SENTINEL" Bundle.listD A s s.heap) (hS : va_S A s.heap H locs) (hsize : ls.size = c.maxLocals)
    (d0 : decode cc pc = .ok (.new ik, 3)) (d3 : decode cc (pc + 3) = .ok (.dup, 1)) (d4 : decode cc (pc + 4) = .ok (.ldc is, 2)) (d6 : decode cc (pc + 6) = .ok (.invokespecial ic, 3)) (d9 : decode cc (pc + 9) = .ok (.athrow, 1))
    (hout : ∀ x ∈ c.exceptionTable.toList, covers x (pc + 9) = false)
    (hRframes : names.length + 3 < R.frames) (hRlocals : (rest.map fun v => v.category).sum + (13 * (names.length + 1) + 43) ≤ R.locals) (hRcells : cells + 1 ≤ R.cells) (hRslots : slots + 6 ≤ R.slots) (hlocks : meth.locks = false)
    (hx : ∀ t : State, s.vm.Alike t.vm → H.size ≤ t.heap.size → (∀ q : Nat, q < H.size → t.heap[q]? = H[q]?) → XC cls s t)
    (hf : ∀ z ∈ locs, free z.base) (hc : cells + 1 ≤ mc) (hs : slots + 6 ≤ ms) :
    W p l e R s m args below meth c H locs cells slots (vx_MQ below Qc XC args s mc ms free) (F0 m pc ls rest) := by
  intro T hT X
  have htr : e.platform.stackTraces = false := (show e.platform.stackTraces = l.stackTraces by rw [X.admits.platform]).trans hl
  have Y := vx_rebase X (R' := { frames := R.frames, locals := R.locals, cells := 1, slots := 6 }) (Nat.le_refl _) (Nat.le_refl _) hRcells hRslots
  obtain ⟨s', hA⟩ : ∃ z, z = (T.setVm s.vm).setFrames (.invoking m args :: below) := ⟨_, rfl⟩
  rw [← hA] at Y
  have hvm : s'.vm = s.vm := by rw [hA]; rfl
  have hhp : s'.heap = H := by rw [hA]; exact hT
  have hW0 : s.WarmedH s'.vm := by rw [hvm]; exact State.WarmedH.refl s
  have hat' : ∀ w ∈ vx_atS own ic cls names, w.before args s' = true := fun w hw => vx_ot_at hW0 hvm.symm (hgood w (List.mem_cons_of_mem _ (List.mem_cons_of_mem _ hw))) (hat w hw)
  have hk' : (Cond.classLink own ik cls).before args s' = true := vx_ot_at hW0 hvm.symm (hgood _ List.mem_cons_self) hk
  have hini' : (Cond.initialized cls).before args s' = true := vx_ot_at hW0 hvm.symm (hgood _ (List.mem_cons_of_mem _ List.mem_cons_self)) hini
  have hU' : vx_Zq Bundle.tN "UNASSIGNED_STACK" Bundle.steD A s' s'.heap := by rw [hhp]; exact vx_Zq.moved hW0.alike (hU.kept hS.2.1)
  have hN' : vx_Zq Bundle.tN "SUPPRESSED_SENTINEL" Bundle.listD A s' s'.heap := by rw [hhp]; exact vx_Zq.moved hW0.alike (hN.kept hS.2.1)
  have h : ∀ w ∈ Bundle.ownAtoms own ic cls names, w.before args s' = true := vx_own hat' (vx_isRefq hU'.1) (vx_isRefq hN'.1) hU'.2.word hN'.2.word
  have hown' : s'.vm.findClass own = some m.cls := by rw [hvm]; exact hown
  have hins : (Cond.instantiable cls 6).before args s' = true := h _ (by simp [Bundle.ownAtoms])
  obtain ⟨vm₁, cX, kX, hfX, hkX, -, -, X₁, st1⟩ := Y.newCold hexec (own := own) (C := cls) (index := ik) (n := 6) hown' hk' hins hini'
    (g := F0 m pc ls rest) rfl (by rw [hb]; exact d0) (Nat.le_refl _) (Nat.le_refl _)
  generalize hT1 : (T.setVm vm₁).pushCell { cls := cX, slots := kX.instanceTypes.map defaultValue, vm := .none } = T1 at X₁ st1
  have hcat : (Value.ref T.heap.size).category = 1 := rfl
  have hcellA : T1.heap[T.heap.size]? = some (freshCell cX kX) := by rw [← hT1]; exact State.heap_pushCell_size _ _
  have d3' : decode c.code (pc + 3) = .ok (.dup, 1) := by rw [hb]; exact d3
  have d4' : decode c.code (pc + 4) = .ok (.ldc is, 2) := by rw [hb]; exact d4
  have hstr' : vk_R own is text sa s' := vk_R.warm hW0 hstr
  obtain ⟨U, hsteps, hrun, hend, hW, hsame, ce, hce, hO⟩ := X₁.ctorThrowS hexec htr (own := own) (cls := cls) (names := names) (ic := ic) hown' hcls hnames h (fun x hx => nomatch hx) hfX hkX hcellA (by rw [hhp, hT]; exact Nat.le_refl _) (msg := .ref sa) rfl
    (g := { method := m, pc := pc + 6, locals := ls, stack := .ref sa :: .ref T.heap.size :: .ref T.heap.size :: rest, locked := none }) rfl hsize rfl rfl (rest := rest) rfl
    (by rw [hb]; exact d6) (by rw [hb]; exact d9) hout hRframes (by simp only [List.map_cons, List.sum_cons, hcat]; omega) hlocks
  obtain ⟨f1, f2⟩ := vx_frame hsame
  rw [hhp] at f1 f2
  have hWs : s.WarmedH U.vm := State.WarmedH.trans hW0 hW
  have hcl : s.vm.findClass cls = some ce.cls := by
    have h9 := hO.cls
    rw [hvm] at h9
    exact h9
  have hall : s.sameButNew ({ U with vm := s.vm } : State) locs mc ms := by
    subst hA
    obtain ⟨e1, e2⟩ := hsame
    rw [State.setFrames_setFrames] at e1
    have h2 : (T.setVm s.vm).sameButNew ({ U with vm := s.vm } : State) [] (0 + 1) (0 + 6) := ⟨e1, e2⟩
    have h3 := X.same.trans h2
    rw [List.append_nil] at h3
    exact h3.mono hc hs
  refine ⟨U, ?_, .threw T.heap.size, hrun, hend, Or.inr ⟨T.heap.size, rfl, cls, ce, locs, hx U hWs.alike f1 (fun q hq => f2 q hq (fun z hz => nomatch hz)), hce, hO.vm, hcl, hWs, hall, hf⟩⟩
  refine st1 _ ?_
  show Steps p.tables e below (T1.setTop { method := m, pc := pc + 3, locals := ls, stack := .ref T.heap.size :: rest, locked := none }) _
  jvm_step X₁.here [X₁.here.top, hexec, d3', Value.category]
  exact X₁.ldcString hexec (own := own) (text := text) (index := is) (a := sa) hown' hstr'.1 hstr'.2
    (g := { method := m, pc := pc + 4, locals := ls, stack := .ref T.heap.size :: .ref T.heap.size :: rest, locked := none }) rfl d4' _ hsteps
/-- 'throw new E("text")', the text by a wide index -/
theorem vx_throwSW {cc : ByteArray} {pc : Nat} (hexec : p.tables.exec = Jvm.exec) (hb : c.code = cc) (hl : l.stackTraces = false) {own cls text : String} {names : List String} {ik is ic mc ms sa : Nat} {A : Nat → Prop}
    (hown : s.vm.findClass own = some m.cls) (hcls : Bundle.fit cls = true) (hnames : ∀ n ∈ names, Bundle.fit n = true)
    (hk : (Cond.classLink own ik cls).before args s = true) (hini : (Cond.initialized cls).before args s = true) (hstr : vk_R own is text sa s) (hat : ∀ w ∈ vx_atS own ic cls names, w.before args s = true)
    (hgood : ∀ w ∈ Cond.classLink own ik cls :: Cond.initialized cls :: vx_atS own ic cls names, vx_ot w = true)
    (hU : vx_Zq Bundle.tN "UNASSIGNED_STACK" Bundle.steD A s s.heap) (hN : vx_Zq Bundle.tN "SUPPRESSED_SENTINEL" Bundle.listD A s s.heap) (hS : va_S A s.heap H locs) (hsize : ls.size = c.maxLocals)
    (d0 : decode cc pc = .ok (.new ik, 3)) (d3 : decode cc (pc + 3) = .ok (.dup, 1)) (d4 : decode cc (pc + 4) = .ok (.ldc_w is, 3)) (d7 : decode cc (pc + 7) = .ok (.invokespecial ic, 3)) (d10 : decode cc (pc + 10) = .ok (.athrow, 1))
    (hout : ∀ x ∈ c.exceptionTable.toList, covers x (pc + 10) = false)
    (hRframes : names.length + 3 < R.frames) (hRlocals : (rest.map fun v => v.category).sum + (13 * (names.length + 1) + 43) ≤ R.locals) (hRcells : cells + 1 ≤ R.cells) (hRslots : slots + 6 ≤ R.slots) (hlocks : meth.locks = false)
    (hx : ∀ t : State, s.vm.Alike t.vm → H.size ≤ t.heap.size → (∀ q : Nat, q < H.size → t.heap[q]? = H[q]?) → XC cls s t)
    (hf : ∀ z ∈ locs, free z.base) (hc : cells + 1 ≤ mc) (hs : slots + 6 ≤ ms) :
    W p l e R s m args below meth c H locs cells slots (vx_MQ below Qc XC args s mc ms free) (F0 m pc ls rest) := by
  intro T hT X
  have htr : e.platform.stackTraces = false := (show e.platform.stackTraces = l.stackTraces by rw [X.admits.platform]).trans hl
  have Y := vx_rebase X (R' := { frames := R.frames, locals := R.locals, cells := 1, slots := 6 }) (Nat.le_refl _) (Nat.le_refl _) hRcells hRslots
  obtain ⟨s', hA⟩ : ∃ z, z = (T.setVm s.vm).setFrames (.invoking m args :: below) := ⟨_, rfl⟩
  rw [← hA] at Y
  have hvm : s'.vm = s.vm := by rw [hA]; rfl
  have hhp : s'.heap = H := by rw [hA]; exact hT
  have hW0 : s.WarmedH s'.vm := by rw [hvm]; exact State.WarmedH.refl s
  have hat' : ∀ w ∈ vx_atS own ic cls names, w.before args s' = true := fun w hw => vx_ot_at hW0 hvm.symm (hgood w (List.mem_cons_of_mem _ (List.mem_cons_of_mem _ hw))) (hat w hw)
  have hk' : (Cond.classLink own ik cls).before args s' = true := vx_ot_at hW0 hvm.symm (hgood _ List.mem_cons_self) hk
  have hini' : (Cond.initialized cls).before args s' = true := vx_ot_at hW0 hvm.symm (hgood _ (List.mem_cons_of_mem _ List.mem_cons_self)) hini
  have hU' : vx_Zq Bundle.tN "UNASSIGNED_STACK" Bundle.steD A s' s'.heap := by rw [hhp]; exact vx_Zq.moved hW0.alike (hU.kept hS.2.1)
  have hN' : vx_Zq Bundle.tN "SUPPRESSED_SENTINEL" Bundle.listD A s' s'.heap := by rw [hhp]; exact vx_Zq.moved hW0.alike (hN.kept hS.2.1)
  have h : ∀ w ∈ Bundle.ownAtoms own ic cls names, w.before args s' = true := vx_own hat' (vx_isRefq hU'.1) (vx_isRefq hN'.1) hU'.2.word hN'.2.word
  have hown' : s'.vm.findClass own = some m.cls := by rw [hvm]; exact hown
  have hins : (Cond.instantiable cls 6).before args s' = true := h _ (by simp [Bundle.ownAtoms])
  obtain ⟨vm₁, cX, kX, hfX, hkX, -, -, X₁, st1⟩ := Y.newCold hexec (own := own) (C := cls) (index := ik) (n := 6) hown' hk' hins hini'
    (g := F0 m pc ls rest) rfl (by rw [hb]; exact d0) (Nat.le_refl _) (Nat.le_refl _)
  generalize hT1 : (T.setVm vm₁).pushCell { cls := cX, slots := kX.instanceTypes.map defaultValue, vm := .none } = T1 at X₁ st1
  have hcat : (Value.ref T.heap.size).category = 1 := rfl
  have hcellA : T1.heap[T.heap.size]? = some (freshCell cX kX) := by rw [← hT1]; exact State.heap_pushCell_size _ _
  have d3' : decode c.code (pc + 3) = .ok (.dup, 1) := by rw [hb]; exact d3
  have d4' : decode c.code (pc + 4) = .ok (.ldc_w is, 3) := by rw [hb]; exact d4
  have hstr' : vk_R own is text sa s' := vk_R.warm hW0 hstr
  obtain ⟨U, hsteps, hrun, hend, hW, hsame, ce, hce, hO⟩ := X₁.ctorThrowS hexec htr (own := own) (cls := cls) (names := names) (ic := ic) hown' hcls hnames h (fun x hx => nomatch hx) hfX hkX hcellA (by rw [hhp, hT]; exact Nat.le_refl _) (msg := .ref sa) rfl
    (g := { method := m, pc := pc + 7, locals := ls, stack := .ref sa :: .ref T.heap.size :: .ref T.heap.size :: rest, locked := none }) rfl hsize rfl rfl (rest := rest) rfl
    (by rw [hb]; exact d7) (by rw [hb]; exact d10) hout hRframes (by simp only [List.map_cons, List.sum_cons, hcat]; omega) hlocks
  obtain ⟨f1, f2⟩ := vx_frame hsame
  rw [hhp] at f1 f2
  have hWs : s.WarmedH U.vm := State.WarmedH.trans hW0 hW
  have hcl : s.vm.findClass cls = some ce.cls := by
    have h9 := hO.cls
    rw [hvm] at h9
    exact h9
  have hall : s.sameButNew ({ U with vm := s.vm } : State) locs mc ms := by
    subst hA
    obtain ⟨e1, e2⟩ := hsame
    rw [State.setFrames_setFrames] at e1
    have h2 : (T.setVm s.vm).sameButNew ({ U with vm := s.vm } : State) [] (0 + 1) (0 + 6) := ⟨e1, e2⟩
    have h3 := X.same.trans h2
    rw [List.append_nil] at h3
    exact h3.mono hc hs
  refine ⟨U, ?_, .threw T.heap.size, hrun, hend, Or.inr ⟨T.heap.size, rfl, cls, ce, locs, hx U hWs.alike f1 (fun q hq => f2 q hq (fun z hz => nomatch hz)), hce, hO.vm, hcl, hWs, hall, hf⟩⟩
  refine st1 _ ?_
  show Steps p.tables e below (T1.setTop { method := m, pc := pc + 3, locals := ls, stack := .ref T.heap.size :: rest, locked := none }) _
  jvm_step X₁.here [X₁.here.top, hexec, d3', Value.category]
  exact X₁.ldcStringW hexec (own := own) (text := text) (index := is) (a := sa) hown' hstr'.1 hstr'.2
    (g := { method := m, pc := pc + 4, locals := ls, stack := .ref T.heap.size :: .ref T.heap.size :: rest, locked := none }) rfl d4' _ hsteps
end Ends
section Bodies
variable {l : Launch}
theorem vx_ofW {y : MethodName} {ws ws' : List Cond} {rm : Room} {Pc : Array Value → State → Prop} {Qc : Array Value → State → Outcome → State → Prop} {XC : String → State → State → Prop} {mc ms : Nat} {free : Addr → Prop} {cc : ByteArray} {maxL : Nat} {ret : Option FieldType}
    (hy : plainName y.cls = true) (hw : ws = Cond.code y cc maxL ret :: ws')
    (body : ∀ p e s m args below meth c s₁, BodyLoose p l y (headSpec ws rm) cc maxL ret e s m args below meth c s₁ → c.maxLocals = maxL → (∀ x ∈ c.exceptionTable.toList, False) → Pc args s →
      W p l e (headSpec ws rm).room s m args below meth c s.heap [] 0 0 (vx_MQ below Qc XC args s mc ms free) (entryFrame m args maxL)) : vx_Met l y ws rm Pc Qc XC mc ms free := by
  refine MetFree.of_bodyS (code := cc) (maxLocals := maxL) (ret := ret) hy ?_ ?_
  · intro args s m h hn
    obtain ⟨meth, c, h1, h2, h3, h4, h5, h6, -, -⟩ := Cond.code_spec hn (atoms_spec (ws := ws) h _ (by rw [hw]; exact List.mem_cons_self))
    exact ⟨meth, c, h1, h2, h3, h4, h5, h6⟩
  · intro p e s m args below meth c s₁ B hml hP _
    have hh0 : s₁.heap = s.heap := by rw [B.state]; rfl
    have ht : ∀ x ∈ c.exceptionTable.toList, False := by
      obtain ⟨meth9, c9, h1, h2, -, -, -, -, h7, -⟩ := Cond.code_spec B.named (atoms_spec (ws := ws) B.pre _ (by rw [hw]; exact List.mem_cons_self))
      cases Option.some.inj (h1.symm.trans B.method)
      cases Option.some.inj (h2.symm.trans (Stand.of_body B).code)
      intro x hx
      rw [Array.isEmpty_iff.mp h7] at hx
      cases hx
    obtain ⟨t, a1, o, b1, b2, b3⟩ := body p e s m args below meth c s₁ B hml ht hP s₁ hh0 (Stand.of_body B)
    exact ⟨t, o, a1, b1, b2, b3⟩
/-- the table of a body with handlers -/
theorem vx_table {p : Program} {x y : MethodName} {S : Spec} {cc bytes : ByteArray} {maxL maxL' : Nat} {ret ret' : Option FieldType} {e : Env} {s s₁ : State} {m : MethodId} {args : Array Value} {below : List Frame} {meth : Method} {c : Code} {hh : List (Nat × Nat × Nat × Nat)}
    (B : BodyLoose p l y S cc maxL ret e s m args below meth c s₁) (h : (Cond.codeWith y bytes maxL' ret' hh).before args s = true) : c.exceptionTable.toList = tableOf hh := by
  obtain ⟨m9, meth9, c9, hn9, h1, h2, -, -, h6, -⟩ := Cond.codeWith_spec h
  cases Option.some.inj (hn9.symm.trans B.named)
  cases Option.some.inj (h1.symm.trans B.method)
  cases Option.some.inj (h2.symm.trans (Stand.of_body B).code)
  rw [← h6, table_eq]
end Bodies
end VXA
/-! ===== END ===== -/
/-! ===== BEGIN a static call of a method with an exception table ===== -/
section VXS
variable {p : Program} {l : Launch} {e : Env} {R : Room} {s : State} {m : MethodId} {args : Array Value} {below : List Frame} {meth : Method} {c : Code} {T : State} {H : Heap} {locs : List Loc} {cells slots : Nat}
abbrev vx_CSW (R : Room) (s : State) (args : Array Value) (own : String) (index : Nat) (y : MethodName) (bytes : ByteArray) (maxL : Nat) (ret : Option FieldType) (hh : List (Nat × Nat × Nat × Nat)) (ws : List Cond) (rm : Room) (mc ms n : Nat) : Prop :=
  (rm.cells = mc ∧ rm.slots = ms ∧ rm.frames + 1 ≤ R.frames ∧ 8 + (maxL + 11) + rm.locals ≤ R.locals ∧ (∀ w ∈ ws, ∀ (a' : Array Value) (U : State), s.WarmedH U.vm → w.before a' U = true) ∧ Cond.codeWith y bytes maxL ret hh ∈ ws) ∧
  (Cond.codeWith y bytes maxL ret hh).before args s = true ∧ (Cond.initialized y.cls).before args s = true ∧ (y.cls ≠ "java/lang/invoke/MethodHandle" ∧ y.cls ≠ "java/lang/invoke/VarHandle") ∧
  (∀ sig, parseMethodDescriptor y.desc = some sig → n = sig.parameters.length) ∧ (Cond.methodLink own index y).before args s = true ∧ (Cond.static y).before args s = true
theorem vx_cwSW {own : String} {index maxL mc ms : Nat} {y : MethodName} {bytes : ByteArray} {ret : Option FieldType} {hh : List (Nat × Nat × Nat × Nat)} {Ts ws ws' : List Cond} {rm : Room} (n : Nat) (ht : ∀ w ∈ Ts, w.before args s = true) (hT : GoodIn Ts (va_wsS own index y ws)) (hw : ws = Cond.codeWith y bytes maxL ret hh :: ws') (hrc : rm.cells = mc) (hrs : rm.slots = ms)
    (hd : y.cls ≠ "java/lang/invoke/MethodHandle" ∧ y.cls ≠ "java/lang/invoke/VarHandle" ∧ (parseMethodDescriptor y.desc).map (fun d => d.parameters.length) = some n) (hR : rm.frames + 1 ≤ R.frames ∧ 8 + (maxL + 11) + rm.locals ≤ R.locals) :
    vx_CSW R s args own index y bytes maxL ret hh ws rm mc ms n := by
  have ok : ∀ w ∈ va_wsS own index y ws, w.before args s = true := fun w h => ht w (hT w h).1
  have hG : GoodIn Ts ws := fun w h => hT w (by unfold va_wsS; exact List.mem_append_right _ h)
  have hc : Cond.codeWith y bytes maxL ret hh ∈ ws := by rw [hw]; exact List.mem_cons_self
  refine ⟨⟨hrc, hrs, hR.1, hR.2, pay_in ht hG, hc⟩, ht _ (hG _ hc).1, ok _ (by simp [va_wsS]), ⟨hd.1, hd.2.1⟩, fun sig h => ?_, ok _ (by simp [va_wsS]), ok _ (by simp [va_wsS])⟩
  have h2 := hd.2.2
  rw [h] at h2
  exact (Option.some.inj h2).symm
theorem vx_callSW (X : Stand p l e R s m args below meth c T locs cells slots) (hexec : p.tables.exec = Jvm.exec) {own : String} {index : Nat} {y : MethodName} {bytes : ByteArray} {maxL : Nat} {ret : Option FieldType} {hh : List (Nat × Nat × Nat × Nat)}
    (hown : s.vm.findClass own = some m.cls) (hlink : (Cond.methodLink own index y).before args s = true) (hstat : (Cond.static y).before args s = true) (hinit : (Cond.initialized y.cls).before args s = true)
    (hcode : (Cond.codeWith y bytes maxL ret hh).before args s = true) (hy : y.cls ≠ "java/lang/invoke/MethodHandle" ∧ y.cls ≠ "java/lang/invoke/VarHandle")
    {W9 : Nat} {Pre : Pt → Array Value → Prop} {Post : Pt → Array Value → Option Value → Pt → Prop} (hK : Back l R p e below s args y 3 W9 Pre Post)
    {g : JFrame} (hg : g.method = m) (hsize : g.locals.size = c.maxLocals) {argsL rest : List Value} (hlen : ∀ sig, parseMethodDescriptor y.desc = some sig → argsL.length = sig.parameters.length)
    (hstack : g.stack = argsL.reverse ++ rest) (hW : 2 * g.monitorRoom + (rest.map fun v => v.category).sum ≤ W9) (hdg : decode c.code g.pc = .ok (.invokestatic index, 3))
    (hpre : ∀ vm₁, s.WarmedH vm₁ → Pre ⟨T.setVm vm₁, locs, cells, slots⟩ argsL.toArray) :
    ∃ (v : Option Value) (vm₁ : Vm) (B : Pt), s.WarmedH vm₁ ∧ Stand p l e R s m args below meth c B.U B.locs B.cells B.slots ∧ Post ⟨T.setVm vm₁, locs, cells, slots⟩ argsL.toArray v B ∧
      ∀ target, Steps p.tables e below (B.U.setTop { g with pc := g.pc + 3, stack := v.toList ++ rest }) target → Steps p.tables e below (T.setTop g) target := by
  obtain ⟨mk, methM, cM, hnamed, hmethM, -, -, -, -, -, -, hsigM⟩ := Cond.codeWith_spec hcode
  have hstatic : methM.isStatic = true := Cond.static_spec hnamed hmethM hstat
  obtain ⟨kP, hkP, -⟩ := className_of_methodNamed hnamed
  have hinitP : kP.init = .initialized := Cond.initialized_spec (findClass_of_methodNamed hnamed) hkP hinit
  obtain ⟨vm₁, X₁, hstep₁⟩ := X.invokestatic hexec hown hlink hnamed hmethM hstatic hkP hinitP hy (g := g) hg (argsL := argsL) (rest := rest) (hlen _ hsigM) hstack hdg
  obtain ⟨v, B, X', hpost, hsteps⟩ := hK m meth c ⟨T.setVm vm₁, locs, cells, slots⟩ { g with stack := rest } (.invokestatic index) mk argsL.toArray X₁ hg hsize hdg hW (X₁.named hnamed) (hpre vm₁ X₁.warmed)
  exact ⟨v, vm₁, B, X₁.warmed, X', hpost, fun target h => hstep₁ _ fun acts => by rw [doInvoke_state]; exact hsteps.trans h⟩
theorem vx_runSW {y : MethodName} {bytes cc : ByteArray} {maxL nL mc ms n index : Nat} {ret : Option FieldType} {hh : List (Nat × Nat × Nat × Nat)} {ws : List Cond} {rm : Room} {Pc : Array Value → State → Prop} {Qc : Array Value → State → Outcome → State → Prop} {free : Addr → Prop} {Ts : List Cond} {own : String} {As rest : List Value} {g : JFrame}
    (S : CallFix p m c cc nL s args Ts own) (hM : Met l y ws rm Pc Qc mc ms free) (cw : vx_CSW R s args own index y bytes maxL ret hh ws rm mc ms n) (hp : PreS s H Pc As)
    (hg : g.method = m) (hn : As.length = n) (hsize : g.locals.size = nL) (hstack : g.stack = As.reverse ++ rest) (hW : 2 * g.monitorRoom + (rest.map fun v => v.category).sum ≤ 8) (hdg : decode cc g.pc = .ok (.invokestatic index, 3)) (hf : cells + mc ≤ R.cells ∧ slots + ms ≤ R.slots) :
    va_Run p l e R s m args below meth c H locs cells slots mc ms g rest (Qc As.toArray) (free) := by
  obtain ⟨⟨hrc, hrs, hfr, hlo, hws, hcw⟩, hcode, hini, hy, hlen, hl, hstt⟩ := cw
  have hK : Back l R p e below s args y 3 8 (PreOf R mc ms Pc) (PostOf Qc mc ms free) := va_backW (hh := hh) (bytes := bytes) (maxL := maxL) (ret := ret) hM hp.1 hrc hrs hfr hlo hws hcw (fun a' U hW => word_at hW (Or.inl (by first | rfl | simp [Cond.onTables, Cond.keeps, Cond.steady])) hini)
  obtain ⟨hx, hb, hml, ho, -⟩ := S
  intro T hT X
  obtain ⟨v, vm₁, ⟨U', l2, c2, s2⟩, hW₁, X', ⟨g', mk, t, L, e1, e2, hq, h1, hL, h2, h3⟩, st⟩ := vx_callSW X hx (hh := hh) (bytes := bytes) (maxL := maxL) (ret := ret) ho hl hstt hini hcode hy hK hg (hsize.trans hml.symm) (argsL := As) (rest := rest) (fun sig h => hn.trans (hlen sig h)) hstack hW (by rw [hb]; exact hdg)
    (fun vm₁ hW₁ => ⟨hf.1, hf.2, hp.2 (T.setVm vm₁) hT hW₁⟩)
  dsimp only [Pt.U, Pt.locs, Pt.cells, Pt.slots] at X' e1 e2 h1 h2 h3 st
  subst h1; subst h2; subst h3
  exact ⟨v, (T.setVm vm₁).calling g' mk As.toArray, t, U', L, hT, X', hL, e1, e2, hq, st⟩
/-- not caught here, past rows that name other classes: it goes on to the caller -/
theorem vx_outP {p : Program} {l : Launch} {e : Env} {R : Room} {s : State} {m : MethodId} {args : Array Value} {below : List Frame} {meth : Method} {c : Code} {H : Heap} {locs : List Loc} {cells slots : Nat} {free : Addr → Prop} {ls : Array Slot} {rest : List Value} {Qc : Array Value → State → Outcome → State → Prop} {XC : String → State → State → Prop}
    {pc : Nat} {own E : String} {ce : Cell} {q : Addr} {mc ms : Nat} (hown : s.vm.findClass own = some m.cls) (hlocks : meth.locks = false)
    (hpass : ∀ z ∈ c.exceptionTable.toList, covers z pc = false ∨ (z.catchType ≠ 0 ∧ ∃ nm : String, (Cond.classLink own z.catchType nm).before args s = true ∧ va_Nc E nm s)) (hcell : H[q]? = some ce) (hv : ce.vm = .none) (hcl : s.vm.findClass E = some ce.cls)
    (hx : ∀ t : State, t.heap = H → s.vm.Alike t.vm → XC E s t) (hf : ∀ z ∈ locs, free z.base) (hc : cells ≤ mc) (hs : slots ≤ ms) :
    vx_W p l e R s m args below meth c H locs cells slots (vx_MQ below Qc XC args s mc ms free) (F0 m pc ls rest) q := by
  intro T hT X
  have hpl : e.platform.magicAccessors = ({} : Platform).magicAccessors := by rw [X.admits.platform]
  obtain ⟨vm', hW', X', st⟩ := X.outThrough hlocks q (g := F0 m pc ls rest) rfl rfl rfl (cell := ce) (by rw [hT]; exact hcell) (by rw [hv]; rfl)
    (by obtain ⟨k9, h9, -⟩ := Vm.findClass_spec hcl; exact ⟨k9, h9⟩) (fun z hz => by
      rcases hpass z hz with h | ⟨hz0, nm, hl1, hn1⟩
      · exact Or.inl h
      · obtain ⟨c6, hc6, hcl6⟩ := Cond.classLink_spec hown hl1 e.platform hpl
        obtain ⟨a8, b8, h1, h2, h3⟩ := hn1
        cases Option.some.inj (h1.symm.trans hcl)
        cases Option.some.inj (h2.symm.trans hc6)
        exact Or.inr ⟨hz0, _, hcl6, h3⟩)
  obtain ⟨g₀, hfr⟩ := X'.frames_eq
  have hcell9 : ((T.setVm vm').setFrames (.throwing q :: below)).heap[q]? = some ce := by
    show T.heap[q]? = some ce
    rw [hT]; exact hcell
  have hend : Ended ((T.setVm vm').setFrames (.throwing q :: below)) below (.threw q) := State.frames_setFrames _ (State.cur_lt_of_frames hfr)
  refine ⟨(T.setVm vm').setFrames (.throwing q :: below), ?_, .threw q, X'.here.running, hend, Or.inr ⟨q, rfl, E, ce, locs, hx _ hT (X'.ends _).1.alike, hcell9, hv, hcl, (X'.ends _).1, (X'.ends _).2.mono hc hs, hf⟩⟩
  rw [X.pushThrowing_eq]
  exact st
/-- a thing of a world lies in the heap -/
theorem vx_lt {D : va_G} {cl : List vw_C} {ws : va_W} {H1 : Heap} (h : va_P D cl ws H1) {k : Nat} {q : Nat × va_E} (hk : ws[k]? = some q) : q.1 < H1.size := (h k q hk).lt
end VXS
/-! ===== END ===== -/
/-! ===== BEGIN methods with a table of their own: called by a name, returning or throwing ===== -/
section VXH
/-! vx_backW, vx_callVX, vx_callSX, vx_callVW, vx_runVW, vx_runVX, vx_runSX, vx_ofWH follow the same proofs as their sisters above (Free/Laws.lean, Shelf42/LK1.lean); vx_outP calls Shelf42/NT130.lean (outThrough). -/
section
variable {l : Launch} {R : Room} {p : Program} {e : Env} {below : List Frame} {s : State} {sargs : Array Value} {y : MethodName} {len W9 : Nat}
theorem vx_backW {ws : List Cond} {rm : Room} {Pc : Array Value → State → Prop} {Qc : Array Value → State → Outcome → State → Prop} {XC : String → State → State → Prop} {mc ms : Nat} {free : Addr → Prop} {bytes : ByteArray} {maxL : Nat} {ret : Option FieldType} {hh : List (Nat × Nat × Nat × Nat)}
    (hM : vx_Met l y ws rm Pc Qc XC mc ms free) (hblind : FrameBlind Pc) (hrc : rm.cells = mc) (hrs : rm.slots = ms)
    (hframes : rm.frames + 1 ≤ R.frames) (hlocals : W9 + (maxL + 11) + rm.locals ≤ R.locals)
    (hws : ∀ w ∈ ws, ∀ a' U, s.WarmedH U.vm → w.before a' U = true) (hcode : Cond.codeWith y bytes maxL ret hh ∈ ws) (hinit : ∀ a' U, s.WarmedH U.vm → (Cond.initialized y.cls).before a' U = true) :
    vx_Back l R p e below s sargs y len W9 (PreOf R mc ms Pc) (PostOf Qc mc ms free) (vx_Post XC mc ms free) := by
  intro m meth c A g ig mk a X hg hsize hdg hW hn hp
  have h1 : (headSpec ws rm).pre.before a A.U = true := atoms_intro fun w hw => hws w hw _ _ X.warmed
  have h2 : (Cond.codeWith y bytes maxL ret hh).before a A.U = true := hws _ hcode _ _ X.warmed
  have h3 : (Cond.initialized y.cls).before a A.U = true := hinit _ _ X.warmed
  have h4 : A.cells + (headSpec ws rm).room.cells ≤ R.cells := by rw [show (headSpec ws rm).room.cells = mc from hrc]; exact hp.1
  have h5 : A.slots + (headSpec ws rm).room.slots ≤ R.slots := by rw [show (headSpec ws rm).room.slots = ms from hrs]; exact hp.2.1
  have hPc : Pc a (A.U.calling g mk a) := hblind _ _ _ _ hp.2.2
  obtain ⟨U, Ls, c0, s0⟩ := A
  dsimp only [Pt.U, Pt.locs, Pt.cells, Pt.slots] at h1 h2 h3 h4 h5 X hn hPc ⊢
  obtain ⟨m9, methY, cY, hn9, hmY, hcY, -, hlY, -⟩ := Cond.codeWith_spec h2
  cases Option.some.inj (hn9.symm.trans hn)
  obtain ⟨kY, hkY, -⟩ := className_of_methodNamed hn
  have hinitY : kY.init = .initialized := Cond.initialized_spec (findClass_of_methodNamed hn) hkY h3
  have h : At U g.method c below := by rw [hg]; exact X.here
  have hlocals9 : W9 + (maxL + 11) + (headSpec ws rm).room.locals ≤ R.locals := hlocals
  have happ : (headSpec ws rm).appliesLoose y e.platform (U.calling g mk a) = true :=
    Spec.appliesLoose_calling (g := g) h hdg hn hkY hinitY
      (X.room_calling (g := g) (R' := (headSpec ws rm).room) hsize hmY hcY hframes (by rw [hlY]; omega) h4 h5) h1
  obtain ⟨mid, hmid⟩ := h.above
  have hfr : (U.setTop g).frames = (.java g :: mid) ++ below := by rw [State.frames_setTop' g h.top, hmid]; rfl
  obtain ⟨o, s₂, hsteps, -, hend, hq⟩ := Steps.callFree hM p X.admits X.cas X.clock (acts := []) hfr happ hPc trivial
  have hq' : vx_Q Qc XC mc ms free a (U.calling g mk a) o s₂ := hq
  rw [State.frames_setTop' g h.top] at hend
  obtain ⟨g₀, hg0⟩ := Option.isSome_iff_exists.mp h.top
  obtain ⟨r, hr⟩ := State.topJava?_eq_some.mp hg0
  have hr' : (({ U with heap := s₂.heap, slotsUsed := s₂.slotsUsed } : State).setVm s₂.vm).frames = .java g₀ :: r := hr
  rcases hq' with ⟨hqc, L, hfe, hL⟩ | ⟨q, rfl, E, ce, L, hx, hce, hcv, hcl, hW₂, hsm, hL⟩
  · obtain ⟨⟨v, rfl⟩, hW₂, e2, q2, q3, q4, q5, q6⟩ := id hfe
    have e3 : s₂ = ({ (U.calling g mk a).setFrames s₂.frames with heap := s₂.heap, slotsUsed := s₂.slotsUsed } : State).setVm s₂.vm := by
      have : s₂ = ({ s₂ with vm := (U.calling g mk a).vm } : State).setVm s₂.vm := rfl
      rw [e2] at this
      exact this
    obtain ⟨c₂, i₂, len₂, hc₂, hd₂, hf₂⟩ := hend
    have hW' : U.WarmedH s₂.vm := hW₂
    have hcc : c₂ = c := by
      have h1 : s₂.code? g.method = U.code? g.method := by
        rw [State.code?_eq, State.code?_eq, hW'.alike.method?]
      exact Option.some.inj (hc₂.symm.trans (h1.trans h.code))
    subst hcc
    have hlen : len₂ = len := by rw [hdg] at hd₂; cases hd₂; rfl
    subst hlen
    have hs₂ : s₂ = (({ U with heap := s₂.heap, slotsUsed := s₂.slotsUsed } : State).setVm s₂.vm).setTop { g with pc := g.pc + len₂, stack := v.toList ++ g.stack } := by
      refine e3.trans ?_
      rw [hf₂, State.calling_eq h.top, State.setFrames_setFrames, State.setTop_of_frames _ hr', hr]
      rfl
    have hsame : U.sameButNew ({ U with heap := s₂.heap, slotsUsed := s₂.slotsUsed } : State) L mc ms := by
      refine ⟨?_, q2, q3, q4, q5, q6⟩
      obtain ⟨t, ht, -⟩ := State.frames_cons hr
      show ({ U with heap := s₂.heap, slotsUsed := s₂.slotsUsed } : State) = { U.setFrames U.frames with heap := s₂.heap, slotsUsed := s₂.slotsUsed }
      rw [State.setFrames_self ht]
    subst hg
    refine Or.inl ⟨v, ⟨(({ U with heap := s₂.heap, slotsUsed := s₂.slotsUsed } : State).setVm s₂.vm), Ls ++ L, c0 + mc, s0 + ms⟩,
      ⟨X.admits, X.cas, X.clock, X.frames, X.room, X.hears, X.method, X.code, (X.here.setHeapUsed s₂.heap s₂.slotsUsed).setVm hW'.alike, X.tail, State.WarmedH.trans X.warmed hW', X.limits, X.bytes, X.same.trans (hsame.setVm s.vm)⟩,
      ⟨g, mk, s₂, L, rfl, rfl, hqc, rfl, hL, rfl, rfl⟩, ?_⟩
    show Steps p.tables e below _ ((({ U with heap := s₂.heap, slotsUsed := s₂.slotsUsed } : State).setVm s₂.vm).setTop { g with pc := g.pc + len₂, stack := v.toList ++ g.stack })
    rw [← hs₂]
    exact hsteps
  · obtain ⟨e2, q2, q3, q4, q5, q6⟩ := id hsm
    have e3 : s₂ = ({ (U.calling g mk a).setFrames s₂.frames with heap := s₂.heap, slotsUsed := s₂.slotsUsed } : State).setVm s₂.vm := by
      have : s₂ = ({ s₂ with vm := (U.calling g mk a).vm } : State).setVm s₂.vm := rfl
      rw [e2] at this
      exact this
    have hf₂ : s₂.frames = .throwing q :: .java g :: U.frames.tail := hend
    have hW' : U.WarmedH s₂.vm := hW₂
    have hs₂ : s₂ = ((({ U with heap := s₂.heap, slotsUsed := s₂.slotsUsed } : State).setVm s₂.vm).setTop g).pushFrame (.throwing q) := by
      refine e3.trans ?_
      rw [hf₂, State.calling_eq h.top, State.setFrames_setFrames, State.pushFrame, State.frames_setTop _ hr', State.setTop_of_frames _ hr', State.setFrames_setFrames, hr]
      rfl
    have hsame : U.sameButNew ({ U with heap := s₂.heap, slotsUsed := s₂.slotsUsed } : State) L mc ms := by
      refine ⟨?_, q2, q3, q4, q5, q6⟩
      obtain ⟨t, ht, -⟩ := State.frames_cons hr
      show ({ U with heap := s₂.heap, slotsUsed := s₂.slotsUsed } : State) = { U.setFrames U.frames with heap := s₂.heap, slotsUsed := s₂.slotsUsed }
      rw [State.setFrames_self ht]
    subst hg
    refine Or.inr ⟨q, ⟨(({ U with heap := s₂.heap, slotsUsed := s₂.slotsUsed } : State).setVm s₂.vm), Ls ++ L, c0 + mc, s0 + ms⟩,
      ⟨X.admits, X.cas, X.clock, X.frames, X.room, X.hears, X.method, X.code, (X.here.setHeapUsed s₂.heap s₂.slotsUsed).setVm hW'.alike, X.tail, State.WarmedH.trans X.warmed hW', X.limits, X.bytes, X.same.trans (hsame.setVm s.vm)⟩,
      ⟨g, mk, s₂, L, E, ce, rfl, rfl, hx, hce, hcv, hcl, rfl, hL, rfl, rfl⟩, ?_⟩
    show Steps p.tables e below _ (((({ U with heap := s₂.heap, slotsUsed := s₂.slotsUsed } : State).setVm s₂.vm).setTop g).pushFrame (.throwing q))
    rw [← hs₂]
    exact hsteps
end
variable {p : Program} {l : Launch} {e : Env} {R : Room} {s : State} {m : MethodId} {args : Array Value} {below : List Frame} {meth : Method} {c : Code} {T : State} {H : Heap} {locs : List Loc} {cells slots : Nat}
theorem vx_callVX (X : Stand p l e R s m args below meth c T locs cells slots) (hexec : p.tables.exec = Jvm.exec) {own C : String} {index : Nat} {y : MethodName} {bytes : ByteArray} {maxL : Nat} {ret : Option FieldType} {hh : List (Nat × Nat × Nat × Nat)}
    (hown : s.vm.findClass own = some m.cls) (hlink : (Cond.methodLink own index y).before args s = true) (hinst : (Cond.instanceMethod y).before args s = true) (hsel : (Cond.selects C y y).before args s = true)
    (hcode : (Cond.codeWith y bytes maxL ret hh).before args s = true) (hy : y.cls ≠ "java/lang/invoke/MethodHandle" ∧ y.cls ≠ "java/lang/invoke/VarHandle")
    {W9 : Nat} {Pre : Pt → Array Value → Prop} {Post : Pt → Array Value → Option Value → Pt → Prop} {PostX : Pt → Array Value → Addr → Pt → Prop} (hK : vx_Back l R p e below s args y 3 W9 Pre Post PostX)
    {b : Addr} {cellB : Cell} (hcell : T.heap[b]? = some cellB) (hobj : cellB.vm.isStatics = false) (hcls : s.vm.findClass C = some cellB.cls)
    {g : JFrame} (hg : g.method = m) (hsize : g.locals.size = c.maxLocals) {argsL rest : List Value} (hlen : ∀ sig, parseMethodDescriptor y.desc = some sig → argsL.length = sig.parameters.length)
    (hstack : g.stack = argsL.reverse ++ .ref b :: rest) (hW : 2 * g.monitorRoom + (rest.map fun v => v.category).sum ≤ W9) (hdg : decode c.code g.pc = .ok (.invokevirtual index, 3))
    (hpre : ∀ vm₁, s.WarmedH vm₁ → Pre ⟨T.setVm vm₁, locs, cells, slots⟩ (Value.ref b :: argsL).toArray) :
    (∃ (v : Option Value) (vm₁ : Vm) (B : Pt), s.WarmedH vm₁ ∧ Stand p l e R s m args below meth c B.U B.locs B.cells B.slots ∧ Post ⟨T.setVm vm₁, locs, cells, slots⟩ (Value.ref b :: argsL).toArray v B ∧
      ∀ target, Steps p.tables e below (B.U.setTop { g with pc := g.pc + 3, stack := v.toList ++ rest }) target → Steps p.tables e below (T.setTop g) target) ∨
    (∃ (q : Addr) (vm₁ : Vm) (B : Pt), s.WarmedH vm₁ ∧ Stand p l e R s m args below meth c B.U B.locs B.cells B.slots ∧ PostX ⟨T.setVm vm₁, locs, cells, slots⟩ (Value.ref b :: argsL).toArray q B ∧
      Steps p.tables e below (T.setTop g) ((B.U.setTop { g with stack := rest }).pushFrame (.throwing q))) := by
  obtain ⟨mk, methM, hnamed, hmethM, hstM, habM⟩ := Cond.instanceMethod_spec hinst
  obtain ⟨m8, methM', cM, hn8, hmethM', -, -, -, -, -, -, hsigM⟩ := Cond.codeWith_spec hcode
  cases Option.some.inj (hn8.symm.trans hnamed)
  cases hmethM.symm.trans hmethM'
  obtain ⟨c2, r2, m2, q1, q2, q3, q4, kP, hkP, hkPi⟩ := Cond.selects_spec hsel
  cases hcls.symm.trans q1
  cases (State.methodFound?_of_named hnamed hy).symm.trans q2
  cases hnamed.symm.trans q3
  have hselP : selectMethod e.platform s.vm cellB.cls mk = .method mk := by rw [Launch.admits_selectMethod X.admits]; exact q4
  obtain ⟨vm₁, X₁, hstep₁⟩ := X.invokevirtual hexec hown hlink hnamed hmethM hstM hkP hkPi hy (a := b) (cell := cellB) hcell
    (fun z h => by rw [h] at hobj; cases hobj) hselP hmethM habM hkP hkPi (g := g) hg (argsL := argsL) (rest := rest) (hlen _ hsigM) hstack hdg
  rcases hK m meth c ⟨T.setVm vm₁, locs, cells, slots⟩ { g with stack := rest } (.invokevirtual index) mk (Value.ref b :: argsL).toArray X₁ hg hsize hdg hW (X₁.named hnamed) (hpre vm₁ X₁.warmed) with ⟨v, B, X', hpost, hsteps⟩ | ⟨q, B, X', hpost, hsteps⟩
  · exact Or.inl ⟨v, vm₁, B, X₁.warmed, X', hpost, fun target h => hstep₁ _ fun acts => by rw [doInvoke_state]; exact hsteps.trans h⟩
  · exact Or.inr ⟨q, vm₁, B, X₁.warmed, X', hpost, hstep₁ _ fun acts => by rw [doInvoke_state]; exact hsteps⟩
theorem vx_callSX (X : Stand p l e R s m args below meth c T locs cells slots) (hexec : p.tables.exec = Jvm.exec) {own : String} {index : Nat} {y : MethodName} {bytes : ByteArray} {maxL : Nat} {ret : Option FieldType} {hh : List (Nat × Nat × Nat × Nat)}
    (hown : s.vm.findClass own = some m.cls) (hlink : (Cond.methodLink own index y).before args s = true) (hstat : (Cond.static y).before args s = true) (hinit : (Cond.initialized y.cls).before args s = true)
    (hcode : (Cond.codeWith y bytes maxL ret hh).before args s = true) (hy : y.cls ≠ "java/lang/invoke/MethodHandle" ∧ y.cls ≠ "java/lang/invoke/VarHandle")
    {W9 : Nat} {Pre : Pt → Array Value → Prop} {Post : Pt → Array Value → Option Value → Pt → Prop} {PostX : Pt → Array Value → Addr → Pt → Prop} (hK : vx_Back l R p e below s args y 3 W9 Pre Post PostX)
    {g : JFrame} (hg : g.method = m) (hsize : g.locals.size = c.maxLocals) {argsL rest : List Value} (hlen : ∀ sig, parseMethodDescriptor y.desc = some sig → argsL.length = sig.parameters.length)
    (hstack : g.stack = argsL.reverse ++ rest) (hW : 2 * g.monitorRoom + (rest.map fun v => v.category).sum ≤ W9) (hdg : decode c.code g.pc = .ok (.invokestatic index, 3))
    (hpre : ∀ vm₁, s.WarmedH vm₁ → Pre ⟨T.setVm vm₁, locs, cells, slots⟩ argsL.toArray) :
    (∃ (v : Option Value) (vm₁ : Vm) (B : Pt), s.WarmedH vm₁ ∧ Stand p l e R s m args below meth c B.U B.locs B.cells B.slots ∧ Post ⟨T.setVm vm₁, locs, cells, slots⟩ argsL.toArray v B ∧
      ∀ target, Steps p.tables e below (B.U.setTop { g with pc := g.pc + 3, stack := v.toList ++ rest }) target → Steps p.tables e below (T.setTop g) target) ∨
    (∃ (q : Addr) (vm₁ : Vm) (B : Pt), s.WarmedH vm₁ ∧ Stand p l e R s m args below meth c B.U B.locs B.cells B.slots ∧ PostX ⟨T.setVm vm₁, locs, cells, slots⟩ argsL.toArray q B ∧
      Steps p.tables e below (T.setTop g) ((B.U.setTop { g with stack := rest }).pushFrame (.throwing q))) := by
  obtain ⟨mk, methM, cM, hnamed, hmethM, -, -, -, -, -, -, hsigM⟩ := Cond.codeWith_spec hcode
  have hstatic : methM.isStatic = true := Cond.static_spec hnamed hmethM hstat
  obtain ⟨kP, hkP, -⟩ := className_of_methodNamed hnamed
  have hinitP : kP.init = .initialized := Cond.initialized_spec (findClass_of_methodNamed hnamed) hkP hinit
  obtain ⟨vm₁, X₁, hstep₁⟩ := X.invokestatic hexec hown hlink hnamed hmethM hstatic hkP hinitP hy (g := g) hg (argsL := argsL) (rest := rest) (hlen _ hsigM) hstack hdg
  rcases hK m meth c ⟨T.setVm vm₁, locs, cells, slots⟩ { g with stack := rest } (.invokestatic index) mk argsL.toArray X₁ hg hsize hdg hW (X₁.named hnamed) (hpre vm₁ X₁.warmed) with ⟨v, B, X', hpost, hsteps⟩ | ⟨q, B, X', hpost, hsteps⟩
  · exact Or.inl ⟨v, vm₁, B, X₁.warmed, X', hpost, fun target h => hstep₁ _ fun acts => by rw [doInvoke_state]; exact hsteps.trans h⟩
  · exact Or.inr ⟨q, vm₁, B, X₁.warmed, X', hpost, hstep₁ _ fun acts => by rw [doInvoke_state]; exact hsteps⟩
theorem vx_callVW (X : Stand p l e R s m args below meth c T locs cells slots) (hexec : p.tables.exec = Jvm.exec) {own C : String} {index : Nat} {y : MethodName} {bytes : ByteArray} {maxL : Nat} {ret : Option FieldType} {hh : List (Nat × Nat × Nat × Nat)}
    (hown : s.vm.findClass own = some m.cls) (hlink : (Cond.methodLink own index y).before args s = true) (hinst : (Cond.instanceMethod y).before args s = true) (hsel : (Cond.selects C y y).before args s = true)
    (hcode : (Cond.codeWith y bytes maxL ret hh).before args s = true) (hy : y.cls ≠ "java/lang/invoke/MethodHandle" ∧ y.cls ≠ "java/lang/invoke/VarHandle")
    {W9 : Nat} {Pre : Pt → Array Value → Prop} {Post : Pt → Array Value → Option Value → Pt → Prop} (hK : Back l R p e below s args y 3 W9 Pre Post)
    {b : Addr} {cellB : Cell} (hcell : T.heap[b]? = some cellB) (hobj : cellB.vm.isStatics = false) (hcls : s.vm.findClass C = some cellB.cls)
    {g : JFrame} (hg : g.method = m) (hsize : g.locals.size = c.maxLocals) {argsL rest : List Value} (hlen : ∀ sig, parseMethodDescriptor y.desc = some sig → argsL.length = sig.parameters.length)
    (hstack : g.stack = argsL.reverse ++ .ref b :: rest) (hW : 2 * g.monitorRoom + (rest.map fun v => v.category).sum ≤ W9) (hdg : decode c.code g.pc = .ok (.invokevirtual index, 3))
    (hpre : ∀ vm₁, s.WarmedH vm₁ → Pre ⟨T.setVm vm₁, locs, cells, slots⟩ (Value.ref b :: argsL).toArray) :
    ∃ (v : Option Value) (vm₁ : Vm) (B : Pt), s.WarmedH vm₁ ∧ Stand p l e R s m args below meth c B.U B.locs B.cells B.slots ∧ Post ⟨T.setVm vm₁, locs, cells, slots⟩ (Value.ref b :: argsL).toArray v B ∧
      ∀ target, Steps p.tables e below (B.U.setTop { g with pc := g.pc + 3, stack := v.toList ++ rest }) target → Steps p.tables e below (T.setTop g) target := by
  obtain ⟨mk, methM, hnamed, hmethM, hstM, habM⟩ := Cond.instanceMethod_spec hinst
  obtain ⟨m8, methM', cM, hn8, hmethM', -, -, -, -, -, -, hsigM⟩ := Cond.codeWith_spec hcode
  cases Option.some.inj (hn8.symm.trans hnamed)
  cases hmethM.symm.trans hmethM'
  obtain ⟨c2, r2, m2, q1, q2, q3, q4, kP, hkP, hkPi⟩ := Cond.selects_spec hsel
  cases hcls.symm.trans q1
  cases (State.methodFound?_of_named hnamed hy).symm.trans q2
  cases hnamed.symm.trans q3
  have hselP : selectMethod e.platform s.vm cellB.cls mk = .method mk := by rw [Launch.admits_selectMethod X.admits]; exact q4
  obtain ⟨vm₁, X₁, hstep₁⟩ := X.invokevirtual hexec hown hlink hnamed hmethM hstM hkP hkPi hy (a := b) (cell := cellB) hcell
    (fun z h => by rw [h] at hobj; cases hobj) hselP hmethM habM hkP hkPi (g := g) hg (argsL := argsL) (rest := rest) (hlen _ hsigM) hstack hdg
  obtain ⟨v, B, X', hpost, hsteps⟩ := hK m meth c ⟨T.setVm vm₁, locs, cells, slots⟩ { g with stack := rest } (.invokevirtual index) mk (Value.ref b :: argsL).toArray X₁ hg hsize hdg hW (X₁.named hnamed) (hpre vm₁ X₁.warmed)
  exact ⟨v, vm₁, B, X₁.warmed, X', hpost, fun target h => hstep₁ _ fun acts => by rw [doInvoke_state]; exact hsteps.trans h⟩
abbrev vx_CVW (R : Room) (s : State) (args : Array Value) (own C : String) (index : Nat) (y : MethodName) (bytes : ByteArray) (maxL : Nat) (ret : Option FieldType) (hh : List (Nat × Nat × Nat × Nat)) (ws : List Cond) (rm : Room) (mc ms n : Nat) : Prop :=
  (rm.cells = mc ∧ rm.slots = ms ∧ rm.frames + 1 ≤ R.frames ∧ 8 + (maxL + 11) + rm.locals ≤ R.locals ∧ (∀ w ∈ ws, ∀ (a' : Array Value) (U : State), s.WarmedH U.vm → w.before a' U = true) ∧ Cond.codeWith y bytes maxL ret hh ∈ ws) ∧
  (Cond.codeWith y bytes maxL ret hh).before args s = true ∧ (Cond.initialized y.cls).before args s = true ∧ (y.cls ≠ "java/lang/invoke/MethodHandle" ∧ y.cls ≠ "java/lang/invoke/VarHandle") ∧
  (∀ sig, parseMethodDescriptor y.desc = some sig → n = sig.parameters.length) ∧ (Cond.methodLink own index y).before args s = true ∧ (Cond.instanceMethod y).before args s = true ∧ (Cond.selects C y y).before args s = true
theorem vx_cwVW {own C : String} {index maxL mc ms : Nat} {y : MethodName} {bytes : ByteArray} {ret : Option FieldType} {hh : List (Nat × Nat × Nat × Nat)} {Ts ws ws' : List Cond} {rm : Room} (n : Nat) (ht : ∀ w ∈ Ts, w.before args s = true) (hT : GoodIn Ts (wsV own index C y ws)) (hw : ws = Cond.codeWith y bytes maxL ret hh :: ws') (hrc : rm.cells = mc) (hrs : rm.slots = ms)
    (hd : y.cls = C ∧ y.cls ≠ "java/lang/invoke/MethodHandle" ∧ y.cls ≠ "java/lang/invoke/VarHandle" ∧ (parseMethodDescriptor y.desc).map (fun d => d.parameters.length) = some n) (hR : rm.frames + 1 ≤ R.frames ∧ 8 + (maxL + 11) + rm.locals ≤ R.locals) :
    vx_CVW R s args own C index y bytes maxL ret hh ws rm mc ms n := by
  obtain ⟨hC, hd⟩ := hd
  subst hC
  have ok : ∀ w ∈ wsV own index y.cls y ws, w.before args s = true := fun w h => ht w (hT w h).1
  have hG : GoodIn Ts ws := fun w h => hT w (by unfold wsV; exact List.mem_append_right _ h)
  have hc : Cond.codeWith y bytes maxL ret hh ∈ ws := by rw [hw]; exact List.mem_cons_self
  refine ⟨⟨hrc, hrs, hR.1, hR.2, pay_in ht hG, hc⟩, ht _ (hG _ hc).1, ok _ (by simp [wsV]), ⟨hd.1, hd.2.1⟩, fun sig h => ?_, ok _ (by simp [wsV]), ok _ (by simp [wsV]), ok _ (by simp [wsV])⟩
  have h2 := hd.2.2
  rw [h] at h2
  exact (Option.some.inj h2).symm
theorem vx_runVW {y : MethodName} {bytes cc : ByteArray} {maxL nL mc ms n index : Nat} {ret : Option FieldType} {hh : List (Nat × Nat × Nat × Nat)} {ws : List Cond} {rm : Room} {Pc : Array Value → State → Prop} {Qc : Array Value → State → Outcome → State → Prop} {free : Addr → Prop} {Ts : List Cond} {own C : String} {b : Addr} {As rest : List Value} {g : JFrame}
    (S : CallFix p m c cc nL s args Ts own) (hM : Met l y ws rm Pc Qc mc ms free) (cw : vx_CVW R s args own C index y bytes maxL ret hh ws rm mc ms n) (hp : PreV s H C b Pc As)
    (hg : g.method = m) (hn : As.length = n) (hsize : g.locals.size = nL) (hstack : g.stack = As.reverse ++ .ref b :: rest) (hW : 2 * g.monitorRoom + (rest.map fun v => v.category).sum ≤ 8) (hdg : decode cc g.pc = .ok (.invokevirtual index, 3)) (hf : cells + mc ≤ R.cells ∧ slots + ms ≤ R.slots) :
    va_Run p l e R s m args below meth c H locs cells slots mc ms g rest (Qc (Value.ref b :: As).toArray) free := by
  obtain ⟨⟨hrc, hrs, hfr, hlo, hws, hcw⟩, hcode, hini, hy, hlen, hl, hin, hse⟩ := cw
  have hK : Back l R p e below s args y 3 8 (PreOf R mc ms Pc) (PostOf Qc mc ms free) := va_backW (hh := hh) (bytes := bytes) (maxL := maxL) (ret := ret) hM hp.1 hrc hrs hfr hlo hws hcw (fun a' U hW => word_at hW (Or.inl (by first | rfl | simp [Cond.onTables, Cond.keeps, Cond.steady])) hini)
  obtain ⟨hx, hb, hml, ho, -⟩ := S
  obtain ⟨-, ⟨cellB, hcB, hoB, hclB⟩, hPc⟩ := hp
  intro T hT X
  obtain ⟨v, vm₁, ⟨U', l2, c2, s2⟩, hW₁, X', ⟨g', mk, t, L, e1, e2, hq, h1, hL, h2, h3⟩, st⟩ := vx_callVW X hx (C := C) (hh := hh) (bytes := bytes) (maxL := maxL) (ret := ret) ho hl hin hse hcode hy hK (by rw [hT]; exact hcB) hoB hclB hg (hsize.trans hml.symm) (argsL := As) (rest := rest) (fun sig h => hn.trans (hlen sig h)) hstack hW (by rw [hb]; exact hdg)
    (fun vm₁ hW₁ => ⟨hf.1, hf.2, hPc (T.setVm vm₁) hT hW₁⟩)
  dsimp only [Pt.U, Pt.locs, Pt.cells, Pt.slots] at X' e1 e2 h1 h2 h3 st
  subst h1; subst h2; subst h3
  exact ⟨v, (T.setVm vm₁).calling g' mk (Value.ref b :: As).toArray, t, U', L, hT, X', hL, e1, e2, hq, st⟩
section
variable {y : MethodName} {bytes cc : ByteArray} {maxL nL mc ms n index : Nat} {ret : Option FieldType} {ws : List Cond} {rm : Room} {Pc : Array Value → State → Prop} {Qc : Array Value → State → Outcome → State → Prop} {XC : String → State → State → Prop} {free : Addr → Prop} {Ts : List Cond} {own C : String} {b : Addr} {As rest : List Value} {g : JFrame}
theorem vx_runVX {hh : List (Nat × Nat × Nat × Nat)} (S : CallFix p m c cc nL s args Ts own) (hM : vx_Met l y ws rm Pc Qc XC mc ms free) (cw : vx_CVW R s args own C index y bytes maxL ret hh ws rm mc ms n) (hp : PreV s H C b Pc As)
    (hg : g.method = m) (hn : As.length = n) (hsize : g.locals.size = nL) (hstack : g.stack = As.reverse ++ .ref b :: rest) (hW : 2 * g.monitorRoom + (rest.map fun v => v.category).sum ≤ 8) (hdg : decode cc g.pc = .ok (.invokevirtual index, 3)) (hf : cells + mc ≤ R.cells ∧ slots + ms ≤ R.slots) :
    vx_Run p l e R s m args below meth c H locs cells slots mc ms g rest (Qc (Value.ref b :: As).toArray) XC free := by
  obtain ⟨⟨hrc, hrs, hfr, hlo, hws, hcw⟩, hcode, hini, hy, hlen, hl, hin, hse⟩ := cw
  have hK : vx_Back l R p e below s args y 3 8 (PreOf R mc ms Pc) (PostOf Qc mc ms free) (vx_Post XC mc ms free) := vx_backW (hh := hh) (bytes := bytes) (maxL := maxL) (ret := ret) hM hp.1 hrc hrs hfr hlo hws hcw (fun a' U hW => word_at hW (Or.inl (by first | rfl | simp [Cond.onTables, Cond.keeps, Cond.steady])) hini)
  obtain ⟨hx, hb, hml, ho, -⟩ := S
  obtain ⟨-, ⟨cellB, hcB, hoB, hclB⟩, hPc⟩ := hp
  intro T hT X
  rcases vx_callVX X hx (C := C) (hh := hh) (bytes := bytes) (maxL := maxL) (ret := ret) ho hl hin hse hcode hy hK (by rw [hT]; exact hcB) hoB hclB hg (hsize.trans hml.symm) (argsL := As) (rest := rest) (fun sig h => hn.trans (hlen sig h)) hstack hW (by rw [hb]; exact hdg)
    (fun vm₁ hW₁ => ⟨hf.1, hf.2, hPc (T.setVm vm₁) hT hW₁⟩) with ⟨v, vm₁, ⟨U', l2, c2, s2⟩, hW₁, X', ⟨g', mk, t, L, e1, e2, hq, h1, hL, h2, h3⟩, st⟩ | ⟨q, vm₁, ⟨U', l2, c2, s2⟩, hW₁, X', ⟨g', mk, t, L, E, ce, e1, e2, hq, hce, hcv, hcl, h1, hL, h2, h3⟩, st⟩
  · dsimp only [Pt.U, Pt.locs, Pt.cells, Pt.slots] at X' e1 e2 h1 h2 h3 st
    subst h1; subst h2; subst h3
    exact Or.inl ⟨v, (T.setVm vm₁).calling g' mk (Value.ref b :: As).toArray, t, U', L, hT, X', hL, e1, e2, hq, st⟩
  · dsimp only [Pt.U, Pt.locs, Pt.cells, Pt.slots] at X' e1 e2 h1 h2 h3 st hcl
    subst h1; subst h2; subst h3
    exact Or.inr ⟨q, (T.setVm vm₁).calling g' mk (Value.ref b :: As).toArray, t, U', L, E, ce, hT, X', hL, e1, e2, hq, hce, hcv, vx_cls hW₁ hcl, st⟩
theorem vx_runSX {hh : List (Nat × Nat × Nat × Nat)} (S : CallFix p m c cc nL s args Ts own) (hM : vx_Met l y ws rm Pc Qc XC mc ms free) (cw : vx_CSW R s args own index y bytes maxL ret hh ws rm mc ms n) (hp : PreS s H Pc As)
    (hg : g.method = m) (hn : As.length = n) (hsize : g.locals.size = nL) (hstack : g.stack = As.reverse ++ rest) (hW : 2 * g.monitorRoom + (rest.map fun v => v.category).sum ≤ 8) (hdg : decode cc g.pc = .ok (.invokestatic index, 3)) (hf : cells + mc ≤ R.cells ∧ slots + ms ≤ R.slots) :
    vx_Run p l e R s m args below meth c H locs cells slots mc ms g rest (Qc As.toArray) XC free := by
  obtain ⟨⟨hrc, hrs, hfr, hlo, hws, hcw⟩, hcode, hini, hy, hlen, hl, hstt⟩ := cw
  have hK : vx_Back l R p e below s args y 3 8 (PreOf R mc ms Pc) (PostOf Qc mc ms free) (vx_Post XC mc ms free) := vx_backW (hh := hh) (bytes := bytes) (maxL := maxL) (ret := ret) hM hp.1 hrc hrs hfr hlo hws hcw (fun a' U hW => word_at hW (Or.inl (by first | rfl | simp [Cond.onTables, Cond.keeps, Cond.steady])) hini)
  obtain ⟨hx, hb, hml, ho, -⟩ := S
  intro T hT X
  rcases vx_callSX X hx (hh := hh) (bytes := bytes) (maxL := maxL) (ret := ret) ho hl hstt hini hcode hy hK hg (hsize.trans hml.symm) (argsL := As) (rest := rest) (fun sig h => hn.trans (hlen sig h)) hstack hW (by rw [hb]; exact hdg)
    (fun vm₁ hW₁ => ⟨hf.1, hf.2, hp.2 (T.setVm vm₁) hT hW₁⟩) with ⟨v, vm₁, ⟨U', l2, c2, s2⟩, hW₁, X', ⟨g', mk, t, L, e1, e2, hq, h1, hL, h2, h3⟩, st⟩ | ⟨q, vm₁, ⟨U', l2, c2, s2⟩, hW₁, X', ⟨g', mk, t, L, E, ce, e1, e2, hq, hce, hcv, hcl, h1, hL, h2, h3⟩, st⟩
  · dsimp only [Pt.U, Pt.locs, Pt.cells, Pt.slots] at X' e1 e2 h1 h2 h3 st
    subst h1; subst h2; subst h3
    exact Or.inl ⟨v, (T.setVm vm₁).calling g' mk As.toArray, t, U', L, hT, X', hL, e1, e2, hq, st⟩
  · dsimp only [Pt.U, Pt.locs, Pt.cells, Pt.slots] at X' e1 e2 h1 h2 h3 st hcl
    subst h1; subst h2; subst h3
    exact Or.inr ⟨q, (T.setVm vm₁).calling g' mk As.toArray, t, U', L, E, ce, hT, X', hL, e1, e2, hq, hce, hcv, vx_cls hW₁ hcl, st⟩
end
end VXH
theorem vx_ofWH {l : Launch} {y : MethodName} {ws ws' : List Cond} {rm : Room} {Pc : Array Value → State → Prop} {Qc : Array Value → State → Outcome → State → Prop} {XC : String → State → State → Prop} {mc ms : Nat} {free : Addr → Prop} {cc : ByteArray} {maxL : Nat} {ret : Option FieldType} {hh : List (Nat × Nat × Nat × Nat)}
    (hy : plainName y.cls = true) (hw : ws = Cond.codeWith y cc maxL ret hh :: ws')
    (body : ∀ p e s m args below meth c s₁, BodyLoose p l y (headSpec ws rm) cc maxL ret e s m args below meth c s₁ → c.maxLocals = maxL → Pc args s →
      W p l e (headSpec ws rm).room s m args below meth c s.heap [] 0 0 (vx_MQ below Qc XC args s mc ms free) (entryFrame m args maxL)) : vx_Met l y ws rm Pc Qc XC mc ms free := by
  refine MetFree.of_bodyS (code := cc) (maxLocals := maxL) (ret := ret) hy ?_ ?_
  · intro args s m h hn
    obtain ⟨m9, meth, c, hn9, h1, h2, h3, h4, -, h5, h6, -⟩ := Cond.codeWith_spec (atoms_spec (ws := ws) h _ (by rw [hw]; exact List.mem_cons_self))
    cases hn.symm.trans hn9
    exact ⟨meth, c, h1, h2, h3, h4, h5, h6⟩
  · intro p e s m args below meth c s₁ B hml hP _
    have hh0 : s₁.heap = s.heap := by rw [B.state]; rfl
    obtain ⟨t, a1, o, b1, b2, b3⟩ := body p e s m args below meth c s₁ B hml hP s₁ hh0 (Stand.of_body B)
    exact ⟨t, o, a1, b1, b2, b3⟩
/-! ===== END ===== -/
end
section
def RX0 : String := "CourtRelays$Buffer"
def TX0 : u_T := fun k => match k with
  | 0 => ("CourtRelays$Buffer", "length", "I", false)
  | _ => ("CourtRelays$Buffer", "codes", "[I", true)
def tyX0 : Nat → FieldType := fun k => match k with
  | 0 => .int
  | _ => .array .int
abbrev wsX00 : List Cond := u_ws RX0 TX0 2
theorem nmX0 : ∀ a, a < 2 → ∀ b, b < 2 → a ≠ b → (TX0 a).2.1 ≠ (TX0 b).2.1 := by decide +kernel
theorem tyX0_ok : ∀ k, k < 2 → parseFieldDescriptor (TX0 k).2.2.1 = some (tyX0 k) := by decide +kernel
abbrev cX0_init : ByteArray := prog_2_method_1_code
def yX0_init : MethodName := ⟨RX0, "<init>", "()V"⟩
abbrev cX0_put : ByteArray := prog_2_method_2_code
def yX0_put : MethodName := ⟨RX0, "put", "(I)V"⟩
abbrev cX0_codeAt : ByteArray := prog_2_method_3_code
def yX0_codeAt : MethodName := ⟨RX0, "codeAt", "(I)I"⟩
abbrev cX0_mixInto : ByteArray := prog_2_method_4_code
def yX0_mixInto : MethodName := ⟨RX0, "mixInto", "(J)J"⟩
def RX1 : String := "CourtRelays$ChainSearch"
def TX1 : u_T := fun k => match k with
  | 0 => ("CourtRelays$ChainSearch", "earned", "I", false)
  | 1 => ("CourtRelays$ChainSearch", "size", "I", false)
  | 2 => ("CourtRelays$ChainSearch", "first", "I", false)
  | 3 => ("CourtRelays$ChainSearch", "second", "I", false)
  | 4 => ("CourtRelays$ChainSearch", "third", "I", false)
  | 5 => ("CourtRelays$ChainSearch", "people", "I", false)
  | 6 => ("CourtRelays$ChainSearch", "beginners", "I", false)
  | 7 => ("CourtRelays$ChainSearch", "enders", "I", false)
  | 8 => ("CourtRelays$ChainSearch", "followers", "[I", true)
  | 9 => ("CourtRelays$ChainSearch", "alone", "[I", true)
  | _ => ("CourtRelays$ChainSearch", "shared", "[I", true)
def tyX1 : Nat → FieldType := fun k => match k with
  | 0 => .int
  | 1 => .int
  | 2 => .int
  | 3 => .int
  | 4 => .int
  | 5 => .int
  | 6 => .int
  | 7 => .int
  | 8 => .array .int
  | 9 => .array .int
  | _ => .array .int
abbrev wsX10 : List Cond := u_ws RX1 TX1 11
theorem nmX1 : ∀ a, a < 11 → ∀ b, b < 11 → a ≠ b → (TX1 a).2.1 ≠ (TX1 b).2.1 := by decide +kernel
theorem tyX1_ok : ∀ k, k < 11 → parseFieldDescriptor (TX1 k).2.2.1 = some (tyX1 k) := by decide +kernel
abbrev cX1_init : ByteArray := prog_3_method_1_code
def yX1_init : MethodName := ⟨RX1, "<init>", "()V"⟩
abbrev cX1_found : ByteArray := prog_3_method_2_code
def yX1_found : MethodName := ⟨RX1, "found", "(I)I"⟩
abbrev cX1_seek : ByteArray := prog_3_method_3_code
def yX1_seek : MethodName := ⟨RX1, "seek", "(LCourtRelays$Court;I)V"⟩
abbrev cX1_prepare : ByteArray := prog_3_method_4_code
def yX1_prepare : MethodName := ⟨RX1, "prepare", "(LCourtRelays$Court;I)V"⟩
abbrev cX1_trySeconds : ByteArray := prog_3_method_5_code
def yX1_trySeconds : MethodName := ⟨RX1, "trySeconds", "(II)V"⟩
abbrev cX1_tryThirds : ByteArray := prog_3_method_6_code
def yX1_tryThirds : MethodName := ⟨RX1, "tryThirds", "(II)V"⟩
abbrev cX1_offer : ByteArray := prog_3_method_7_code
def yX1_offer : MethodName := ⟨RX1, "offer", "(IIIII)V"⟩
abbrev cX1_keep : ByteArray := prog_3_method_8_code
def yX1_keep : MethodName := ⟨RX1, "keep", "(IIIII)V"⟩
def RX2 : String := "CourtRelays$Court"
def TX2 : u_T := fun k => match k with
  | 0 => ("CourtRelays$Court", "staff", "LCourtRelays$Staff;", true)
  | 1 => ("CourtRelays$Court", "docket", "LCourtRelays$Docket;", true)
  | 2 => ("CourtRelays$Court", "settings", "[I", true)
  | 3 => ("CourtRelays$Court", "minute", "I", false)
  | 4 => ("CourtRelays$Court", "paid", "I", false)
  | 5 => ("CourtRelays$Court", "paidForVacated", "I", false)
  | _ => ("CourtRelays$Court", "paidForAdjourned", "I", false)
def tyX2 : Nat → FieldType := fun k => match k with
  | 0 => .object "CourtRelays$Staff"
  | 1 => .object "CourtRelays$Docket"
  | 2 => .array .int
  | 3 => .int
  | 4 => .int
  | 5 => .int
  | _ => .int
abbrev wsX20 : List Cond := u_ws RX2 TX2 7
theorem nmX2 : ∀ a, a < 7 → ∀ b, b < 7 → a ≠ b → (TX2 a).2.1 ≠ (TX2 b).2.1 := by decide +kernel
theorem tyX2_ok : ∀ k, k < 7 → parseFieldDescriptor (TX2 k).2.2.1 = some (tyX2 k) := by decide +kernel
abbrev cX2_init : ByteArray := prog_4_method_1_code
def yX2_init : MethodName := ⟨RX2, "<init>", "()V"⟩
abbrev cX2_copyFrom : ByteArray := prog_4_method_2_code
def yX2_copyFrom : MethodName := ⟨RX2, "copyFrom", "(LCourtRelays$Court;)V"⟩
abbrev cX2_hasStarted : ByteArray := prog_4_method_3_code
def yX2_hasStarted : MethodName := ⟨RX2, "hasStarted", "(I)Z"⟩
abbrev cX2_isAhead : ByteArray := prog_4_method_4_code
def yX2_isAhead : MethodName := ⟨RX2, "isAhead", "(I)Z"⟩
abbrev cX2_isUnderWay : ByteArray := prog_4_method_5_code
def yX2_isUnderWay : MethodName := ⟨RX2, "isUnderWay", "(I)Z"⟩
abbrev cX2_reasonAgainst : ByteArray := prog_4_method_6_code
def yX2_reasonAgainst : MethodName := ⟨RX2, "reasonAgainst", "(IIII)I"⟩
abbrev cX2_earns : ByteArray := prog_4_method_7_code
def yX2_earns : MethodName := ⟨RX2, "earns", "(IIZ)I"⟩
abbrev cX2_payOf : ByteArray := prog_4_method_8_code
def yX2_payOf : MethodName := ⟨RX2, "payOf", "(III)I"⟩
abbrev cX2_chainPay : ByteArray := prog_4_method_9_code
def yX2_chainPay : MethodName := ⟨RX2, "chainPay", "(II)I"⟩
abbrev cX2_payByNotice : ByteArray := prog_4_method_10_code
def yX2_payByNotice : MethodName := ⟨RX2, "payByNotice", "(I)I"⟩
abbrev cX2_payIfVacated : ByteArray := prog_4_method_11_code
def yX2_payIfVacated : MethodName := ⟨RX2, "payIfVacated", "(II)I"⟩
abbrev cX2_close : ByteArray := prog_4_method_12_code
def yX2_close : MethodName := ⟨RX2, "close", "(III)I"⟩
abbrev cX2_passMinute : ByteArray := prog_4_method_13_code
def yX2_passMinute : MethodName := ⟨RX2, "passMinute", "()I"⟩
abbrev cX2_tireAndRest : ByteArray := prog_4_method_14_code
def yX2_tireAndRest : MethodName := ⟨RX2, "tireAndRest", "()V"⟩
abbrev cX2_adjournTired : ByteArray := prog_4_method_15_code
def yX2_adjournTired : MethodName := ⟨RX2, "adjournTired", "()V"⟩
abbrev cX2_working : ByteArray := prog_4_method_16_code
def yX2_working : MethodName := ⟨RX2, "working", "()I"⟩
abbrev cX2_workplaceOf : ByteArray := prog_4_method_17_code
def yX2_workplaceOf : MethodName := ⟨RX2, "workplaceOf", "(I)I"⟩
abbrev cX2_ofInterpreter : ByteArray := prog_4_method_18_code
def yX2_ofInterpreter : MethodName := ⟨RX2, "ofInterpreter", "(II)I"⟩
abbrev cX2_ofHearing : ByteArray := prog_4_method_19_code
def yX2_ofHearing : MethodName := ⟨RX2, "ofHearing", "(II)I"⟩
abbrev cX2_numberOf : ByteArray := prog_4_method_20_code
def yX2_numberOf : MethodName := ⟨RX2, "numberOf", "(I)I"⟩
def RX3 : String := "CourtRelays$Docket"
def TX3 : u_T := fun k => match k with
  | 0 => ("CourtRelays$Docket", "count", "I", false)
  | 1 => ("CourtRelays$Docket", "kind", "[I", true)
  | 2 => ("CourtRelays$Docket", "language", "[I", true)
  | 3 => ("CourtRelays$Docket", "start", "[I", true)
  | 4 => ("CourtRelays$Docket", "length", "[I", true)
  | 5 => ("CourtRelays$Docket", "stage", "[I", true)
  | 6 => ("CourtRelays$Docket", "size", "[I", true)
  | 7 => ("CourtRelays$Docket", "paid", "[I", true)
  | 8 => ("CourtRelays$Docket", "members", "[I", true)
  | _ => ("CourtRelays$Docket", "chain", "[I", true)
def tyX3 : Nat → FieldType := fun k => match k with
  | 0 => .int
  | 1 => .array .int
  | 2 => .array .int
  | 3 => .array .int
  | 4 => .array .int
  | 5 => .array .int
  | 6 => .array .int
  | 7 => .array .int
  | 8 => .array .int
  | _ => .array .int
abbrev wsX30 : List Cond := u_ws RX3 TX3 10
theorem nmX3 : ∀ a, a < 10 → ∀ b, b < 10 → a ≠ b → (TX3 a).2.1 ≠ (TX3 b).2.1 := by decide +kernel
theorem tyX3_ok : ∀ k, k < 10 → parseFieldDescriptor (TX3 k).2.2.1 = some (tyX3 k) := by decide +kernel
abbrev cX3_init : ByteArray := prog_5_method_1_code
def yX3_init : MethodName := ⟨RX3, "<init>", "()V"⟩
abbrev cX3_copyFrom : ByteArray := prog_5_method_2_code
def yX3_copyFrom : MethodName := ⟨RX3, "copyFrom", "(LCourtRelays$Docket;)V"⟩
abbrev cX3_has : ByteArray := prog_5_method_3_code
def yX3_has : MethodName := ⟨RX3, "has", "(I)Z"⟩
abbrev cX3_enter : ByteArray := prog_5_method_4_code
def yX3_enter : MethodName := ⟨RX3, "enter", "(IIII)I"⟩
abbrev cX3_isListed : ByteArray := prog_5_method_5_code
def yX3_isListed : MethodName := ⟨RX3, "isListed", "(I)Z"⟩
abbrev cX3_end : ByteArray := prog_5_method_6_code
def yX3_end : MethodName := ⟨RX3, "end", "(I)I"⟩
abbrev cX3_member : ByteArray := prog_5_method_7_code
def yX3_member : MethodName := ⟨RX3, "member", "(II)I"⟩
abbrev cX3_holds : ByteArray := prog_5_method_8_code
def yX3_holds : MethodName := ⟨RX3, "holds", "(II)Z"⟩
abbrev cX3_giveChain : ByteArray := prog_5_method_9_code
def yX3_giveChain : MethodName := ⟨RX3, "giveChain", "(IIII)V"⟩
abbrev cX3_listedAndClashing : ByteArray := prog_5_method_10_code
def yX3_listedAndClashing : MethodName := ⟨RX3, "listedAndClashing", "(II)Z"⟩
abbrev cX3_busyFor : ByteArray := prog_5_method_11_code
def yX3_busyFor : MethodName := ⟨RX3, "busyFor", "(I)I"⟩
abbrev cX3_clashesOf : ByteArray := prog_5_method_12_code
def yX3_clashesOf : MethodName := ⟨RX3, "clashesOf", "(I)I"⟩
abbrev cX3_listedWith : ByteArray := prog_5_method_13_code
def yX3_listedWith : MethodName := ⟨RX3, "listedWith", "(I)I"⟩
abbrev cX3_countStage : ByteArray := prog_5_method_14_code
def yX3_countStage : MethodName := ⟨RX3, "countStage", "(I)I"⟩
abbrev cX3_countListedManned : ByteArray := prog_5_method_15_code
def yX3_countListedManned : MethodName := ⟨RX3, "countListedManned", "()I"⟩
def RX4 : String := "CourtRelays$History"
def TX4 : u_T := fun k => match k with
  | 0 => ("CourtRelays$History", "count", "I", false)
  | 1 => ("CourtRelays$History", "oldest", "I", false)
  | _ => ("CourtRelays$History", "saved", "[LCourtRelays$Court;", true)
def tyX4 : Nat → FieldType := fun k => match k with
  | 0 => .int
  | 1 => .int
  | _ => .array (.object "CourtRelays$Court")
abbrev wsX40 : List Cond := u_ws RX4 TX4 3
theorem nmX4 : ∀ a, a < 3 → ∀ b, b < 3 → a ≠ b → (TX4 a).2.1 ≠ (TX4 b).2.1 := by decide +kernel
theorem tyX4_ok : ∀ k, k < 3 → parseFieldDescriptor (TX4 k).2.2.1 = some (tyX4 k) := by decide +kernel
abbrev cX4_init : ByteArray := prog_6_method_1_code
def yX4_init : MethodName := ⟨RX4, "<init>", "()V"⟩
abbrev cX4_save : ByteArray := prog_6_method_2_code
def yX4_save : MethodName := ⟨RX4, "save", "(LCourtRelays$Court;)V"⟩
abbrev cX4_restore : ByteArray := prog_6_method_3_code
def yX4_restore : MethodName := ⟨RX4, "restore", "(LCourtRelays$Court;)V"⟩
def RX5 : String := "CourtRelays$ListReader"
def TX5 : u_T := fun k => match k with
  | 0 => ("CourtRelays$ListReader", "hearings", "I", false)
  | 1 => ("CourtRelays$ListReader", "at", "I", false)
  | 2 => ("CourtRelays$ListReader", "kind", "I", false)
  | 3 => ("CourtRelays$ListReader", "language", "I", false)
  | 4 => ("CourtRelays$ListReader", "in", "I", false)
  | _ => ("CourtRelays$ListReader", "length", "I", false)
def tyX5 : Nat → FieldType := fun k => match k with
  | 0 => .int
  | 1 => .int
  | 2 => .int
  | 3 => .int
  | 4 => .int
  | _ => .int
abbrev wsX50 : List Cond := u_ws RX5 TX5 6
theorem nmX5 : ∀ a, a < 6 → ∀ b, b < 6 → a ≠ b → (TX5 a).2.1 ≠ (TX5 b).2.1 := by decide +kernel
theorem tyX5_ok : ∀ k, k < 6 → parseFieldDescriptor (TX5 k).2.2.1 = some (tyX5 k) := by decide +kernel
abbrev cX5_init : ByteArray := prog_7_method_1_code
def yX5_init : MethodName := ⟨RX5, "<init>", "()V"⟩
abbrev cX5_read : ByteArray := prog_7_method_2_code
def yX5_read : MethodName := ⟨RX5, "read", "(LCourtRelays$Buffer;)I"⟩
abbrev cX5_isComplete : ByteArray := prog_7_method_3_code
def yX5_isComplete : MethodName := ⟨RX5, "isComplete", "()Z"⟩
abbrev cX5_enterAll : ByteArray := prog_7_method_4_code
def yX5_enterAll : MethodName := ⟨RX5, "enterAll", "(LCourtRelays$Buffer;LCourtRelays$Court;)V"⟩
abbrev cX5_enterOne : ByteArray := prog_7_method_5_code
def yX5_enterOne : MethodName := ⟨RX5, "enterOne", "(LCourtRelays$Court;)V"⟩
abbrev cX5_begin : ByteArray := prog_7_method_6_code
def yX5_begin : MethodName := ⟨RX5, "begin", "()V"⟩
abbrev cX5_take : ByteArray := prog_7_method_7_code
def yX5_take : MethodName := ⟨RX5, "take", "(I)Z"⟩
abbrev cX5_takeKind : ByteArray := prog_7_method_8_code
def yX5_takeKind : MethodName := ⟨RX5, "takeKind", "(I)Z"⟩
abbrev cX5_takeLanguage : ByteArray := prog_7_method_9_code
def yX5_takeLanguage : MethodName := ⟨RX5, "takeLanguage", "(I)Z"⟩
abbrev cX5_takeSign : ByteArray := prog_7_method_10_code
def yX5_takeSign : MethodName := ⟨RX5, "takeSign", "(I)Z"⟩
abbrev cX5_takeIn : ByteArray := prog_7_method_11_code
def yX5_takeIn : MethodName := ⟨RX5, "takeIn", "(I)Z"⟩
abbrev cX5_takeLength : ByteArray := prog_7_method_12_code
def yX5_takeLength : MethodName := ⟨RX5, "takeLength", "(I)Z"⟩
abbrev cX5_longer : ByteArray := prog_7_method_13_code
def yX5_longer : MethodName := ⟨RX5, "longer", "(III)I"⟩
def RX6 : String := "CourtRelays$Staff"
def TX6 : u_T := fun k => match k with
  | 0 => ("CourtRelays$Staff", "count", "I", false)
  | 1 => ("CourtRelays$Staff", "languages", "[I", true)
  | 2 => ("CourtRelays$Staff", "certificates", "[I", true)
  | 3 => ("CourtRelays$Staff", "rate", "[I", true)
  | 4 => ("CourtRelays$Staff", "tiredness", "[I", true)
  | 5 => ("CourtRelays$Staff", "paid", "[I", true)
  | _ => ("CourtRelays$Staff", "worked", "[I", true)
def tyX6 : Nat → FieldType := fun k => match k with
  | 0 => .int
  | 1 => .array .int
  | 2 => .array .int
  | 3 => .array .int
  | 4 => .array .int
  | 5 => .array .int
  | _ => .array .int
abbrev wsX60 : List Cond := u_ws RX6 TX6 7
theorem nmX6 : ∀ a, a < 7 → ∀ b, b < 7 → a ≠ b → (TX6 a).2.1 ≠ (TX6 b).2.1 := by decide +kernel
theorem tyX6_ok : ∀ k, k < 7 → parseFieldDescriptor (TX6 k).2.2.1 = some (tyX6 k) := by decide +kernel
abbrev cX6_init : ByteArray := prog_8_method_1_code
def yX6_init : MethodName := ⟨RX6, "<init>", "()V"⟩
abbrev cX6_copyFrom : ByteArray := prog_8_method_2_code
def yX6_copyFrom : MethodName := ⟨RX6, "copyFrom", "(LCourtRelays$Staff;)V"⟩
abbrev cX6_has : ByteArray := prog_8_method_3_code
def yX6_has : MethodName := ⟨RX6, "has", "(I)Z"⟩
abbrev cX6_hire : ByteArray := prog_8_method_4_code
def yX6_hire : MethodName := ⟨RX6, "hire", "(III)I"⟩
abbrev cX6_speaks : ByteArray := prog_8_method_5_code
def yX6_speaks : MethodName := ⟨RX6, "speaks", "(II)Z"⟩
abbrev cX6_shareLanguage : ByteArray := prog_8_method_6_code
def yX6_shareLanguage : MethodName := ⟨RX6, "shareLanguage", "(II)Z"⟩
abbrev cX6_leadToCourt : ByteArray := prog_8_method_7_code
def yX6_leadToCourt : MethodName := ⟨RX6, "leadToCourt", "(IIII)Z"⟩
abbrev cX6_speakersOf : ByteArray := prog_8_method_8_code
def yX6_speakersOf : MethodName := ⟨RX6, "speakersOf", "(I)I"⟩
abbrev cX6_certifiedFor : ByteArray := prog_8_method_9_code
def yX6_certifiedFor : MethodName := ⟨RX6, "certifiedFor", "(I)I"⟩
abbrev cX6_tiredAbove : ByteArray := prog_8_method_10_code
def yX6_tiredAbove : MethodName := ⟨RX6, "tiredAbove", "(I)I"⟩
abbrev cX6_work : ByteArray := prog_8_method_11_code
def yX6_work : MethodName := ⟨RX6, "work", "(II)V"⟩
abbrev cX6_rest : ByteArray := prog_8_method_12_code
def yX6_rest : MethodName := ⟨RX6, "rest", "(II)V"⟩
abbrev cX6_pay : ByteArray := prog_8_method_13_code
def yX6_pay : MethodName := ⟨RX6, "pay", "(II)V"⟩
abbrev cX6_languagesWithoutChain : ByteArray := prog_8_method_14_code
def yX6_languagesWithoutChain : MethodName := ⟨RX6, "languagesWithoutChain", "(I)I"⟩
abbrev cX6_widened : ByteArray := prog_8_method_15_code
def yX6_widened : MethodName := ⟨RX6, "widened", "(II)I"⟩
def RX7 : String := "CourtRelays"
def TX7 : u_T := fun k => match k with
  | 0 => ("CourtRelays", "now", "LCourtRelays$Court;", true)
  | 1 => ("CourtRelays", "would", "LCourtRelays$Court;", true)
  | 2 => ("CourtRelays", "history", "LCourtRelays$History;", true)
  | 3 => ("CourtRelays", "buffer", "LCourtRelays$Buffer;", true)
  | 4 => ("CourtRelays", "reader", "LCourtRelays$ListReader;", true)
  | _ => ("CourtRelays", "search", "LCourtRelays$ChainSearch;", true)
def tyX7 : Nat → FieldType := fun k => match k with
  | 0 => .object "CourtRelays$Court"
  | 1 => .object "CourtRelays$Court"
  | 2 => .object "CourtRelays$History"
  | 3 => .object "CourtRelays$Buffer"
  | 4 => .object "CourtRelays$ListReader"
  | _ => .object "CourtRelays$ChainSearch"
abbrev wsX70 : List Cond := u_ws RX7 TX7 6
theorem nmX7 : ∀ a, a < 6 → ∀ b, b < 6 → a ≠ b → (TX7 a).2.1 ≠ (TX7 b).2.1 := by decide +kernel
theorem tyX7_ok : ∀ k, k < 6 → parseFieldDescriptor (TX7 k).2.2.1 = some (tyX7 k) := by decide +kernel
abbrev cX7_init : ByteArray := prog_1_method_1_code
def yX7_init : MethodName := ⟨RX7, "<init>", "()V"⟩
abbrev cX7_addInterpreter : ByteArray := prog_1_method_2_code
def yX7_addInterpreter : MethodName := ⟨RX7, "addInterpreter", "(III)I"⟩
abbrev cX7_addHearing : ByteArray := prog_1_method_3_code
def yX7_addHearing : MethodName := ⟨RX7, "addHearing", "(IIII)I"⟩
abbrev cX7_certify : ByteArray := prog_1_method_4_code
def yX7_certify : MethodName := ⟨RX7, "certify", "(II)I"⟩
abbrev cX7_set : ByteArray := prog_1_method_5_code
def yX7_set : MethodName := ⟨RX7, "set", "(II)I"⟩
abbrev cX7_assign : ByteArray := prog_1_method_6_code
def yX7_assign : MethodName := ⟨RX7, "assign", "(IIII)I"⟩
abbrev cX7_release : ByteArray := prog_1_method_7_code
def yX7_release : MethodName := ⟨RX7, "release", "(I)I"⟩
abbrev cX7_swap : ByteArray := prog_1_method_8_code
def yX7_swap : MethodName := ⟨RX7, "swap", "(III)I"⟩
abbrev cX7_vacate : ByteArray := prog_1_method_9_code
def yX7_vacate : MethodName := ⟨RX7, "vacate", "(I)I"⟩
abbrev cX7_pass : ByteArray := prog_1_method_10_code
def yX7_pass : MethodName := ⟨RX7, "pass", "(I)I"⟩
abbrev cX7_append : ByteArray := prog_1_method_11_code
def yX7_append : MethodName := ⟨RX7, "append", "(I)I"⟩
abbrev cX7_clearBuffer : ByteArray := prog_1_method_12_code
def yX7_clearBuffer : MethodName := ⟨RX7, "clearBuffer", "()I"⟩
abbrev cX7_firstError : ByteArray := prog_1_method_13_code
def yX7_firstError : MethodName := ⟨RX7, "firstError", "()I"⟩
abbrev cX7_addList : ByteArray := prog_1_method_14_code
def yX7_addList : MethodName := ⟨RX7, "addList", "()I"⟩
abbrev cX7_undo : ByteArray := prog_1_method_15_code
def yX7_undo : MethodName := ⟨RX7, "undo", "()I"⟩
abbrev cX7_interpreter : ByteArray := prog_1_method_16_code
def yX7_interpreter : MethodName := ⟨RX7, "interpreter", "(II)I"⟩
abbrev cX7_hearing : ByteArray := prog_1_method_17_code
def yX7_hearing : MethodName := ⟨RX7, "hearing", "(II)I"⟩
abbrev cX7_count : ByteArray := prog_1_method_18_code
def yX7_count : MethodName := ⟨RX7, "count", "(I)I"⟩
abbrev cX7_setting : ByteArray := prog_1_method_19_code
def yX7_setting : MethodName := ⟨RX7, "setting", "(I)I"⟩
abbrev cX7_whyNot : ByteArray := prog_1_method_20_code
def yX7_whyNot : MethodName := ⟨RX7, "whyNot", "(IIII)I"⟩
abbrev cX7_cheapest : ByteArray := prog_1_method_21_code
def yX7_cheapest : MethodName := ⟨RX7, "cheapest", "(II)I"⟩
abbrev cX7_tiredIn : ByteArray := prog_1_method_22_code
def yX7_tiredIn : MethodName := ⟨RX7, "tiredIn", "(II)I"⟩
abbrev cX7_ifVacated : ByteArray := prog_1_method_23_code
def yX7_ifVacated : MethodName := ⟨RX7, "ifVacated", "(II)I"⟩
abbrev cX7_mannable : ByteArray := prog_1_method_24_code
def yX7_mannable : MethodName := ⟨RX7, "mannable", "()I"⟩
abbrev cX7_missing : ByteArray := prog_1_method_25_code
def yX7_missing : MethodName := ⟨RX7, "missing", "(I)I"⟩
abbrev cX7_doneShare : ByteArray := prog_1_method_26_code
def yX7_doneShare : MethodName := ⟨RX7, "doneShare", "()D"⟩
abbrev cX7_digest : ByteArray := prog_1_method_27_code
def yX7_digest : MethodName := ⟨RX7, "digest", "()J"⟩
abbrev cX7_within : ByteArray := prog_1_method_28_code
def yX7_within : MethodName := ⟨RX7, "within", "(III)Z"⟩
abbrev cX7_isSetting : ByteArray := prog_1_method_29_code
def yX7_isSetting : MethodName := ⟨RX7, "isSetting", "(I)Z"⟩
abbrev cX7_nameInterpreters : ByteArray := prog_1_method_30_code
def yX7_nameInterpreters : MethodName := ⟨RX7, "nameInterpreters", "(III)Z"⟩
abbrev cX7_areRowOfDifferent : ByteArray := prog_1_method_31_code
def yX7_areRowOfDifferent : MethodName := ⟨RX7, "areRowOfDifferent", "(III)Z"⟩
abbrev cX7_imagineLater : ByteArray := prog_1_method_32_code
def yX7_imagineLater : MethodName := ⟨RX7, "imagineLater", "(I)V"⟩
abbrev cX7_bitOf : ByteArray := prog_1_method_33_code
def yX7_bitOf : MethodName := ⟨RX7, "bitOf", "(I)I"⟩
abbrev cX7_maskOf : ByteArray := prog_1_method_34_code
def yX7_maskOf : MethodName := ⟨RX7, "maskOf", "(III)I"⟩
abbrev cX7_mix : ByteArray := prog_1_method_35_code
def yX7_mix : MethodName := ⟨RX7, "mix", "(JJ)J"⟩
abbrev cX7_mixInterpreters : ByteArray := prog_1_method_36_code
def yX7_mixInterpreters : MethodName := ⟨RX7, "mixInterpreters", "(J)J"⟩
abbrev cX7_mixHearings : ByteArray := prog_1_method_37_code
def yX7_mixHearings : MethodName := ⟨RX7, "mixHearings", "(J)J"⟩
abbrev cX7_bitsOfShare : ByteArray := prog_1_method_38_code
def yX7_bitsOfShare : MethodName := ⟨RX7, "bitsOfShare", "(D)J"⟩
def RX8 : String := "CourtRelaysModel"
def TX8 : u_T := fun k => match k with
  | 0 => ("CourtRelaysModel", "z", "[I", true)
  | 1 => ("CourtRelaysModel", "states", "I", false)
  | 2 => ("CourtRelaysModel", "history", "[I", true)
  | 3 => ("CourtRelaysModel", "length", "I", false)
  | 4 => ("CourtRelaysModel", "text", "[I", true)
  | 5 => ("CourtRelaysModel", "thrown", "I", false)
  | 6 => ("CourtRelaysModel", "tried", "[I", true)
  | 7 => ("CourtRelaysModel", "many", "I", false)
  | 8 => ("CourtRelaysModel", "parts", "[I", true)
  | 9 => ("CourtRelaysModel", "read", "I", false)
  | 10 => ("CourtRelaysModel", "number", "I", false)
  | 11 => ("CourtRelaysModel", "due", "I", false)
  | 12 => ("CourtRelaysModel", "least", "I", false)
  | 13 => ("CourtRelaysModel", "bestMany", "I", false)
  | 14 => ("CourtRelaysModel", "best", "[I", true)
  | 15 => ("CourtRelaysModel", "kept", "[I", true)
  | _ => ("CourtRelaysModel", "hash", "J", false)
def tyX8 : Nat → FieldType := fun k => match k with
  | 0 => .array .int
  | 1 => .int
  | 2 => .array .int
  | 3 => .int
  | 4 => .array .int
  | 5 => .int
  | 6 => .array .int
  | 7 => .int
  | 8 => .array .int
  | 9 => .int
  | 10 => .int
  | 11 => .int
  | 12 => .int
  | 13 => .int
  | 14 => .array .int
  | 15 => .array .int
  | _ => .long
abbrev wsX80 : List Cond := u_ws RX8 TX8 17
theorem nmX8 : ∀ a, a < 17 → ∀ b, b < 17 → a ≠ b → (TX8 a).2.1 ≠ (TX8 b).2.1 := by decide +kernel
theorem tyX8_ok : ∀ k, k < 17 → parseFieldDescriptor (TX8 k).2.2.1 = some (tyX8 k) := by decide +kernel
abbrev cX8_init : ByteArray := prog_10_method_1_code
def yX8_init : MethodName := ⟨RX8, "<init>", "()V"⟩
abbrev cX8_thrown : ByteArray := prog_10_method_2_code
def yX8_thrown : MethodName := ⟨RX8, "thrown", "()I"⟩
abbrev cX8_within : ByteArray := prog_10_method_3_code
def yX8_within : MethodName := ⟨RX8, "within", "(III)Z"⟩
abbrev cX8_save : ByteArray := prog_10_method_4_code
def yX8_save : MethodName := ⟨RX8, "save", "()V"⟩
abbrev cX8_isPerson : ByteArray := prog_10_method_5_code
def yX8_isPerson : MethodName := ⟨RX8, "isPerson", "(I)Z"⟩
abbrev cX8_isHearing : ByteArray := prog_10_method_6_code
def yX8_isHearing : MethodName := ⟨RX8, "isHearing", "(I)Z"⟩
abbrev cX8_of : ByteArray := prog_10_method_7_code
def yX8_of : MethodName := ⟨RX8, "of", "(II)I"⟩
abbrev cX8_put : ByteArray := prog_10_method_8_code
def yX8_put : MethodName := ⟨RX8, "put", "(III)V"⟩
abbrev cX8_isListed : ByteArray := prog_10_method_9_code
def yX8_isListed : MethodName := ⟨RX8, "isListed", "(I)Z"⟩
abbrev cX8_hasStarted : ByteArray := prog_10_method_10_code
def yX8_hasStarted : MethodName := ⟨RX8, "hasStarted", "(I)Z"⟩
abbrev cX8_endOf : ByteArray := prog_10_method_11_code
def yX8_endOf : MethodName := ⟨RX8, "endOf", "(I)I"⟩
abbrev cX8_isIn : ByteArray := prog_10_method_12_code
def yX8_isIn : MethodName := ⟨RX8, "isIn", "(II)Z"⟩
abbrev cX8_clash : ByteArray := prog_10_method_13_code
def yX8_clash : MethodName := ⟨RX8, "clash", "(II)Z"⟩
abbrev cX8_isBusy : ByteArray := prog_10_method_14_code
def yX8_isBusy : MethodName := ⟨RX8, "isBusy", "(II)Z"⟩
abbrev cX8_earns : ByteArray := prog_10_method_15_code
def yX8_earns : MethodName := ⟨RX8, "earns", "(III)I"⟩
abbrev cX8_payFor : ByteArray := prog_10_method_16_code
def yX8_payFor : MethodName := ⟨RX8, "payFor", "(II)I"⟩
abbrev cX8_pay : ByteArray := prog_10_method_17_code
def yX8_pay : MethodName := ⟨RX8, "pay", "(II)I"⟩
abbrev cX8_halvesBy : ByteArray := prog_10_method_18_code
def yX8_halvesBy : MethodName := ⟨RX8, "halvesBy", "(I)I"⟩
abbrev cX8_ones : ByteArray := prog_10_method_19_code
def yX8_ones : MethodName := ⟨RX8, "ones", "(I)I"⟩
abbrev cX8_addInterpreter : ByteArray := prog_10_method_20_code
def yX8_addInterpreter : MethodName := ⟨RX8, "addInterpreter", "(III)I"⟩
abbrev cX8_putHearing : ByteArray := prog_10_method_21_code
def yX8_putHearing : MethodName := ⟨RX8, "putHearing", "(IIII)I"⟩
abbrev cX8_addHearing : ByteArray := prog_10_method_22_code
def yX8_addHearing : MethodName := ⟨RX8, "addHearing", "(IIII)I"⟩
abbrev cX8_certify : ByteArray := prog_10_method_23_code
def yX8_certify : MethodName := ⟨RX8, "certify", "(II)I"⟩
abbrev cX8_isSetting : ByteArray := prog_10_method_24_code
def yX8_isSetting : MethodName := ⟨RX8, "isSetting", "(I)Z"⟩
abbrev cX8_isValue : ByteArray := prog_10_method_25_code
def yX8_isValue : MethodName := ⟨RX8, "isValue", "(II)Z"⟩
abbrev cX8_set : ByteArray := prog_10_method_26_code
def yX8_set : MethodName := ⟨RX8, "set", "(II)I"⟩
abbrev cX8_lay : ByteArray := prog_10_method_27_code
def yX8_lay : MethodName := ⟨RX8, "lay", "(III)V"⟩
abbrev cX8_isChain : ByteArray := prog_10_method_28_code
def yX8_isChain : MethodName := ⟨RX8, "isChain", "(I)Z"⟩
abbrev cX8_areCertified : ByteArray := prog_10_method_29_code
def yX8_areCertified : MethodName := ⟨RX8, "areCertified", "(I)Z"⟩
abbrev cX8_areBusy : ByteArray := prog_10_method_30_code
def yX8_areBusy : MethodName := ⟨RX8, "areBusy", "(I)Z"⟩
abbrev cX8_reason : ByteArray := prog_10_method_31_code
def yX8_reason : MethodName := ⟨RX8, "reason", "(I)I"⟩
abbrev cX8_refusedChain : ByteArray := prog_10_method_32_code
def yX8_refusedChain : MethodName := ⟨RX8, "refusedChain", "(IIII)I"⟩
abbrev cX8_assignTried : ByteArray := prog_10_method_33_code
def yX8_assignTried : MethodName := ⟨RX8, "assignTried", "(I)V"⟩
abbrev cX8_assign : ByteArray := prog_10_method_34_code
def yX8_assign : MethodName := ⟨RX8, "assign", "(IIII)I"⟩
abbrev cX8_isOpen : ByteArray := prog_10_method_35_code
def yX8_isOpen : MethodName := ⟨RX8, "isOpen", "(I)Z"⟩
abbrev cX8_release : ByteArray := prog_10_method_36_code
def yX8_release : MethodName := ⟨RX8, "release", "(I)I"⟩
abbrev cX8_swap : ByteArray := prog_10_method_37_code
def yX8_swap : MethodName := ⟨RX8, "swap", "(III)I"⟩
abbrev cX8_vacate : ByteArray := prog_10_method_38_code
def yX8_vacate : MethodName := ⟨RX8, "vacate", "(I)I"⟩
abbrev cX8_worksIn : ByteArray := prog_10_method_39_code
def yX8_worksIn : MethodName := ⟨RX8, "worksIn", "(I)I"⟩
abbrev cX8_tireAll : ByteArray := prog_10_method_40_code
def yX8_tireAll : MethodName := ⟨RX8, "tireAll", "()V"⟩
abbrev cX8_isTooTired : ByteArray := prog_10_method_41_code
def yX8_isTooTired : MethodName := ⟨RX8, "isTooTired", "(I)Z"⟩
abbrev cX8_adjourn : ByteArray := prog_10_method_42_code
def yX8_adjourn : MethodName := ⟨RX8, "adjourn", "(I)V"⟩
abbrev cX8_minute : ByteArray := prog_10_method_43_code
def yX8_minute : MethodName := ⟨RX8, "minute", "()I"⟩
abbrev cX8_go : ByteArray := prog_10_method_44_code
def yX8_go : MethodName := ⟨RX8, "go", "(I)I"⟩
abbrev cX8_pass : ByteArray := prog_10_method_45_code
def yX8_pass : MethodName := ⟨RX8, "pass", "(I)I"⟩
abbrev cX8_append : ByteArray := prog_10_method_46_code
def yX8_append : MethodName := ⟨RX8, "append", "(I)I"⟩
abbrev cX8_clearBuffer : ByteArray := prog_10_method_47_code
def yX8_clearBuffer : MethodName := ⟨RX8, "clearBuffer", "()I"⟩
abbrev cX8_takesDigit : ByteArray := prog_10_method_48_code
def yX8_takesDigit : MethodName := ⟨RX8, "takesDigit", "(I)Z"⟩
abbrev cX8_takesKind : ByteArray := prog_10_method_49_code
def yX8_takesKind : MethodName := ⟨RX8, "takesKind", "(I)Z"⟩
abbrev cX8_takes : ByteArray := prog_10_method_50_code
def yX8_takes : MethodName := ⟨RX8, "takes", "(I)Z"⟩
abbrev cX8_endHearing : ByteArray := prog_10_method_51_code
def yX8_endHearing : MethodName := ⟨RX8, "endHearing", "()V"⟩
abbrev cX8_rightUpTo : ByteArray := prog_10_method_52_code
def yX8_rightUpTo : MethodName := ⟨RX8, "rightUpTo", "()I"⟩
abbrev cX8_firstError : ByteArray := prog_10_method_53_code
def yX8_firstError : MethodName := ⟨RX8, "firstError", "()I"⟩
abbrev cX8_addList : ByteArray := prog_10_method_54_code
def yX8_addList : MethodName := ⟨RX8, "addList", "()I"⟩
abbrev cX8_undo : ByteArray := prog_10_method_55_code
def yX8_undo : MethodName := ⟨RX8, "undo", "()I"⟩
abbrev cX8_listedWith : ByteArray := prog_10_method_56_code
def yX8_listedWith : MethodName := ⟨RX8, "listedWith", "(I)I"⟩
abbrev cX8_personNow : ByteArray := prog_10_method_57_code
def yX8_personNow : MethodName := ⟨RX8, "personNow", "(II)I"⟩
abbrev cX8_interpreter : ByteArray := prog_10_method_58_code
def yX8_interpreter : MethodName := ⟨RX8, "interpreter", "(II)I"⟩
abbrev cX8_clashes : ByteArray := prog_10_method_59_code
def yX8_clashes : MethodName := ⟨RX8, "clashes", "(I)I"⟩
abbrev cX8_hearingNow : ByteArray := prog_10_method_60_code
def yX8_hearingNow : MethodName := ⟨RX8, "hearingNow", "(II)I"⟩
abbrev cX8_hearing : ByteArray := prog_10_method_61_code
def yX8_hearing : MethodName := ⟨RX8, "hearing", "(II)I"⟩
abbrev cX8_hearingsIn : ByteArray := prog_10_method_62_code
def yX8_hearingsIn : MethodName := ⟨RX8, "hearingsIn", "(IZ)I"⟩
abbrev cX8_working : ByteArray := prog_10_method_63_code
def yX8_working : MethodName := ⟨RX8, "working", "()I"⟩
abbrev cX8_counted : ByteArray := prog_10_method_64_code
def yX8_counted : MethodName := ⟨RX8, "counted", "(I)I"⟩
abbrev cX8_count : ByteArray := prog_10_method_65_code
def yX8_count : MethodName := ⟨RX8, "count", "(I)I"⟩
abbrev cX8_setting : ByteArray := prog_10_method_66_code
def yX8_setting : MethodName := ⟨RX8, "setting", "(I)I"⟩
abbrev cX8_whyNot : ByteArray := prog_10_method_67_code
def yX8_whyNot : MethodName := ⟨RX8, "whyNot", "(IIII)I"⟩
abbrev cX8_tryChain : ByteArray := prog_10_method_68_code
def yX8_tryChain : MethodName := ⟨RX8, "tryChain", "(I)V"⟩
abbrev cX8_layCheapest : ByteArray := prog_10_method_69_code
def yX8_layCheapest : MethodName := ⟨RX8, "layCheapest", "(I)Z"⟩
abbrev cX8_cheapestNow : ByteArray := prog_10_method_70_code
def yX8_cheapestNow : MethodName := ⟨RX8, "cheapestNow", "(II)I"⟩
abbrev cX8_cheapest : ByteArray := prog_10_method_71_code
def yX8_cheapest : MethodName := ⟨RX8, "cheapest", "(II)I"⟩
abbrev cX8_keep : ByteArray := prog_10_method_72_code
def yX8_keep : MethodName := ⟨RX8, "keep", "()V"⟩
abbrev cX8_layBack : ByteArray := prog_10_method_73_code
def yX8_layBack : MethodName := ⟨RX8, "layBack", "()V"⟩
abbrev cX8_tiredThen : ByteArray := prog_10_method_74_code
def yX8_tiredThen : MethodName := ⟨RX8, "tiredThen", "(II)I"⟩
abbrev cX8_tiredIn : ByteArray := prog_10_method_75_code
def yX8_tiredIn : MethodName := ⟨RX8, "tiredIn", "(II)I"⟩
abbrev cX8_vacatedThen : ByteArray := prog_10_method_76_code
def yX8_vacatedThen : MethodName := ⟨RX8, "vacatedThen", "(II)I"⟩
abbrev cX8_ifVacated : ByteArray := prog_10_method_77_code
def yX8_ifVacated : MethodName := ⟨RX8, "ifVacated", "(II)I"⟩
abbrev cX8_mannableNow : ByteArray := prog_10_method_78_code
def yX8_mannableNow : MethodName := ⟨RX8, "mannableNow", "()I"⟩
abbrev cX8_mannable : ByteArray := prog_10_method_79_code
def yX8_mannable : MethodName := ⟨RX8, "mannable", "()I"⟩
abbrev cX8_missingNow : ByteArray := prog_10_method_80_code
def yX8_missingNow : MethodName := ⟨RX8, "missingNow", "(I)I"⟩
abbrev cX8_missing : ByteArray := prog_10_method_81_code
def yX8_missing : MethodName := ⟨RX8, "missing", "(I)I"⟩
abbrev cX8_share : ByteArray := prog_10_method_82_code
def yX8_share : MethodName := ⟨RX8, "share", "()D"⟩
abbrev cX8_doneShare : ByteArray := prog_10_method_83_code
def yX8_doneShare : MethodName := ⟨RX8, "doneShare", "()D"⟩
abbrev cX8_mix : ByteArray := prog_10_method_84_code
def yX8_mix : MethodName := ⟨RX8, "mix", "(J)V"⟩
abbrev cX8_mixHearing : ByteArray := prog_10_method_85_code
def yX8_mixHearing : MethodName := ⟨RX8, "mixHearing", "(I)V"⟩
abbrev cX8_digest : ByteArray := prog_10_method_86_code
def yX8_digest : MethodName := ⟨RX8, "digest", "()J"⟩
def RJx8e188 : String := "java/lang/Cloneable"
def TJx8e188 : u_T := fun k => match k with
  | _ => ("", "", "", false)
def tyJx8e188 : Nat → FieldType := fun k => match k with
  | _ => .int
def RJxe99ae : String := "java/lang/Double"
def TJxe99ae : u_T := fun k => match k with
  | _ => ("", "", "", false)
def tyJxe99ae : Nat → FieldType := fun k => match k with
  | _ => .int
abbrev cJxe99ae_isNaN_b9ae7 : ByteArray := prog_12_method_6_code
def yJxe99ae_isNaN_b9ae7 : MethodName := ⟨RJxe99ae, "isNaN", "(D)Z"⟩
abbrev cJxe99ae_doubleToLongBits_ccdee : ByteArray := prog_12_method_23_code
def yJxe99ae_doubleToLongBits_ccdee : MethodName := ⟨RJxe99ae, "doubleToLongBits", "(D)J"⟩
def RJ6 : String := "java/lang/Integer"
def TJ6 : u_T := fun k => match k with
  | _ => ("", "", "", false)
def tyJ6 : Nat → FieldType := fun k => match k with
  | _ => .int
abbrev cJ6_bitCount_0f7a4 : ByteArray := prog_17_method_49_code
def yJ6_bitCount_0f7a4 : MethodName := ⟨RJ6, "bitCount", "(I)I"⟩
def RJ9 : String := "java/lang/Math"
def TJ9 : u_T := fun k => match k with
  | _ => ("", "", "", false)
def tyJ9 : Nat → FieldType := fun k => match k with
  | _ => .int
abbrev cJ9_max_7cf53 : ByteArray := prog_18_method_65_code
def yJ9_max_7cf53 : MethodName := ⟨RJ9, "max", "(II)I"⟩
abbrev cJ9_min_7cf53 : ByteArray := prog_18_method_69_code
def yJ9_min_7cf53 : MethodName := ⟨RJ9, "min", "(II)I"⟩
def RJ0 : String := "java/lang/String"
def TJ0 : u_T := fun k => match k with
  | _ => ("", "", "", false)
def tyJ0 : Nat → FieldType := fun k => match k with
  | _ => .int
def RJ10 : String := "java/lang/System"
def TJ10 : u_T := fun k => match k with
  | _ => ("", "", "", false)
def tyJ10 : Nat → FieldType := fun k => match k with
  | _ => .int
def RL : String := "CourtRelaysLaw"
abbrev cL_addInterpreter : ByteArray := method_3_code
def yL_addInterpreter : MethodName := ⟨RL, "addInterpreter", "(LCourtRelays;III[J)I"⟩
abbrev cL_addHearing : ByteArray := method_4_code
def yL_addHearing : MethodName := ⟨RL, "addHearing", "(LCourtRelays;IIII[J)I"⟩
abbrev cL_certify : ByteArray := method_5_code
def yL_certify : MethodName := ⟨RL, "certify", "(LCourtRelays;II[J)I"⟩
abbrev cL_set : ByteArray := method_6_code
def yL_set : MethodName := ⟨RL, "set", "(LCourtRelays;II[J)I"⟩
abbrev cL_assign : ByteArray := method_7_code
def yL_assign : MethodName := ⟨RL, "assign", "(LCourtRelays;IIII[J)I"⟩
abbrev cL_release : ByteArray := method_8_code
def yL_release : MethodName := ⟨RL, "release", "(LCourtRelays;I[J)I"⟩
abbrev cL_swap : ByteArray := method_9_code
def yL_swap : MethodName := ⟨RL, "swap", "(LCourtRelays;III[J)I"⟩
abbrev cL_vacate : ByteArray := method_10_code
def yL_vacate : MethodName := ⟨RL, "vacate", "(LCourtRelays;I[J)I"⟩
abbrev cL_pass : ByteArray := method_11_code
def yL_pass : MethodName := ⟨RL, "pass", "(LCourtRelays;I[J)I"⟩
abbrev cL_append : ByteArray := method_12_code
def yL_append : MethodName := ⟨RL, "append", "(LCourtRelays;I[J)I"⟩
abbrev cL_addList : ByteArray := method_13_code
def yL_addList : MethodName := ⟨RL, "addList", "(LCourtRelays;[J)I"⟩
abbrev cL_undo : ByteArray := method_14_code
def yL_undo : MethodName := ⟨RL, "undo", "(LCourtRelays;[J)I"⟩
abbrev cL_interpreter : ByteArray := method_15_code
def yL_interpreter : MethodName := ⟨RL, "interpreter", "(LCourtRelays;II[J)I"⟩
abbrev cL_hearing : ByteArray := method_16_code
def yL_hearing : MethodName := ⟨RL, "hearing", "(LCourtRelays;II[J)I"⟩
abbrev cL_count : ByteArray := method_17_code
def yL_count : MethodName := ⟨RL, "count", "(LCourtRelays;I[J)I"⟩
abbrev cL_setting : ByteArray := method_18_code
def yL_setting : MethodName := ⟨RL, "setting", "(LCourtRelays;I[J)I"⟩
abbrev cL_whyNot : ByteArray := method_19_code
def yL_whyNot : MethodName := ⟨RL, "whyNot", "(LCourtRelays;IIII[J)I"⟩
abbrev cL_cheapest : ByteArray := method_20_code
def yL_cheapest : MethodName := ⟨RL, "cheapest", "(LCourtRelays;II[J)I"⟩
abbrev cL_tiredIn : ByteArray := method_21_code
def yL_tiredIn : MethodName := ⟨RL, "tiredIn", "(LCourtRelays;II[J)I"⟩
abbrev cL_ifVacated : ByteArray := method_22_code
def yL_ifVacated : MethodName := ⟨RL, "ifVacated", "(LCourtRelays;II[J)I"⟩
abbrev cL_missing : ByteArray := method_23_code
def yL_missing : MethodName := ⟨RL, "missing", "(LCourtRelays;I[J)I"⟩
abbrev cL_law : ByteArray := code
def yL_law : MethodName := ⟨RL, "law", "([I)Z"⟩
abbrev vwCl : List vw_C := [(RX0, TX0, 2), (RX1, TX1, 11), (RX2, TX2, 7), (RX3, TX3, 10), (RX4, TX4, 3), (RX5, TX5, 6), (RX6, TX6, 7), (RX7, TX7, 6), (RX8, TX8, 17)]
end
section
theorem dX0_init_0 : decode cX0_init 0 = .ok (.aload_n 0, 1) := by decide +kernel
theorem dX0_init_1 : decode cX0_init 1 = .ok (.invokespecial 3, 3) := by decide +kernel
theorem dX0_init_4 : decode cX0_init 4 = .ok (.aload_n 0, 1) := by decide +kernel
theorem dX0_init_5 : decode cX0_init 5 = .ok (.bipush 60, 2) := by decide +kernel
theorem dX0_init_7 : decode cX0_init 7 = .ok (.newarray .int, 2) := by decide +kernel
theorem dX0_init_9 : decode cX0_init 9 = .ok (.putfield 9, 3) := by decide +kernel
theorem dX0_init_12 : decode cX0_init 12 = .ok (.return_, 1) := by decide +kernel
theorem dX0_put_0 : decode cX0_put 0 = .ok (.aload_n 0, 1) := by decide +kernel
theorem dX0_put_1 : decode cX0_put 1 = .ok (.getfield 15, 3) := by decide +kernel
theorem dX0_put_4 : decode cX0_put 4 = .ok (.bipush 60, 2) := by decide +kernel
theorem dX0_put_6 : decode cX0_put 6 = .ok (.if_icmp .ge 23, 3) := by decide +kernel
theorem dX0_put_9 : decode cX0_put 9 = .ok (.aload_n 0, 1) := by decide +kernel
theorem dX0_put_10 : decode cX0_put 10 = .ok (.getfield 9, 3) := by decide +kernel
theorem dX0_put_13 : decode cX0_put 13 = .ok (.aload_n 0, 1) := by decide +kernel
theorem dX0_put_14 : decode cX0_put 14 = .ok (.getfield 15, 3) := by decide +kernel
theorem dX0_put_17 : decode cX0_put 17 = .ok (.iload_n 1, 1) := by decide +kernel
theorem dX0_put_18 : decode cX0_put 18 = .ok (.iastore, 1) := by decide +kernel
theorem dX0_put_19 : decode cX0_put 19 = .ok (.aload_n 0, 1) := by decide +kernel
theorem dX0_put_20 : decode cX0_put 20 = .ok (.dup, 1) := by decide +kernel
theorem dX0_put_21 : decode cX0_put 21 = .ok (.getfield 15, 3) := by decide +kernel
theorem dX0_put_24 : decode cX0_put 24 = .ok (.iconst 1, 1) := by decide +kernel
theorem dX0_put_25 : decode cX0_put 25 = .ok (.iadd, 1) := by decide +kernel
theorem dX0_put_26 : decode cX0_put 26 = .ok (.putfield 15, 3) := by decide +kernel
theorem dX0_put_29 : decode cX0_put 29 = .ok (.return_, 1) := by decide +kernel
theorem dX0_codeAt_0 : decode cX0_codeAt 0 = .ok (.iload_n 1, 1) := by decide +kernel
theorem dX0_codeAt_1 : decode cX0_codeAt 1 = .ok (.ifCond .lt 18, 3) := by decide +kernel
theorem dX0_codeAt_4 : decode cX0_codeAt 4 = .ok (.iload_n 1, 1) := by decide +kernel
theorem dX0_codeAt_5 : decode cX0_codeAt 5 = .ok (.bipush 60, 2) := by decide +kernel
theorem dX0_codeAt_7 : decode cX0_codeAt 7 = .ok (.if_icmp .ge 12, 3) := by decide +kernel
theorem dX0_codeAt_10 : decode cX0_codeAt 10 = .ok (.aload_n 0, 1) := by decide +kernel
theorem dX0_codeAt_11 : decode cX0_codeAt 11 = .ok (.getfield 9, 3) := by decide +kernel
theorem dX0_codeAt_14 : decode cX0_codeAt 14 = .ok (.iload_n 1, 1) := by decide +kernel
theorem dX0_codeAt_15 : decode cX0_codeAt 15 = .ok (.iaload, 1) := by decide +kernel
theorem dX0_codeAt_16 : decode cX0_codeAt 16 = .ok (.goto 4, 3) := by decide +kernel
theorem dX0_codeAt_19 : decode cX0_codeAt 19 = .ok (.iconst 0, 1) := by decide +kernel
theorem dX0_codeAt_20 : decode cX0_codeAt 20 = .ok (.ireturn, 1) := by decide +kernel
theorem dX0_mixInto_0 : decode cX0_mixInto 0 = .ok (.lload_n 1, 1) := by decide +kernel
theorem dX0_mixInto_1 : decode cX0_mixInto 1 = .ok (.aload_n 0, 1) := by decide +kernel
theorem dX0_mixInto_2 : decode cX0_mixInto 2 = .ok (.getfield 15, 3) := by decide +kernel
theorem dX0_mixInto_5 : decode cX0_mixInto 5 = .ok (.i2l, 1) := by decide +kernel
theorem dX0_mixInto_6 : decode cX0_mixInto 6 = .ok (.invokestatic 19, 3) := by decide +kernel
theorem dX0_mixInto_9 : decode cX0_mixInto 9 = .ok (.lstore_n 3, 1) := by decide +kernel
theorem dX0_mixInto_10 : decode cX0_mixInto 10 = .ok (.iconst 0, 1) := by decide +kernel
theorem dX0_mixInto_11 : decode cX0_mixInto 11 = .ok (.istore 5, 2) := by decide +kernel
theorem dX0_mixInto_13 : decode cX0_mixInto 13 = .ok (.iload 5, 2) := by decide +kernel
theorem dX0_mixInto_15 : decode cX0_mixInto 15 = .ok (.aload_n 0, 1) := by decide +kernel
theorem dX0_mixInto_16 : decode cX0_mixInto 16 = .ok (.getfield 15, 3) := by decide +kernel
theorem dX0_mixInto_19 : decode cX0_mixInto 19 = .ok (.if_icmp .ge 21, 3) := by decide +kernel
theorem dX0_mixInto_22 : decode cX0_mixInto 22 = .ok (.lload_n 3, 1) := by decide +kernel
theorem dX0_mixInto_23 : decode cX0_mixInto 23 = .ok (.aload_n 0, 1) := by decide +kernel
theorem dX0_mixInto_24 : decode cX0_mixInto 24 = .ok (.iload 5, 2) := by decide +kernel
theorem dX0_mixInto_26 : decode cX0_mixInto 26 = .ok (.invokevirtual 23, 3) := by decide +kernel
theorem dX0_mixInto_29 : decode cX0_mixInto 29 = .ok (.i2l, 1) := by decide +kernel
theorem dX0_mixInto_30 : decode cX0_mixInto 30 = .ok (.invokestatic 19, 3) := by decide +kernel
theorem dX0_mixInto_33 : decode cX0_mixInto 33 = .ok (.lstore_n 3, 1) := by decide +kernel
theorem dX0_mixInto_34 : decode cX0_mixInto 34 = .ok (.iinc 5 1, 3) := by decide +kernel
theorem dX0_mixInto_37 : decode cX0_mixInto 37 = .ok (.goto (-24), 3) := by decide +kernel
theorem dX0_mixInto_40 : decode cX0_mixInto 40 = .ok (.lload_n 3, 1) := by decide +kernel
theorem dX0_mixInto_41 : decode cX0_mixInto 41 = .ok (.lreturn, 1) := by decide +kernel
theorem dX1_init_0 : decode cX1_init 0 = .ok (.aload_n 0, 1) := by decide +kernel
theorem dX1_init_1 : decode cX1_init 1 = .ok (.invokespecial 3, 3) := by decide +kernel
theorem dX1_init_4 : decode cX1_init 4 = .ok (.aload_n 0, 1) := by decide +kernel
theorem dX1_init_5 : decode cX1_init 5 = .ok (.bipush 10, 2) := by decide +kernel
theorem dX1_init_7 : decode cX1_init 7 = .ok (.newarray .int, 2) := by decide +kernel
theorem dX1_init_9 : decode cX1_init 9 = .ok (.putfield 9, 3) := by decide +kernel
theorem dX1_init_12 : decode cX1_init 12 = .ok (.aload_n 0, 1) := by decide +kernel
theorem dX1_init_13 : decode cX1_init 13 = .ok (.bipush 10, 2) := by decide +kernel
theorem dX1_init_15 : decode cX1_init 15 = .ok (.newarray .int, 2) := by decide +kernel
theorem dX1_init_17 : decode cX1_init 17 = .ok (.putfield 15, 3) := by decide +kernel
theorem dX1_init_20 : decode cX1_init 20 = .ok (.aload_n 0, 1) := by decide +kernel
theorem dX1_init_21 : decode cX1_init 21 = .ok (.bipush 10, 2) := by decide +kernel
theorem dX1_init_23 : decode cX1_init 23 = .ok (.newarray .int, 2) := by decide +kernel
theorem dX1_init_25 : decode cX1_init 25 = .ok (.putfield 18, 3) := by decide +kernel
theorem dX1_init_28 : decode cX1_init 28 = .ok (.return_, 1) := by decide +kernel
theorem dX1_found_0 : decode cX1_found 0 = .ok (.iload_n 1, 1) := by decide +kernel
theorem dX1_found_1 : decode cX1_found 1 = .ok (.tableswitch 60 0 4 #[35, 40, 45, 50, 55], 35) := by decide +kernel
theorem dX1_found_36 : decode cX1_found 36 = .ok (.aload_n 0, 1) := by decide +kernel
theorem dX1_found_37 : decode cX1_found 37 = .ok (.getfield 21, 3) := by decide +kernel
theorem dX1_found_40 : decode cX1_found 40 = .ok (.ireturn, 1) := by decide +kernel
theorem dX1_found_41 : decode cX1_found 41 = .ok (.aload_n 0, 1) := by decide +kernel
theorem dX1_found_42 : decode cX1_found 42 = .ok (.getfield 25, 3) := by decide +kernel
theorem dX1_found_45 : decode cX1_found 45 = .ok (.ireturn, 1) := by decide +kernel
theorem dX1_found_46 : decode cX1_found 46 = .ok (.aload_n 0, 1) := by decide +kernel
theorem dX1_found_47 : decode cX1_found 47 = .ok (.getfield 28, 3) := by decide +kernel
theorem dX1_found_50 : decode cX1_found 50 = .ok (.ireturn, 1) := by decide +kernel
theorem dX1_found_51 : decode cX1_found 51 = .ok (.aload_n 0, 1) := by decide +kernel
theorem dX1_found_52 : decode cX1_found 52 = .ok (.getfield 31, 3) := by decide +kernel
theorem dX1_found_55 : decode cX1_found 55 = .ok (.ireturn, 1) := by decide +kernel
theorem dX1_found_56 : decode cX1_found 56 = .ok (.aload_n 0, 1) := by decide +kernel
theorem dX1_found_57 : decode cX1_found 57 = .ok (.getfield 34, 3) := by decide +kernel
theorem dX1_found_60 : decode cX1_found 60 = .ok (.ireturn, 1) := by decide +kernel
theorem dX1_found_61 : decode cX1_found 61 = .ok (.iconst (-1), 1) := by decide +kernel
theorem dX1_found_62 : decode cX1_found 62 = .ok (.ireturn, 1) := by decide +kernel
theorem dX1_seek_0 : decode cX1_seek 0 = .ok (.aload_n 0, 1) := by decide +kernel
theorem dX1_seek_1 : decode cX1_seek 1 = .ok (.iconst (-1), 1) := by decide +kernel
theorem dX1_seek_2 : decode cX1_seek 2 = .ok (.iconst (-1), 1) := by decide +kernel
theorem dX1_seek_3 : decode cX1_seek 3 = .ok (.iconst (-1), 1) := by decide +kernel
theorem dX1_seek_4 : decode cX1_seek 4 = .ok (.iconst (-1), 1) := by decide +kernel
theorem dX1_seek_5 : decode cX1_seek 5 = .ok (.iconst (-1), 1) := by decide +kernel
theorem dX1_seek_6 : decode cX1_seek 6 = .ok (.invokevirtual 37, 3) := by decide +kernel
theorem dX1_seek_9 : decode cX1_seek 9 = .ok (.aload_n 1, 1) := by decide +kernel
theorem dX1_seek_10 : decode cX1_seek 10 = .ok (.getfield 41, 3) := by decide +kernel
theorem dX1_seek_13 : decode cX1_seek 13 = .ok (.iload_n 2, 1) := by decide +kernel
theorem dX1_seek_14 : decode cX1_seek 14 = .ok (.invokevirtual 47, 3) := by decide +kernel
theorem dX1_seek_17 : decode cX1_seek 17 = .ok (.ifCond .eq 11, 3) := by decide +kernel
theorem dX1_seek_20 : decode cX1_seek 20 = .ok (.aload_n 1, 1) := by decide +kernel
theorem dX1_seek_21 : decode cX1_seek 21 = .ok (.iload_n 2, 1) := by decide +kernel
theorem dX1_seek_22 : decode cX1_seek 22 = .ok (.invokevirtual 53, 3) := by decide +kernel
theorem dX1_seek_25 : decode cX1_seek 25 = .ok (.ifCond .ne 4, 3) := by decide +kernel
theorem dX1_seek_28 : decode cX1_seek 28 = .ok (.return_, 1) := by decide +kernel
theorem dX1_seek_29 : decode cX1_seek 29 = .ok (.aload_n 0, 1) := by decide +kernel
theorem dX1_seek_30 : decode cX1_seek 30 = .ok (.aload_n 1, 1) := by decide +kernel
theorem dX1_seek_31 : decode cX1_seek 31 = .ok (.iload_n 2, 1) := by decide +kernel
theorem dX1_seek_32 : decode cX1_seek 32 = .ok (.invokevirtual 56, 3) := by decide +kernel
theorem dX1_seek_35 : decode cX1_seek 35 = .ok (.iconst 1, 1) := by decide +kernel
theorem dX1_seek_36 : decode cX1_seek 36 = .ok (.istore_n 3, 1) := by decide +kernel
theorem dX1_seek_37 : decode cX1_seek 37 = .ok (.iload_n 3, 1) := by decide +kernel
theorem dX1_seek_38 : decode cX1_seek 38 = .ok (.iconst 3, 1) := by decide +kernel
theorem dX1_seek_39 : decode cX1_seek 39 = .ok (.if_icmp .gt 95, 3) := by decide +kernel
theorem dX1_seek_42 : decode cX1_seek 42 = .ok (.iload_n 3, 1) := by decide +kernel
theorem dX1_seek_43 : decode cX1_seek 43 = .ok (.iconst 1, 1) := by decide +kernel
theorem dX1_seek_44 : decode cX1_seek 44 = .ok (.if_icmp .le 10, 3) := by decide +kernel
theorem dX1_seek_47 : decode cX1_seek 47 = .ok (.aload_n 0, 1) := by decide +kernel
theorem dX1_seek_48 : decode cX1_seek 48 = .ok (.getfield 60, 3) := by decide +kernel
theorem dX1_seek_51 : decode cX1_seek 51 = .ok (.goto 12, 3) := by decide +kernel
theorem dX1_seek_54 : decode cX1_seek 54 = .ok (.aload_n 0, 1) := by decide +kernel
theorem dX1_seek_55 : decode cX1_seek 55 = .ok (.getfield 60, 3) := by decide +kernel
theorem dX1_seek_58 : decode cX1_seek 58 = .ok (.aload_n 0, 1) := by decide +kernel
theorem dX1_seek_59 : decode cX1_seek 59 = .ok (.getfield 63, 3) := by decide +kernel
theorem dX1_seek_62 : decode cX1_seek 62 = .ok (.iand, 1) := by decide +kernel
theorem dX1_seek_63 : decode cX1_seek 63 = .ok (.istore 4, 2) := by decide +kernel
theorem dX1_seek_65 : decode cX1_seek 65 = .ok (.iconst 0, 1) := by decide +kernel
theorem dX1_seek_66 : decode cX1_seek 66 = .ok (.istore 5, 2) := by decide +kernel
theorem dX1_seek_68 : decode cX1_seek 68 = .ok (.iload 5, 2) := by decide +kernel
theorem dX1_seek_70 : decode cX1_seek 70 = .ok (.aload_n 0, 1) := by decide +kernel
theorem dX1_seek_71 : decode cX1_seek 71 = .ok (.getfield 66, 3) := by decide +kernel
theorem dX1_seek_74 : decode cX1_seek 74 = .ok (.if_icmp .ge 54, 3) := by decide +kernel
theorem dX1_seek_77 : decode cX1_seek 77 = .ok (.iload 4, 2) := by decide +kernel
theorem dX1_seek_79 : decode cX1_seek 79 = .ok (.iload 5, 2) := by decide +kernel
theorem dX1_seek_81 : decode cX1_seek 81 = .ok (.invokestatic 69, 3) := by decide +kernel
theorem dX1_seek_84 : decode cX1_seek 84 = .ok (.iand, 1) := by decide +kernel
theorem dX1_seek_85 : decode cX1_seek 85 = .ok (.ifCond .ne 6, 3) := by decide +kernel
theorem dX1_seek_88 : decode cX1_seek 88 = .ok (.goto 34, 3) := by decide +kernel
theorem dX1_seek_91 : decode cX1_seek 91 = .ok (.iload_n 3, 1) := by decide +kernel
theorem dX1_seek_92 : decode cX1_seek 92 = .ok (.iconst 1, 1) := by decide +kernel
theorem dX1_seek_93 : decode cX1_seek 93 = .ok (.if_icmp .le 13, 3) := by decide +kernel
theorem dX1_seek_96 : decode cX1_seek 96 = .ok (.aload_n 0, 1) := by decide +kernel
theorem dX1_seek_97 : decode cX1_seek 97 = .ok (.iload 5, 2) := by decide +kernel
theorem dX1_seek_99 : decode cX1_seek 99 = .ok (.iload_n 3, 1) := by decide +kernel
theorem dX1_seek_100 : decode cX1_seek 100 = .ok (.invokevirtual 73, 3) := by decide +kernel
theorem dX1_seek_103 : decode cX1_seek 103 = .ok (.goto 19, 3) := by decide +kernel
theorem dX1_seek_106 : decode cX1_seek 106 = .ok (.aload_n 0, 1) := by decide +kernel
theorem dX1_seek_107 : decode cX1_seek 107 = .ok (.aload_n 0, 1) := by decide +kernel
theorem dX1_seek_108 : decode cX1_seek 108 = .ok (.getfield 15, 3) := by decide +kernel
theorem dX1_seek_111 : decode cX1_seek 111 = .ok (.iload 5, 2) := by decide +kernel
theorem dX1_seek_113 : decode cX1_seek 113 = .ok (.iaload, 1) := by decide +kernel
theorem dX1_seek_114 : decode cX1_seek 114 = .ok (.iconst 1, 1) := by decide +kernel
theorem dX1_seek_115 : decode cX1_seek 115 = .ok (.iload 5, 2) := by decide +kernel
theorem dX1_seek_117 : decode cX1_seek 117 = .ok (.iconst (-1), 1) := by decide +kernel
theorem dX1_seek_118 : decode cX1_seek 118 = .ok (.iconst (-1), 1) := by decide +kernel
theorem dX1_seek_119 : decode cX1_seek 119 = .ok (.invokevirtual 77, 3) := by decide +kernel
theorem dX1_seek_122 : decode cX1_seek 122 = .ok (.iinc 5 1, 3) := by decide +kernel
theorem dX1_seek_125 : decode cX1_seek 125 = .ok (.goto (-57), 3) := by decide +kernel
theorem dX1_seek_128 : decode cX1_seek 128 = .ok (.iinc 3 1, 3) := by decide +kernel
theorem dX1_seek_131 : decode cX1_seek 131 = .ok (.goto (-94), 3) := by decide +kernel
theorem dX1_seek_134 : decode cX1_seek 134 = .ok (.return_, 1) := by decide +kernel
theorem dX1_prepare_0 : decode cX1_prepare 0 = .ok (.aload_n 1, 1) := by decide +kernel
theorem dX1_prepare_1 : decode cX1_prepare 1 = .ok (.getfield 80, 3) := by decide +kernel
theorem dX1_prepare_4 : decode cX1_prepare 4 = .ok (.astore_n 3, 1) := by decide +kernel
theorem dX1_prepare_5 : decode cX1_prepare 5 = .ok (.aload_n 3, 1) := by decide +kernel
theorem dX1_prepare_6 : decode cX1_prepare 6 = .ok (.aload_n 1, 1) := by decide +kernel
theorem dX1_prepare_7 : decode cX1_prepare 7 = .ok (.getfield 41, 3) := by decide +kernel
theorem dX1_prepare_10 : decode cX1_prepare 10 = .ok (.getfield 84, 3) := by decide +kernel
theorem dX1_prepare_13 : decode cX1_prepare 13 = .ok (.iload_n 2, 1) := by decide +kernel
theorem dX1_prepare_14 : decode cX1_prepare 14 = .ok (.iaload, 1) := by decide +kernel
theorem dX1_prepare_15 : decode cX1_prepare 15 = .ok (.invokevirtual 87, 3) := by decide +kernel
theorem dX1_prepare_18 : decode cX1_prepare 18 = .ok (.aload_n 1, 1) := by decide +kernel
theorem dX1_prepare_19 : decode cX1_prepare 19 = .ok (.getfield 41, 3) := by decide +kernel
theorem dX1_prepare_22 : decode cX1_prepare 22 = .ok (.iload_n 2, 1) := by decide +kernel
theorem dX1_prepare_23 : decode cX1_prepare 23 = .ok (.invokevirtual 92, 3) := by decide +kernel
theorem dX1_prepare_26 : decode cX1_prepare 26 = .ok (.iconst (-1), 1) := by decide +kernel
theorem dX1_prepare_27 : decode cX1_prepare 27 = .ok (.ixor, 1) := by decide +kernel
theorem dX1_prepare_28 : decode cX1_prepare 28 = .ok (.iand, 1) := by decide +kernel
theorem dX1_prepare_29 : decode cX1_prepare 29 = .ok (.istore 4, 2) := by decide +kernel
theorem dX1_prepare_31 : decode cX1_prepare 31 = .ok (.aload_n 0, 1) := by decide +kernel
theorem dX1_prepare_32 : decode cX1_prepare 32 = .ok (.aload_n 3, 1) := by decide +kernel
theorem dX1_prepare_33 : decode cX1_prepare 33 = .ok (.getfield 95, 3) := by decide +kernel
theorem dX1_prepare_36 : decode cX1_prepare 36 = .ok (.putfield 66, 3) := by decide +kernel
theorem dX1_prepare_39 : decode cX1_prepare 39 = .ok (.aload_n 0, 1) := by decide +kernel
theorem dX1_prepare_40 : decode cX1_prepare 40 = .ok (.iload 4, 2) := by decide +kernel
theorem dX1_prepare_42 : decode cX1_prepare 42 = .ok (.aload_n 3, 1) := by decide +kernel
theorem dX1_prepare_43 : decode cX1_prepare 43 = .ok (.iconst 1, 1) := by decide +kernel
theorem dX1_prepare_44 : decode cX1_prepare 44 = .ok (.aload_n 1, 1) := by decide +kernel
theorem dX1_prepare_45 : decode cX1_prepare 45 = .ok (.getfield 41, 3) := by decide +kernel
theorem dX1_prepare_48 : decode cX1_prepare 48 = .ok (.getfield 98, 3) := by decide +kernel
theorem dX1_prepare_51 : decode cX1_prepare 51 = .ok (.iload_n 2, 1) := by decide +kernel
theorem dX1_prepare_52 : decode cX1_prepare 52 = .ok (.iaload, 1) := by decide +kernel
theorem dX1_prepare_53 : decode cX1_prepare 53 = .ok (.ishl, 1) := by decide +kernel
theorem dX1_prepare_54 : decode cX1_prepare 54 = .ok (.invokevirtual 101, 3) := by decide +kernel
theorem dX1_prepare_57 : decode cX1_prepare 57 = .ok (.iand, 1) := by decide +kernel
theorem dX1_prepare_58 : decode cX1_prepare 58 = .ok (.putfield 60, 3) := by decide +kernel
theorem dX1_prepare_61 : decode cX1_prepare 61 = .ok (.aload_n 0, 1) := by decide +kernel
theorem dX1_prepare_62 : decode cX1_prepare 62 = .ok (.iload 4, 2) := by decide +kernel
theorem dX1_prepare_64 : decode cX1_prepare 64 = .ok (.aload_n 3, 1) := by decide +kernel
theorem dX1_prepare_65 : decode cX1_prepare 65 = .ok (.iconst 1, 1) := by decide +kernel
theorem dX1_prepare_66 : decode cX1_prepare 66 = .ok (.invokevirtual 101, 3) := by decide +kernel
theorem dX1_prepare_69 : decode cX1_prepare 69 = .ok (.iand, 1) := by decide +kernel
theorem dX1_prepare_70 : decode cX1_prepare 70 = .ok (.putfield 63, 3) := by decide +kernel
theorem dX1_prepare_73 : decode cX1_prepare 73 = .ok (.iconst 0, 1) := by decide +kernel
theorem dX1_prepare_74 : decode cX1_prepare 74 = .ok (.istore 5, 2) := by decide +kernel
theorem dX1_prepare_76 : decode cX1_prepare 76 = .ok (.iload 5, 2) := by decide +kernel
theorem dX1_prepare_78 : decode cX1_prepare 78 = .ok (.aload_n 0, 1) := by decide +kernel
theorem dX1_prepare_79 : decode cX1_prepare 79 = .ok (.getfield 66, 3) := by decide +kernel
theorem dX1_prepare_82 : decode cX1_prepare 82 = .ok (.if_icmp .ge 68, 3) := by decide +kernel
theorem dX1_prepare_85 : decode cX1_prepare 85 = .ok (.aload_n 0, 1) := by decide +kernel
theorem dX1_prepare_86 : decode cX1_prepare 86 = .ok (.getfield 9, 3) := by decide +kernel
theorem dX1_prepare_89 : decode cX1_prepare 89 = .ok (.iload 5, 2) := by decide +kernel
theorem dX1_prepare_91 : decode cX1_prepare 91 = .ok (.iload 4, 2) := by decide +kernel
theorem dX1_prepare_93 : decode cX1_prepare 93 = .ok (.aload_n 3, 1) := by decide +kernel
theorem dX1_prepare_94 : decode cX1_prepare 94 = .ok (.aload_n 3, 1) := by decide +kernel
theorem dX1_prepare_95 : decode cX1_prepare 95 = .ok (.getfield 104, 3) := by decide +kernel
theorem dX1_prepare_98 : decode cX1_prepare 98 = .ok (.iload 5, 2) := by decide +kernel
theorem dX1_prepare_100 : decode cX1_prepare 100 = .ok (.iaload, 1) := by decide +kernel
theorem dX1_prepare_101 : decode cX1_prepare 101 = .ok (.invokevirtual 101, 3) := by decide +kernel
theorem dX1_prepare_104 : decode cX1_prepare 104 = .ok (.iand, 1) := by decide +kernel
theorem dX1_prepare_105 : decode cX1_prepare 105 = .ok (.iload 5, 2) := by decide +kernel
theorem dX1_prepare_107 : decode cX1_prepare 107 = .ok (.invokestatic 69, 3) := by decide +kernel
theorem dX1_prepare_110 : decode cX1_prepare 110 = .ok (.iconst (-1), 1) := by decide +kernel
theorem dX1_prepare_111 : decode cX1_prepare 111 = .ok (.ixor, 1) := by decide +kernel
theorem dX1_prepare_112 : decode cX1_prepare 112 = .ok (.iand, 1) := by decide +kernel
theorem dX1_prepare_113 : decode cX1_prepare 113 = .ok (.iastore, 1) := by decide +kernel
theorem dX1_prepare_114 : decode cX1_prepare 114 = .ok (.aload_n 0, 1) := by decide +kernel
theorem dX1_prepare_115 : decode cX1_prepare 115 = .ok (.getfield 15, 3) := by decide +kernel
theorem dX1_prepare_118 : decode cX1_prepare 118 = .ok (.iload 5, 2) := by decide +kernel
theorem dX1_prepare_120 : decode cX1_prepare 120 = .ok (.aload_n 1, 1) := by decide +kernel
theorem dX1_prepare_121 : decode cX1_prepare 121 = .ok (.iload 5, 2) := by decide +kernel
theorem dX1_prepare_123 : decode cX1_prepare 123 = .ok (.iload_n 2, 1) := by decide +kernel
theorem dX1_prepare_124 : decode cX1_prepare 124 = .ok (.iconst 0, 1) := by decide +kernel
theorem dX1_prepare_125 : decode cX1_prepare 125 = .ok (.invokevirtual 107, 3) := by decide +kernel
theorem dX1_prepare_128 : decode cX1_prepare 128 = .ok (.iastore, 1) := by decide +kernel
theorem dX1_prepare_129 : decode cX1_prepare 129 = .ok (.aload_n 0, 1) := by decide +kernel
theorem dX1_prepare_130 : decode cX1_prepare 130 = .ok (.getfield 18, 3) := by decide +kernel
theorem dX1_prepare_133 : decode cX1_prepare 133 = .ok (.iload 5, 2) := by decide +kernel
theorem dX1_prepare_135 : decode cX1_prepare 135 = .ok (.aload_n 1, 1) := by decide +kernel
theorem dX1_prepare_136 : decode cX1_prepare 136 = .ok (.iload 5, 2) := by decide +kernel
theorem dX1_prepare_138 : decode cX1_prepare 138 = .ok (.iload_n 2, 1) := by decide +kernel
theorem dX1_prepare_139 : decode cX1_prepare 139 = .ok (.iconst 1, 1) := by decide +kernel
theorem dX1_prepare_140 : decode cX1_prepare 140 = .ok (.invokevirtual 107, 3) := by decide +kernel
theorem dX1_prepare_143 : decode cX1_prepare 143 = .ok (.iastore, 1) := by decide +kernel
theorem dX1_prepare_144 : decode cX1_prepare 144 = .ok (.iinc 5 1, 3) := by decide +kernel
theorem dX1_prepare_147 : decode cX1_prepare 147 = .ok (.goto (-71), 3) := by decide +kernel
theorem dX1_prepare_150 : decode cX1_prepare 150 = .ok (.return_, 1) := by decide +kernel
theorem dX1_trySeconds_0 : decode cX1_trySeconds 0 = .ok (.iload_n 2, 1) := by decide +kernel
theorem dX1_trySeconds_1 : decode cX1_trySeconds 1 = .ok (.iconst 2, 1) := by decide +kernel
theorem dX1_trySeconds_2 : decode cX1_trySeconds 2 = .ok (.if_icmp .le 12, 3) := by decide +kernel
theorem dX1_trySeconds_5 : decode cX1_trySeconds 5 = .ok (.aload_n 0, 1) := by decide +kernel
theorem dX1_trySeconds_6 : decode cX1_trySeconds 6 = .ok (.getfield 9, 3) := by decide +kernel
theorem dX1_trySeconds_9 : decode cX1_trySeconds 9 = .ok (.iload_n 1, 1) := by decide +kernel
theorem dX1_trySeconds_10 : decode cX1_trySeconds 10 = .ok (.iaload, 1) := by decide +kernel
theorem dX1_trySeconds_11 : decode cX1_trySeconds 11 = .ok (.goto 14, 3) := by decide +kernel
theorem dX1_trySeconds_14 : decode cX1_trySeconds 14 = .ok (.aload_n 0, 1) := by decide +kernel
theorem dX1_trySeconds_15 : decode cX1_trySeconds 15 = .ok (.getfield 9, 3) := by decide +kernel
theorem dX1_trySeconds_18 : decode cX1_trySeconds 18 = .ok (.iload_n 1, 1) := by decide +kernel
theorem dX1_trySeconds_19 : decode cX1_trySeconds 19 = .ok (.iaload, 1) := by decide +kernel
theorem dX1_trySeconds_20 : decode cX1_trySeconds 20 = .ok (.aload_n 0, 1) := by decide +kernel
theorem dX1_trySeconds_21 : decode cX1_trySeconds 21 = .ok (.getfield 63, 3) := by decide +kernel
theorem dX1_trySeconds_24 : decode cX1_trySeconds 24 = .ok (.iand, 1) := by decide +kernel
theorem dX1_trySeconds_25 : decode cX1_trySeconds 25 = .ok (.istore_n 3, 1) := by decide +kernel
theorem dX1_trySeconds_26 : decode cX1_trySeconds 26 = .ok (.iconst 0, 1) := by decide +kernel
theorem dX1_trySeconds_27 : decode cX1_trySeconds 27 = .ok (.istore 4, 2) := by decide +kernel
theorem dX1_trySeconds_29 : decode cX1_trySeconds 29 = .ok (.iload 4, 2) := by decide +kernel
theorem dX1_trySeconds_31 : decode cX1_trySeconds 31 = .ok (.aload_n 0, 1) := by decide +kernel
theorem dX1_trySeconds_32 : decode cX1_trySeconds 32 = .ok (.getfield 66, 3) := by decide +kernel
theorem dX1_trySeconds_35 : decode cX1_trySeconds 35 = .ok (.if_icmp .ge 60, 3) := by decide +kernel
theorem dX1_trySeconds_38 : decode cX1_trySeconds 38 = .ok (.iload_n 3, 1) := by decide +kernel
theorem dX1_trySeconds_39 : decode cX1_trySeconds 39 = .ok (.iload 4, 2) := by decide +kernel
theorem dX1_trySeconds_41 : decode cX1_trySeconds 41 = .ok (.invokestatic 69, 3) := by decide +kernel
theorem dX1_trySeconds_44 : decode cX1_trySeconds 44 = .ok (.iand, 1) := by decide +kernel
theorem dX1_trySeconds_45 : decode cX1_trySeconds 45 = .ok (.ifCond .ne 6, 3) := by decide +kernel
theorem dX1_trySeconds_48 : decode cX1_trySeconds 48 = .ok (.goto 41, 3) := by decide +kernel
theorem dX1_trySeconds_51 : decode cX1_trySeconds 51 = .ok (.iload_n 2, 1) := by decide +kernel
theorem dX1_trySeconds_52 : decode cX1_trySeconds 52 = .ok (.iconst 2, 1) := by decide +kernel
theorem dX1_trySeconds_53 : decode cX1_trySeconds 53 = .ok (.if_icmp .le 13, 3) := by decide +kernel
theorem dX1_trySeconds_56 : decode cX1_trySeconds 56 = .ok (.aload_n 0, 1) := by decide +kernel
theorem dX1_trySeconds_57 : decode cX1_trySeconds 57 = .ok (.iload_n 1, 1) := by decide +kernel
theorem dX1_trySeconds_58 : decode cX1_trySeconds 58 = .ok (.iload 4, 2) := by decide +kernel
theorem dX1_trySeconds_60 : decode cX1_trySeconds 60 = .ok (.invokevirtual 111, 3) := by decide +kernel
theorem dX1_trySeconds_63 : decode cX1_trySeconds 63 = .ok (.goto 26, 3) := by decide +kernel
theorem dX1_trySeconds_66 : decode cX1_trySeconds 66 = .ok (.aload_n 0, 1) := by decide +kernel
theorem dX1_trySeconds_67 : decode cX1_trySeconds 67 = .ok (.aload_n 0, 1) := by decide +kernel
theorem dX1_trySeconds_68 : decode cX1_trySeconds 68 = .ok (.getfield 18, 3) := by decide +kernel
theorem dX1_trySeconds_71 : decode cX1_trySeconds 71 = .ok (.iload_n 1, 1) := by decide +kernel
theorem dX1_trySeconds_72 : decode cX1_trySeconds 72 = .ok (.iaload, 1) := by decide +kernel
theorem dX1_trySeconds_73 : decode cX1_trySeconds 73 = .ok (.aload_n 0, 1) := by decide +kernel
theorem dX1_trySeconds_74 : decode cX1_trySeconds 74 = .ok (.getfield 18, 3) := by decide +kernel
theorem dX1_trySeconds_77 : decode cX1_trySeconds 77 = .ok (.iload 4, 2) := by decide +kernel
theorem dX1_trySeconds_79 : decode cX1_trySeconds 79 = .ok (.iaload, 1) := by decide +kernel
theorem dX1_trySeconds_80 : decode cX1_trySeconds 80 = .ok (.iadd, 1) := by decide +kernel
theorem dX1_trySeconds_81 : decode cX1_trySeconds 81 = .ok (.iconst 2, 1) := by decide +kernel
theorem dX1_trySeconds_82 : decode cX1_trySeconds 82 = .ok (.iload_n 1, 1) := by decide +kernel
theorem dX1_trySeconds_83 : decode cX1_trySeconds 83 = .ok (.iload 4, 2) := by decide +kernel
theorem dX1_trySeconds_85 : decode cX1_trySeconds 85 = .ok (.iconst (-1), 1) := by decide +kernel
theorem dX1_trySeconds_86 : decode cX1_trySeconds 86 = .ok (.invokevirtual 77, 3) := by decide +kernel
theorem dX1_trySeconds_89 : decode cX1_trySeconds 89 = .ok (.iinc 4 1, 3) := by decide +kernel
theorem dX1_trySeconds_92 : decode cX1_trySeconds 92 = .ok (.goto (-63), 3) := by decide +kernel
theorem dX1_trySeconds_95 : decode cX1_trySeconds 95 = .ok (.return_, 1) := by decide +kernel
theorem dX1_tryThirds_0 : decode cX1_tryThirds 0 = .ok (.aload_n 0, 1) := by decide +kernel
theorem dX1_tryThirds_1 : decode cX1_tryThirds 1 = .ok (.getfield 9, 3) := by decide +kernel
theorem dX1_tryThirds_4 : decode cX1_tryThirds 4 = .ok (.iload_n 2, 1) := by decide +kernel
theorem dX1_tryThirds_5 : decode cX1_tryThirds 5 = .ok (.iaload, 1) := by decide +kernel
theorem dX1_tryThirds_6 : decode cX1_tryThirds 6 = .ok (.aload_n 0, 1) := by decide +kernel
theorem dX1_tryThirds_7 : decode cX1_tryThirds 7 = .ok (.getfield 63, 3) := by decide +kernel
theorem dX1_tryThirds_10 : decode cX1_tryThirds 10 = .ok (.iand, 1) := by decide +kernel
theorem dX1_tryThirds_11 : decode cX1_tryThirds 11 = .ok (.iload_n 1, 1) := by decide +kernel
theorem dX1_tryThirds_12 : decode cX1_tryThirds 12 = .ok (.invokestatic 69, 3) := by decide +kernel
theorem dX1_tryThirds_15 : decode cX1_tryThirds 15 = .ok (.iconst (-1), 1) := by decide +kernel
theorem dX1_tryThirds_16 : decode cX1_tryThirds 16 = .ok (.ixor, 1) := by decide +kernel
theorem dX1_tryThirds_17 : decode cX1_tryThirds 17 = .ok (.iand, 1) := by decide +kernel
theorem dX1_tryThirds_18 : decode cX1_tryThirds 18 = .ok (.istore_n 3, 1) := by decide +kernel
theorem dX1_tryThirds_19 : decode cX1_tryThirds 19 = .ok (.iconst 0, 1) := by decide +kernel
theorem dX1_tryThirds_20 : decode cX1_tryThirds 20 = .ok (.istore 4, 2) := by decide +kernel
theorem dX1_tryThirds_22 : decode cX1_tryThirds 22 = .ok (.iload 4, 2) := by decide +kernel
theorem dX1_tryThirds_24 : decode cX1_tryThirds 24 = .ok (.aload_n 0, 1) := by decide +kernel
theorem dX1_tryThirds_25 : decode cX1_tryThirds 25 = .ok (.getfield 66, 3) := by decide +kernel
theorem dX1_tryThirds_28 : decode cX1_tryThirds 28 = .ok (.if_icmp .ge 49, 3) := by decide +kernel
theorem dX1_tryThirds_31 : decode cX1_tryThirds 31 = .ok (.iload_n 3, 1) := by decide +kernel
theorem dX1_tryThirds_32 : decode cX1_tryThirds 32 = .ok (.iload 4, 2) := by decide +kernel
theorem dX1_tryThirds_34 : decode cX1_tryThirds 34 = .ok (.invokestatic 69, 3) := by decide +kernel
theorem dX1_tryThirds_37 : decode cX1_tryThirds 37 = .ok (.iand, 1) := by decide +kernel
theorem dX1_tryThirds_38 : decode cX1_tryThirds 38 = .ok (.ifCond .eq 33, 3) := by decide +kernel
theorem dX1_tryThirds_41 : decode cX1_tryThirds 41 = .ok (.aload_n 0, 1) := by decide +kernel
theorem dX1_tryThirds_42 : decode cX1_tryThirds 42 = .ok (.aload_n 0, 1) := by decide +kernel
theorem dX1_tryThirds_43 : decode cX1_tryThirds 43 = .ok (.getfield 18, 3) := by decide +kernel
theorem dX1_tryThirds_46 : decode cX1_tryThirds 46 = .ok (.iload_n 1, 1) := by decide +kernel
theorem dX1_tryThirds_47 : decode cX1_tryThirds 47 = .ok (.iaload, 1) := by decide +kernel
theorem dX1_tryThirds_48 : decode cX1_tryThirds 48 = .ok (.aload_n 0, 1) := by decide +kernel
theorem dX1_tryThirds_49 : decode cX1_tryThirds 49 = .ok (.getfield 18, 3) := by decide +kernel
theorem dX1_tryThirds_52 : decode cX1_tryThirds 52 = .ok (.iload_n 2, 1) := by decide +kernel
theorem dX1_tryThirds_53 : decode cX1_tryThirds 53 = .ok (.iaload, 1) := by decide +kernel
theorem dX1_tryThirds_54 : decode cX1_tryThirds 54 = .ok (.iadd, 1) := by decide +kernel
theorem dX1_tryThirds_55 : decode cX1_tryThirds 55 = .ok (.aload_n 0, 1) := by decide +kernel
theorem dX1_tryThirds_56 : decode cX1_tryThirds 56 = .ok (.getfield 18, 3) := by decide +kernel
theorem dX1_tryThirds_59 : decode cX1_tryThirds 59 = .ok (.iload 4, 2) := by decide +kernel
theorem dX1_tryThirds_61 : decode cX1_tryThirds 61 = .ok (.iaload, 1) := by decide +kernel
theorem dX1_tryThirds_62 : decode cX1_tryThirds 62 = .ok (.iadd, 1) := by decide +kernel
theorem dX1_tryThirds_63 : decode cX1_tryThirds 63 = .ok (.iconst 3, 1) := by decide +kernel
theorem dX1_tryThirds_64 : decode cX1_tryThirds 64 = .ok (.iload_n 1, 1) := by decide +kernel
theorem dX1_tryThirds_65 : decode cX1_tryThirds 65 = .ok (.iload_n 2, 1) := by decide +kernel
theorem dX1_tryThirds_66 : decode cX1_tryThirds 66 = .ok (.iload 4, 2) := by decide +kernel
theorem dX1_tryThirds_68 : decode cX1_tryThirds 68 = .ok (.invokevirtual 77, 3) := by decide +kernel
theorem dX1_tryThirds_71 : decode cX1_tryThirds 71 = .ok (.iinc 4 1, 3) := by decide +kernel
theorem dX1_tryThirds_74 : decode cX1_tryThirds 74 = .ok (.goto (-52), 3) := by decide +kernel
theorem dX1_tryThirds_77 : decode cX1_tryThirds 77 = .ok (.return_, 1) := by decide +kernel
theorem dX1_offer_0 : decode cX1_offer 0 = .ok (.aload_n 0, 1) := by decide +kernel
theorem dX1_offer_1 : decode cX1_offer 1 = .ok (.getfield 21, 3) := by decide +kernel
theorem dX1_offer_4 : decode cX1_offer 4 = .ok (.iconst (-1), 1) := by decide +kernel
theorem dX1_offer_5 : decode cX1_offer 5 = .ok (.if_icmp .eq 11, 3) := by decide +kernel
theorem dX1_offer_8 : decode cX1_offer 8 = .ok (.iload_n 1, 1) := by decide +kernel
theorem dX1_offer_9 : decode cX1_offer 9 = .ok (.aload_n 0, 1) := by decide +kernel
theorem dX1_offer_10 : decode cX1_offer 10 = .ok (.getfield 21, 3) := by decide +kernel
theorem dX1_offer_13 : decode cX1_offer 13 = .ok (.if_icmp .ge 14, 3) := by decide +kernel
theorem dX1_offer_16 : decode cX1_offer 16 = .ok (.aload_n 0, 1) := by decide +kernel
theorem dX1_offer_17 : decode cX1_offer 17 = .ok (.iload_n 1, 1) := by decide +kernel
theorem dX1_offer_18 : decode cX1_offer 18 = .ok (.iload_n 2, 1) := by decide +kernel
theorem dX1_offer_19 : decode cX1_offer 19 = .ok (.iload_n 3, 1) := by decide +kernel
theorem dX1_offer_20 : decode cX1_offer 20 = .ok (.iload 4, 2) := by decide +kernel
theorem dX1_offer_22 : decode cX1_offer 22 = .ok (.iload 5, 2) := by decide +kernel
theorem dX1_offer_24 : decode cX1_offer 24 = .ok (.invokevirtual 37, 3) := by decide +kernel
theorem dX1_offer_27 : decode cX1_offer 27 = .ok (.return_, 1) := by decide +kernel
theorem dX1_keep_0 : decode cX1_keep 0 = .ok (.aload_n 0, 1) := by decide +kernel
theorem dX1_keep_1 : decode cX1_keep 1 = .ok (.iload_n 1, 1) := by decide +kernel
theorem dX1_keep_2 : decode cX1_keep 2 = .ok (.putfield 21, 3) := by decide +kernel
theorem dX1_keep_5 : decode cX1_keep 5 = .ok (.aload_n 0, 1) := by decide +kernel
theorem dX1_keep_6 : decode cX1_keep 6 = .ok (.iload_n 2, 1) := by decide +kernel
theorem dX1_keep_7 : decode cX1_keep 7 = .ok (.putfield 25, 3) := by decide +kernel
theorem dX1_keep_10 : decode cX1_keep 10 = .ok (.aload_n 0, 1) := by decide +kernel
theorem dX1_keep_11 : decode cX1_keep 11 = .ok (.iload_n 3, 1) := by decide +kernel
theorem dX1_keep_12 : decode cX1_keep 12 = .ok (.putfield 28, 3) := by decide +kernel
theorem dX1_keep_15 : decode cX1_keep 15 = .ok (.aload_n 0, 1) := by decide +kernel
theorem dX1_keep_16 : decode cX1_keep 16 = .ok (.iload 4, 2) := by decide +kernel
theorem dX1_keep_18 : decode cX1_keep 18 = .ok (.putfield 31, 3) := by decide +kernel
theorem dX1_keep_21 : decode cX1_keep 21 = .ok (.aload_n 0, 1) := by decide +kernel
theorem dX1_keep_22 : decode cX1_keep 22 = .ok (.iload 5, 2) := by decide +kernel
theorem dX1_keep_24 : decode cX1_keep 24 = .ok (.putfield 34, 3) := by decide +kernel
theorem dX1_keep_27 : decode cX1_keep 27 = .ok (.return_, 1) := by decide +kernel
theorem dX2_init_0 : decode cX2_init 0 = .ok (.aload_n 0, 1) := by decide +kernel
theorem dX2_init_1 : decode cX2_init 1 = .ok (.invokespecial 3, 3) := by decide +kernel
theorem dX2_init_4 : decode cX2_init 4 = .ok (.aload_n 0, 1) := by decide +kernel
theorem dX2_init_5 : decode cX2_init 5 = .ok (.new 9, 3) := by decide +kernel
theorem dX2_init_8 : decode cX2_init 8 = .ok (.dup, 1) := by decide +kernel
theorem dX2_init_9 : decode cX2_init 9 = .ok (.invokespecial 11, 3) := by decide +kernel
theorem dX2_init_12 : decode cX2_init 12 = .ok (.putfield 12, 3) := by decide +kernel
theorem dX2_init_15 : decode cX2_init 15 = .ok (.aload_n 0, 1) := by decide +kernel
theorem dX2_init_16 : decode cX2_init 16 = .ok (.new 18, 3) := by decide +kernel
theorem dX2_init_19 : decode cX2_init 19 = .ok (.dup, 1) := by decide +kernel
theorem dX2_init_20 : decode cX2_init 20 = .ok (.invokespecial 20, 3) := by decide +kernel
theorem dX2_init_23 : decode cX2_init 23 = .ok (.putfield 21, 3) := by decide +kernel
theorem dX2_init_26 : decode cX2_init 26 = .ok (.aload_n 0, 1) := by decide +kernel
theorem dX2_init_27 : decode cX2_init 27 = .ok (.getstatic 25, 3) := by decide +kernel
theorem dX2_init_30 : decode cX2_init 30 = .ok (.invokevirtual 29, 3) := by decide +kernel
theorem dX2_init_33 : decode cX2_init 33 = .ok (.checkcast 30, 3) := by decide +kernel
theorem dX2_init_36 : decode cX2_init 36 = .ok (.putfield 34, 3) := by decide +kernel
theorem dX2_init_39 : decode cX2_init 39 = .ok (.return_, 1) := by decide +kernel
theorem dX2_copyFrom_0 : decode cX2_copyFrom 0 = .ok (.aload_n 0, 1) := by decide +kernel
theorem dX2_copyFrom_1 : decode cX2_copyFrom 1 = .ok (.getfield 12, 3) := by decide +kernel
theorem dX2_copyFrom_4 : decode cX2_copyFrom 4 = .ok (.aload_n 1, 1) := by decide +kernel
theorem dX2_copyFrom_5 : decode cX2_copyFrom 5 = .ok (.getfield 12, 3) := by decide +kernel
theorem dX2_copyFrom_8 : decode cX2_copyFrom 8 = .ok (.invokevirtual 37, 3) := by decide +kernel
theorem dX2_copyFrom_11 : decode cX2_copyFrom 11 = .ok (.aload_n 0, 1) := by decide +kernel
theorem dX2_copyFrom_12 : decode cX2_copyFrom 12 = .ok (.getfield 21, 3) := by decide +kernel
theorem dX2_copyFrom_15 : decode cX2_copyFrom 15 = .ok (.aload_n 1, 1) := by decide +kernel
theorem dX2_copyFrom_16 : decode cX2_copyFrom 16 = .ok (.getfield 21, 3) := by decide +kernel
theorem dX2_copyFrom_19 : decode cX2_copyFrom 19 = .ok (.invokevirtual 41, 3) := by decide +kernel
theorem dX2_copyFrom_22 : decode cX2_copyFrom 22 = .ok (.aload_n 1, 1) := by decide +kernel
theorem dX2_copyFrom_23 : decode cX2_copyFrom 23 = .ok (.getfield 34, 3) := by decide +kernel
theorem dX2_copyFrom_26 : decode cX2_copyFrom 26 = .ok (.iconst 0, 1) := by decide +kernel
theorem dX2_copyFrom_27 : decode cX2_copyFrom 27 = .ok (.aload_n 0, 1) := by decide +kernel
theorem dX2_copyFrom_28 : decode cX2_copyFrom 28 = .ok (.getfield 34, 3) := by decide +kernel
theorem dX2_copyFrom_31 : decode cX2_copyFrom 31 = .ok (.iconst 0, 1) := by decide +kernel
theorem dX2_copyFrom_32 : decode cX2_copyFrom 32 = .ok (.aload_n 0, 1) := by decide +kernel
theorem dX2_copyFrom_33 : decode cX2_copyFrom 33 = .ok (.getfield 34, 3) := by decide +kernel
theorem dX2_copyFrom_36 : decode cX2_copyFrom 36 = .ok (.arraylength, 1) := by decide +kernel
theorem dX2_copyFrom_37 : decode cX2_copyFrom 37 = .ok (.invokestatic 44, 3) := by decide +kernel
theorem dX2_copyFrom_40 : decode cX2_copyFrom 40 = .ok (.aload_n 0, 1) := by decide +kernel
theorem dX2_copyFrom_41 : decode cX2_copyFrom 41 = .ok (.aload_n 1, 1) := by decide +kernel
theorem dX2_copyFrom_42 : decode cX2_copyFrom 42 = .ok (.getfield 50, 3) := by decide +kernel
theorem dX2_copyFrom_45 : decode cX2_copyFrom 45 = .ok (.putfield 50, 3) := by decide +kernel
theorem dX2_copyFrom_48 : decode cX2_copyFrom 48 = .ok (.aload_n 0, 1) := by decide +kernel
theorem dX2_copyFrom_49 : decode cX2_copyFrom 49 = .ok (.aload_n 1, 1) := by decide +kernel
theorem dX2_copyFrom_50 : decode cX2_copyFrom 50 = .ok (.getfield 54, 3) := by decide +kernel
theorem dX2_copyFrom_53 : decode cX2_copyFrom 53 = .ok (.putfield 54, 3) := by decide +kernel
theorem dX2_copyFrom_56 : decode cX2_copyFrom 56 = .ok (.aload_n 0, 1) := by decide +kernel
theorem dX2_copyFrom_57 : decode cX2_copyFrom 57 = .ok (.aload_n 1, 1) := by decide +kernel
theorem dX2_copyFrom_58 : decode cX2_copyFrom 58 = .ok (.getfield 57, 3) := by decide +kernel
theorem dX2_copyFrom_61 : decode cX2_copyFrom 61 = .ok (.putfield 57, 3) := by decide +kernel
theorem dX2_copyFrom_64 : decode cX2_copyFrom 64 = .ok (.aload_n 0, 1) := by decide +kernel
theorem dX2_copyFrom_65 : decode cX2_copyFrom 65 = .ok (.aload_n 1, 1) := by decide +kernel
theorem dX2_copyFrom_66 : decode cX2_copyFrom 66 = .ok (.getfield 60, 3) := by decide +kernel
theorem dX2_copyFrom_69 : decode cX2_copyFrom 69 = .ok (.putfield 60, 3) := by decide +kernel
theorem dX2_copyFrom_72 : decode cX2_copyFrom 72 = .ok (.return_, 1) := by decide +kernel
theorem dX2_hasStarted_0 : decode cX2_hasStarted 0 = .ok (.aload_n 0, 1) := by decide +kernel
theorem dX2_hasStarted_1 : decode cX2_hasStarted 1 = .ok (.getfield 21, 3) := by decide +kernel
theorem dX2_hasStarted_4 : decode cX2_hasStarted 4 = .ok (.getfield 63, 3) := by decide +kernel
theorem dX2_hasStarted_7 : decode cX2_hasStarted 7 = .ok (.iload_n 1, 1) := by decide +kernel
theorem dX2_hasStarted_8 : decode cX2_hasStarted 8 = .ok (.iaload, 1) := by decide +kernel
theorem dX2_hasStarted_9 : decode cX2_hasStarted 9 = .ok (.aload_n 0, 1) := by decide +kernel
theorem dX2_hasStarted_10 : decode cX2_hasStarted 10 = .ok (.getfield 50, 3) := by decide +kernel
theorem dX2_hasStarted_13 : decode cX2_hasStarted 13 = .ok (.if_icmp .gt 7, 3) := by decide +kernel
theorem dX2_hasStarted_16 : decode cX2_hasStarted 16 = .ok (.iconst 1, 1) := by decide +kernel
theorem dX2_hasStarted_17 : decode cX2_hasStarted 17 = .ok (.goto 4, 3) := by decide +kernel
theorem dX2_hasStarted_20 : decode cX2_hasStarted 20 = .ok (.iconst 0, 1) := by decide +kernel
theorem dX2_hasStarted_21 : decode cX2_hasStarted 21 = .ok (.ireturn, 1) := by decide +kernel
theorem dX2_isAhead_0 : decode cX2_isAhead 0 = .ok (.aload_n 0, 1) := by decide +kernel
theorem dX2_isAhead_1 : decode cX2_isAhead 1 = .ok (.getfield 21, 3) := by decide +kernel
theorem dX2_isAhead_4 : decode cX2_isAhead 4 = .ok (.iload_n 1, 1) := by decide +kernel
theorem dX2_isAhead_5 : decode cX2_isAhead 5 = .ok (.invokevirtual 66, 3) := by decide +kernel
theorem dX2_isAhead_8 : decode cX2_isAhead 8 = .ok (.ifCond .eq 15, 3) := by decide +kernel
theorem dX2_isAhead_11 : decode cX2_isAhead 11 = .ok (.aload_n 0, 1) := by decide +kernel
theorem dX2_isAhead_12 : decode cX2_isAhead 12 = .ok (.iload_n 1, 1) := by decide +kernel
theorem dX2_isAhead_13 : decode cX2_isAhead 13 = .ok (.invokevirtual 70, 3) := by decide +kernel
theorem dX2_isAhead_16 : decode cX2_isAhead 16 = .ok (.ifCond .ne 7, 3) := by decide +kernel
theorem dX2_isAhead_19 : decode cX2_isAhead 19 = .ok (.iconst 1, 1) := by decide +kernel
theorem dX2_isAhead_20 : decode cX2_isAhead 20 = .ok (.goto 4, 3) := by decide +kernel
theorem dX2_isAhead_23 : decode cX2_isAhead 23 = .ok (.iconst 0, 1) := by decide +kernel
theorem dX2_isAhead_24 : decode cX2_isAhead 24 = .ok (.ireturn, 1) := by decide +kernel
theorem dX2_isUnderWay_0 : decode cX2_isUnderWay 0 = .ok (.aload_n 0, 1) := by decide +kernel
theorem dX2_isUnderWay_1 : decode cX2_isUnderWay 1 = .ok (.getfield 21, 3) := by decide +kernel
theorem dX2_isUnderWay_4 : decode cX2_isUnderWay 4 = .ok (.iload_n 1, 1) := by decide +kernel
theorem dX2_isUnderWay_5 : decode cX2_isUnderWay 5 = .ok (.invokevirtual 66, 3) := by decide +kernel
theorem dX2_isUnderWay_8 : decode cX2_isUnderWay 8 = .ok (.ifCond .eq 15, 3) := by decide +kernel
theorem dX2_isUnderWay_11 : decode cX2_isUnderWay 11 = .ok (.aload_n 0, 1) := by decide +kernel
theorem dX2_isUnderWay_12 : decode cX2_isUnderWay 12 = .ok (.iload_n 1, 1) := by decide +kernel
theorem dX2_isUnderWay_13 : decode cX2_isUnderWay 13 = .ok (.invokevirtual 70, 3) := by decide +kernel
theorem dX2_isUnderWay_16 : decode cX2_isUnderWay 16 = .ok (.ifCond .eq 7, 3) := by decide +kernel
theorem dX2_isUnderWay_19 : decode cX2_isUnderWay 19 = .ok (.iconst 1, 1) := by decide +kernel
theorem dX2_isUnderWay_20 : decode cX2_isUnderWay 20 = .ok (.goto 4, 3) := by decide +kernel
theorem dX2_isUnderWay_23 : decode cX2_isUnderWay 23 = .ok (.iconst 0, 1) := by decide +kernel
theorem dX2_isUnderWay_24 : decode cX2_isUnderWay 24 = .ok (.ireturn, 1) := by decide +kernel
theorem dX2_reasonAgainst_0 : decode cX2_reasonAgainst 0 = .ok (.aload_n 0, 1) := by decide +kernel
theorem dX2_reasonAgainst_1 : decode cX2_reasonAgainst 1 = .ok (.getfield 21, 3) := by decide +kernel
theorem dX2_reasonAgainst_4 : decode cX2_reasonAgainst 4 = .ok (.iload_n 1, 1) := by decide +kernel
theorem dX2_reasonAgainst_5 : decode cX2_reasonAgainst 5 = .ok (.invokevirtual 66, 3) := by decide +kernel
theorem dX2_reasonAgainst_8 : decode cX2_reasonAgainst 8 = .ok (.ifCond .ne 5, 3) := by decide +kernel
theorem dX2_reasonAgainst_11 : decode cX2_reasonAgainst 11 = .ok (.iconst 1, 1) := by decide +kernel
theorem dX2_reasonAgainst_12 : decode cX2_reasonAgainst 12 = .ok (.ireturn, 1) := by decide +kernel
theorem dX2_reasonAgainst_13 : decode cX2_reasonAgainst 13 = .ok (.aload_n 0, 1) := by decide +kernel
theorem dX2_reasonAgainst_14 : decode cX2_reasonAgainst 14 = .ok (.iload_n 1, 1) := by decide +kernel
theorem dX2_reasonAgainst_15 : decode cX2_reasonAgainst 15 = .ok (.invokevirtual 70, 3) := by decide +kernel
theorem dX2_reasonAgainst_18 : decode cX2_reasonAgainst 18 = .ok (.ifCond .eq 5, 3) := by decide +kernel
theorem dX2_reasonAgainst_21 : decode cX2_reasonAgainst 21 = .ok (.iconst 2, 1) := by decide +kernel
theorem dX2_reasonAgainst_22 : decode cX2_reasonAgainst 22 = .ok (.ireturn, 1) := by decide +kernel
theorem dX2_reasonAgainst_23 : decode cX2_reasonAgainst 23 = .ok (.aload_n 0, 1) := by decide +kernel
theorem dX2_reasonAgainst_24 : decode cX2_reasonAgainst 24 = .ok (.getfield 12, 3) := by decide +kernel
theorem dX2_reasonAgainst_27 : decode cX2_reasonAgainst 27 = .ok (.aload_n 0, 1) := by decide +kernel
theorem dX2_reasonAgainst_28 : decode cX2_reasonAgainst 28 = .ok (.getfield 21, 3) := by decide +kernel
theorem dX2_reasonAgainst_31 : decode cX2_reasonAgainst 31 = .ok (.getfield 73, 3) := by decide +kernel
theorem dX2_reasonAgainst_34 : decode cX2_reasonAgainst 34 = .ok (.iload_n 1, 1) := by decide +kernel
theorem dX2_reasonAgainst_35 : decode cX2_reasonAgainst 35 = .ok (.iaload, 1) := by decide +kernel
theorem dX2_reasonAgainst_36 : decode cX2_reasonAgainst 36 = .ok (.iload_n 2, 1) := by decide +kernel
theorem dX2_reasonAgainst_37 : decode cX2_reasonAgainst 37 = .ok (.iload_n 3, 1) := by decide +kernel
theorem dX2_reasonAgainst_38 : decode cX2_reasonAgainst 38 = .ok (.iload 4, 2) := by decide +kernel
theorem dX2_reasonAgainst_40 : decode cX2_reasonAgainst 40 = .ok (.invokevirtual 76, 3) := by decide +kernel
theorem dX2_reasonAgainst_43 : decode cX2_reasonAgainst 43 = .ok (.ifCond .ne 5, 3) := by decide +kernel
theorem dX2_reasonAgainst_46 : decode cX2_reasonAgainst 46 = .ok (.iconst 3, 1) := by decide +kernel
theorem dX2_reasonAgainst_47 : decode cX2_reasonAgainst 47 = .ok (.ireturn, 1) := by decide +kernel
theorem dX2_reasonAgainst_48 : decode cX2_reasonAgainst 48 = .ok (.iload_n 2, 1) := by decide +kernel
theorem dX2_reasonAgainst_49 : decode cX2_reasonAgainst 49 = .ok (.iload_n 3, 1) := by decide +kernel
theorem dX2_reasonAgainst_50 : decode cX2_reasonAgainst 50 = .ok (.iload 4, 2) := by decide +kernel
theorem dX2_reasonAgainst_52 : decode cX2_reasonAgainst 52 = .ok (.invokestatic 80, 3) := by decide +kernel
theorem dX2_reasonAgainst_55 : decode cX2_reasonAgainst 55 = .ok (.istore 5, 2) := by decide +kernel
theorem dX2_reasonAgainst_57 : decode cX2_reasonAgainst 57 = .ok (.iload 5, 2) := by decide +kernel
theorem dX2_reasonAgainst_59 : decode cX2_reasonAgainst 59 = .ok (.aload_n 0, 1) := by decide +kernel
theorem dX2_reasonAgainst_60 : decode cX2_reasonAgainst 60 = .ok (.getfield 12, 3) := by decide +kernel
theorem dX2_reasonAgainst_63 : decode cX2_reasonAgainst 63 = .ok (.aload_n 0, 1) := by decide +kernel
theorem dX2_reasonAgainst_64 : decode cX2_reasonAgainst 64 = .ok (.getfield 21, 3) := by decide +kernel
theorem dX2_reasonAgainst_67 : decode cX2_reasonAgainst 67 = .ok (.getfield 84, 3) := by decide +kernel
theorem dX2_reasonAgainst_70 : decode cX2_reasonAgainst 70 = .ok (.iload_n 1, 1) := by decide +kernel
theorem dX2_reasonAgainst_71 : decode cX2_reasonAgainst 71 = .ok (.iaload, 1) := by decide +kernel
theorem dX2_reasonAgainst_72 : decode cX2_reasonAgainst 72 = .ok (.invokevirtual 87, 3) := by decide +kernel
theorem dX2_reasonAgainst_75 : decode cX2_reasonAgainst 75 = .ok (.iconst (-1), 1) := by decide +kernel
theorem dX2_reasonAgainst_76 : decode cX2_reasonAgainst 76 = .ok (.ixor, 1) := by decide +kernel
theorem dX2_reasonAgainst_77 : decode cX2_reasonAgainst 77 = .ok (.iand, 1) := by decide +kernel
theorem dX2_reasonAgainst_78 : decode cX2_reasonAgainst 78 = .ok (.ifCond .eq 5, 3) := by decide +kernel
theorem dX2_reasonAgainst_81 : decode cX2_reasonAgainst 81 = .ok (.iconst 4, 1) := by decide +kernel
theorem dX2_reasonAgainst_82 : decode cX2_reasonAgainst 82 = .ok (.ireturn, 1) := by decide +kernel
theorem dX2_reasonAgainst_83 : decode cX2_reasonAgainst 83 = .ok (.iload 5, 2) := by decide +kernel
theorem dX2_reasonAgainst_85 : decode cX2_reasonAgainst 85 = .ok (.aload_n 0, 1) := by decide +kernel
theorem dX2_reasonAgainst_86 : decode cX2_reasonAgainst 86 = .ok (.getfield 21, 3) := by decide +kernel
theorem dX2_reasonAgainst_89 : decode cX2_reasonAgainst 89 = .ok (.iload_n 1, 1) := by decide +kernel
theorem dX2_reasonAgainst_90 : decode cX2_reasonAgainst 90 = .ok (.invokevirtual 91, 3) := by decide +kernel
theorem dX2_reasonAgainst_93 : decode cX2_reasonAgainst 93 = .ok (.iand, 1) := by decide +kernel
theorem dX2_reasonAgainst_94 : decode cX2_reasonAgainst 94 = .ok (.ifCond .eq 7, 3) := by decide +kernel
theorem dX2_reasonAgainst_97 : decode cX2_reasonAgainst 97 = .ok (.iconst 5, 1) := by decide +kernel
theorem dX2_reasonAgainst_98 : decode cX2_reasonAgainst 98 = .ok (.goto 4, 3) := by decide +kernel
theorem dX2_reasonAgainst_101 : decode cX2_reasonAgainst 101 = .ok (.iconst 0, 1) := by decide +kernel
theorem dX2_reasonAgainst_102 : decode cX2_reasonAgainst 102 = .ok (.ireturn, 1) := by decide +kernel
theorem dX2_earns_0 : decode cX2_earns 0 = .ok (.iload_n 1, 1) := by decide +kernel
theorem dX2_earns_1 : decode cX2_earns 1 = .ok (.ifCond .lt 14, 3) := by decide +kernel
theorem dX2_earns_4 : decode cX2_earns 4 = .ok (.iload_n 1, 1) := by decide +kernel
theorem dX2_earns_5 : decode cX2_earns 5 = .ok (.aload_n 0, 1) := by decide +kernel
theorem dX2_earns_6 : decode cX2_earns 6 = .ok (.getfield 12, 3) := by decide +kernel
theorem dX2_earns_9 : decode cX2_earns 9 = .ok (.getfield 94, 3) := by decide +kernel
theorem dX2_earns_12 : decode cX2_earns 12 = .ok (.if_icmp .lt 5, 3) := by decide +kernel
theorem dX2_earns_15 : decode cX2_earns 15 = .ok (.iconst 0, 1) := by decide +kernel
theorem dX2_earns_16 : decode cX2_earns 16 = .ok (.ireturn, 1) := by decide +kernel
theorem dX2_earns_17 : decode cX2_earns 17 = .ok (.aload_n 0, 1) := by decide +kernel
theorem dX2_earns_18 : decode cX2_earns 18 = .ok (.getfield 12, 3) := by decide +kernel
theorem dX2_earns_21 : decode cX2_earns 21 = .ok (.getfield 97, 3) := by decide +kernel
theorem dX2_earns_24 : decode cX2_earns 24 = .ok (.iload_n 1, 1) := by decide +kernel
theorem dX2_earns_25 : decode cX2_earns 25 = .ok (.iaload, 1) := by decide +kernel
theorem dX2_earns_26 : decode cX2_earns 26 = .ok (.aload_n 0, 1) := by decide +kernel
theorem dX2_earns_27 : decode cX2_earns 27 = .ok (.getfield 21, 3) := by decide +kernel
theorem dX2_earns_30 : decode cX2_earns 30 = .ok (.getfield 100, 3) := by decide +kernel
theorem dX2_earns_33 : decode cX2_earns 33 = .ok (.iload_n 2, 1) := by decide +kernel
theorem dX2_earns_34 : decode cX2_earns 34 = .ok (.iaload, 1) := by decide +kernel
theorem dX2_earns_35 : decode cX2_earns 35 = .ok (.imul, 1) := by decide +kernel
theorem dX2_earns_36 : decode cX2_earns 36 = .ok (.bipush 9, 2) := by decide +kernel
theorem dX2_earns_38 : decode cX2_earns 38 = .ok (.iadd, 1) := by decide +kernel
theorem dX2_earns_39 : decode cX2_earns 39 = .ok (.bipush 10, 2) := by decide +kernel
theorem dX2_earns_41 : decode cX2_earns 41 = .ok (.idiv, 1) := by decide +kernel
theorem dX2_earns_42 : decode cX2_earns 42 = .ok (.istore 4, 2) := by decide +kernel
theorem dX2_earns_44 : decode cX2_earns 44 = .ok (.iload_n 3, 1) := by decide +kernel
theorem dX2_earns_45 : decode cX2_earns 45 = .ok (.ifCond .eq 22, 3) := by decide +kernel
theorem dX2_earns_48 : decode cX2_earns 48 = .ok (.iload 4, 2) := by decide +kernel
theorem dX2_earns_50 : decode cX2_earns 50 = .ok (.bipush 100, 2) := by decide +kernel
theorem dX2_earns_52 : decode cX2_earns 52 = .ok (.aload_n 0, 1) := by decide +kernel
theorem dX2_earns_53 : decode cX2_earns 53 = .ok (.getfield 34, 3) := by decide +kernel
theorem dX2_earns_56 : decode cX2_earns 56 = .ok (.bipush 6, 2) := by decide +kernel
theorem dX2_earns_58 : decode cX2_earns 58 = .ok (.iaload, 1) := by decide +kernel
theorem dX2_earns_59 : decode cX2_earns 59 = .ok (.iadd, 1) := by decide +kernel
theorem dX2_earns_60 : decode cX2_earns 60 = .ok (.imul, 1) := by decide +kernel
theorem dX2_earns_61 : decode cX2_earns 61 = .ok (.bipush 100, 2) := by decide +kernel
theorem dX2_earns_63 : decode cX2_earns 63 = .ok (.idiv, 1) := by decide +kernel
theorem dX2_earns_64 : decode cX2_earns 64 = .ok (.goto 5, 3) := by decide +kernel
theorem dX2_earns_67 : decode cX2_earns 67 = .ok (.iload 4, 2) := by decide +kernel
theorem dX2_earns_69 : decode cX2_earns 69 = .ok (.ireturn, 1) := by decide +kernel
theorem dX2_payOf_0 : decode cX2_payOf 0 = .ok (.aload_n 0, 1) := by decide +kernel
theorem dX2_payOf_1 : decode cX2_payOf 1 = .ok (.aload_n 0, 1) := by decide +kernel
theorem dX2_payOf_2 : decode cX2_payOf 2 = .ok (.getfield 21, 3) := by decide +kernel
theorem dX2_payOf_5 : decode cX2_payOf 5 = .ok (.iload_n 1, 1) := by decide +kernel
theorem dX2_payOf_6 : decode cX2_payOf 6 = .ok (.iload_n 2, 1) := by decide +kernel
theorem dX2_payOf_7 : decode cX2_payOf 7 = .ok (.invokevirtual 103, 3) := by decide +kernel
theorem dX2_payOf_10 : decode cX2_payOf 10 = .ok (.iload_n 1, 1) := by decide +kernel
theorem dX2_payOf_11 : decode cX2_payOf 11 = .ok (.aload_n 0, 1) := by decide +kernel
theorem dX2_payOf_12 : decode cX2_payOf 12 = .ok (.getfield 21, 3) := by decide +kernel
theorem dX2_payOf_15 : decode cX2_payOf 15 = .ok (.getfield 107, 3) := by decide +kernel
theorem dX2_payOf_18 : decode cX2_payOf 18 = .ok (.iload_n 1, 1) := by decide +kernel
theorem dX2_payOf_19 : decode cX2_payOf 19 = .ok (.iaload, 1) := by decide +kernel
theorem dX2_payOf_20 : decode cX2_payOf 20 = .ok (.iconst 1, 1) := by decide +kernel
theorem dX2_payOf_21 : decode cX2_payOf 21 = .ok (.if_icmp .le 7, 3) := by decide +kernel
theorem dX2_payOf_24 : decode cX2_payOf 24 = .ok (.iconst 1, 1) := by decide +kernel
theorem dX2_payOf_25 : decode cX2_payOf 25 = .ok (.goto 4, 3) := by decide +kernel
theorem dX2_payOf_28 : decode cX2_payOf 28 = .ok (.iconst 0, 1) := by decide +kernel
theorem dX2_payOf_29 : decode cX2_payOf 29 = .ok (.invokevirtual 110, 3) := by decide +kernel
theorem dX2_payOf_32 : decode cX2_payOf 32 = .ok (.iload_n 3, 1) := by decide +kernel
theorem dX2_payOf_33 : decode cX2_payOf 33 = .ok (.imul, 1) := by decide +kernel
theorem dX2_payOf_34 : decode cX2_payOf 34 = .ok (.iconst 2, 1) := by decide +kernel
theorem dX2_payOf_35 : decode cX2_payOf 35 = .ok (.idiv, 1) := by decide +kernel
theorem dX2_payOf_36 : decode cX2_payOf 36 = .ok (.ireturn, 1) := by decide +kernel
theorem dX2_chainPay_0 : decode cX2_chainPay 0 = .ok (.iconst 0, 1) := by decide +kernel
theorem dX2_chainPay_1 : decode cX2_chainPay 1 = .ok (.istore_n 3, 1) := by decide +kernel
theorem dX2_chainPay_2 : decode cX2_chainPay 2 = .ok (.iconst 0, 1) := by decide +kernel
theorem dX2_chainPay_3 : decode cX2_chainPay 3 = .ok (.istore 4, 2) := by decide +kernel
theorem dX2_chainPay_5 : decode cX2_chainPay 5 = .ok (.iload 4, 2) := by decide +kernel
theorem dX2_chainPay_7 : decode cX2_chainPay 7 = .ok (.aload_n 0, 1) := by decide +kernel
theorem dX2_chainPay_8 : decode cX2_chainPay 8 = .ok (.getfield 21, 3) := by decide +kernel
theorem dX2_chainPay_11 : decode cX2_chainPay 11 = .ok (.getfield 107, 3) := by decide +kernel
theorem dX2_chainPay_14 : decode cX2_chainPay 14 = .ok (.iload_n 1, 1) := by decide +kernel
theorem dX2_chainPay_15 : decode cX2_chainPay 15 = .ok (.iaload, 1) := by decide +kernel
theorem dX2_chainPay_16 : decode cX2_chainPay 16 = .ok (.if_icmp .ge 20, 3) := by decide +kernel
theorem dX2_chainPay_19 : decode cX2_chainPay 19 = .ok (.iload_n 3, 1) := by decide +kernel
theorem dX2_chainPay_20 : decode cX2_chainPay 20 = .ok (.aload_n 0, 1) := by decide +kernel
theorem dX2_chainPay_21 : decode cX2_chainPay 21 = .ok (.iload_n 1, 1) := by decide +kernel
theorem dX2_chainPay_22 : decode cX2_chainPay 22 = .ok (.iload 4, 2) := by decide +kernel
theorem dX2_chainPay_24 : decode cX2_chainPay 24 = .ok (.iload_n 2, 1) := by decide +kernel
theorem dX2_chainPay_25 : decode cX2_chainPay 25 = .ok (.invokevirtual 114, 3) := by decide +kernel
theorem dX2_chainPay_28 : decode cX2_chainPay 28 = .ok (.iadd, 1) := by decide +kernel
theorem dX2_chainPay_29 : decode cX2_chainPay 29 = .ok (.istore_n 3, 1) := by decide +kernel
theorem dX2_chainPay_30 : decode cX2_chainPay 30 = .ok (.iinc 4 1, 3) := by decide +kernel
theorem dX2_chainPay_33 : decode cX2_chainPay 33 = .ok (.goto (-28), 3) := by decide +kernel
theorem dX2_chainPay_36 : decode cX2_chainPay 36 = .ok (.iload_n 3, 1) := by decide +kernel
theorem dX2_chainPay_37 : decode cX2_chainPay 37 = .ok (.ireturn, 1) := by decide +kernel
theorem dX2_payByNotice_0 : decode cX2_payByNotice 0 = .ok (.iload_n 1, 1) := by decide +kernel
theorem dX2_payByNotice_1 : decode cX2_payByNotice 1 = .ok (.aload_n 0, 1) := by decide +kernel
theorem dX2_payByNotice_2 : decode cX2_payByNotice 2 = .ok (.getfield 34, 3) := by decide +kernel
theorem dX2_payByNotice_5 : decode cX2_payByNotice 5 = .ok (.iconst 4, 1) := by decide +kernel
theorem dX2_payByNotice_6 : decode cX2_payByNotice 6 = .ok (.iaload, 1) := by decide +kernel
theorem dX2_payByNotice_7 : decode cX2_payByNotice 7 = .ok (.if_icmp .ge 5, 3) := by decide +kernel
theorem dX2_payByNotice_10 : decode cX2_payByNotice 10 = .ok (.iconst 2, 1) := by decide +kernel
theorem dX2_payByNotice_11 : decode cX2_payByNotice 11 = .ok (.ireturn, 1) := by decide +kernel
theorem dX2_payByNotice_12 : decode cX2_payByNotice 12 = .ok (.iload_n 1, 1) := by decide +kernel
theorem dX2_payByNotice_13 : decode cX2_payByNotice 13 = .ok (.aload_n 0, 1) := by decide +kernel
theorem dX2_payByNotice_14 : decode cX2_payByNotice 14 = .ok (.getfield 34, 3) := by decide +kernel
theorem dX2_payByNotice_17 : decode cX2_payByNotice 17 = .ok (.iconst 5, 1) := by decide +kernel
theorem dX2_payByNotice_18 : decode cX2_payByNotice 18 = .ok (.iaload, 1) := by decide +kernel
theorem dX2_payByNotice_19 : decode cX2_payByNotice 19 = .ok (.if_icmp .ge 7, 3) := by decide +kernel
theorem dX2_payByNotice_22 : decode cX2_payByNotice 22 = .ok (.iconst 1, 1) := by decide +kernel
theorem dX2_payByNotice_23 : decode cX2_payByNotice 23 = .ok (.goto 4, 3) := by decide +kernel
theorem dX2_payByNotice_26 : decode cX2_payByNotice 26 = .ok (.iconst 0, 1) := by decide +kernel
theorem dX2_payByNotice_27 : decode cX2_payByNotice 27 = .ok (.ireturn, 1) := by decide +kernel
theorem dX2_payIfVacated_0 : decode cX2_payIfVacated 0 = .ok (.aload_n 0, 1) := by decide +kernel
theorem dX2_payIfVacated_1 : decode cX2_payIfVacated 1 = .ok (.getfield 21, 3) := by decide +kernel
theorem dX2_payIfVacated_4 : decode cX2_payIfVacated 4 = .ok (.getfield 63, 3) := by decide +kernel
theorem dX2_payIfVacated_7 : decode cX2_payIfVacated 7 = .ok (.iload_n 1, 1) := by decide +kernel
theorem dX2_payIfVacated_8 : decode cX2_payIfVacated 8 = .ok (.iaload, 1) := by decide +kernel
theorem dX2_payIfVacated_9 : decode cX2_payIfVacated 9 = .ok (.aload_n 0, 1) := by decide +kernel
theorem dX2_payIfVacated_10 : decode cX2_payIfVacated 10 = .ok (.getfield 50, 3) := by decide +kernel
theorem dX2_payIfVacated_13 : decode cX2_payIfVacated 13 = .ok (.isub, 1) := by decide +kernel
theorem dX2_payIfVacated_14 : decode cX2_payIfVacated 14 = .ok (.iload_n 2, 1) := by decide +kernel
theorem dX2_payIfVacated_15 : decode cX2_payIfVacated 15 = .ok (.isub, 1) := by decide +kernel
theorem dX2_payIfVacated_16 : decode cX2_payIfVacated 16 = .ok (.istore_n 3, 1) := by decide +kernel
theorem dX2_payIfVacated_17 : decode cX2_payIfVacated 17 = .ok (.aload_n 0, 1) := by decide +kernel
theorem dX2_payIfVacated_18 : decode cX2_payIfVacated 18 = .ok (.getfield 21, 3) := by decide +kernel
theorem dX2_payIfVacated_21 : decode cX2_payIfVacated 21 = .ok (.iload_n 1, 1) := by decide +kernel
theorem dX2_payIfVacated_22 : decode cX2_payIfVacated 22 = .ok (.invokevirtual 66, 3) := by decide +kernel
theorem dX2_payIfVacated_25 : decode cX2_payIfVacated 25 = .ok (.ifCond .eq 7, 3) := by decide +kernel
theorem dX2_payIfVacated_28 : decode cX2_payIfVacated 28 = .ok (.iload_n 3, 1) := by decide +kernel
theorem dX2_payIfVacated_29 : decode cX2_payIfVacated 29 = .ok (.ifCond .gt 5, 3) := by decide +kernel
theorem dX2_payIfVacated_32 : decode cX2_payIfVacated 32 = .ok (.iconst (-1), 1) := by decide +kernel
theorem dX2_payIfVacated_33 : decode cX2_payIfVacated 33 = .ok (.ireturn, 1) := by decide +kernel
theorem dX2_payIfVacated_34 : decode cX2_payIfVacated 34 = .ok (.aload_n 0, 1) := by decide +kernel
theorem dX2_payIfVacated_35 : decode cX2_payIfVacated 35 = .ok (.iload_n 1, 1) := by decide +kernel
theorem dX2_payIfVacated_36 : decode cX2_payIfVacated 36 = .ok (.aload_n 0, 1) := by decide +kernel
theorem dX2_payIfVacated_37 : decode cX2_payIfVacated 37 = .ok (.iload_n 3, 1) := by decide +kernel
theorem dX2_payIfVacated_38 : decode cX2_payIfVacated 38 = .ok (.invokevirtual 117, 3) := by decide +kernel
theorem dX2_payIfVacated_41 : decode cX2_payIfVacated 41 = .ok (.invokevirtual 120, 3) := by decide +kernel
theorem dX2_payIfVacated_44 : decode cX2_payIfVacated 44 = .ok (.ireturn, 1) := by decide +kernel
theorem dX2_close_0 : decode cX2_close 0 = .ok (.iconst 0, 1) := by decide +kernel
theorem dX2_close_1 : decode cX2_close 1 = .ok (.istore 4, 2) := by decide +kernel
theorem dX2_close_3 : decode cX2_close 3 = .ok (.iconst 0, 1) := by decide +kernel
theorem dX2_close_4 : decode cX2_close 4 = .ok (.istore 5, 2) := by decide +kernel
theorem dX2_close_6 : decode cX2_close 6 = .ok (.iload 5, 2) := by decide +kernel
theorem dX2_close_8 : decode cX2_close 8 = .ok (.aload_n 0, 1) := by decide +kernel
theorem dX2_close_9 : decode cX2_close 9 = .ok (.getfield 21, 3) := by decide +kernel
theorem dX2_close_12 : decode cX2_close 12 = .ok (.getfield 107, 3) := by decide +kernel
theorem dX2_close_15 : decode cX2_close 15 = .ok (.iload_n 1, 1) := by decide +kernel
theorem dX2_close_16 : decode cX2_close 16 = .ok (.iaload, 1) := by decide +kernel
theorem dX2_close_17 : decode cX2_close 17 = .ok (.if_icmp .ge 45, 3) := by decide +kernel
theorem dX2_close_20 : decode cX2_close 20 = .ok (.aload_n 0, 1) := by decide +kernel
theorem dX2_close_21 : decode cX2_close 21 = .ok (.iload_n 1, 1) := by decide +kernel
theorem dX2_close_22 : decode cX2_close 22 = .ok (.iload 5, 2) := by decide +kernel
theorem dX2_close_24 : decode cX2_close 24 = .ok (.iload_n 3, 1) := by decide +kernel
theorem dX2_close_25 : decode cX2_close 25 = .ok (.invokevirtual 114, 3) := by decide +kernel
theorem dX2_close_28 : decode cX2_close 28 = .ok (.istore 6, 2) := by decide +kernel
theorem dX2_close_30 : decode cX2_close 30 = .ok (.aload_n 0, 1) := by decide +kernel
theorem dX2_close_31 : decode cX2_close 31 = .ok (.getfield 12, 3) := by decide +kernel
theorem dX2_close_34 : decode cX2_close 34 = .ok (.aload_n 0, 1) := by decide +kernel
theorem dX2_close_35 : decode cX2_close 35 = .ok (.getfield 21, 3) := by decide +kernel
theorem dX2_close_38 : decode cX2_close 38 = .ok (.iload_n 1, 1) := by decide +kernel
theorem dX2_close_39 : decode cX2_close 39 = .ok (.iload 5, 2) := by decide +kernel
theorem dX2_close_41 : decode cX2_close 41 = .ok (.invokevirtual 103, 3) := by decide +kernel
theorem dX2_close_44 : decode cX2_close 44 = .ok (.iload 6, 2) := by decide +kernel
theorem dX2_close_46 : decode cX2_close 46 = .ok (.invokevirtual 123, 3) := by decide +kernel
theorem dX2_close_49 : decode cX2_close 49 = .ok (.iload 4, 2) := by decide +kernel
theorem dX2_close_51 : decode cX2_close 51 = .ok (.iload 6, 2) := by decide +kernel
theorem dX2_close_53 : decode cX2_close 53 = .ok (.iadd, 1) := by decide +kernel
theorem dX2_close_54 : decode cX2_close 54 = .ok (.istore 4, 2) := by decide +kernel
theorem dX2_close_56 : decode cX2_close 56 = .ok (.iinc 5 1, 3) := by decide +kernel
theorem dX2_close_59 : decode cX2_close 59 = .ok (.goto (-53), 3) := by decide +kernel
theorem dX2_close_62 : decode cX2_close 62 = .ok (.aload_n 0, 1) := by decide +kernel
theorem dX2_close_63 : decode cX2_close 63 = .ok (.getfield 21, 3) := by decide +kernel
theorem dX2_close_66 : decode cX2_close 66 = .ok (.getfield 127, 3) := by decide +kernel
theorem dX2_close_69 : decode cX2_close 69 = .ok (.iload_n 1, 1) := by decide +kernel
theorem dX2_close_70 : decode cX2_close 70 = .ok (.iload_n 2, 1) := by decide +kernel
theorem dX2_close_71 : decode cX2_close 71 = .ok (.iastore, 1) := by decide +kernel
theorem dX2_close_72 : decode cX2_close 72 = .ok (.aload_n 0, 1) := by decide +kernel
theorem dX2_close_73 : decode cX2_close 73 = .ok (.getfield 21, 3) := by decide +kernel
theorem dX2_close_76 : decode cX2_close 76 = .ok (.getfield 130, 3) := by decide +kernel
theorem dX2_close_79 : decode cX2_close 79 = .ok (.iload_n 1, 1) := by decide +kernel
theorem dX2_close_80 : decode cX2_close 80 = .ok (.dup2, 1) := by decide +kernel
theorem dX2_close_81 : decode cX2_close 81 = .ok (.iaload, 1) := by decide +kernel
theorem dX2_close_82 : decode cX2_close 82 = .ok (.iload 4, 2) := by decide +kernel
theorem dX2_close_84 : decode cX2_close 84 = .ok (.iadd, 1) := by decide +kernel
theorem dX2_close_85 : decode cX2_close 85 = .ok (.iastore, 1) := by decide +kernel
theorem dX2_close_86 : decode cX2_close 86 = .ok (.aload_n 0, 1) := by decide +kernel
theorem dX2_close_87 : decode cX2_close 87 = .ok (.dup, 1) := by decide +kernel
theorem dX2_close_88 : decode cX2_close 88 = .ok (.getfield 54, 3) := by decide +kernel
theorem dX2_close_91 : decode cX2_close 91 = .ok (.iload 4, 2) := by decide +kernel
theorem dX2_close_93 : decode cX2_close 93 = .ok (.iadd, 1) := by decide +kernel
theorem dX2_close_94 : decode cX2_close 94 = .ok (.putfield 54, 3) := by decide +kernel
theorem dX2_close_97 : decode cX2_close 97 = .ok (.iload_n 2, 1) := by decide +kernel
theorem dX2_close_98 : decode cX2_close 98 = .ok (.iconst 3, 1) := by decide +kernel
theorem dX2_close_99 : decode cX2_close 99 = .ok (.if_icmp .ne 17, 3) := by decide +kernel
theorem dX2_close_102 : decode cX2_close 102 = .ok (.aload_n 0, 1) := by decide +kernel
theorem dX2_close_103 : decode cX2_close 103 = .ok (.dup, 1) := by decide +kernel
theorem dX2_close_104 : decode cX2_close 104 = .ok (.getfield 57, 3) := by decide +kernel
theorem dX2_close_107 : decode cX2_close 107 = .ok (.iload 4, 2) := by decide +kernel
theorem dX2_close_109 : decode cX2_close 109 = .ok (.iadd, 1) := by decide +kernel
theorem dX2_close_110 : decode cX2_close 110 = .ok (.putfield 57, 3) := by decide +kernel
theorem dX2_close_113 : decode cX2_close 113 = .ok (.goto 19, 3) := by decide +kernel
theorem dX2_close_116 : decode cX2_close 116 = .ok (.iload_n 2, 1) := by decide +kernel
theorem dX2_close_117 : decode cX2_close 117 = .ok (.iconst 2, 1) := by decide +kernel
theorem dX2_close_118 : decode cX2_close 118 = .ok (.if_icmp .ne 14, 3) := by decide +kernel
theorem dX2_close_121 : decode cX2_close 121 = .ok (.aload_n 0, 1) := by decide +kernel
theorem dX2_close_122 : decode cX2_close 122 = .ok (.dup, 1) := by decide +kernel
theorem dX2_close_123 : decode cX2_close 123 = .ok (.getfield 60, 3) := by decide +kernel
theorem dX2_close_126 : decode cX2_close 126 = .ok (.iload 4, 2) := by decide +kernel
theorem dX2_close_128 : decode cX2_close 128 = .ok (.iadd, 1) := by decide +kernel
theorem dX2_close_129 : decode cX2_close 129 = .ok (.putfield 60, 3) := by decide +kernel
theorem dX2_close_132 : decode cX2_close 132 = .ok (.iload 4, 2) := by decide +kernel
theorem dX2_close_134 : decode cX2_close 134 = .ok (.ireturn, 1) := by decide +kernel
theorem dX2_passMinute_0 : decode cX2_passMinute 0 = .ok (.aload_n 0, 1) := by decide +kernel
theorem dX2_passMinute_1 : decode cX2_passMinute 1 = .ok (.invokevirtual 132, 3) := by decide +kernel
theorem dX2_passMinute_4 : decode cX2_passMinute 4 = .ok (.aload_n 0, 1) := by decide +kernel
theorem dX2_passMinute_5 : decode cX2_passMinute 5 = .ok (.dup, 1) := by decide +kernel
theorem dX2_passMinute_6 : decode cX2_passMinute 6 = .ok (.getfield 50, 3) := by decide +kernel
theorem dX2_passMinute_9 : decode cX2_passMinute 9 = .ok (.iconst 1, 1) := by decide +kernel
theorem dX2_passMinute_10 : decode cX2_passMinute 10 = .ok (.iadd, 1) := by decide +kernel
theorem dX2_passMinute_11 : decode cX2_passMinute 11 = .ok (.putfield 50, 3) := by decide +kernel
theorem dX2_passMinute_14 : decode cX2_passMinute 14 = .ok (.iconst 0, 1) := by decide +kernel
theorem dX2_passMinute_15 : decode cX2_passMinute 15 = .ok (.istore_n 1, 1) := by decide +kernel
theorem dX2_passMinute_16 : decode cX2_passMinute 16 = .ok (.iconst 0, 1) := by decide +kernel
theorem dX2_passMinute_17 : decode cX2_passMinute 17 = .ok (.istore_n 2, 1) := by decide +kernel
theorem dX2_passMinute_18 : decode cX2_passMinute 18 = .ok (.iload_n 2, 1) := by decide +kernel
theorem dX2_passMinute_19 : decode cX2_passMinute 19 = .ok (.aload_n 0, 1) := by decide +kernel
theorem dX2_passMinute_20 : decode cX2_passMinute 20 = .ok (.getfield 21, 3) := by decide +kernel
theorem dX2_passMinute_23 : decode cX2_passMinute 23 = .ok (.getfield 135, 3) := by decide +kernel
theorem dX2_passMinute_26 : decode cX2_passMinute 26 = .ok (.if_icmp .ge 81, 3) := by decide +kernel
theorem dX2_passMinute_29 : decode cX2_passMinute 29 = .ok (.aload_n 0, 1) := by decide +kernel
theorem dX2_passMinute_30 : decode cX2_passMinute 30 = .ok (.getfield 21, 3) := by decide +kernel
theorem dX2_passMinute_33 : decode cX2_passMinute 33 = .ok (.iload_n 2, 1) := by decide +kernel
theorem dX2_passMinute_34 : decode cX2_passMinute 34 = .ok (.invokevirtual 66, 3) := by decide +kernel
theorem dX2_passMinute_37 : decode cX2_passMinute 37 = .ok (.ifCond .eq 64, 3) := by decide +kernel
theorem dX2_passMinute_40 : decode cX2_passMinute 40 = .ok (.aload_n 0, 1) := by decide +kernel
theorem dX2_passMinute_41 : decode cX2_passMinute 41 = .ok (.getfield 21, 3) := by decide +kernel
theorem dX2_passMinute_44 : decode cX2_passMinute 44 = .ok (.iload_n 2, 1) := by decide +kernel
theorem dX2_passMinute_45 : decode cX2_passMinute 45 = .ok (.invokevirtual 136, 3) := by decide +kernel
theorem dX2_passMinute_48 : decode cX2_passMinute 48 = .ok (.aload_n 0, 1) := by decide +kernel
theorem dX2_passMinute_49 : decode cX2_passMinute 49 = .ok (.getfield 50, 3) := by decide +kernel
theorem dX2_passMinute_52 : decode cX2_passMinute 52 = .ok (.if_icmp .ne 49, 3) := by decide +kernel
theorem dX2_passMinute_55 : decode cX2_passMinute 55 = .ok (.aload_n 0, 1) := by decide +kernel
theorem dX2_passMinute_56 : decode cX2_passMinute 56 = .ok (.getfield 21, 3) := by decide +kernel
theorem dX2_passMinute_59 : decode cX2_passMinute 59 = .ok (.getfield 107, 3) := by decide +kernel
theorem dX2_passMinute_62 : decode cX2_passMinute 62 = .ok (.iload_n 2, 1) := by decide +kernel
theorem dX2_passMinute_63 : decode cX2_passMinute 63 = .ok (.iaload, 1) := by decide +kernel
theorem dX2_passMinute_64 : decode cX2_passMinute 64 = .ok (.ifCond .le 7, 3) := by decide +kernel
theorem dX2_passMinute_67 : decode cX2_passMinute 67 = .ok (.iconst 1, 1) := by decide +kernel
theorem dX2_passMinute_68 : decode cX2_passMinute 68 = .ok (.goto 4, 3) := by decide +kernel
theorem dX2_passMinute_71 : decode cX2_passMinute 71 = .ok (.iconst 0, 1) := by decide +kernel
theorem dX2_passMinute_72 : decode cX2_passMinute 72 = .ok (.istore_n 3, 1) := by decide +kernel
theorem dX2_passMinute_73 : decode cX2_passMinute 73 = .ok (.aload_n 0, 1) := by decide +kernel
theorem dX2_passMinute_74 : decode cX2_passMinute 74 = .ok (.iload_n 2, 1) := by decide +kernel
theorem dX2_passMinute_75 : decode cX2_passMinute 75 = .ok (.iload_n 3, 1) := by decide +kernel
theorem dX2_passMinute_76 : decode cX2_passMinute 76 = .ok (.ifCond .eq 7, 3) := by decide +kernel
theorem dX2_passMinute_79 : decode cX2_passMinute 79 = .ok (.iconst 1, 1) := by decide +kernel
theorem dX2_passMinute_80 : decode cX2_passMinute 80 = .ok (.goto 4, 3) := by decide +kernel
theorem dX2_passMinute_83 : decode cX2_passMinute 83 = .ok (.iconst 2, 1) := by decide +kernel
theorem dX2_passMinute_84 : decode cX2_passMinute 84 = .ok (.iconst 2, 1) := by decide +kernel
theorem dX2_passMinute_85 : decode cX2_passMinute 85 = .ok (.invokevirtual 139, 3) := by decide +kernel
theorem dX2_passMinute_88 : decode cX2_passMinute 88 = .ok (.pop, 1) := by decide +kernel
theorem dX2_passMinute_89 : decode cX2_passMinute 89 = .ok (.iload_n 1, 1) := by decide +kernel
theorem dX2_passMinute_90 : decode cX2_passMinute 90 = .ok (.iload_n 3, 1) := by decide +kernel
theorem dX2_passMinute_91 : decode cX2_passMinute 91 = .ok (.ifCond .eq 7, 3) := by decide +kernel
theorem dX2_passMinute_94 : decode cX2_passMinute 94 = .ok (.iconst 1, 1) := by decide +kernel
theorem dX2_passMinute_95 : decode cX2_passMinute 95 = .ok (.goto 4, 3) := by decide +kernel
theorem dX2_passMinute_98 : decode cX2_passMinute 98 = .ok (.iconst 0, 1) := by decide +kernel
theorem dX2_passMinute_99 : decode cX2_passMinute 99 = .ok (.iadd, 1) := by decide +kernel
theorem dX2_passMinute_100 : decode cX2_passMinute 100 = .ok (.istore_n 1, 1) := by decide +kernel
theorem dX2_passMinute_101 : decode cX2_passMinute 101 = .ok (.iinc 2 1, 3) := by decide +kernel
theorem dX2_passMinute_104 : decode cX2_passMinute 104 = .ok (.goto (-86), 3) := by decide +kernel
theorem dX2_passMinute_107 : decode cX2_passMinute 107 = .ok (.aload_n 0, 1) := by decide +kernel
theorem dX2_passMinute_108 : decode cX2_passMinute 108 = .ok (.invokevirtual 142, 3) := by decide +kernel
theorem dX2_passMinute_111 : decode cX2_passMinute 111 = .ok (.iload_n 1, 1) := by decide +kernel
theorem dX2_passMinute_112 : decode cX2_passMinute 112 = .ok (.ireturn, 1) := by decide +kernel
theorem dX2_tireAndRest_0 : decode cX2_tireAndRest 0 = .ok (.iconst 0, 1) := by decide +kernel
theorem dX2_tireAndRest_1 : decode cX2_tireAndRest 1 = .ok (.istore_n 1, 1) := by decide +kernel
theorem dX2_tireAndRest_2 : decode cX2_tireAndRest 2 = .ok (.iconst 0, 1) := by decide +kernel
theorem dX2_tireAndRest_3 : decode cX2_tireAndRest 3 = .ok (.istore_n 2, 1) := by decide +kernel
theorem dX2_tireAndRest_4 : decode cX2_tireAndRest 4 = .ok (.iconst 0, 1) := by decide +kernel
theorem dX2_tireAndRest_5 : decode cX2_tireAndRest 5 = .ok (.istore_n 3, 1) := by decide +kernel
theorem dX2_tireAndRest_6 : decode cX2_tireAndRest 6 = .ok (.iload_n 3, 1) := by decide +kernel
theorem dX2_tireAndRest_7 : decode cX2_tireAndRest 7 = .ok (.aload_n 0, 1) := by decide +kernel
theorem dX2_tireAndRest_8 : decode cX2_tireAndRest 8 = .ok (.getfield 21, 3) := by decide +kernel
theorem dX2_tireAndRest_11 : decode cX2_tireAndRest 11 = .ok (.getfield 135, 3) := by decide +kernel
theorem dX2_tireAndRest_14 : decode cX2_tireAndRest 14 = .ok (.if_icmp .ge 57, 3) := by decide +kernel
theorem dX2_tireAndRest_17 : decode cX2_tireAndRest 17 = .ok (.aload_n 0, 1) := by decide +kernel
theorem dX2_tireAndRest_18 : decode cX2_tireAndRest 18 = .ok (.iload_n 3, 1) := by decide +kernel
theorem dX2_tireAndRest_19 : decode cX2_tireAndRest 19 = .ok (.invokevirtual 145, 3) := by decide +kernel
theorem dX2_tireAndRest_22 : decode cX2_tireAndRest 22 = .ok (.ifCond .eq 43, 3) := by decide +kernel
theorem dX2_tireAndRest_25 : decode cX2_tireAndRest 25 = .ok (.aload_n 0, 1) := by decide +kernel
theorem dX2_tireAndRest_26 : decode cX2_tireAndRest 26 = .ok (.getfield 21, 3) := by decide +kernel
theorem dX2_tireAndRest_29 : decode cX2_tireAndRest 29 = .ok (.getfield 107, 3) := by decide +kernel
theorem dX2_tireAndRest_32 : decode cX2_tireAndRest 32 = .ok (.iload_n 3, 1) := by decide +kernel
theorem dX2_tireAndRest_33 : decode cX2_tireAndRest 33 = .ok (.iaload, 1) := by decide +kernel
theorem dX2_tireAndRest_34 : decode cX2_tireAndRest 34 = .ok (.iconst 1, 1) := by decide +kernel
theorem dX2_tireAndRest_35 : decode cX2_tireAndRest 35 = .ok (.if_icmp .le 18, 3) := by decide +kernel
theorem dX2_tireAndRest_38 : decode cX2_tireAndRest 38 = .ok (.iload_n 2, 1) := by decide +kernel
theorem dX2_tireAndRest_39 : decode cX2_tireAndRest 39 = .ok (.aload_n 0, 1) := by decide +kernel
theorem dX2_tireAndRest_40 : decode cX2_tireAndRest 40 = .ok (.getfield 21, 3) := by decide +kernel
theorem dX2_tireAndRest_43 : decode cX2_tireAndRest 43 = .ok (.getfield 148, 3) := by decide +kernel
theorem dX2_tireAndRest_46 : decode cX2_tireAndRest 46 = .ok (.iload_n 3, 1) := by decide +kernel
theorem dX2_tireAndRest_47 : decode cX2_tireAndRest 47 = .ok (.iaload, 1) := by decide +kernel
theorem dX2_tireAndRest_48 : decode cX2_tireAndRest 48 = .ok (.ior, 1) := by decide +kernel
theorem dX2_tireAndRest_49 : decode cX2_tireAndRest 49 = .ok (.istore_n 2, 1) := by decide +kernel
theorem dX2_tireAndRest_50 : decode cX2_tireAndRest 50 = .ok (.goto 15, 3) := by decide +kernel
theorem dX2_tireAndRest_53 : decode cX2_tireAndRest 53 = .ok (.iload_n 1, 1) := by decide +kernel
theorem dX2_tireAndRest_54 : decode cX2_tireAndRest 54 = .ok (.aload_n 0, 1) := by decide +kernel
theorem dX2_tireAndRest_55 : decode cX2_tireAndRest 55 = .ok (.getfield 21, 3) := by decide +kernel
theorem dX2_tireAndRest_58 : decode cX2_tireAndRest 58 = .ok (.getfield 148, 3) := by decide +kernel
theorem dX2_tireAndRest_61 : decode cX2_tireAndRest 61 = .ok (.iload_n 3, 1) := by decide +kernel
theorem dX2_tireAndRest_62 : decode cX2_tireAndRest 62 = .ok (.iaload, 1) := by decide +kernel
theorem dX2_tireAndRest_63 : decode cX2_tireAndRest 63 = .ok (.ior, 1) := by decide +kernel
theorem dX2_tireAndRest_64 : decode cX2_tireAndRest 64 = .ok (.istore_n 1, 1) := by decide +kernel
theorem dX2_tireAndRest_65 : decode cX2_tireAndRest 65 = .ok (.iinc 3 1, 3) := by decide +kernel
theorem dX2_tireAndRest_68 : decode cX2_tireAndRest 68 = .ok (.goto (-62), 3) := by decide +kernel
theorem dX2_tireAndRest_71 : decode cX2_tireAndRest 71 = .ok (.iconst 0, 1) := by decide +kernel
theorem dX2_tireAndRest_72 : decode cX2_tireAndRest 72 = .ok (.istore_n 3, 1) := by decide +kernel
theorem dX2_tireAndRest_73 : decode cX2_tireAndRest 73 = .ok (.iload_n 3, 1) := by decide +kernel
theorem dX2_tireAndRest_74 : decode cX2_tireAndRest 74 = .ok (.aload_n 0, 1) := by decide +kernel
theorem dX2_tireAndRest_75 : decode cX2_tireAndRest 75 = .ok (.getfield 12, 3) := by decide +kernel
theorem dX2_tireAndRest_78 : decode cX2_tireAndRest 78 = .ok (.getfield 94, 3) := by decide +kernel
theorem dX2_tireAndRest_81 : decode cX2_tireAndRest 81 = .ok (.if_icmp .ge 82, 3) := by decide +kernel
theorem dX2_tireAndRest_84 : decode cX2_tireAndRest 84 = .ok (.iload_n 2, 1) := by decide +kernel
theorem dX2_tireAndRest_85 : decode cX2_tireAndRest 85 = .ok (.iload_n 3, 1) := by decide +kernel
theorem dX2_tireAndRest_86 : decode cX2_tireAndRest 86 = .ok (.invokestatic 151, 3) := by decide +kernel
theorem dX2_tireAndRest_89 : decode cX2_tireAndRest 89 = .ok (.iand, 1) := by decide +kernel
theorem dX2_tireAndRest_90 : decode cX2_tireAndRest 90 = .ok (.ifCond .eq 27, 3) := by decide +kernel
theorem dX2_tireAndRest_93 : decode cX2_tireAndRest 93 = .ok (.aload_n 0, 1) := by decide +kernel
theorem dX2_tireAndRest_94 : decode cX2_tireAndRest 94 = .ok (.getfield 12, 3) := by decide +kernel
theorem dX2_tireAndRest_97 : decode cX2_tireAndRest 97 = .ok (.iload_n 3, 1) := by decide +kernel
theorem dX2_tireAndRest_98 : decode cX2_tireAndRest 98 = .ok (.aload_n 0, 1) := by decide +kernel
theorem dX2_tireAndRest_99 : decode cX2_tireAndRest 99 = .ok (.getfield 34, 3) := by decide +kernel
theorem dX2_tireAndRest_102 : decode cX2_tireAndRest 102 = .ok (.iconst 0, 1) := by decide +kernel
theorem dX2_tireAndRest_103 : decode cX2_tireAndRest 103 = .ok (.iaload, 1) := by decide +kernel
theorem dX2_tireAndRest_104 : decode cX2_tireAndRest 104 = .ok (.aload_n 0, 1) := by decide +kernel
theorem dX2_tireAndRest_105 : decode cX2_tireAndRest 105 = .ok (.getfield 34, 3) := by decide +kernel
theorem dX2_tireAndRest_108 : decode cX2_tireAndRest 108 = .ok (.iconst 1, 1) := by decide +kernel
theorem dX2_tireAndRest_109 : decode cX2_tireAndRest 109 = .ok (.iaload, 1) := by decide +kernel
theorem dX2_tireAndRest_110 : decode cX2_tireAndRest 110 = .ok (.iadd, 1) := by decide +kernel
theorem dX2_tireAndRest_111 : decode cX2_tireAndRest 111 = .ok (.invokevirtual 154, 3) := by decide +kernel
theorem dX2_tireAndRest_114 : decode cX2_tireAndRest 114 = .ok (.goto 43, 3) := by decide +kernel
theorem dX2_tireAndRest_117 : decode cX2_tireAndRest 117 = .ok (.iload_n 1, 1) := by decide +kernel
theorem dX2_tireAndRest_118 : decode cX2_tireAndRest 118 = .ok (.iload_n 3, 1) := by decide +kernel
theorem dX2_tireAndRest_119 : decode cX2_tireAndRest 119 = .ok (.invokestatic 151, 3) := by decide +kernel
theorem dX2_tireAndRest_122 : decode cX2_tireAndRest 122 = .ok (.iand, 1) := by decide +kernel
theorem dX2_tireAndRest_123 : decode cX2_tireAndRest 123 = .ok (.ifCond .eq 20, 3) := by decide +kernel
theorem dX2_tireAndRest_126 : decode cX2_tireAndRest 126 = .ok (.aload_n 0, 1) := by decide +kernel
theorem dX2_tireAndRest_127 : decode cX2_tireAndRest 127 = .ok (.getfield 12, 3) := by decide +kernel
theorem dX2_tireAndRest_130 : decode cX2_tireAndRest 130 = .ok (.iload_n 3, 1) := by decide +kernel
theorem dX2_tireAndRest_131 : decode cX2_tireAndRest 131 = .ok (.aload_n 0, 1) := by decide +kernel
theorem dX2_tireAndRest_132 : decode cX2_tireAndRest 132 = .ok (.getfield 34, 3) := by decide +kernel
theorem dX2_tireAndRest_135 : decode cX2_tireAndRest 135 = .ok (.iconst 0, 1) := by decide +kernel
theorem dX2_tireAndRest_136 : decode cX2_tireAndRest 136 = .ok (.iaload, 1) := by decide +kernel
theorem dX2_tireAndRest_137 : decode cX2_tireAndRest 137 = .ok (.invokevirtual 154, 3) := by decide +kernel
theorem dX2_tireAndRest_140 : decode cX2_tireAndRest 140 = .ok (.goto 17, 3) := by decide +kernel
theorem dX2_tireAndRest_143 : decode cX2_tireAndRest 143 = .ok (.aload_n 0, 1) := by decide +kernel
theorem dX2_tireAndRest_144 : decode cX2_tireAndRest 144 = .ok (.getfield 12, 3) := by decide +kernel
theorem dX2_tireAndRest_147 : decode cX2_tireAndRest 147 = .ok (.iload_n 3, 1) := by decide +kernel
theorem dX2_tireAndRest_148 : decode cX2_tireAndRest 148 = .ok (.aload_n 0, 1) := by decide +kernel
theorem dX2_tireAndRest_149 : decode cX2_tireAndRest 149 = .ok (.getfield 34, 3) := by decide +kernel
theorem dX2_tireAndRest_152 : decode cX2_tireAndRest 152 = .ok (.iconst 2, 1) := by decide +kernel
theorem dX2_tireAndRest_153 : decode cX2_tireAndRest 153 = .ok (.iaload, 1) := by decide +kernel
theorem dX2_tireAndRest_154 : decode cX2_tireAndRest 154 = .ok (.invokevirtual 157, 3) := by decide +kernel
theorem dX2_tireAndRest_157 : decode cX2_tireAndRest 157 = .ok (.iinc 3 1, 3) := by decide +kernel
theorem dX2_tireAndRest_160 : decode cX2_tireAndRest 160 = .ok (.goto (-87), 3) := by decide +kernel
theorem dX2_tireAndRest_163 : decode cX2_tireAndRest 163 = .ok (.return_, 1) := by decide +kernel
theorem dX2_adjournTired_0 : decode cX2_adjournTired 0 = .ok (.aload_n 0, 1) := by decide +kernel
theorem dX2_adjournTired_1 : decode cX2_adjournTired 1 = .ok (.getfield 12, 3) := by decide +kernel
theorem dX2_adjournTired_4 : decode cX2_adjournTired 4 = .ok (.aload_n 0, 1) := by decide +kernel
theorem dX2_adjournTired_5 : decode cX2_adjournTired 5 = .ok (.getfield 34, 3) := by decide +kernel
theorem dX2_adjournTired_8 : decode cX2_adjournTired 8 = .ok (.iconst 3, 1) := by decide +kernel
theorem dX2_adjournTired_9 : decode cX2_adjournTired 9 = .ok (.iaload, 1) := by decide +kernel
theorem dX2_adjournTired_10 : decode cX2_adjournTired 10 = .ok (.invokevirtual 160, 3) := by decide +kernel
theorem dX2_adjournTired_13 : decode cX2_adjournTired 13 = .ok (.istore_n 1, 1) := by decide +kernel
theorem dX2_adjournTired_14 : decode cX2_adjournTired 14 = .ok (.iconst 0, 1) := by decide +kernel
theorem dX2_adjournTired_15 : decode cX2_adjournTired 15 = .ok (.istore_n 2, 1) := by decide +kernel
theorem dX2_adjournTired_16 : decode cX2_adjournTired 16 = .ok (.iload_n 2, 1) := by decide +kernel
theorem dX2_adjournTired_17 : decode cX2_adjournTired 17 = .ok (.aload_n 0, 1) := by decide +kernel
theorem dX2_adjournTired_18 : decode cX2_adjournTired 18 = .ok (.getfield 21, 3) := by decide +kernel
theorem dX2_adjournTired_21 : decode cX2_adjournTired 21 = .ok (.getfield 135, 3) := by decide +kernel
theorem dX2_adjournTired_24 : decode cX2_adjournTired 24 = .ok (.if_icmp .ge 58, 3) := by decide +kernel
theorem dX2_adjournTired_27 : decode cX2_adjournTired 27 = .ok (.aload_n 0, 1) := by decide +kernel
theorem dX2_adjournTired_28 : decode cX2_adjournTired 28 = .ok (.getfield 21, 3) := by decide +kernel
theorem dX2_adjournTired_31 : decode cX2_adjournTired 31 = .ok (.iload_n 2, 1) := by decide +kernel
theorem dX2_adjournTired_32 : decode cX2_adjournTired 32 = .ok (.invokevirtual 66, 3) := by decide +kernel
theorem dX2_adjournTired_35 : decode cX2_adjournTired 35 = .ok (.ifCond .eq 41, 3) := by decide +kernel
theorem dX2_adjournTired_38 : decode cX2_adjournTired 38 = .ok (.aload_n 0, 1) := by decide +kernel
theorem dX2_adjournTired_39 : decode cX2_adjournTired 39 = .ok (.getfield 21, 3) := by decide +kernel
theorem dX2_adjournTired_42 : decode cX2_adjournTired 42 = .ok (.getfield 63, 3) := by decide +kernel
theorem dX2_adjournTired_45 : decode cX2_adjournTired 45 = .ok (.iload_n 2, 1) := by decide +kernel
theorem dX2_adjournTired_46 : decode cX2_adjournTired 46 = .ok (.iaload, 1) := by decide +kernel
theorem dX2_adjournTired_47 : decode cX2_adjournTired 47 = .ok (.aload_n 0, 1) := by decide +kernel
theorem dX2_adjournTired_48 : decode cX2_adjournTired 48 = .ok (.getfield 50, 3) := by decide +kernel
theorem dX2_adjournTired_51 : decode cX2_adjournTired 51 = .ok (.if_icmp .ne 25, 3) := by decide +kernel
theorem dX2_adjournTired_54 : decode cX2_adjournTired 54 = .ok (.aload_n 0, 1) := by decide +kernel
theorem dX2_adjournTired_55 : decode cX2_adjournTired 55 = .ok (.getfield 21, 3) := by decide +kernel
theorem dX2_adjournTired_58 : decode cX2_adjournTired 58 = .ok (.getfield 148, 3) := by decide +kernel
theorem dX2_adjournTired_61 : decode cX2_adjournTired 61 = .ok (.iload_n 2, 1) := by decide +kernel
theorem dX2_adjournTired_62 : decode cX2_adjournTired 62 = .ok (.iaload, 1) := by decide +kernel
theorem dX2_adjournTired_63 : decode cX2_adjournTired 63 = .ok (.iload_n 1, 1) := by decide +kernel
theorem dX2_adjournTired_64 : decode cX2_adjournTired 64 = .ok (.iand, 1) := by decide +kernel
theorem dX2_adjournTired_65 : decode cX2_adjournTired 65 = .ok (.ifCond .eq 11, 3) := by decide +kernel
theorem dX2_adjournTired_68 : decode cX2_adjournTired 68 = .ok (.aload_n 0, 1) := by decide +kernel
theorem dX2_adjournTired_69 : decode cX2_adjournTired 69 = .ok (.iload_n 2, 1) := by decide +kernel
theorem dX2_adjournTired_70 : decode cX2_adjournTired 70 = .ok (.iconst 2, 1) := by decide +kernel
theorem dX2_adjournTired_71 : decode cX2_adjournTired 71 = .ok (.iconst 1, 1) := by decide +kernel
theorem dX2_adjournTired_72 : decode cX2_adjournTired 72 = .ok (.invokevirtual 139, 3) := by decide +kernel
theorem dX2_adjournTired_75 : decode cX2_adjournTired 75 = .ok (.pop, 1) := by decide +kernel
theorem dX2_adjournTired_76 : decode cX2_adjournTired 76 = .ok (.iinc 2 1, 3) := by decide +kernel
theorem dX2_adjournTired_79 : decode cX2_adjournTired 79 = .ok (.goto (-63), 3) := by decide +kernel
theorem dX2_adjournTired_82 : decode cX2_adjournTired 82 = .ok (.return_, 1) := by decide +kernel
theorem dX2_working_0 : decode cX2_working 0 = .ok (.iconst 0, 1) := by decide +kernel
theorem dX2_working_1 : decode cX2_working 1 = .ok (.istore_n 1, 1) := by decide +kernel
theorem dX2_working_2 : decode cX2_working 2 = .ok (.iconst 0, 1) := by decide +kernel
theorem dX2_working_3 : decode cX2_working 3 = .ok (.istore_n 2, 1) := by decide +kernel
theorem dX2_working_4 : decode cX2_working 4 = .ok (.iload_n 2, 1) := by decide +kernel
theorem dX2_working_5 : decode cX2_working 5 = .ok (.aload_n 0, 1) := by decide +kernel
theorem dX2_working_6 : decode cX2_working 6 = .ok (.getfield 21, 3) := by decide +kernel
theorem dX2_working_9 : decode cX2_working 9 = .ok (.getfield 135, 3) := by decide +kernel
theorem dX2_working_12 : decode cX2_working 12 = .ok (.if_icmp .ge 29, 3) := by decide +kernel
theorem dX2_working_15 : decode cX2_working 15 = .ok (.aload_n 0, 1) := by decide +kernel
theorem dX2_working_16 : decode cX2_working 16 = .ok (.iload_n 2, 1) := by decide +kernel
theorem dX2_working_17 : decode cX2_working 17 = .ok (.invokevirtual 145, 3) := by decide +kernel
theorem dX2_working_20 : decode cX2_working 20 = .ok (.ifCond .eq 15, 3) := by decide +kernel
theorem dX2_working_23 : decode cX2_working 23 = .ok (.iload_n 1, 1) := by decide +kernel
theorem dX2_working_24 : decode cX2_working 24 = .ok (.aload_n 0, 1) := by decide +kernel
theorem dX2_working_25 : decode cX2_working 25 = .ok (.getfield 21, 3) := by decide +kernel
theorem dX2_working_28 : decode cX2_working 28 = .ok (.getfield 148, 3) := by decide +kernel
theorem dX2_working_31 : decode cX2_working 31 = .ok (.iload_n 2, 1) := by decide +kernel
theorem dX2_working_32 : decode cX2_working 32 = .ok (.iaload, 1) := by decide +kernel
theorem dX2_working_33 : decode cX2_working 33 = .ok (.ior, 1) := by decide +kernel
theorem dX2_working_34 : decode cX2_working 34 = .ok (.istore_n 1, 1) := by decide +kernel
theorem dX2_working_35 : decode cX2_working 35 = .ok (.iinc 2 1, 3) := by decide +kernel
theorem dX2_working_38 : decode cX2_working 38 = .ok (.goto (-34), 3) := by decide +kernel
theorem dX2_working_41 : decode cX2_working 41 = .ok (.iload_n 1, 1) := by decide +kernel
theorem dX2_working_42 : decode cX2_working 42 = .ok (.ireturn, 1) := by decide +kernel
theorem dX2_workplaceOf_0 : decode cX2_workplaceOf 0 = .ok (.iconst 0, 1) := by decide +kernel
theorem dX2_workplaceOf_1 : decode cX2_workplaceOf 1 = .ok (.istore_n 2, 1) := by decide +kernel
theorem dX2_workplaceOf_2 : decode cX2_workplaceOf 2 = .ok (.iload_n 2, 1) := by decide +kernel
theorem dX2_workplaceOf_3 : decode cX2_workplaceOf 3 = .ok (.aload_n 0, 1) := by decide +kernel
theorem dX2_workplaceOf_4 : decode cX2_workplaceOf 4 = .ok (.getfield 21, 3) := by decide +kernel
theorem dX2_workplaceOf_7 : decode cX2_workplaceOf 7 = .ok (.getfield 135, 3) := by decide +kernel
theorem dX2_workplaceOf_10 : decode cX2_workplaceOf 10 = .ok (.if_icmp .ge 31, 3) := by decide +kernel
theorem dX2_workplaceOf_13 : decode cX2_workplaceOf 13 = .ok (.aload_n 0, 1) := by decide +kernel
theorem dX2_workplaceOf_14 : decode cX2_workplaceOf 14 = .ok (.iload_n 2, 1) := by decide +kernel
theorem dX2_workplaceOf_15 : decode cX2_workplaceOf 15 = .ok (.invokevirtual 145, 3) := by decide +kernel
theorem dX2_workplaceOf_18 : decode cX2_workplaceOf 18 = .ok (.ifCond .eq 17, 3) := by decide +kernel
theorem dX2_workplaceOf_21 : decode cX2_workplaceOf 21 = .ok (.aload_n 0, 1) := by decide +kernel
theorem dX2_workplaceOf_22 : decode cX2_workplaceOf 22 = .ok (.getfield 21, 3) := by decide +kernel
theorem dX2_workplaceOf_25 : decode cX2_workplaceOf 25 = .ok (.iload_n 2, 1) := by decide +kernel
theorem dX2_workplaceOf_26 : decode cX2_workplaceOf 26 = .ok (.iload_n 1, 1) := by decide +kernel
theorem dX2_workplaceOf_27 : decode cX2_workplaceOf 27 = .ok (.invokevirtual 163, 3) := by decide +kernel
theorem dX2_workplaceOf_30 : decode cX2_workplaceOf 30 = .ok (.ifCond .eq 5, 3) := by decide +kernel
theorem dX2_workplaceOf_33 : decode cX2_workplaceOf 33 = .ok (.iload_n 2, 1) := by decide +kernel
theorem dX2_workplaceOf_34 : decode cX2_workplaceOf 34 = .ok (.ireturn, 1) := by decide +kernel
theorem dX2_workplaceOf_35 : decode cX2_workplaceOf 35 = .ok (.iinc 2 1, 3) := by decide +kernel
theorem dX2_workplaceOf_38 : decode cX2_workplaceOf 38 = .ok (.goto (-36), 3) := by decide +kernel
theorem dX2_workplaceOf_41 : decode cX2_workplaceOf 41 = .ok (.iconst (-1), 1) := by decide +kernel
theorem dX2_workplaceOf_42 : decode cX2_workplaceOf 42 = .ok (.ireturn, 1) := by decide +kernel
theorem dX2_ofInterpreter_0 : decode cX2_ofInterpreter 0 = .ok (.iload_n 2, 1) := by decide +kernel
theorem dX2_ofInterpreter_1 : decode cX2_ofInterpreter 1 = .ok (.tableswitch 122 0 7 #[47, 57, 67, 77, 87, 97, 106, 112], 47) := by decide +kernel
theorem dX2_ofInterpreter_48 : decode cX2_ofInterpreter 48 = .ok (.aload_n 0, 1) := by decide +kernel
theorem dX2_ofInterpreter_49 : decode cX2_ofInterpreter 49 = .ok (.getfield 12, 3) := by decide +kernel
theorem dX2_ofInterpreter_52 : decode cX2_ofInterpreter 52 = .ok (.getfield 167, 3) := by decide +kernel
theorem dX2_ofInterpreter_55 : decode cX2_ofInterpreter 55 = .ok (.iload_n 1, 1) := by decide +kernel
theorem dX2_ofInterpreter_56 : decode cX2_ofInterpreter 56 = .ok (.iaload, 1) := by decide +kernel
theorem dX2_ofInterpreter_57 : decode cX2_ofInterpreter 57 = .ok (.ireturn, 1) := by decide +kernel
theorem dX2_ofInterpreter_58 : decode cX2_ofInterpreter 58 = .ok (.aload_n 0, 1) := by decide +kernel
theorem dX2_ofInterpreter_59 : decode cX2_ofInterpreter 59 = .ok (.getfield 12, 3) := by decide +kernel
theorem dX2_ofInterpreter_62 : decode cX2_ofInterpreter 62 = .ok (.getfield 170, 3) := by decide +kernel
theorem dX2_ofInterpreter_65 : decode cX2_ofInterpreter 65 = .ok (.iload_n 1, 1) := by decide +kernel
theorem dX2_ofInterpreter_66 : decode cX2_ofInterpreter 66 = .ok (.iaload, 1) := by decide +kernel
theorem dX2_ofInterpreter_67 : decode cX2_ofInterpreter 67 = .ok (.ireturn, 1) := by decide +kernel
theorem dX2_ofInterpreter_68 : decode cX2_ofInterpreter 68 = .ok (.aload_n 0, 1) := by decide +kernel
theorem dX2_ofInterpreter_69 : decode cX2_ofInterpreter 69 = .ok (.getfield 12, 3) := by decide +kernel
theorem dX2_ofInterpreter_72 : decode cX2_ofInterpreter 72 = .ok (.getfield 97, 3) := by decide +kernel
theorem dX2_ofInterpreter_75 : decode cX2_ofInterpreter 75 = .ok (.iload_n 1, 1) := by decide +kernel
theorem dX2_ofInterpreter_76 : decode cX2_ofInterpreter 76 = .ok (.iaload, 1) := by decide +kernel
theorem dX2_ofInterpreter_77 : decode cX2_ofInterpreter 77 = .ok (.ireturn, 1) := by decide +kernel
theorem dX2_ofInterpreter_78 : decode cX2_ofInterpreter 78 = .ok (.aload_n 0, 1) := by decide +kernel
theorem dX2_ofInterpreter_79 : decode cX2_ofInterpreter 79 = .ok (.getfield 12, 3) := by decide +kernel
theorem dX2_ofInterpreter_82 : decode cX2_ofInterpreter 82 = .ok (.getfield 173, 3) := by decide +kernel
theorem dX2_ofInterpreter_85 : decode cX2_ofInterpreter 85 = .ok (.iload_n 1, 1) := by decide +kernel
theorem dX2_ofInterpreter_86 : decode cX2_ofInterpreter 86 = .ok (.iaload, 1) := by decide +kernel
theorem dX2_ofInterpreter_87 : decode cX2_ofInterpreter 87 = .ok (.ireturn, 1) := by decide +kernel
theorem dX2_ofInterpreter_88 : decode cX2_ofInterpreter 88 = .ok (.aload_n 0, 1) := by decide +kernel
theorem dX2_ofInterpreter_89 : decode cX2_ofInterpreter 89 = .ok (.getfield 12, 3) := by decide +kernel
theorem dX2_ofInterpreter_92 : decode cX2_ofInterpreter 92 = .ok (.getfield 176, 3) := by decide +kernel
theorem dX2_ofInterpreter_95 : decode cX2_ofInterpreter 95 = .ok (.iload_n 1, 1) := by decide +kernel
theorem dX2_ofInterpreter_96 : decode cX2_ofInterpreter 96 = .ok (.iaload, 1) := by decide +kernel
theorem dX2_ofInterpreter_97 : decode cX2_ofInterpreter 97 = .ok (.ireturn, 1) := by decide +kernel
theorem dX2_ofInterpreter_98 : decode cX2_ofInterpreter 98 = .ok (.aload_n 0, 1) := by decide +kernel
theorem dX2_ofInterpreter_99 : decode cX2_ofInterpreter 99 = .ok (.getfield 21, 3) := by decide +kernel
theorem dX2_ofInterpreter_102 : decode cX2_ofInterpreter 102 = .ok (.iload_n 1, 1) := by decide +kernel
theorem dX2_ofInterpreter_103 : decode cX2_ofInterpreter 103 = .ok (.invokevirtual 177, 3) := by decide +kernel
theorem dX2_ofInterpreter_106 : decode cX2_ofInterpreter 106 = .ok (.ireturn, 1) := by decide +kernel
theorem dX2_ofInterpreter_107 : decode cX2_ofInterpreter 107 = .ok (.aload_n 0, 1) := by decide +kernel
theorem dX2_ofInterpreter_108 : decode cX2_ofInterpreter 108 = .ok (.iload_n 1, 1) := by decide +kernel
theorem dX2_ofInterpreter_109 : decode cX2_ofInterpreter 109 = .ok (.invokevirtual 180, 3) := by decide +kernel
theorem dX2_ofInterpreter_112 : decode cX2_ofInterpreter 112 = .ok (.ireturn, 1) := by decide +kernel
theorem dX2_ofInterpreter_113 : decode cX2_ofInterpreter 113 = .ok (.aload_n 0, 1) := by decide +kernel
theorem dX2_ofInterpreter_114 : decode cX2_ofInterpreter 114 = .ok (.getfield 12, 3) := by decide +kernel
theorem dX2_ofInterpreter_117 : decode cX2_ofInterpreter 117 = .ok (.getfield 183, 3) := by decide +kernel
theorem dX2_ofInterpreter_120 : decode cX2_ofInterpreter 120 = .ok (.iload_n 1, 1) := by decide +kernel
theorem dX2_ofInterpreter_121 : decode cX2_ofInterpreter 121 = .ok (.iaload, 1) := by decide +kernel
theorem dX2_ofInterpreter_122 : decode cX2_ofInterpreter 122 = .ok (.ireturn, 1) := by decide +kernel
theorem dX2_ofInterpreter_123 : decode cX2_ofInterpreter 123 = .ok (.iconst (-1), 1) := by decide +kernel
theorem dX2_ofInterpreter_124 : decode cX2_ofInterpreter 124 = .ok (.ireturn, 1) := by decide +kernel
theorem dX2_ofHearing_0 : decode cX2_ofHearing 0 = .ok (.iload_n 2, 1) := by decide +kernel
theorem dX2_ofHearing_1 : decode cX2_ofHearing 1 = .ok (.tableswitch 194 0 11 #[63, 73, 83, 93, 103, 113, 123, 133, 143, 153, 160, 170], 63) := by decide +kernel
theorem dX2_ofHearing_64 : decode cX2_ofHearing 64 = .ok (.aload_n 0, 1) := by decide +kernel
theorem dX2_ofHearing_65 : decode cX2_ofHearing 65 = .ok (.getfield 21, 3) := by decide +kernel
theorem dX2_ofHearing_68 : decode cX2_ofHearing 68 = .ok (.getfield 84, 3) := by decide +kernel
theorem dX2_ofHearing_71 : decode cX2_ofHearing 71 = .ok (.iload_n 1, 1) := by decide +kernel
theorem dX2_ofHearing_72 : decode cX2_ofHearing 72 = .ok (.iaload, 1) := by decide +kernel
theorem dX2_ofHearing_73 : decode cX2_ofHearing 73 = .ok (.ireturn, 1) := by decide +kernel
theorem dX2_ofHearing_74 : decode cX2_ofHearing 74 = .ok (.aload_n 0, 1) := by decide +kernel
theorem dX2_ofHearing_75 : decode cX2_ofHearing 75 = .ok (.getfield 21, 3) := by decide +kernel
theorem dX2_ofHearing_78 : decode cX2_ofHearing 78 = .ok (.getfield 73, 3) := by decide +kernel
theorem dX2_ofHearing_81 : decode cX2_ofHearing 81 = .ok (.iload_n 1, 1) := by decide +kernel
theorem dX2_ofHearing_82 : decode cX2_ofHearing 82 = .ok (.iaload, 1) := by decide +kernel
theorem dX2_ofHearing_83 : decode cX2_ofHearing 83 = .ok (.ireturn, 1) := by decide +kernel
theorem dX2_ofHearing_84 : decode cX2_ofHearing 84 = .ok (.aload_n 0, 1) := by decide +kernel
theorem dX2_ofHearing_85 : decode cX2_ofHearing 85 = .ok (.getfield 21, 3) := by decide +kernel
theorem dX2_ofHearing_88 : decode cX2_ofHearing 88 = .ok (.getfield 63, 3) := by decide +kernel
theorem dX2_ofHearing_91 : decode cX2_ofHearing 91 = .ok (.iload_n 1, 1) := by decide +kernel
theorem dX2_ofHearing_92 : decode cX2_ofHearing 92 = .ok (.iaload, 1) := by decide +kernel
theorem dX2_ofHearing_93 : decode cX2_ofHearing 93 = .ok (.ireturn, 1) := by decide +kernel
theorem dX2_ofHearing_94 : decode cX2_ofHearing 94 = .ok (.aload_n 0, 1) := by decide +kernel
theorem dX2_ofHearing_95 : decode cX2_ofHearing 95 = .ok (.getfield 21, 3) := by decide +kernel
theorem dX2_ofHearing_98 : decode cX2_ofHearing 98 = .ok (.getfield 100, 3) := by decide +kernel
theorem dX2_ofHearing_101 : decode cX2_ofHearing 101 = .ok (.iload_n 1, 1) := by decide +kernel
theorem dX2_ofHearing_102 : decode cX2_ofHearing 102 = .ok (.iaload, 1) := by decide +kernel
theorem dX2_ofHearing_103 : decode cX2_ofHearing 103 = .ok (.ireturn, 1) := by decide +kernel
theorem dX2_ofHearing_104 : decode cX2_ofHearing 104 = .ok (.aload_n 0, 1) := by decide +kernel
theorem dX2_ofHearing_105 : decode cX2_ofHearing 105 = .ok (.getfield 21, 3) := by decide +kernel
theorem dX2_ofHearing_108 : decode cX2_ofHearing 108 = .ok (.getfield 127, 3) := by decide +kernel
theorem dX2_ofHearing_111 : decode cX2_ofHearing 111 = .ok (.iload_n 1, 1) := by decide +kernel
theorem dX2_ofHearing_112 : decode cX2_ofHearing 112 = .ok (.iaload, 1) := by decide +kernel
theorem dX2_ofHearing_113 : decode cX2_ofHearing 113 = .ok (.ireturn, 1) := by decide +kernel
theorem dX2_ofHearing_114 : decode cX2_ofHearing 114 = .ok (.aload_n 0, 1) := by decide +kernel
theorem dX2_ofHearing_115 : decode cX2_ofHearing 115 = .ok (.getfield 21, 3) := by decide +kernel
theorem dX2_ofHearing_118 : decode cX2_ofHearing 118 = .ok (.getfield 107, 3) := by decide +kernel
theorem dX2_ofHearing_121 : decode cX2_ofHearing 121 = .ok (.iload_n 1, 1) := by decide +kernel
theorem dX2_ofHearing_122 : decode cX2_ofHearing 122 = .ok (.iaload, 1) := by decide +kernel
theorem dX2_ofHearing_123 : decode cX2_ofHearing 123 = .ok (.ireturn, 1) := by decide +kernel
theorem dX2_ofHearing_124 : decode cX2_ofHearing 124 = .ok (.aload_n 0, 1) := by decide +kernel
theorem dX2_ofHearing_125 : decode cX2_ofHearing 125 = .ok (.getfield 21, 3) := by decide +kernel
theorem dX2_ofHearing_128 : decode cX2_ofHearing 128 = .ok (.iload_n 1, 1) := by decide +kernel
theorem dX2_ofHearing_129 : decode cX2_ofHearing 129 = .ok (.iconst 0, 1) := by decide +kernel
theorem dX2_ofHearing_130 : decode cX2_ofHearing 130 = .ok (.invokevirtual 103, 3) := by decide +kernel
theorem dX2_ofHearing_133 : decode cX2_ofHearing 133 = .ok (.ireturn, 1) := by decide +kernel
theorem dX2_ofHearing_134 : decode cX2_ofHearing 134 = .ok (.aload_n 0, 1) := by decide +kernel
theorem dX2_ofHearing_135 : decode cX2_ofHearing 135 = .ok (.getfield 21, 3) := by decide +kernel
theorem dX2_ofHearing_138 : decode cX2_ofHearing 138 = .ok (.iload_n 1, 1) := by decide +kernel
theorem dX2_ofHearing_139 : decode cX2_ofHearing 139 = .ok (.iconst 1, 1) := by decide +kernel
theorem dX2_ofHearing_140 : decode cX2_ofHearing 140 = .ok (.invokevirtual 103, 3) := by decide +kernel
theorem dX2_ofHearing_143 : decode cX2_ofHearing 143 = .ok (.ireturn, 1) := by decide +kernel
theorem dX2_ofHearing_144 : decode cX2_ofHearing 144 = .ok (.aload_n 0, 1) := by decide +kernel
theorem dX2_ofHearing_145 : decode cX2_ofHearing 145 = .ok (.getfield 21, 3) := by decide +kernel
theorem dX2_ofHearing_148 : decode cX2_ofHearing 148 = .ok (.iload_n 1, 1) := by decide +kernel
theorem dX2_ofHearing_149 : decode cX2_ofHearing 149 = .ok (.iconst 2, 1) := by decide +kernel
theorem dX2_ofHearing_150 : decode cX2_ofHearing 150 = .ok (.invokevirtual 103, 3) := by decide +kernel
theorem dX2_ofHearing_153 : decode cX2_ofHearing 153 = .ok (.ireturn, 1) := by decide +kernel
theorem dX2_ofHearing_154 : decode cX2_ofHearing 154 = .ok (.aload_n 0, 1) := by decide +kernel
theorem dX2_ofHearing_155 : decode cX2_ofHearing 155 = .ok (.iload_n 1, 1) := by decide +kernel
theorem dX2_ofHearing_156 : decode cX2_ofHearing 156 = .ok (.iconst 2, 1) := by decide +kernel
theorem dX2_ofHearing_157 : decode cX2_ofHearing 157 = .ok (.invokevirtual 120, 3) := by decide +kernel
theorem dX2_ofHearing_160 : decode cX2_ofHearing 160 = .ok (.ireturn, 1) := by decide +kernel
theorem dX2_ofHearing_161 : decode cX2_ofHearing 161 = .ok (.aload_n 0, 1) := by decide +kernel
theorem dX2_ofHearing_162 : decode cX2_ofHearing 162 = .ok (.getfield 21, 3) := by decide +kernel
theorem dX2_ofHearing_165 : decode cX2_ofHearing 165 = .ok (.getfield 130, 3) := by decide +kernel
theorem dX2_ofHearing_168 : decode cX2_ofHearing 168 = .ok (.iload_n 1, 1) := by decide +kernel
theorem dX2_ofHearing_169 : decode cX2_ofHearing 169 = .ok (.iaload, 1) := by decide +kernel
theorem dX2_ofHearing_170 : decode cX2_ofHearing 170 = .ok (.ireturn, 1) := by decide +kernel
theorem dX2_ofHearing_171 : decode cX2_ofHearing 171 = .ok (.aload_n 0, 1) := by decide +kernel
theorem dX2_ofHearing_172 : decode cX2_ofHearing 172 = .ok (.getfield 21, 3) := by decide +kernel
theorem dX2_ofHearing_175 : decode cX2_ofHearing 175 = .ok (.iload_n 1, 1) := by decide +kernel
theorem dX2_ofHearing_176 : decode cX2_ofHearing 176 = .ok (.invokevirtual 66, 3) := by decide +kernel
theorem dX2_ofHearing_179 : decode cX2_ofHearing 179 = .ok (.ifCond .eq 14, 3) := by decide +kernel
theorem dX2_ofHearing_182 : decode cX2_ofHearing 182 = .ok (.aload_n 0, 1) := by decide +kernel
theorem dX2_ofHearing_183 : decode cX2_ofHearing 183 = .ok (.getfield 21, 3) := by decide +kernel
theorem dX2_ofHearing_186 : decode cX2_ofHearing 186 = .ok (.iload_n 1, 1) := by decide +kernel
theorem dX2_ofHearing_187 : decode cX2_ofHearing 187 = .ok (.invokevirtual 186, 3) := by decide +kernel
theorem dX2_ofHearing_190 : decode cX2_ofHearing 190 = .ok (.goto 4, 3) := by decide +kernel
theorem dX2_ofHearing_193 : decode cX2_ofHearing 193 = .ok (.iconst 0, 1) := by decide +kernel
theorem dX2_ofHearing_194 : decode cX2_ofHearing 194 = .ok (.ireturn, 1) := by decide +kernel
theorem dX2_ofHearing_195 : decode cX2_ofHearing 195 = .ok (.iconst (-1), 1) := by decide +kernel
theorem dX2_ofHearing_196 : decode cX2_ofHearing 196 = .ok (.ireturn, 1) := by decide +kernel
theorem dX2_numberOf_0 : decode cX2_numberOf 0 = .ok (.iload_n 1, 1) := by decide +kernel
theorem dX2_numberOf_1 : decode cX2_numberOf 1 = .ok (.tableswitch 151 0 11 #[63, 71, 79, 84, 93, 101, 110, 119, 128, 133, 138, 143], 63) := by decide +kernel
theorem dX2_numberOf_64 : decode cX2_numberOf 64 = .ok (.aload_n 0, 1) := by decide +kernel
theorem dX2_numberOf_65 : decode cX2_numberOf 65 = .ok (.getfield 12, 3) := by decide +kernel
theorem dX2_numberOf_68 : decode cX2_numberOf 68 = .ok (.getfield 94, 3) := by decide +kernel
theorem dX2_numberOf_71 : decode cX2_numberOf 71 = .ok (.ireturn, 1) := by decide +kernel
theorem dX2_numberOf_72 : decode cX2_numberOf 72 = .ok (.aload_n 0, 1) := by decide +kernel
theorem dX2_numberOf_73 : decode cX2_numberOf 73 = .ok (.getfield 21, 3) := by decide +kernel
theorem dX2_numberOf_76 : decode cX2_numberOf 76 = .ok (.getfield 135, 3) := by decide +kernel
theorem dX2_numberOf_79 : decode cX2_numberOf 79 = .ok (.ireturn, 1) := by decide +kernel
theorem dX2_numberOf_80 : decode cX2_numberOf 80 = .ok (.aload_n 0, 1) := by decide +kernel
theorem dX2_numberOf_81 : decode cX2_numberOf 81 = .ok (.getfield 50, 3) := by decide +kernel
theorem dX2_numberOf_84 : decode cX2_numberOf 84 = .ok (.ireturn, 1) := by decide +kernel
theorem dX2_numberOf_85 : decode cX2_numberOf 85 = .ok (.aload_n 0, 1) := by decide +kernel
theorem dX2_numberOf_86 : decode cX2_numberOf 86 = .ok (.getfield 21, 3) := by decide +kernel
theorem dX2_numberOf_89 : decode cX2_numberOf 89 = .ok (.iconst 0, 1) := by decide +kernel
theorem dX2_numberOf_90 : decode cX2_numberOf 90 = .ok (.invokevirtual 189, 3) := by decide +kernel
theorem dX2_numberOf_93 : decode cX2_numberOf 93 = .ok (.ireturn, 1) := by decide +kernel
theorem dX2_numberOf_94 : decode cX2_numberOf 94 = .ok (.aload_n 0, 1) := by decide +kernel
theorem dX2_numberOf_95 : decode cX2_numberOf 95 = .ok (.getfield 21, 3) := by decide +kernel
theorem dX2_numberOf_98 : decode cX2_numberOf 98 = .ok (.invokevirtual 192, 3) := by decide +kernel
theorem dX2_numberOf_101 : decode cX2_numberOf 101 = .ok (.ireturn, 1) := by decide +kernel
theorem dX2_numberOf_102 : decode cX2_numberOf 102 = .ok (.aload_n 0, 1) := by decide +kernel
theorem dX2_numberOf_103 : decode cX2_numberOf 103 = .ok (.getfield 21, 3) := by decide +kernel
theorem dX2_numberOf_106 : decode cX2_numberOf 106 = .ok (.iconst 1, 1) := by decide +kernel
theorem dX2_numberOf_107 : decode cX2_numberOf 107 = .ok (.invokevirtual 189, 3) := by decide +kernel
theorem dX2_numberOf_110 : decode cX2_numberOf 110 = .ok (.ireturn, 1) := by decide +kernel
theorem dX2_numberOf_111 : decode cX2_numberOf 111 = .ok (.aload_n 0, 1) := by decide +kernel
theorem dX2_numberOf_112 : decode cX2_numberOf 112 = .ok (.getfield 21, 3) := by decide +kernel
theorem dX2_numberOf_115 : decode cX2_numberOf 115 = .ok (.iconst 2, 1) := by decide +kernel
theorem dX2_numberOf_116 : decode cX2_numberOf 116 = .ok (.invokevirtual 189, 3) := by decide +kernel
theorem dX2_numberOf_119 : decode cX2_numberOf 119 = .ok (.ireturn, 1) := by decide +kernel
theorem dX2_numberOf_120 : decode cX2_numberOf 120 = .ok (.aload_n 0, 1) := by decide +kernel
theorem dX2_numberOf_121 : decode cX2_numberOf 121 = .ok (.getfield 21, 3) := by decide +kernel
theorem dX2_numberOf_124 : decode cX2_numberOf 124 = .ok (.iconst 3, 1) := by decide +kernel
theorem dX2_numberOf_125 : decode cX2_numberOf 125 = .ok (.invokevirtual 189, 3) := by decide +kernel
theorem dX2_numberOf_128 : decode cX2_numberOf 128 = .ok (.ireturn, 1) := by decide +kernel
theorem dX2_numberOf_129 : decode cX2_numberOf 129 = .ok (.aload_n 0, 1) := by decide +kernel
theorem dX2_numberOf_130 : decode cX2_numberOf 130 = .ok (.getfield 54, 3) := by decide +kernel
theorem dX2_numberOf_133 : decode cX2_numberOf 133 = .ok (.ireturn, 1) := by decide +kernel
theorem dX2_numberOf_134 : decode cX2_numberOf 134 = .ok (.aload_n 0, 1) := by decide +kernel
theorem dX2_numberOf_135 : decode cX2_numberOf 135 = .ok (.getfield 57, 3) := by decide +kernel
theorem dX2_numberOf_138 : decode cX2_numberOf 138 = .ok (.ireturn, 1) := by decide +kernel
theorem dX2_numberOf_139 : decode cX2_numberOf 139 = .ok (.aload_n 0, 1) := by decide +kernel
theorem dX2_numberOf_140 : decode cX2_numberOf 140 = .ok (.getfield 60, 3) := by decide +kernel
theorem dX2_numberOf_143 : decode cX2_numberOf 143 = .ok (.ireturn, 1) := by decide +kernel
theorem dX2_numberOf_144 : decode cX2_numberOf 144 = .ok (.aload_n 0, 1) := by decide +kernel
theorem dX2_numberOf_145 : decode cX2_numberOf 145 = .ok (.invokevirtual 196, 3) := by decide +kernel
theorem dX2_numberOf_148 : decode cX2_numberOf 148 = .ok (.invokestatic 199, 3) := by decide +kernel
theorem dX2_numberOf_151 : decode cX2_numberOf 151 = .ok (.ireturn, 1) := by decide +kernel
theorem dX2_numberOf_152 : decode cX2_numberOf 152 = .ok (.iconst (-1), 1) := by decide +kernel
theorem dX2_numberOf_153 : decode cX2_numberOf 153 = .ok (.ireturn, 1) := by decide +kernel
theorem dX3_init_0 : decode cX3_init 0 = .ok (.aload_n 0, 1) := by decide +kernel
theorem dX3_init_1 : decode cX3_init 1 = .ok (.invokespecial 3, 3) := by decide +kernel
theorem dX3_init_4 : decode cX3_init 4 = .ok (.aload_n 0, 1) := by decide +kernel
theorem dX3_init_5 : decode cX3_init 5 = .ok (.bipush 30, 2) := by decide +kernel
theorem dX3_init_7 : decode cX3_init 7 = .ok (.newarray .int, 2) := by decide +kernel
theorem dX3_init_9 : decode cX3_init 9 = .ok (.putfield 9, 3) := by decide +kernel
theorem dX3_init_12 : decode cX3_init 12 = .ok (.aload_n 0, 1) := by decide +kernel
theorem dX3_init_13 : decode cX3_init 13 = .ok (.bipush 30, 2) := by decide +kernel
theorem dX3_init_15 : decode cX3_init 15 = .ok (.newarray .int, 2) := by decide +kernel
theorem dX3_init_17 : decode cX3_init 17 = .ok (.putfield 15, 3) := by decide +kernel
theorem dX3_init_20 : decode cX3_init 20 = .ok (.aload_n 0, 1) := by decide +kernel
theorem dX3_init_21 : decode cX3_init 21 = .ok (.bipush 30, 2) := by decide +kernel
theorem dX3_init_23 : decode cX3_init 23 = .ok (.newarray .int, 2) := by decide +kernel
theorem dX3_init_25 : decode cX3_init 25 = .ok (.putfield 18, 3) := by decide +kernel
theorem dX3_init_28 : decode cX3_init 28 = .ok (.aload_n 0, 1) := by decide +kernel
theorem dX3_init_29 : decode cX3_init 29 = .ok (.bipush 30, 2) := by decide +kernel
theorem dX3_init_31 : decode cX3_init 31 = .ok (.newarray .int, 2) := by decide +kernel
theorem dX3_init_33 : decode cX3_init 33 = .ok (.putfield 21, 3) := by decide +kernel
theorem dX3_init_36 : decode cX3_init 36 = .ok (.aload_n 0, 1) := by decide +kernel
theorem dX3_init_37 : decode cX3_init 37 = .ok (.bipush 30, 2) := by decide +kernel
theorem dX3_init_39 : decode cX3_init 39 = .ok (.newarray .int, 2) := by decide +kernel
theorem dX3_init_41 : decode cX3_init 41 = .ok (.putfield 24, 3) := by decide +kernel
theorem dX3_init_44 : decode cX3_init 44 = .ok (.aload_n 0, 1) := by decide +kernel
theorem dX3_init_45 : decode cX3_init 45 = .ok (.bipush 30, 2) := by decide +kernel
theorem dX3_init_47 : decode cX3_init 47 = .ok (.newarray .int, 2) := by decide +kernel
theorem dX3_init_49 : decode cX3_init 49 = .ok (.putfield 27, 3) := by decide +kernel
theorem dX3_init_52 : decode cX3_init 52 = .ok (.aload_n 0, 1) := by decide +kernel
theorem dX3_init_53 : decode cX3_init 53 = .ok (.bipush 30, 2) := by decide +kernel
theorem dX3_init_55 : decode cX3_init 55 = .ok (.newarray .int, 2) := by decide +kernel
theorem dX3_init_57 : decode cX3_init 57 = .ok (.putfield 30, 3) := by decide +kernel
theorem dX3_init_60 : decode cX3_init 60 = .ok (.aload_n 0, 1) := by decide +kernel
theorem dX3_init_61 : decode cX3_init 61 = .ok (.bipush 30, 2) := by decide +kernel
theorem dX3_init_63 : decode cX3_init 63 = .ok (.newarray .int, 2) := by decide +kernel
theorem dX3_init_65 : decode cX3_init 65 = .ok (.putfield 33, 3) := by decide +kernel
theorem dX3_init_68 : decode cX3_init 68 = .ok (.aload_n 0, 1) := by decide +kernel
theorem dX3_init_69 : decode cX3_init 69 = .ok (.bipush 90, 2) := by decide +kernel
theorem dX3_init_71 : decode cX3_init 71 = .ok (.newarray .int, 2) := by decide +kernel
theorem dX3_init_73 : decode cX3_init 73 = .ok (.putfield 36, 3) := by decide +kernel
theorem dX3_init_76 : decode cX3_init 76 = .ok (.return_, 1) := by decide +kernel
theorem dX3_copyFrom_0 : decode cX3_copyFrom 0 = .ok (.aload_n 0, 1) := by decide +kernel
theorem dX3_copyFrom_1 : decode cX3_copyFrom 1 = .ok (.aload_n 1, 1) := by decide +kernel
theorem dX3_copyFrom_2 : decode cX3_copyFrom 2 = .ok (.getfield 39, 3) := by decide +kernel
theorem dX3_copyFrom_5 : decode cX3_copyFrom 5 = .ok (.putfield 39, 3) := by decide +kernel
theorem dX3_copyFrom_8 : decode cX3_copyFrom 8 = .ok (.aload_n 1, 1) := by decide +kernel
theorem dX3_copyFrom_9 : decode cX3_copyFrom 9 = .ok (.getfield 9, 3) := by decide +kernel
theorem dX3_copyFrom_12 : decode cX3_copyFrom 12 = .ok (.iconst 0, 1) := by decide +kernel
theorem dX3_copyFrom_13 : decode cX3_copyFrom 13 = .ok (.aload_n 0, 1) := by decide +kernel
theorem dX3_copyFrom_14 : decode cX3_copyFrom 14 = .ok (.getfield 9, 3) := by decide +kernel
theorem dX3_copyFrom_17 : decode cX3_copyFrom 17 = .ok (.iconst 0, 1) := by decide +kernel
theorem dX3_copyFrom_18 : decode cX3_copyFrom 18 = .ok (.bipush 30, 2) := by decide +kernel
theorem dX3_copyFrom_20 : decode cX3_copyFrom 20 = .ok (.invokestatic 43, 3) := by decide +kernel
theorem dX3_copyFrom_23 : decode cX3_copyFrom 23 = .ok (.aload_n 1, 1) := by decide +kernel
theorem dX3_copyFrom_24 : decode cX3_copyFrom 24 = .ok (.getfield 15, 3) := by decide +kernel
theorem dX3_copyFrom_27 : decode cX3_copyFrom 27 = .ok (.iconst 0, 1) := by decide +kernel
theorem dX3_copyFrom_28 : decode cX3_copyFrom 28 = .ok (.aload_n 0, 1) := by decide +kernel
theorem dX3_copyFrom_29 : decode cX3_copyFrom 29 = .ok (.getfield 15, 3) := by decide +kernel
theorem dX3_copyFrom_32 : decode cX3_copyFrom 32 = .ok (.iconst 0, 1) := by decide +kernel
theorem dX3_copyFrom_33 : decode cX3_copyFrom 33 = .ok (.bipush 30, 2) := by decide +kernel
theorem dX3_copyFrom_35 : decode cX3_copyFrom 35 = .ok (.invokestatic 43, 3) := by decide +kernel
theorem dX3_copyFrom_38 : decode cX3_copyFrom 38 = .ok (.aload_n 1, 1) := by decide +kernel
theorem dX3_copyFrom_39 : decode cX3_copyFrom 39 = .ok (.getfield 18, 3) := by decide +kernel
theorem dX3_copyFrom_42 : decode cX3_copyFrom 42 = .ok (.iconst 0, 1) := by decide +kernel
theorem dX3_copyFrom_43 : decode cX3_copyFrom 43 = .ok (.aload_n 0, 1) := by decide +kernel
theorem dX3_copyFrom_44 : decode cX3_copyFrom 44 = .ok (.getfield 18, 3) := by decide +kernel
theorem dX3_copyFrom_47 : decode cX3_copyFrom 47 = .ok (.iconst 0, 1) := by decide +kernel
theorem dX3_copyFrom_48 : decode cX3_copyFrom 48 = .ok (.bipush 30, 2) := by decide +kernel
theorem dX3_copyFrom_50 : decode cX3_copyFrom 50 = .ok (.invokestatic 43, 3) := by decide +kernel
theorem dX3_copyFrom_53 : decode cX3_copyFrom 53 = .ok (.aload_n 1, 1) := by decide +kernel
theorem dX3_copyFrom_54 : decode cX3_copyFrom 54 = .ok (.getfield 21, 3) := by decide +kernel
theorem dX3_copyFrom_57 : decode cX3_copyFrom 57 = .ok (.iconst 0, 1) := by decide +kernel
theorem dX3_copyFrom_58 : decode cX3_copyFrom 58 = .ok (.aload_n 0, 1) := by decide +kernel
theorem dX3_copyFrom_59 : decode cX3_copyFrom 59 = .ok (.getfield 21, 3) := by decide +kernel
theorem dX3_copyFrom_62 : decode cX3_copyFrom 62 = .ok (.iconst 0, 1) := by decide +kernel
theorem dX3_copyFrom_63 : decode cX3_copyFrom 63 = .ok (.bipush 30, 2) := by decide +kernel
theorem dX3_copyFrom_65 : decode cX3_copyFrom 65 = .ok (.invokestatic 43, 3) := by decide +kernel
theorem dX3_copyFrom_68 : decode cX3_copyFrom 68 = .ok (.aload_n 1, 1) := by decide +kernel
theorem dX3_copyFrom_69 : decode cX3_copyFrom 69 = .ok (.getfield 24, 3) := by decide +kernel
theorem dX3_copyFrom_72 : decode cX3_copyFrom 72 = .ok (.iconst 0, 1) := by decide +kernel
theorem dX3_copyFrom_73 : decode cX3_copyFrom 73 = .ok (.aload_n 0, 1) := by decide +kernel
theorem dX3_copyFrom_74 : decode cX3_copyFrom 74 = .ok (.getfield 24, 3) := by decide +kernel
theorem dX3_copyFrom_77 : decode cX3_copyFrom 77 = .ok (.iconst 0, 1) := by decide +kernel
theorem dX3_copyFrom_78 : decode cX3_copyFrom 78 = .ok (.bipush 30, 2) := by decide +kernel
theorem dX3_copyFrom_80 : decode cX3_copyFrom 80 = .ok (.invokestatic 43, 3) := by decide +kernel
theorem dX3_copyFrom_83 : decode cX3_copyFrom 83 = .ok (.aload_n 1, 1) := by decide +kernel
theorem dX3_copyFrom_84 : decode cX3_copyFrom 84 = .ok (.getfield 27, 3) := by decide +kernel
theorem dX3_copyFrom_87 : decode cX3_copyFrom 87 = .ok (.iconst 0, 1) := by decide +kernel
theorem dX3_copyFrom_88 : decode cX3_copyFrom 88 = .ok (.aload_n 0, 1) := by decide +kernel
theorem dX3_copyFrom_89 : decode cX3_copyFrom 89 = .ok (.getfield 27, 3) := by decide +kernel
theorem dX3_copyFrom_92 : decode cX3_copyFrom 92 = .ok (.iconst 0, 1) := by decide +kernel
theorem dX3_copyFrom_93 : decode cX3_copyFrom 93 = .ok (.bipush 30, 2) := by decide +kernel
theorem dX3_copyFrom_95 : decode cX3_copyFrom 95 = .ok (.invokestatic 43, 3) := by decide +kernel
theorem dX3_copyFrom_98 : decode cX3_copyFrom 98 = .ok (.aload_n 1, 1) := by decide +kernel
theorem dX3_copyFrom_99 : decode cX3_copyFrom 99 = .ok (.getfield 30, 3) := by decide +kernel
theorem dX3_copyFrom_102 : decode cX3_copyFrom 102 = .ok (.iconst 0, 1) := by decide +kernel
theorem dX3_copyFrom_103 : decode cX3_copyFrom 103 = .ok (.aload_n 0, 1) := by decide +kernel
theorem dX3_copyFrom_104 : decode cX3_copyFrom 104 = .ok (.getfield 30, 3) := by decide +kernel
theorem dX3_copyFrom_107 : decode cX3_copyFrom 107 = .ok (.iconst 0, 1) := by decide +kernel
theorem dX3_copyFrom_108 : decode cX3_copyFrom 108 = .ok (.bipush 30, 2) := by decide +kernel
theorem dX3_copyFrom_110 : decode cX3_copyFrom 110 = .ok (.invokestatic 43, 3) := by decide +kernel
theorem dX3_copyFrom_113 : decode cX3_copyFrom 113 = .ok (.aload_n 1, 1) := by decide +kernel
theorem dX3_copyFrom_114 : decode cX3_copyFrom 114 = .ok (.getfield 33, 3) := by decide +kernel
theorem dX3_copyFrom_117 : decode cX3_copyFrom 117 = .ok (.iconst 0, 1) := by decide +kernel
theorem dX3_copyFrom_118 : decode cX3_copyFrom 118 = .ok (.aload_n 0, 1) := by decide +kernel
theorem dX3_copyFrom_119 : decode cX3_copyFrom 119 = .ok (.getfield 33, 3) := by decide +kernel
theorem dX3_copyFrom_122 : decode cX3_copyFrom 122 = .ok (.iconst 0, 1) := by decide +kernel
theorem dX3_copyFrom_123 : decode cX3_copyFrom 123 = .ok (.bipush 30, 2) := by decide +kernel
theorem dX3_copyFrom_125 : decode cX3_copyFrom 125 = .ok (.invokestatic 43, 3) := by decide +kernel
theorem dX3_copyFrom_128 : decode cX3_copyFrom 128 = .ok (.aload_n 1, 1) := by decide +kernel
theorem dX3_copyFrom_129 : decode cX3_copyFrom 129 = .ok (.getfield 36, 3) := by decide +kernel
theorem dX3_copyFrom_132 : decode cX3_copyFrom 132 = .ok (.iconst 0, 1) := by decide +kernel
theorem dX3_copyFrom_133 : decode cX3_copyFrom 133 = .ok (.aload_n 0, 1) := by decide +kernel
theorem dX3_copyFrom_134 : decode cX3_copyFrom 134 = .ok (.getfield 36, 3) := by decide +kernel
theorem dX3_copyFrom_137 : decode cX3_copyFrom 137 = .ok (.iconst 0, 1) := by decide +kernel
theorem dX3_copyFrom_138 : decode cX3_copyFrom 138 = .ok (.bipush 90, 2) := by decide +kernel
theorem dX3_copyFrom_140 : decode cX3_copyFrom 140 = .ok (.invokestatic 43, 3) := by decide +kernel
theorem dX3_copyFrom_143 : decode cX3_copyFrom 143 = .ok (.return_, 1) := by decide +kernel
theorem dX3_has_0 : decode cX3_has 0 = .ok (.iload_n 1, 1) := by decide +kernel
theorem dX3_has_1 : decode cX3_has 1 = .ok (.ifCond .lt 15, 3) := by decide +kernel
theorem dX3_has_4 : decode cX3_has 4 = .ok (.iload_n 1, 1) := by decide +kernel
theorem dX3_has_5 : decode cX3_has 5 = .ok (.aload_n 0, 1) := by decide +kernel
theorem dX3_has_6 : decode cX3_has 6 = .ok (.getfield 39, 3) := by decide +kernel
theorem dX3_has_9 : decode cX3_has 9 = .ok (.if_icmp .ge 7, 3) := by decide +kernel
theorem dX3_has_12 : decode cX3_has 12 = .ok (.iconst 1, 1) := by decide +kernel
theorem dX3_has_13 : decode cX3_has 13 = .ok (.goto 4, 3) := by decide +kernel
theorem dX3_has_16 : decode cX3_has 16 = .ok (.iconst 0, 1) := by decide +kernel
theorem dX3_has_17 : decode cX3_has 17 = .ok (.ireturn, 1) := by decide +kernel
theorem dX3_enter_0 : decode cX3_enter 0 = .ok (.aload_n 0, 1) := by decide +kernel
theorem dX3_enter_1 : decode cX3_enter 1 = .ok (.getfield 39, 3) := by decide +kernel
theorem dX3_enter_4 : decode cX3_enter 4 = .ok (.bipush 30, 2) := by decide +kernel
theorem dX3_enter_6 : decode cX3_enter 6 = .ok (.if_icmp .lt 5, 3) := by decide +kernel
theorem dX3_enter_9 : decode cX3_enter 9 = .ok (.iconst (-1), 1) := by decide +kernel
theorem dX3_enter_10 : decode cX3_enter 10 = .ok (.ireturn, 1) := by decide +kernel
theorem dX3_enter_11 : decode cX3_enter 11 = .ok (.aload_n 0, 1) := by decide +kernel
theorem dX3_enter_12 : decode cX3_enter 12 = .ok (.getfield 9, 3) := by decide +kernel
theorem dX3_enter_15 : decode cX3_enter 15 = .ok (.aload_n 0, 1) := by decide +kernel
theorem dX3_enter_16 : decode cX3_enter 16 = .ok (.getfield 39, 3) := by decide +kernel
theorem dX3_enter_19 : decode cX3_enter 19 = .ok (.iload_n 1, 1) := by decide +kernel
theorem dX3_enter_20 : decode cX3_enter 20 = .ok (.iastore, 1) := by decide +kernel
theorem dX3_enter_21 : decode cX3_enter 21 = .ok (.aload_n 0, 1) := by decide +kernel
theorem dX3_enter_22 : decode cX3_enter 22 = .ok (.getfield 15, 3) := by decide +kernel
theorem dX3_enter_25 : decode cX3_enter 25 = .ok (.aload_n 0, 1) := by decide +kernel
theorem dX3_enter_26 : decode cX3_enter 26 = .ok (.getfield 39, 3) := by decide +kernel
theorem dX3_enter_29 : decode cX3_enter 29 = .ok (.iload_n 2, 1) := by decide +kernel
theorem dX3_enter_30 : decode cX3_enter 30 = .ok (.iastore, 1) := by decide +kernel
theorem dX3_enter_31 : decode cX3_enter 31 = .ok (.aload_n 0, 1) := by decide +kernel
theorem dX3_enter_32 : decode cX3_enter 32 = .ok (.getfield 18, 3) := by decide +kernel
theorem dX3_enter_35 : decode cX3_enter 35 = .ok (.aload_n 0, 1) := by decide +kernel
theorem dX3_enter_36 : decode cX3_enter 36 = .ok (.getfield 39, 3) := by decide +kernel
theorem dX3_enter_39 : decode cX3_enter 39 = .ok (.iload_n 3, 1) := by decide +kernel
theorem dX3_enter_40 : decode cX3_enter 40 = .ok (.iastore, 1) := by decide +kernel
theorem dX3_enter_41 : decode cX3_enter 41 = .ok (.aload_n 0, 1) := by decide +kernel
theorem dX3_enter_42 : decode cX3_enter 42 = .ok (.getfield 21, 3) := by decide +kernel
theorem dX3_enter_45 : decode cX3_enter 45 = .ok (.aload_n 0, 1) := by decide +kernel
theorem dX3_enter_46 : decode cX3_enter 46 = .ok (.getfield 39, 3) := by decide +kernel
theorem dX3_enter_49 : decode cX3_enter 49 = .ok (.iload 4, 2) := by decide +kernel
theorem dX3_enter_51 : decode cX3_enter 51 = .ok (.iastore, 1) := by decide +kernel
theorem dX3_enter_52 : decode cX3_enter 52 = .ok (.aload_n 0, 1) := by decide +kernel
theorem dX3_enter_53 : decode cX3_enter 53 = .ok (.getfield 24, 3) := by decide +kernel
theorem dX3_enter_56 : decode cX3_enter 56 = .ok (.aload_n 0, 1) := by decide +kernel
theorem dX3_enter_57 : decode cX3_enter 57 = .ok (.getfield 39, 3) := by decide +kernel
theorem dX3_enter_60 : decode cX3_enter 60 = .ok (.iconst 0, 1) := by decide +kernel
theorem dX3_enter_61 : decode cX3_enter 61 = .ok (.iastore, 1) := by decide +kernel
theorem dX3_enter_62 : decode cX3_enter 62 = .ok (.aload_n 0, 1) := by decide +kernel
theorem dX3_enter_63 : decode cX3_enter 63 = .ok (.getfield 30, 3) := by decide +kernel
theorem dX3_enter_66 : decode cX3_enter 66 = .ok (.aload_n 0, 1) := by decide +kernel
theorem dX3_enter_67 : decode cX3_enter 67 = .ok (.getfield 39, 3) := by decide +kernel
theorem dX3_enter_70 : decode cX3_enter 70 = .ok (.iconst 0, 1) := by decide +kernel
theorem dX3_enter_71 : decode cX3_enter 71 = .ok (.iastore, 1) := by decide +kernel
theorem dX3_enter_72 : decode cX3_enter 72 = .ok (.aload_n 0, 1) := by decide +kernel
theorem dX3_enter_73 : decode cX3_enter 73 = .ok (.dup, 1) := by decide +kernel
theorem dX3_enter_74 : decode cX3_enter 74 = .ok (.getfield 39, 3) := by decide +kernel
theorem dX3_enter_77 : decode cX3_enter 77 = .ok (.iconst 1, 1) := by decide +kernel
theorem dX3_enter_78 : decode cX3_enter 78 = .ok (.iadd, 1) := by decide +kernel
theorem dX3_enter_79 : decode cX3_enter 79 = .ok (.putfield 39, 3) := by decide +kernel
theorem dX3_enter_82 : decode cX3_enter 82 = .ok (.aload_n 0, 1) := by decide +kernel
theorem dX3_enter_83 : decode cX3_enter 83 = .ok (.aload_n 0, 1) := by decide +kernel
theorem dX3_enter_84 : decode cX3_enter 84 = .ok (.getfield 39, 3) := by decide +kernel
theorem dX3_enter_87 : decode cX3_enter 87 = .ok (.iconst 1, 1) := by decide +kernel
theorem dX3_enter_88 : decode cX3_enter 88 = .ok (.isub, 1) := by decide +kernel
theorem dX3_enter_89 : decode cX3_enter 89 = .ok (.iconst (-1), 1) := by decide +kernel
theorem dX3_enter_90 : decode cX3_enter 90 = .ok (.iconst (-1), 1) := by decide +kernel
theorem dX3_enter_91 : decode cX3_enter 91 = .ok (.iconst (-1), 1) := by decide +kernel
theorem dX3_enter_92 : decode cX3_enter 92 = .ok (.invokevirtual 49, 3) := by decide +kernel
theorem dX3_enter_95 : decode cX3_enter 95 = .ok (.aload_n 0, 1) := by decide +kernel
theorem dX3_enter_96 : decode cX3_enter 96 = .ok (.getfield 39, 3) := by decide +kernel
theorem dX3_enter_99 : decode cX3_enter 99 = .ok (.iconst 1, 1) := by decide +kernel
theorem dX3_enter_100 : decode cX3_enter 100 = .ok (.isub, 1) := by decide +kernel
theorem dX3_enter_101 : decode cX3_enter 101 = .ok (.ireturn, 1) := by decide +kernel
theorem dX3_isListed_0 : decode cX3_isListed 0 = .ok (.aload_n 0, 1) := by decide +kernel
theorem dX3_isListed_1 : decode cX3_isListed 1 = .ok (.getfield 24, 3) := by decide +kernel
theorem dX3_isListed_4 : decode cX3_isListed 4 = .ok (.iload_n 1, 1) := by decide +kernel
theorem dX3_isListed_5 : decode cX3_isListed 5 = .ok (.iaload, 1) := by decide +kernel
theorem dX3_isListed_6 : decode cX3_isListed 6 = .ok (.ifCond .ne 7, 3) := by decide +kernel
theorem dX3_isListed_9 : decode cX3_isListed 9 = .ok (.iconst 1, 1) := by decide +kernel
theorem dX3_isListed_10 : decode cX3_isListed 10 = .ok (.goto 4, 3) := by decide +kernel
theorem dX3_isListed_13 : decode cX3_isListed 13 = .ok (.iconst 0, 1) := by decide +kernel
theorem dX3_isListed_14 : decode cX3_isListed 14 = .ok (.ireturn, 1) := by decide +kernel
theorem dX3_end_0 : decode cX3_end 0 = .ok (.aload_n 0, 1) := by decide +kernel
theorem dX3_end_1 : decode cX3_end 1 = .ok (.getfield 18, 3) := by decide +kernel
theorem dX3_end_4 : decode cX3_end 4 = .ok (.iload_n 1, 1) := by decide +kernel
theorem dX3_end_5 : decode cX3_end 5 = .ok (.iaload, 1) := by decide +kernel
theorem dX3_end_6 : decode cX3_end 6 = .ok (.aload_n 0, 1) := by decide +kernel
theorem dX3_end_7 : decode cX3_end 7 = .ok (.getfield 21, 3) := by decide +kernel
theorem dX3_end_10 : decode cX3_end 10 = .ok (.iload_n 1, 1) := by decide +kernel
theorem dX3_end_11 : decode cX3_end 11 = .ok (.iaload, 1) := by decide +kernel
theorem dX3_end_12 : decode cX3_end 12 = .ok (.iadd, 1) := by decide +kernel
theorem dX3_end_13 : decode cX3_end 13 = .ok (.ireturn, 1) := by decide +kernel
theorem dX3_member_0 : decode cX3_member 0 = .ok (.iload_n 1, 1) := by decide +kernel
theorem dX3_member_1 : decode cX3_member 1 = .ok (.ifCond .lt 20, 3) := by decide +kernel
theorem dX3_member_4 : decode cX3_member 4 = .ok (.iload_n 1, 1) := by decide +kernel
theorem dX3_member_5 : decode cX3_member 5 = .ok (.aload_n 0, 1) := by decide +kernel
theorem dX3_member_6 : decode cX3_member 6 = .ok (.getfield 39, 3) := by decide +kernel
theorem dX3_member_9 : decode cX3_member 9 = .ok (.if_icmp .ge 12, 3) := by decide +kernel
theorem dX3_member_12 : decode cX3_member 12 = .ok (.iload_n 2, 1) := by decide +kernel
theorem dX3_member_13 : decode cX3_member 13 = .ok (.ifCond .lt 8, 3) := by decide +kernel
theorem dX3_member_16 : decode cX3_member 16 = .ok (.iload_n 2, 1) := by decide +kernel
theorem dX3_member_17 : decode cX3_member 17 = .ok (.iconst 3, 1) := by decide +kernel
theorem dX3_member_18 : decode cX3_member 18 = .ok (.if_icmp .lt 5, 3) := by decide +kernel
theorem dX3_member_21 : decode cX3_member 21 = .ok (.iconst (-1), 1) := by decide +kernel
theorem dX3_member_22 : decode cX3_member 22 = .ok (.ireturn, 1) := by decide +kernel
theorem dX3_member_23 : decode cX3_member 23 = .ok (.aload_n 0, 1) := by decide +kernel
theorem dX3_member_24 : decode cX3_member 24 = .ok (.getfield 36, 3) := by decide +kernel
theorem dX3_member_27 : decode cX3_member 27 = .ok (.iload_n 1, 1) := by decide +kernel
theorem dX3_member_28 : decode cX3_member 28 = .ok (.iconst 3, 1) := by decide +kernel
theorem dX3_member_29 : decode cX3_member 29 = .ok (.imul, 1) := by decide +kernel
theorem dX3_member_30 : decode cX3_member 30 = .ok (.iload_n 2, 1) := by decide +kernel
theorem dX3_member_31 : decode cX3_member 31 = .ok (.iadd, 1) := by decide +kernel
theorem dX3_member_32 : decode cX3_member 32 = .ok (.iaload, 1) := by decide +kernel
theorem dX3_member_33 : decode cX3_member 33 = .ok (.ireturn, 1) := by decide +kernel
theorem dX3_holds_0 : decode cX3_holds 0 = .ok (.aload_n 0, 1) := by decide +kernel
theorem dX3_holds_1 : decode cX3_holds 1 = .ok (.getfield 33, 3) := by decide +kernel
theorem dX3_holds_4 : decode cX3_holds 4 = .ok (.iload_n 1, 1) := by decide +kernel
theorem dX3_holds_5 : decode cX3_holds 5 = .ok (.iaload, 1) := by decide +kernel
theorem dX3_holds_6 : decode cX3_holds 6 = .ok (.iload_n 2, 1) := by decide +kernel
theorem dX3_holds_7 : decode cX3_holds 7 = .ok (.invokestatic 53, 3) := by decide +kernel
theorem dX3_holds_10 : decode cX3_holds 10 = .ok (.iand, 1) := by decide +kernel
theorem dX3_holds_11 : decode cX3_holds 11 = .ok (.ifCond .eq 7, 3) := by decide +kernel
theorem dX3_holds_14 : decode cX3_holds 14 = .ok (.iconst 1, 1) := by decide +kernel
theorem dX3_holds_15 : decode cX3_holds 15 = .ok (.goto 4, 3) := by decide +kernel
theorem dX3_holds_18 : decode cX3_holds 18 = .ok (.iconst 0, 1) := by decide +kernel
theorem dX3_holds_19 : decode cX3_holds 19 = .ok (.ireturn, 1) := by decide +kernel
theorem dX3_giveChain_0 : decode cX3_giveChain 0 = .ok (.aload_n 0, 1) := by decide +kernel
theorem dX3_giveChain_1 : decode cX3_giveChain 1 = .ok (.iload_n 1, 1) := by decide +kernel
theorem dX3_giveChain_2 : decode cX3_giveChain 2 = .ok (.invokevirtual 57, 3) := by decide +kernel
theorem dX3_giveChain_5 : decode cX3_giveChain 5 = .ok (.ifCond .ne 4, 3) := by decide +kernel
theorem dX3_giveChain_8 : decode cX3_giveChain 8 = .ok (.return_, 1) := by decide +kernel
theorem dX3_giveChain_9 : decode cX3_giveChain 9 = .ok (.aload_n 0, 1) := by decide +kernel
theorem dX3_giveChain_10 : decode cX3_giveChain 10 = .ok (.getfield 36, 3) := by decide +kernel
theorem dX3_giveChain_13 : decode cX3_giveChain 13 = .ok (.iload_n 1, 1) := by decide +kernel
theorem dX3_giveChain_14 : decode cX3_giveChain 14 = .ok (.iconst 3, 1) := by decide +kernel
theorem dX3_giveChain_15 : decode cX3_giveChain 15 = .ok (.imul, 1) := by decide +kernel
theorem dX3_giveChain_16 : decode cX3_giveChain 16 = .ok (.iload_n 2, 1) := by decide +kernel
theorem dX3_giveChain_17 : decode cX3_giveChain 17 = .ok (.iastore, 1) := by decide +kernel
theorem dX3_giveChain_18 : decode cX3_giveChain 18 = .ok (.aload_n 0, 1) := by decide +kernel
theorem dX3_giveChain_19 : decode cX3_giveChain 19 = .ok (.getfield 36, 3) := by decide +kernel
theorem dX3_giveChain_22 : decode cX3_giveChain 22 = .ok (.iload_n 1, 1) := by decide +kernel
theorem dX3_giveChain_23 : decode cX3_giveChain 23 = .ok (.iconst 3, 1) := by decide +kernel
theorem dX3_giveChain_24 : decode cX3_giveChain 24 = .ok (.imul, 1) := by decide +kernel
theorem dX3_giveChain_25 : decode cX3_giveChain 25 = .ok (.iconst 1, 1) := by decide +kernel
theorem dX3_giveChain_26 : decode cX3_giveChain 26 = .ok (.iadd, 1) := by decide +kernel
theorem dX3_giveChain_27 : decode cX3_giveChain 27 = .ok (.iload_n 3, 1) := by decide +kernel
theorem dX3_giveChain_28 : decode cX3_giveChain 28 = .ok (.iastore, 1) := by decide +kernel
theorem dX3_giveChain_29 : decode cX3_giveChain 29 = .ok (.aload_n 0, 1) := by decide +kernel
theorem dX3_giveChain_30 : decode cX3_giveChain 30 = .ok (.getfield 36, 3) := by decide +kernel
theorem dX3_giveChain_33 : decode cX3_giveChain 33 = .ok (.iload_n 1, 1) := by decide +kernel
theorem dX3_giveChain_34 : decode cX3_giveChain 34 = .ok (.iconst 3, 1) := by decide +kernel
theorem dX3_giveChain_35 : decode cX3_giveChain 35 = .ok (.imul, 1) := by decide +kernel
theorem dX3_giveChain_36 : decode cX3_giveChain 36 = .ok (.iconst 2, 1) := by decide +kernel
theorem dX3_giveChain_37 : decode cX3_giveChain 37 = .ok (.iadd, 1) := by decide +kernel
theorem dX3_giveChain_38 : decode cX3_giveChain 38 = .ok (.iload 4, 2) := by decide +kernel
theorem dX3_giveChain_40 : decode cX3_giveChain 40 = .ok (.iastore, 1) := by decide +kernel
theorem dX3_giveChain_41 : decode cX3_giveChain 41 = .ok (.aload_n 0, 1) := by decide +kernel
theorem dX3_giveChain_42 : decode cX3_giveChain 42 = .ok (.getfield 33, 3) := by decide +kernel
theorem dX3_giveChain_45 : decode cX3_giveChain 45 = .ok (.iload_n 1, 1) := by decide +kernel
theorem dX3_giveChain_46 : decode cX3_giveChain 46 = .ok (.iload_n 2, 1) := by decide +kernel
theorem dX3_giveChain_47 : decode cX3_giveChain 47 = .ok (.iload_n 3, 1) := by decide +kernel
theorem dX3_giveChain_48 : decode cX3_giveChain 48 = .ok (.iload 4, 2) := by decide +kernel
theorem dX3_giveChain_50 : decode cX3_giveChain 50 = .ok (.invokestatic 61, 3) := by decide +kernel
theorem dX3_giveChain_53 : decode cX3_giveChain 53 = .ok (.iastore, 1) := by decide +kernel
theorem dX3_giveChain_54 : decode cX3_giveChain 54 = .ok (.aload_n 0, 1) := by decide +kernel
theorem dX3_giveChain_55 : decode cX3_giveChain 55 = .ok (.getfield 27, 3) := by decide +kernel
theorem dX3_giveChain_58 : decode cX3_giveChain 58 = .ok (.iload_n 1, 1) := by decide +kernel
theorem dX3_giveChain_59 : decode cX3_giveChain 59 = .ok (.aload_n 0, 1) := by decide +kernel
theorem dX3_giveChain_60 : decode cX3_giveChain 60 = .ok (.getfield 33, 3) := by decide +kernel
theorem dX3_giveChain_63 : decode cX3_giveChain 63 = .ok (.iload_n 1, 1) := by decide +kernel
theorem dX3_giveChain_64 : decode cX3_giveChain 64 = .ok (.iaload, 1) := by decide +kernel
theorem dX3_giveChain_65 : decode cX3_giveChain 65 = .ok (.invokestatic 65, 3) := by decide +kernel
theorem dX3_giveChain_68 : decode cX3_giveChain 68 = .ok (.iastore, 1) := by decide +kernel
theorem dX3_giveChain_69 : decode cX3_giveChain 69 = .ok (.return_, 1) := by decide +kernel
theorem dX3_listedAndClashing_0 : decode cX3_listedAndClashing 0 = .ok (.iload_n 1, 1) := by decide +kernel
theorem dX3_listedAndClashing_1 : decode cX3_listedAndClashing 1 = .ok (.iload_n 2, 1) := by decide +kernel
theorem dX3_listedAndClashing_2 : decode cX3_listedAndClashing 2 = .ok (.if_icmp .eq 43, 3) := by decide +kernel
theorem dX3_listedAndClashing_5 : decode cX3_listedAndClashing 5 = .ok (.aload_n 0, 1) := by decide +kernel
theorem dX3_listedAndClashing_6 : decode cX3_listedAndClashing 6 = .ok (.iload_n 1, 1) := by decide +kernel
theorem dX3_listedAndClashing_7 : decode cX3_listedAndClashing 7 = .ok (.invokevirtual 70, 3) := by decide +kernel
theorem dX3_listedAndClashing_10 : decode cX3_listedAndClashing 10 = .ok (.ifCond .eq 35, 3) := by decide +kernel
theorem dX3_listedAndClashing_13 : decode cX3_listedAndClashing 13 = .ok (.aload_n 0, 1) := by decide +kernel
theorem dX3_listedAndClashing_14 : decode cX3_listedAndClashing 14 = .ok (.getfield 18, 3) := by decide +kernel
theorem dX3_listedAndClashing_17 : decode cX3_listedAndClashing 17 = .ok (.iload_n 1, 1) := by decide +kernel
theorem dX3_listedAndClashing_18 : decode cX3_listedAndClashing 18 = .ok (.iaload, 1) := by decide +kernel
theorem dX3_listedAndClashing_19 : decode cX3_listedAndClashing 19 = .ok (.aload_n 0, 1) := by decide +kernel
theorem dX3_listedAndClashing_20 : decode cX3_listedAndClashing 20 = .ok (.iload_n 2, 1) := by decide +kernel
theorem dX3_listedAndClashing_21 : decode cX3_listedAndClashing 21 = .ok (.invokevirtual 73, 3) := by decide +kernel
theorem dX3_listedAndClashing_24 : decode cX3_listedAndClashing 24 = .ok (.if_icmp .ge 21, 3) := by decide +kernel
theorem dX3_listedAndClashing_27 : decode cX3_listedAndClashing 27 = .ok (.aload_n 0, 1) := by decide +kernel
theorem dX3_listedAndClashing_28 : decode cX3_listedAndClashing 28 = .ok (.getfield 18, 3) := by decide +kernel
theorem dX3_listedAndClashing_31 : decode cX3_listedAndClashing 31 = .ok (.iload_n 2, 1) := by decide +kernel
theorem dX3_listedAndClashing_32 : decode cX3_listedAndClashing 32 = .ok (.iaload, 1) := by decide +kernel
theorem dX3_listedAndClashing_33 : decode cX3_listedAndClashing 33 = .ok (.aload_n 0, 1) := by decide +kernel
theorem dX3_listedAndClashing_34 : decode cX3_listedAndClashing 34 = .ok (.iload_n 1, 1) := by decide +kernel
theorem dX3_listedAndClashing_35 : decode cX3_listedAndClashing 35 = .ok (.invokevirtual 73, 3) := by decide +kernel
theorem dX3_listedAndClashing_38 : decode cX3_listedAndClashing 38 = .ok (.if_icmp .ge 7, 3) := by decide +kernel
theorem dX3_listedAndClashing_41 : decode cX3_listedAndClashing 41 = .ok (.iconst 1, 1) := by decide +kernel
theorem dX3_listedAndClashing_42 : decode cX3_listedAndClashing 42 = .ok (.goto 4, 3) := by decide +kernel
theorem dX3_listedAndClashing_45 : decode cX3_listedAndClashing 45 = .ok (.iconst 0, 1) := by decide +kernel
theorem dX3_listedAndClashing_46 : decode cX3_listedAndClashing 46 = .ok (.ireturn, 1) := by decide +kernel
theorem dX3_busyFor_0 : decode cX3_busyFor 0 = .ok (.iconst 0, 1) := by decide +kernel
theorem dX3_busyFor_1 : decode cX3_busyFor 1 = .ok (.istore_n 2, 1) := by decide +kernel
theorem dX3_busyFor_2 : decode cX3_busyFor 2 = .ok (.iconst 0, 1) := by decide +kernel
theorem dX3_busyFor_3 : decode cX3_busyFor 3 = .ok (.istore_n 3, 1) := by decide +kernel
theorem dX3_busyFor_4 : decode cX3_busyFor 4 = .ok (.iload_n 3, 1) := by decide +kernel
theorem dX3_busyFor_5 : decode cX3_busyFor 5 = .ok (.aload_n 0, 1) := by decide +kernel
theorem dX3_busyFor_6 : decode cX3_busyFor 6 = .ok (.getfield 39, 3) := by decide +kernel
theorem dX3_busyFor_9 : decode cX3_busyFor 9 = .ok (.if_icmp .ge 27, 3) := by decide +kernel
theorem dX3_busyFor_12 : decode cX3_busyFor 12 = .ok (.aload_n 0, 1) := by decide +kernel
theorem dX3_busyFor_13 : decode cX3_busyFor 13 = .ok (.iload_n 3, 1) := by decide +kernel
theorem dX3_busyFor_14 : decode cX3_busyFor 14 = .ok (.iload_n 1, 1) := by decide +kernel
theorem dX3_busyFor_15 : decode cX3_busyFor 15 = .ok (.invokevirtual 76, 3) := by decide +kernel
theorem dX3_busyFor_18 : decode cX3_busyFor 18 = .ok (.ifCond .eq 12, 3) := by decide +kernel
theorem dX3_busyFor_21 : decode cX3_busyFor 21 = .ok (.iload_n 2, 1) := by decide +kernel
theorem dX3_busyFor_22 : decode cX3_busyFor 22 = .ok (.aload_n 0, 1) := by decide +kernel
theorem dX3_busyFor_23 : decode cX3_busyFor 23 = .ok (.getfield 33, 3) := by decide +kernel
theorem dX3_busyFor_26 : decode cX3_busyFor 26 = .ok (.iload_n 3, 1) := by decide +kernel
theorem dX3_busyFor_27 : decode cX3_busyFor 27 = .ok (.iaload, 1) := by decide +kernel
theorem dX3_busyFor_28 : decode cX3_busyFor 28 = .ok (.ior, 1) := by decide +kernel
theorem dX3_busyFor_29 : decode cX3_busyFor 29 = .ok (.istore_n 2, 1) := by decide +kernel
theorem dX3_busyFor_30 : decode cX3_busyFor 30 = .ok (.iinc 3 1, 3) := by decide +kernel
theorem dX3_busyFor_33 : decode cX3_busyFor 33 = .ok (.goto (-29), 3) := by decide +kernel
theorem dX3_busyFor_36 : decode cX3_busyFor 36 = .ok (.iload_n 2, 1) := by decide +kernel
theorem dX3_busyFor_37 : decode cX3_busyFor 37 = .ok (.ireturn, 1) := by decide +kernel
theorem dX3_clashesOf_0 : decode cX3_clashesOf 0 = .ok (.iconst 0, 1) := by decide +kernel
theorem dX3_clashesOf_1 : decode cX3_clashesOf 1 = .ok (.istore_n 2, 1) := by decide +kernel
theorem dX3_clashesOf_2 : decode cX3_clashesOf 2 = .ok (.iconst 0, 1) := by decide +kernel
theorem dX3_clashesOf_3 : decode cX3_clashesOf 3 = .ok (.istore_n 3, 1) := by decide +kernel
theorem dX3_clashesOf_4 : decode cX3_clashesOf 4 = .ok (.iload_n 3, 1) := by decide +kernel
theorem dX3_clashesOf_5 : decode cX3_clashesOf 5 = .ok (.aload_n 0, 1) := by decide +kernel
theorem dX3_clashesOf_6 : decode cX3_clashesOf 6 = .ok (.getfield 39, 3) := by decide +kernel
theorem dX3_clashesOf_9 : decode cX3_clashesOf 9 = .ok (.if_icmp .ge 21, 3) := by decide +kernel
theorem dX3_clashesOf_12 : decode cX3_clashesOf 12 = .ok (.aload_n 0, 1) := by decide +kernel
theorem dX3_clashesOf_13 : decode cX3_clashesOf 13 = .ok (.iload_n 3, 1) := by decide +kernel
theorem dX3_clashesOf_14 : decode cX3_clashesOf 14 = .ok (.iload_n 1, 1) := by decide +kernel
theorem dX3_clashesOf_15 : decode cX3_clashesOf 15 = .ok (.invokevirtual 76, 3) := by decide +kernel
theorem dX3_clashesOf_18 : decode cX3_clashesOf 18 = .ok (.ifCond .eq 6, 3) := by decide +kernel
theorem dX3_clashesOf_21 : decode cX3_clashesOf 21 = .ok (.iinc 2 1, 3) := by decide +kernel
theorem dX3_clashesOf_24 : decode cX3_clashesOf 24 = .ok (.iinc 3 1, 3) := by decide +kernel
theorem dX3_clashesOf_27 : decode cX3_clashesOf 27 = .ok (.goto (-23), 3) := by decide +kernel
theorem dX3_clashesOf_30 : decode cX3_clashesOf 30 = .ok (.iload_n 2, 1) := by decide +kernel
theorem dX3_clashesOf_31 : decode cX3_clashesOf 31 = .ok (.ireturn, 1) := by decide +kernel
theorem dX3_listedWith_0 : decode cX3_listedWith 0 = .ok (.iconst 0, 1) := by decide +kernel
theorem dX3_listedWith_1 : decode cX3_listedWith 1 = .ok (.istore_n 2, 1) := by decide +kernel
theorem dX3_listedWith_2 : decode cX3_listedWith 2 = .ok (.iconst 0, 1) := by decide +kernel
theorem dX3_listedWith_3 : decode cX3_listedWith 3 = .ok (.istore_n 3, 1) := by decide +kernel
theorem dX3_listedWith_4 : decode cX3_listedWith 4 = .ok (.iload_n 3, 1) := by decide +kernel
theorem dX3_listedWith_5 : decode cX3_listedWith 5 = .ok (.aload_n 0, 1) := by decide +kernel
theorem dX3_listedWith_6 : decode cX3_listedWith 6 = .ok (.getfield 39, 3) := by decide +kernel
theorem dX3_listedWith_9 : decode cX3_listedWith 9 = .ok (.if_icmp .ge 29, 3) := by decide +kernel
theorem dX3_listedWith_12 : decode cX3_listedWith 12 = .ok (.aload_n 0, 1) := by decide +kernel
theorem dX3_listedWith_13 : decode cX3_listedWith 13 = .ok (.iload_n 3, 1) := by decide +kernel
theorem dX3_listedWith_14 : decode cX3_listedWith 14 = .ok (.invokevirtual 70, 3) := by decide +kernel
theorem dX3_listedWith_17 : decode cX3_listedWith 17 = .ok (.ifCond .eq 15, 3) := by decide +kernel
theorem dX3_listedWith_20 : decode cX3_listedWith 20 = .ok (.aload_n 0, 1) := by decide +kernel
theorem dX3_listedWith_21 : decode cX3_listedWith 21 = .ok (.iload_n 3, 1) := by decide +kernel
theorem dX3_listedWith_22 : decode cX3_listedWith 22 = .ok (.iload_n 1, 1) := by decide +kernel
theorem dX3_listedWith_23 : decode cX3_listedWith 23 = .ok (.invokevirtual 80, 3) := by decide +kernel
theorem dX3_listedWith_26 : decode cX3_listedWith 26 = .ok (.ifCond .eq 6, 3) := by decide +kernel
theorem dX3_listedWith_29 : decode cX3_listedWith 29 = .ok (.iinc 2 1, 3) := by decide +kernel
theorem dX3_listedWith_32 : decode cX3_listedWith 32 = .ok (.iinc 3 1, 3) := by decide +kernel
theorem dX3_listedWith_35 : decode cX3_listedWith 35 = .ok (.goto (-31), 3) := by decide +kernel
theorem dX3_listedWith_38 : decode cX3_listedWith 38 = .ok (.iload_n 2, 1) := by decide +kernel
theorem dX3_listedWith_39 : decode cX3_listedWith 39 = .ok (.ireturn, 1) := by decide +kernel
theorem dX3_countStage_0 : decode cX3_countStage 0 = .ok (.iconst 0, 1) := by decide +kernel
theorem dX3_countStage_1 : decode cX3_countStage 1 = .ok (.istore_n 2, 1) := by decide +kernel
theorem dX3_countStage_2 : decode cX3_countStage 2 = .ok (.iconst 0, 1) := by decide +kernel
theorem dX3_countStage_3 : decode cX3_countStage 3 = .ok (.istore_n 3, 1) := by decide +kernel
theorem dX3_countStage_4 : decode cX3_countStage 4 = .ok (.iload_n 3, 1) := by decide +kernel
theorem dX3_countStage_5 : decode cX3_countStage 5 = .ok (.aload_n 0, 1) := by decide +kernel
theorem dX3_countStage_6 : decode cX3_countStage 6 = .ok (.getfield 39, 3) := by decide +kernel
theorem dX3_countStage_9 : decode cX3_countStage 9 = .ok (.if_icmp .ge 22, 3) := by decide +kernel
theorem dX3_countStage_12 : decode cX3_countStage 12 = .ok (.aload_n 0, 1) := by decide +kernel
theorem dX3_countStage_13 : decode cX3_countStage 13 = .ok (.getfield 24, 3) := by decide +kernel
theorem dX3_countStage_16 : decode cX3_countStage 16 = .ok (.iload_n 3, 1) := by decide +kernel
theorem dX3_countStage_17 : decode cX3_countStage 17 = .ok (.iaload, 1) := by decide +kernel
theorem dX3_countStage_18 : decode cX3_countStage 18 = .ok (.iload_n 1, 1) := by decide +kernel
theorem dX3_countStage_19 : decode cX3_countStage 19 = .ok (.if_icmp .ne 6, 3) := by decide +kernel
theorem dX3_countStage_22 : decode cX3_countStage 22 = .ok (.iinc 2 1, 3) := by decide +kernel
theorem dX3_countStage_25 : decode cX3_countStage 25 = .ok (.iinc 3 1, 3) := by decide +kernel
theorem dX3_countStage_28 : decode cX3_countStage 28 = .ok (.goto (-24), 3) := by decide +kernel
theorem dX3_countStage_31 : decode cX3_countStage 31 = .ok (.iload_n 2, 1) := by decide +kernel
theorem dX3_countStage_32 : decode cX3_countStage 32 = .ok (.ireturn, 1) := by decide +kernel
theorem dX3_countListedManned_0 : decode cX3_countListedManned 0 = .ok (.iconst 0, 1) := by decide +kernel
theorem dX3_countListedManned_1 : decode cX3_countListedManned 1 = .ok (.istore_n 1, 1) := by decide +kernel
theorem dX3_countListedManned_2 : decode cX3_countListedManned 2 = .ok (.iconst 0, 1) := by decide +kernel
theorem dX3_countListedManned_3 : decode cX3_countListedManned 3 = .ok (.istore_n 2, 1) := by decide +kernel
theorem dX3_countListedManned_4 : decode cX3_countListedManned 4 = .ok (.iload_n 2, 1) := by decide +kernel
theorem dX3_countListedManned_5 : decode cX3_countListedManned 5 = .ok (.aload_n 0, 1) := by decide +kernel
theorem dX3_countListedManned_6 : decode cX3_countListedManned 6 = .ok (.getfield 39, 3) := by decide +kernel
theorem dX3_countListedManned_9 : decode cX3_countListedManned 9 = .ok (.if_icmp .ge 29, 3) := by decide +kernel
theorem dX3_countListedManned_12 : decode cX3_countListedManned 12 = .ok (.aload_n 0, 1) := by decide +kernel
theorem dX3_countListedManned_13 : decode cX3_countListedManned 13 = .ok (.iload_n 2, 1) := by decide +kernel
theorem dX3_countListedManned_14 : decode cX3_countListedManned 14 = .ok (.invokevirtual 70, 3) := by decide +kernel
theorem dX3_countListedManned_17 : decode cX3_countListedManned 17 = .ok (.ifCond .eq 15, 3) := by decide +kernel
theorem dX3_countListedManned_20 : decode cX3_countListedManned 20 = .ok (.aload_n 0, 1) := by decide +kernel
theorem dX3_countListedManned_21 : decode cX3_countListedManned 21 = .ok (.getfield 27, 3) := by decide +kernel
theorem dX3_countListedManned_24 : decode cX3_countListedManned 24 = .ok (.iload_n 2, 1) := by decide +kernel
theorem dX3_countListedManned_25 : decode cX3_countListedManned 25 = .ok (.iaload, 1) := by decide +kernel
theorem dX3_countListedManned_26 : decode cX3_countListedManned 26 = .ok (.ifCond .le 6, 3) := by decide +kernel
theorem dX3_countListedManned_29 : decode cX3_countListedManned 29 = .ok (.iinc 1 1, 3) := by decide +kernel
theorem dX3_countListedManned_32 : decode cX3_countListedManned 32 = .ok (.iinc 2 1, 3) := by decide +kernel
theorem dX3_countListedManned_35 : decode cX3_countListedManned 35 = .ok (.goto (-31), 3) := by decide +kernel
theorem dX3_countListedManned_38 : decode cX3_countListedManned 38 = .ok (.iload_n 1, 1) := by decide +kernel
theorem dX3_countListedManned_39 : decode cX3_countListedManned 39 = .ok (.ireturn, 1) := by decide +kernel
theorem dX4_init_0 : decode cX4_init 0 = .ok (.aload_n 0, 1) := by decide +kernel
theorem dX4_init_1 : decode cX4_init 1 = .ok (.invokespecial 3, 3) := by decide +kernel
theorem dX4_init_4 : decode cX4_init 4 = .ok (.aload_n 0, 1) := by decide +kernel
theorem dX4_init_5 : decode cX4_init 5 = .ok (.bipush 6, 2) := by decide +kernel
theorem dX4_init_7 : decode cX4_init 7 = .ok (.anewarray 9, 3) := by decide +kernel
theorem dX4_init_10 : decode cX4_init 10 = .ok (.putfield 11, 3) := by decide +kernel
theorem dX4_init_13 : decode cX4_init 13 = .ok (.iconst 0, 1) := by decide +kernel
theorem dX4_init_14 : decode cX4_init 14 = .ok (.istore_n 1, 1) := by decide +kernel
theorem dX4_init_15 : decode cX4_init 15 = .ok (.iload_n 1, 1) := by decide +kernel
theorem dX4_init_16 : decode cX4_init 16 = .ok (.bipush 6, 2) := by decide +kernel
theorem dX4_init_18 : decode cX4_init 18 = .ok (.if_icmp .ge 22, 3) := by decide +kernel
theorem dX4_init_21 : decode cX4_init 21 = .ok (.aload_n 0, 1) := by decide +kernel
theorem dX4_init_22 : decode cX4_init 22 = .ok (.getfield 11, 3) := by decide +kernel
theorem dX4_init_25 : decode cX4_init 25 = .ok (.iload_n 1, 1) := by decide +kernel
theorem dX4_init_26 : decode cX4_init 26 = .ok (.new 9, 3) := by decide +kernel
theorem dX4_init_29 : decode cX4_init 29 = .ok (.dup, 1) := by decide +kernel
theorem dX4_init_30 : decode cX4_init 30 = .ok (.invokespecial 17, 3) := by decide +kernel
theorem dX4_init_33 : decode cX4_init 33 = .ok (.aastore, 1) := by decide +kernel
theorem dX4_init_34 : decode cX4_init 34 = .ok (.iinc 1 1, 3) := by decide +kernel
theorem dX4_init_37 : decode cX4_init 37 = .ok (.goto (-22), 3) := by decide +kernel
theorem dX4_init_40 : decode cX4_init 40 = .ok (.return_, 1) := by decide +kernel
theorem dX4_save_0 : decode cX4_save 0 = .ok (.aload_n 0, 1) := by decide +kernel
theorem dX4_save_1 : decode cX4_save 1 = .ok (.getfield 11, 3) := by decide +kernel
theorem dX4_save_4 : decode cX4_save 4 = .ok (.aload_n 0, 1) := by decide +kernel
theorem dX4_save_5 : decode cX4_save 5 = .ok (.getfield 18, 3) := by decide +kernel
theorem dX4_save_8 : decode cX4_save 8 = .ok (.aload_n 0, 1) := by decide +kernel
theorem dX4_save_9 : decode cX4_save 9 = .ok (.getfield 22, 3) := by decide +kernel
theorem dX4_save_12 : decode cX4_save 12 = .ok (.iadd, 1) := by decide +kernel
theorem dX4_save_13 : decode cX4_save 13 = .ok (.bipush 6, 2) := by decide +kernel
theorem dX4_save_15 : decode cX4_save 15 = .ok (.irem, 1) := by decide +kernel
theorem dX4_save_16 : decode cX4_save 16 = .ok (.aaload, 1) := by decide +kernel
theorem dX4_save_17 : decode cX4_save 17 = .ok (.astore_n 2, 1) := by decide +kernel
theorem dX4_save_18 : decode cX4_save 18 = .ok (.aload_n 2, 1) := by decide +kernel
theorem dX4_save_19 : decode cX4_save 19 = .ok (.ifnonnull 4, 3) := by decide +kernel
theorem dX4_save_22 : decode cX4_save 22 = .ok (.return_, 1) := by decide +kernel
theorem dX4_save_23 : decode cX4_save 23 = .ok (.aload_n 2, 1) := by decide +kernel
theorem dX4_save_24 : decode cX4_save 24 = .ok (.aload_n 1, 1) := by decide +kernel
theorem dX4_save_25 : decode cX4_save 25 = .ok (.invokevirtual 25, 3) := by decide +kernel
theorem dX4_save_28 : decode cX4_save 28 = .ok (.aload_n 0, 1) := by decide +kernel
theorem dX4_save_29 : decode cX4_save 29 = .ok (.getfield 22, 3) := by decide +kernel
theorem dX4_save_32 : decode cX4_save 32 = .ok (.bipush 6, 2) := by decide +kernel
theorem dX4_save_34 : decode cX4_save 34 = .ok (.if_icmp .ge 16, 3) := by decide +kernel
theorem dX4_save_37 : decode cX4_save 37 = .ok (.aload_n 0, 1) := by decide +kernel
theorem dX4_save_38 : decode cX4_save 38 = .ok (.dup, 1) := by decide +kernel
theorem dX4_save_39 : decode cX4_save 39 = .ok (.getfield 22, 3) := by decide +kernel
theorem dX4_save_42 : decode cX4_save 42 = .ok (.iconst 1, 1) := by decide +kernel
theorem dX4_save_43 : decode cX4_save 43 = .ok (.iadd, 1) := by decide +kernel
theorem dX4_save_44 : decode cX4_save 44 = .ok (.putfield 22, 3) := by decide +kernel
theorem dX4_save_47 : decode cX4_save 47 = .ok (.goto 16, 3) := by decide +kernel
theorem dX4_save_50 : decode cX4_save 50 = .ok (.aload_n 0, 1) := by decide +kernel
theorem dX4_save_51 : decode cX4_save 51 = .ok (.aload_n 0, 1) := by decide +kernel
theorem dX4_save_52 : decode cX4_save 52 = .ok (.getfield 18, 3) := by decide +kernel
theorem dX4_save_55 : decode cX4_save 55 = .ok (.iconst 1, 1) := by decide +kernel
theorem dX4_save_56 : decode cX4_save 56 = .ok (.iadd, 1) := by decide +kernel
theorem dX4_save_57 : decode cX4_save 57 = .ok (.bipush 6, 2) := by decide +kernel
theorem dX4_save_59 : decode cX4_save 59 = .ok (.irem, 1) := by decide +kernel
theorem dX4_save_60 : decode cX4_save 60 = .ok (.putfield 18, 3) := by decide +kernel
theorem dX4_save_63 : decode cX4_save 63 = .ok (.return_, 1) := by decide +kernel
theorem dX4_restore_0 : decode cX4_restore 0 = .ok (.aload_n 0, 1) := by decide +kernel
theorem dX4_restore_1 : decode cX4_restore 1 = .ok (.getfield 22, 3) := by decide +kernel
theorem dX4_restore_4 : decode cX4_restore 4 = .ok (.ifCond .ne 4, 3) := by decide +kernel
theorem dX4_restore_7 : decode cX4_restore 7 = .ok (.return_, 1) := by decide +kernel
theorem dX4_restore_8 : decode cX4_restore 8 = .ok (.aload_n 0, 1) := by decide +kernel
theorem dX4_restore_9 : decode cX4_restore 9 = .ok (.getfield 11, 3) := by decide +kernel
theorem dX4_restore_12 : decode cX4_restore 12 = .ok (.aload_n 0, 1) := by decide +kernel
theorem dX4_restore_13 : decode cX4_restore 13 = .ok (.getfield 18, 3) := by decide +kernel
theorem dX4_restore_16 : decode cX4_restore 16 = .ok (.aload_n 0, 1) := by decide +kernel
theorem dX4_restore_17 : decode cX4_restore 17 = .ok (.getfield 22, 3) := by decide +kernel
theorem dX4_restore_20 : decode cX4_restore 20 = .ok (.iadd, 1) := by decide +kernel
theorem dX4_restore_21 : decode cX4_restore 21 = .ok (.iconst 1, 1) := by decide +kernel
theorem dX4_restore_22 : decode cX4_restore 22 = .ok (.isub, 1) := by decide +kernel
theorem dX4_restore_23 : decode cX4_restore 23 = .ok (.bipush 6, 2) := by decide +kernel
theorem dX4_restore_25 : decode cX4_restore 25 = .ok (.irem, 1) := by decide +kernel
theorem dX4_restore_26 : decode cX4_restore 26 = .ok (.aaload, 1) := by decide +kernel
theorem dX4_restore_27 : decode cX4_restore 27 = .ok (.astore_n 2, 1) := by decide +kernel
theorem dX4_restore_28 : decode cX4_restore 28 = .ok (.aload_n 2, 1) := by decide +kernel
theorem dX4_restore_29 : decode cX4_restore 29 = .ok (.ifnull 18, 3) := by decide +kernel
theorem dX4_restore_32 : decode cX4_restore 32 = .ok (.aload_n 1, 1) := by decide +kernel
theorem dX4_restore_33 : decode cX4_restore 33 = .ok (.aload_n 2, 1) := by decide +kernel
theorem dX4_restore_34 : decode cX4_restore 34 = .ok (.invokevirtual 25, 3) := by decide +kernel
theorem dX4_restore_37 : decode cX4_restore 37 = .ok (.aload_n 0, 1) := by decide +kernel
theorem dX4_restore_38 : decode cX4_restore 38 = .ok (.dup, 1) := by decide +kernel
theorem dX4_restore_39 : decode cX4_restore 39 = .ok (.getfield 22, 3) := by decide +kernel
theorem dX4_restore_42 : decode cX4_restore 42 = .ok (.iconst 1, 1) := by decide +kernel
theorem dX4_restore_43 : decode cX4_restore 43 = .ok (.isub, 1) := by decide +kernel
theorem dX4_restore_44 : decode cX4_restore 44 = .ok (.putfield 22, 3) := by decide +kernel
theorem dX4_restore_47 : decode cX4_restore 47 = .ok (.return_, 1) := by decide +kernel
theorem dX5_init_0 : decode cX5_init 0 = .ok (.aload_n 0, 1) := by decide +kernel
theorem dX5_init_1 : decode cX5_init 1 = .ok (.invokespecial 3, 3) := by decide +kernel
theorem dX5_init_4 : decode cX5_init 4 = .ok (.return_, 1) := by decide +kernel
theorem dX5_read_0 : decode cX5_read 0 = .ok (.aload_n 0, 1) := by decide +kernel
theorem dX5_read_1 : decode cX5_read 1 = .ok (.invokevirtual 9, 3) := by decide +kernel
theorem dX5_read_4 : decode cX5_read 4 = .ok (.iconst 0, 1) := by decide +kernel
theorem dX5_read_5 : decode cX5_read 5 = .ok (.istore_n 2, 1) := by decide +kernel
theorem dX5_read_6 : decode cX5_read 6 = .ok (.iload_n 2, 1) := by decide +kernel
theorem dX5_read_7 : decode cX5_read 7 = .ok (.aload_n 1, 1) := by decide +kernel
theorem dX5_read_8 : decode cX5_read 8 = .ok (.getfield 14, 3) := by decide +kernel
theorem dX5_read_11 : decode cX5_read 11 = .ok (.if_icmp .ge 23, 3) := by decide +kernel
theorem dX5_read_14 : decode cX5_read 14 = .ok (.aload_n 0, 1) := by decide +kernel
theorem dX5_read_15 : decode cX5_read 15 = .ok (.aload_n 1, 1) := by decide +kernel
theorem dX5_read_16 : decode cX5_read 16 = .ok (.iload_n 2, 1) := by decide +kernel
theorem dX5_read_17 : decode cX5_read 17 = .ok (.invokevirtual 20, 3) := by decide +kernel
theorem dX5_read_20 : decode cX5_read 20 = .ok (.invokevirtual 24, 3) := by decide +kernel
theorem dX5_read_23 : decode cX5_read 23 = .ok (.ifCond .ne 5, 3) := by decide +kernel
theorem dX5_read_26 : decode cX5_read 26 = .ok (.iload_n 2, 1) := by decide +kernel
theorem dX5_read_27 : decode cX5_read 27 = .ok (.ireturn, 1) := by decide +kernel
theorem dX5_read_28 : decode cX5_read 28 = .ok (.iinc 2 1, 3) := by decide +kernel
theorem dX5_read_31 : decode cX5_read 31 = .ok (.goto (-25), 3) := by decide +kernel
theorem dX5_read_34 : decode cX5_read 34 = .ok (.aload_n 1, 1) := by decide +kernel
theorem dX5_read_35 : decode cX5_read 35 = .ok (.getfield 14, 3) := by decide +kernel
theorem dX5_read_38 : decode cX5_read 38 = .ok (.ireturn, 1) := by decide +kernel
theorem dX5_isComplete_0 : decode cX5_isComplete 0 = .ok (.aload_n 0, 1) := by decide +kernel
theorem dX5_isComplete_1 : decode cX5_isComplete 1 = .ok (.getfield 28, 3) := by decide +kernel
theorem dX5_isComplete_4 : decode cX5_isComplete 4 = .ok (.iconst 4, 1) := by decide +kernel
theorem dX5_isComplete_5 : decode cX5_isComplete 5 = .ok (.if_icmp .ne 16, 3) := by decide +kernel
theorem dX5_isComplete_8 : decode cX5_isComplete 8 = .ok (.aload_n 0, 1) := by decide +kernel
theorem dX5_isComplete_9 : decode cX5_isComplete 9 = .ok (.getfield 31, 3) := by decide +kernel
theorem dX5_isComplete_12 : decode cX5_isComplete 12 = .ok (.bipush 10, 2) := by decide +kernel
theorem dX5_isComplete_14 : decode cX5_isComplete 14 = .ok (.if_icmp .lt 7, 3) := by decide +kernel
theorem dX5_isComplete_17 : decode cX5_isComplete 17 = .ok (.iconst 1, 1) := by decide +kernel
theorem dX5_isComplete_18 : decode cX5_isComplete 18 = .ok (.goto 4, 3) := by decide +kernel
theorem dX5_isComplete_21 : decode cX5_isComplete 21 = .ok (.iconst 0, 1) := by decide +kernel
theorem dX5_isComplete_22 : decode cX5_isComplete 22 = .ok (.ireturn, 1) := by decide +kernel
theorem dX5_enterAll_0 : decode cX5_enterAll 0 = .ok (.aload_n 0, 1) := by decide +kernel
theorem dX5_enterAll_1 : decode cX5_enterAll 1 = .ok (.invokevirtual 9, 3) := by decide +kernel
theorem dX5_enterAll_4 : decode cX5_enterAll 4 = .ok (.iconst 0, 1) := by decide +kernel
theorem dX5_enterAll_5 : decode cX5_enterAll 5 = .ok (.istore_n 3, 1) := by decide +kernel
theorem dX5_enterAll_6 : decode cX5_enterAll 6 = .ok (.iload_n 3, 1) := by decide +kernel
theorem dX5_enterAll_7 : decode cX5_enterAll 7 = .ok (.aload_n 1, 1) := by decide +kernel
theorem dX5_enterAll_8 : decode cX5_enterAll 8 = .ok (.getfield 14, 3) := by decide +kernel
theorem dX5_enterAll_11 : decode cX5_enterAll 11 = .ok (.if_icmp .ge 34, 3) := by decide +kernel
theorem dX5_enterAll_14 : decode cX5_enterAll 14 = .ok (.aload_n 1, 1) := by decide +kernel
theorem dX5_enterAll_15 : decode cX5_enterAll 15 = .ok (.iload_n 3, 1) := by decide +kernel
theorem dX5_enterAll_16 : decode cX5_enterAll 16 = .ok (.invokevirtual 20, 3) := by decide +kernel
theorem dX5_enterAll_19 : decode cX5_enterAll 19 = .ok (.bipush 44, 2) := by decide +kernel
theorem dX5_enterAll_21 : decode cX5_enterAll 21 = .ok (.if_icmp .ne 8, 3) := by decide +kernel
theorem dX5_enterAll_24 : decode cX5_enterAll 24 = .ok (.aload_n 0, 1) := by decide +kernel
theorem dX5_enterAll_25 : decode cX5_enterAll 25 = .ok (.aload_n 2, 1) := by decide +kernel
theorem dX5_enterAll_26 : decode cX5_enterAll 26 = .ok (.invokevirtual 32, 3) := by decide +kernel
theorem dX5_enterAll_29 : decode cX5_enterAll 29 = .ok (.aload_n 0, 1) := by decide +kernel
theorem dX5_enterAll_30 : decode cX5_enterAll 30 = .ok (.aload_n 1, 1) := by decide +kernel
theorem dX5_enterAll_31 : decode cX5_enterAll 31 = .ok (.iload_n 3, 1) := by decide +kernel
theorem dX5_enterAll_32 : decode cX5_enterAll 32 = .ok (.invokevirtual 20, 3) := by decide +kernel
theorem dX5_enterAll_35 : decode cX5_enterAll 35 = .ok (.invokevirtual 24, 3) := by decide +kernel
theorem dX5_enterAll_38 : decode cX5_enterAll 38 = .ok (.pop, 1) := by decide +kernel
theorem dX5_enterAll_39 : decode cX5_enterAll 39 = .ok (.iinc 3 1, 3) := by decide +kernel
theorem dX5_enterAll_42 : decode cX5_enterAll 42 = .ok (.goto (-36), 3) := by decide +kernel
theorem dX5_enterAll_45 : decode cX5_enterAll 45 = .ok (.aload_n 0, 1) := by decide +kernel
theorem dX5_enterAll_46 : decode cX5_enterAll 46 = .ok (.aload_n 2, 1) := by decide +kernel
theorem dX5_enterAll_47 : decode cX5_enterAll 47 = .ok (.invokevirtual 32, 3) := by decide +kernel
theorem dX5_enterAll_50 : decode cX5_enterAll 50 = .ok (.return_, 1) := by decide +kernel
theorem dX5_enterOne_0 : decode cX5_enterOne 0 = .ok (.aload_n 1, 1) := by decide +kernel
theorem dX5_enterOne_1 : decode cX5_enterOne 1 = .ok (.getfield 36, 3) := by decide +kernel
theorem dX5_enterOne_4 : decode cX5_enterOne 4 = .ok (.aload_n 0, 1) := by decide +kernel
theorem dX5_enterOne_5 : decode cX5_enterOne 5 = .ok (.getfield 42, 3) := by decide +kernel
theorem dX5_enterOne_8 : decode cX5_enterOne 8 = .ok (.aload_n 0, 1) := by decide +kernel
theorem dX5_enterOne_9 : decode cX5_enterOne 9 = .ok (.getfield 45, 3) := by decide +kernel
theorem dX5_enterOne_12 : decode cX5_enterOne 12 = .ok (.aload_n 1, 1) := by decide +kernel
theorem dX5_enterOne_13 : decode cX5_enterOne 13 = .ok (.getfield 48, 3) := by decide +kernel
theorem dX5_enterOne_16 : decode cX5_enterOne 16 = .ok (.aload_n 0, 1) := by decide +kernel
theorem dX5_enterOne_17 : decode cX5_enterOne 17 = .ok (.getfield 51, 3) := by decide +kernel
theorem dX5_enterOne_20 : decode cX5_enterOne 20 = .ok (.iadd, 1) := by decide +kernel
theorem dX5_enterOne_21 : decode cX5_enterOne 21 = .ok (.aload_n 0, 1) := by decide +kernel
theorem dX5_enterOne_22 : decode cX5_enterOne 22 = .ok (.getfield 31, 3) := by decide +kernel
theorem dX5_enterOne_25 : decode cX5_enterOne 25 = .ok (.invokevirtual 54, 3) := by decide +kernel
theorem dX5_enterOne_28 : decode cX5_enterOne 28 = .ok (.pop, 1) := by decide +kernel
theorem dX5_enterOne_29 : decode cX5_enterOne 29 = .ok (.return_, 1) := by decide +kernel
theorem dX5_begin_0 : decode cX5_begin 0 = .ok (.aload_n 0, 1) := by decide +kernel
theorem dX5_begin_1 : decode cX5_begin 1 = .ok (.iconst 0, 1) := by decide +kernel
theorem dX5_begin_2 : decode cX5_begin 2 = .ok (.putfield 28, 3) := by decide +kernel
theorem dX5_begin_5 : decode cX5_begin 5 = .ok (.aload_n 0, 1) := by decide +kernel
theorem dX5_begin_6 : decode cX5_begin 6 = .ok (.iconst 0, 1) := by decide +kernel
theorem dX5_begin_7 : decode cX5_begin 7 = .ok (.putfield 60, 3) := by decide +kernel
theorem dX5_begin_10 : decode cX5_begin 10 = .ok (.return_, 1) := by decide +kernel
theorem dX5_take_0 : decode cX5_take 0 = .ok (.aload_n 0, 1) := by decide +kernel
theorem dX5_take_1 : decode cX5_take 1 = .ok (.getfield 28, 3) := by decide +kernel
theorem dX5_take_4 : decode cX5_take 4 = .ok (.tableswitch 56 0 3 #[32, 38, 44, 50], 32) := by decide +kernel
theorem dX5_take_36 : decode cX5_take 36 = .ok (.aload_n 0, 1) := by decide +kernel
theorem dX5_take_37 : decode cX5_take 37 = .ok (.iload_n 1, 1) := by decide +kernel
theorem dX5_take_38 : decode cX5_take 38 = .ok (.invokevirtual 63, 3) := by decide +kernel
theorem dX5_take_41 : decode cX5_take 41 = .ok (.ireturn, 1) := by decide +kernel
theorem dX5_take_42 : decode cX5_take 42 = .ok (.aload_n 0, 1) := by decide +kernel
theorem dX5_take_43 : decode cX5_take 43 = .ok (.iload_n 1, 1) := by decide +kernel
theorem dX5_take_44 : decode cX5_take 44 = .ok (.invokevirtual 66, 3) := by decide +kernel
theorem dX5_take_47 : decode cX5_take 47 = .ok (.ireturn, 1) := by decide +kernel
theorem dX5_take_48 : decode cX5_take 48 = .ok (.aload_n 0, 1) := by decide +kernel
theorem dX5_take_49 : decode cX5_take 49 = .ok (.iload_n 1, 1) := by decide +kernel
theorem dX5_take_50 : decode cX5_take 50 = .ok (.invokevirtual 69, 3) := by decide +kernel
theorem dX5_take_53 : decode cX5_take 53 = .ok (.ireturn, 1) := by decide +kernel
theorem dX5_take_54 : decode cX5_take 54 = .ok (.aload_n 0, 1) := by decide +kernel
theorem dX5_take_55 : decode cX5_take 55 = .ok (.iload_n 1, 1) := by decide +kernel
theorem dX5_take_56 : decode cX5_take 56 = .ok (.invokevirtual 72, 3) := by decide +kernel
theorem dX5_take_59 : decode cX5_take 59 = .ok (.ireturn, 1) := by decide +kernel
theorem dX5_take_60 : decode cX5_take 60 = .ok (.aload_n 0, 1) := by decide +kernel
theorem dX5_take_61 : decode cX5_take 61 = .ok (.iload_n 1, 1) := by decide +kernel
theorem dX5_take_62 : decode cX5_take 62 = .ok (.invokevirtual 75, 3) := by decide +kernel
theorem dX5_take_65 : decode cX5_take 65 = .ok (.ireturn, 1) := by decide +kernel
theorem dX5_takeKind_0 : decode cX5_takeKind 0 = .ok (.iload_n 1, 1) := by decide +kernel
theorem dX5_takeKind_1 : decode cX5_takeKind 1 = .ok (.bipush 99, 2) := by decide +kernel
theorem dX5_takeKind_3 : decode cX5_takeKind 3 = .ok (.if_icmp .eq 17, 3) := by decide +kernel
theorem dX5_takeKind_6 : decode cX5_takeKind 6 = .ok (.iload_n 1, 1) := by decide +kernel
theorem dX5_takeKind_7 : decode cX5_takeKind 7 = .ok (.bipush 114, 2) := by decide +kernel
theorem dX5_takeKind_9 : decode cX5_takeKind 9 = .ok (.if_icmp .eq 11, 3) := by decide +kernel
theorem dX5_takeKind_12 : decode cX5_takeKind 12 = .ok (.iload_n 1, 1) := by decide +kernel
theorem dX5_takeKind_13 : decode cX5_takeKind 13 = .ok (.bipush 97, 2) := by decide +kernel
theorem dX5_takeKind_15 : decode cX5_takeKind 15 = .ok (.if_icmp .eq 5, 3) := by decide +kernel
theorem dX5_takeKind_18 : decode cX5_takeKind 18 = .ok (.iconst 0, 1) := by decide +kernel
theorem dX5_takeKind_19 : decode cX5_takeKind 19 = .ok (.ireturn, 1) := by decide +kernel
theorem dX5_takeKind_20 : decode cX5_takeKind 20 = .ok (.aload_n 0, 1) := by decide +kernel
theorem dX5_takeKind_21 : decode cX5_takeKind 21 = .ok (.iload_n 1, 1) := by decide +kernel
theorem dX5_takeKind_22 : decode cX5_takeKind 22 = .ok (.bipush 99, 2) := by decide +kernel
theorem dX5_takeKind_24 : decode cX5_takeKind 24 = .ok (.if_icmp .ne 7, 3) := by decide +kernel
theorem dX5_takeKind_27 : decode cX5_takeKind 27 = .ok (.iconst 0, 1) := by decide +kernel
theorem dX5_takeKind_28 : decode cX5_takeKind 28 = .ok (.goto 14, 3) := by decide +kernel
theorem dX5_takeKind_31 : decode cX5_takeKind 31 = .ok (.iload_n 1, 1) := by decide +kernel
theorem dX5_takeKind_32 : decode cX5_takeKind 32 = .ok (.bipush 114, 2) := by decide +kernel
theorem dX5_takeKind_34 : decode cX5_takeKind 34 = .ok (.if_icmp .ne 7, 3) := by decide +kernel
theorem dX5_takeKind_37 : decode cX5_takeKind 37 = .ok (.iconst 1, 1) := by decide +kernel
theorem dX5_takeKind_38 : decode cX5_takeKind 38 = .ok (.goto 4, 3) := by decide +kernel
theorem dX5_takeKind_41 : decode cX5_takeKind 41 = .ok (.iconst 2, 1) := by decide +kernel
theorem dX5_takeKind_42 : decode cX5_takeKind 42 = .ok (.putfield 42, 3) := by decide +kernel
theorem dX5_takeKind_45 : decode cX5_takeKind 45 = .ok (.aload_n 0, 1) := by decide +kernel
theorem dX5_takeKind_46 : decode cX5_takeKind 46 = .ok (.dup, 1) := by decide +kernel
theorem dX5_takeKind_47 : decode cX5_takeKind 47 = .ok (.getfield 60, 3) := by decide +kernel
theorem dX5_takeKind_50 : decode cX5_takeKind 50 = .ok (.iconst 1, 1) := by decide +kernel
theorem dX5_takeKind_51 : decode cX5_takeKind 51 = .ok (.iadd, 1) := by decide +kernel
theorem dX5_takeKind_52 : decode cX5_takeKind 52 = .ok (.putfield 60, 3) := by decide +kernel
theorem dX5_takeKind_55 : decode cX5_takeKind 55 = .ok (.aload_n 0, 1) := by decide +kernel
theorem dX5_takeKind_56 : decode cX5_takeKind 56 = .ok (.iconst 1, 1) := by decide +kernel
theorem dX5_takeKind_57 : decode cX5_takeKind 57 = .ok (.putfield 28, 3) := by decide +kernel
theorem dX5_takeKind_60 : decode cX5_takeKind 60 = .ok (.iconst 1, 1) := by decide +kernel
theorem dX5_takeKind_61 : decode cX5_takeKind 61 = .ok (.ireturn, 1) := by decide +kernel
theorem dX5_takeLanguage_0 : decode cX5_takeLanguage 0 = .ok (.iload_n 1, 1) := by decide +kernel
theorem dX5_takeLanguage_1 : decode cX5_takeLanguage 1 = .ok (.bipush 49, 2) := by decide +kernel
theorem dX5_takeLanguage_3 : decode cX5_takeLanguage 3 = .ok (.if_icmp .lt 9, 3) := by decide +kernel
theorem dX5_takeLanguage_6 : decode cX5_takeLanguage 6 = .ok (.iload_n 1, 1) := by decide +kernel
theorem dX5_takeLanguage_7 : decode cX5_takeLanguage 7 = .ok (.bipush 57, 2) := by decide +kernel
theorem dX5_takeLanguage_9 : decode cX5_takeLanguage 9 = .ok (.if_icmp .le 5, 3) := by decide +kernel
theorem dX5_takeLanguage_12 : decode cX5_takeLanguage 12 = .ok (.iconst 0, 1) := by decide +kernel
theorem dX5_takeLanguage_13 : decode cX5_takeLanguage 13 = .ok (.ireturn, 1) := by decide +kernel
theorem dX5_takeLanguage_14 : decode cX5_takeLanguage 14 = .ok (.aload_n 0, 1) := by decide +kernel
theorem dX5_takeLanguage_15 : decode cX5_takeLanguage 15 = .ok (.iload_n 1, 1) := by decide +kernel
theorem dX5_takeLanguage_16 : decode cX5_takeLanguage 16 = .ok (.bipush 48, 2) := by decide +kernel
theorem dX5_takeLanguage_18 : decode cX5_takeLanguage 18 = .ok (.isub, 1) := by decide +kernel
theorem dX5_takeLanguage_19 : decode cX5_takeLanguage 19 = .ok (.putfield 45, 3) := by decide +kernel
theorem dX5_takeLanguage_22 : decode cX5_takeLanguage 22 = .ok (.aload_n 0, 1) := by decide +kernel
theorem dX5_takeLanguage_23 : decode cX5_takeLanguage 23 = .ok (.iconst 2, 1) := by decide +kernel
theorem dX5_takeLanguage_24 : decode cX5_takeLanguage 24 = .ok (.putfield 28, 3) := by decide +kernel
theorem dX5_takeLanguage_27 : decode cX5_takeLanguage 27 = .ok (.iconst 1, 1) := by decide +kernel
theorem dX5_takeLanguage_28 : decode cX5_takeLanguage 28 = .ok (.ireturn, 1) := by decide +kernel
theorem dX5_takeSign_0 : decode cX5_takeSign 0 = .ok (.iload_n 1, 1) := by decide +kernel
theorem dX5_takeSign_1 : decode cX5_takeSign 1 = .ok (.bipush 64, 2) := by decide +kernel
theorem dX5_takeSign_3 : decode cX5_takeSign 3 = .ok (.if_icmp .eq 5, 3) := by decide +kernel
theorem dX5_takeSign_6 : decode cX5_takeSign 6 = .ok (.iconst 0, 1) := by decide +kernel
theorem dX5_takeSign_7 : decode cX5_takeSign 7 = .ok (.ireturn, 1) := by decide +kernel
theorem dX5_takeSign_8 : decode cX5_takeSign 8 = .ok (.aload_n 0, 1) := by decide +kernel
theorem dX5_takeSign_9 : decode cX5_takeSign 9 = .ok (.iconst 0, 1) := by decide +kernel
theorem dX5_takeSign_10 : decode cX5_takeSign 10 = .ok (.putfield 51, 3) := by decide +kernel
theorem dX5_takeSign_13 : decode cX5_takeSign 13 = .ok (.aload_n 0, 1) := by decide +kernel
theorem dX5_takeSign_14 : decode cX5_takeSign 14 = .ok (.iconst 3, 1) := by decide +kernel
theorem dX5_takeSign_15 : decode cX5_takeSign 15 = .ok (.putfield 28, 3) := by decide +kernel
theorem dX5_takeSign_18 : decode cX5_takeSign 18 = .ok (.iconst 1, 1) := by decide +kernel
theorem dX5_takeSign_19 : decode cX5_takeSign 19 = .ok (.ireturn, 1) := by decide +kernel
theorem dX5_takeIn_0 : decode cX5_takeIn 0 = .ok (.iload_n 1, 1) := by decide +kernel
theorem dX5_takeIn_1 : decode cX5_takeIn 1 = .ok (.bipush 43, 2) := by decide +kernel
theorem dX5_takeIn_3 : decode cX5_takeIn 3 = .ok (.if_icmp .ne 22, 3) := by decide +kernel
theorem dX5_takeIn_6 : decode cX5_takeIn 6 = .ok (.aload_n 0, 1) := by decide +kernel
theorem dX5_takeIn_7 : decode cX5_takeIn 7 = .ok (.getfield 51, 3) := by decide +kernel
theorem dX5_takeIn_10 : decode cX5_takeIn 10 = .ok (.ifCond .le 15, 3) := by decide +kernel
theorem dX5_takeIn_13 : decode cX5_takeIn 13 = .ok (.aload_n 0, 1) := by decide +kernel
theorem dX5_takeIn_14 : decode cX5_takeIn 14 = .ok (.iconst 0, 1) := by decide +kernel
theorem dX5_takeIn_15 : decode cX5_takeIn 15 = .ok (.putfield 31, 3) := by decide +kernel
theorem dX5_takeIn_18 : decode cX5_takeIn 18 = .ok (.aload_n 0, 1) := by decide +kernel
theorem dX5_takeIn_19 : decode cX5_takeIn 19 = .ok (.iconst 4, 1) := by decide +kernel
theorem dX5_takeIn_20 : decode cX5_takeIn 20 = .ok (.putfield 28, 3) := by decide +kernel
theorem dX5_takeIn_23 : decode cX5_takeIn 23 = .ok (.iconst 1, 1) := by decide +kernel
theorem dX5_takeIn_24 : decode cX5_takeIn 24 = .ok (.ireturn, 1) := by decide +kernel
theorem dX5_takeIn_25 : decode cX5_takeIn 25 = .ok (.aload_n 0, 1) := by decide +kernel
theorem dX5_takeIn_26 : decode cX5_takeIn 26 = .ok (.aload_n 0, 1) := by decide +kernel
theorem dX5_takeIn_27 : decode cX5_takeIn 27 = .ok (.getfield 51, 3) := by decide +kernel
theorem dX5_takeIn_30 : decode cX5_takeIn 30 = .ok (.iload_n 1, 1) := by decide +kernel
theorem dX5_takeIn_31 : decode cX5_takeIn 31 = .ok (.sipush 2000, 3) := by decide +kernel
theorem dX5_takeIn_34 : decode cX5_takeIn 34 = .ok (.invokestatic 78, 3) := by decide +kernel
theorem dX5_takeIn_37 : decode cX5_takeIn 37 = .ok (.putfield 51, 3) := by decide +kernel
theorem dX5_takeIn_40 : decode cX5_takeIn 40 = .ok (.aload_n 0, 1) := by decide +kernel
theorem dX5_takeIn_41 : decode cX5_takeIn 41 = .ok (.getfield 51, 3) := by decide +kernel
theorem dX5_takeIn_44 : decode cX5_takeIn 44 = .ok (.ifCond .le 7, 3) := by decide +kernel
theorem dX5_takeIn_47 : decode cX5_takeIn 47 = .ok (.iconst 1, 1) := by decide +kernel
theorem dX5_takeIn_48 : decode cX5_takeIn 48 = .ok (.goto 4, 3) := by decide +kernel
theorem dX5_takeIn_51 : decode cX5_takeIn 51 = .ok (.iconst 0, 1) := by decide +kernel
theorem dX5_takeIn_52 : decode cX5_takeIn 52 = .ok (.ireturn, 1) := by decide +kernel
theorem dX5_takeLength_0 : decode cX5_takeLength 0 = .ok (.iload_n 1, 1) := by decide +kernel
theorem dX5_takeLength_1 : decode cX5_takeLength 1 = .ok (.bipush 44, 2) := by decide +kernel
theorem dX5_takeLength_3 : decode cX5_takeLength 3 = .ok (.if_icmp .ne 19, 3) := by decide +kernel
theorem dX5_takeLength_6 : decode cX5_takeLength 6 = .ok (.aload_n 0, 1) := by decide +kernel
theorem dX5_takeLength_7 : decode cX5_takeLength 7 = .ok (.getfield 31, 3) := by decide +kernel
theorem dX5_takeLength_10 : decode cX5_takeLength 10 = .ok (.bipush 10, 2) := by decide +kernel
theorem dX5_takeLength_12 : decode cX5_takeLength 12 = .ok (.if_icmp .lt 10, 3) := by decide +kernel
theorem dX5_takeLength_15 : decode cX5_takeLength 15 = .ok (.aload_n 0, 1) := by decide +kernel
theorem dX5_takeLength_16 : decode cX5_takeLength 16 = .ok (.iconst 0, 1) := by decide +kernel
theorem dX5_takeLength_17 : decode cX5_takeLength 17 = .ok (.putfield 28, 3) := by decide +kernel
theorem dX5_takeLength_20 : decode cX5_takeLength 20 = .ok (.iconst 1, 1) := by decide +kernel
theorem dX5_takeLength_21 : decode cX5_takeLength 21 = .ok (.ireturn, 1) := by decide +kernel
theorem dX5_takeLength_22 : decode cX5_takeLength 22 = .ok (.aload_n 0, 1) := by decide +kernel
theorem dX5_takeLength_23 : decode cX5_takeLength 23 = .ok (.aload_n 0, 1) := by decide +kernel
theorem dX5_takeLength_24 : decode cX5_takeLength 24 = .ok (.getfield 31, 3) := by decide +kernel
theorem dX5_takeLength_27 : decode cX5_takeLength 27 = .ok (.iload_n 1, 1) := by decide +kernel
theorem dX5_takeLength_28 : decode cX5_takeLength 28 = .ok (.sipush 240, 3) := by decide +kernel
theorem dX5_takeLength_31 : decode cX5_takeLength 31 = .ok (.invokestatic 78, 3) := by decide +kernel
theorem dX5_takeLength_34 : decode cX5_takeLength 34 = .ok (.putfield 31, 3) := by decide +kernel
theorem dX5_takeLength_37 : decode cX5_takeLength 37 = .ok (.aload_n 0, 1) := by decide +kernel
theorem dX5_takeLength_38 : decode cX5_takeLength 38 = .ok (.getfield 31, 3) := by decide +kernel
theorem dX5_takeLength_41 : decode cX5_takeLength 41 = .ok (.ifCond .le 7, 3) := by decide +kernel
theorem dX5_takeLength_44 : decode cX5_takeLength 44 = .ok (.iconst 1, 1) := by decide +kernel
theorem dX5_takeLength_45 : decode cX5_takeLength 45 = .ok (.goto 4, 3) := by decide +kernel
theorem dX5_takeLength_48 : decode cX5_takeLength 48 = .ok (.iconst 0, 1) := by decide +kernel
theorem dX5_takeLength_49 : decode cX5_takeLength 49 = .ok (.ireturn, 1) := by decide +kernel
theorem dX5_longer_0 : decode cX5_longer 0 = .ok (.iload_n 1, 1) := by decide +kernel
theorem dX5_longer_1 : decode cX5_longer 1 = .ok (.bipush 48, 2) := by decide +kernel
theorem dX5_longer_3 : decode cX5_longer 3 = .ok (.if_icmp .lt 9, 3) := by decide +kernel
theorem dX5_longer_6 : decode cX5_longer 6 = .ok (.iload_n 1, 1) := by decide +kernel
theorem dX5_longer_7 : decode cX5_longer 7 = .ok (.bipush 57, 2) := by decide +kernel
theorem dX5_longer_9 : decode cX5_longer 9 = .ok (.if_icmp .le 5, 3) := by decide +kernel
theorem dX5_longer_12 : decode cX5_longer 12 = .ok (.iconst 0, 1) := by decide +kernel
theorem dX5_longer_13 : decode cX5_longer 13 = .ok (.ireturn, 1) := by decide +kernel
theorem dX5_longer_14 : decode cX5_longer 14 = .ok (.iload_n 0, 1) := by decide +kernel
theorem dX5_longer_15 : decode cX5_longer 15 = .ok (.bipush 10, 2) := by decide +kernel
theorem dX5_longer_17 : decode cX5_longer 17 = .ok (.imul, 1) := by decide +kernel
theorem dX5_longer_18 : decode cX5_longer 18 = .ok (.iload_n 1, 1) := by decide +kernel
theorem dX5_longer_19 : decode cX5_longer 19 = .ok (.bipush 48, 2) := by decide +kernel
theorem dX5_longer_21 : decode cX5_longer 21 = .ok (.isub, 1) := by decide +kernel
theorem dX5_longer_22 : decode cX5_longer 22 = .ok (.iadd, 1) := by decide +kernel
theorem dX5_longer_23 : decode cX5_longer 23 = .ok (.istore_n 3, 1) := by decide +kernel
theorem dX5_longer_24 : decode cX5_longer 24 = .ok (.iload_n 3, 1) := by decide +kernel
theorem dX5_longer_25 : decode cX5_longer 25 = .ok (.iload_n 2, 1) := by decide +kernel
theorem dX5_longer_26 : decode cX5_longer 26 = .ok (.if_icmp .gt 7, 3) := by decide +kernel
theorem dX5_longer_29 : decode cX5_longer 29 = .ok (.iload_n 3, 1) := by decide +kernel
theorem dX5_longer_30 : decode cX5_longer 30 = .ok (.goto 4, 3) := by decide +kernel
theorem dX5_longer_33 : decode cX5_longer 33 = .ok (.iconst 0, 1) := by decide +kernel
theorem dX5_longer_34 : decode cX5_longer 34 = .ok (.ireturn, 1) := by decide +kernel
theorem dX6_init_0 : decode cX6_init 0 = .ok (.aload_n 0, 1) := by decide +kernel
theorem dX6_init_1 : decode cX6_init 1 = .ok (.invokespecial 3, 3) := by decide +kernel
theorem dX6_init_4 : decode cX6_init 4 = .ok (.aload_n 0, 1) := by decide +kernel
theorem dX6_init_5 : decode cX6_init 5 = .ok (.bipush 10, 2) := by decide +kernel
theorem dX6_init_7 : decode cX6_init 7 = .ok (.newarray .int, 2) := by decide +kernel
theorem dX6_init_9 : decode cX6_init 9 = .ok (.putfield 9, 3) := by decide +kernel
theorem dX6_init_12 : decode cX6_init 12 = .ok (.aload_n 0, 1) := by decide +kernel
theorem dX6_init_13 : decode cX6_init 13 = .ok (.bipush 10, 2) := by decide +kernel
theorem dX6_init_15 : decode cX6_init 15 = .ok (.newarray .int, 2) := by decide +kernel
theorem dX6_init_17 : decode cX6_init 17 = .ok (.putfield 15, 3) := by decide +kernel
theorem dX6_init_20 : decode cX6_init 20 = .ok (.aload_n 0, 1) := by decide +kernel
theorem dX6_init_21 : decode cX6_init 21 = .ok (.bipush 10, 2) := by decide +kernel
theorem dX6_init_23 : decode cX6_init 23 = .ok (.newarray .int, 2) := by decide +kernel
theorem dX6_init_25 : decode cX6_init 25 = .ok (.putfield 18, 3) := by decide +kernel
theorem dX6_init_28 : decode cX6_init 28 = .ok (.aload_n 0, 1) := by decide +kernel
theorem dX6_init_29 : decode cX6_init 29 = .ok (.bipush 10, 2) := by decide +kernel
theorem dX6_init_31 : decode cX6_init 31 = .ok (.newarray .int, 2) := by decide +kernel
theorem dX6_init_33 : decode cX6_init 33 = .ok (.putfield 21, 3) := by decide +kernel
theorem dX6_init_36 : decode cX6_init 36 = .ok (.aload_n 0, 1) := by decide +kernel
theorem dX6_init_37 : decode cX6_init 37 = .ok (.bipush 10, 2) := by decide +kernel
theorem dX6_init_39 : decode cX6_init 39 = .ok (.newarray .int, 2) := by decide +kernel
theorem dX6_init_41 : decode cX6_init 41 = .ok (.putfield 24, 3) := by decide +kernel
theorem dX6_init_44 : decode cX6_init 44 = .ok (.aload_n 0, 1) := by decide +kernel
theorem dX6_init_45 : decode cX6_init 45 = .ok (.bipush 10, 2) := by decide +kernel
theorem dX6_init_47 : decode cX6_init 47 = .ok (.newarray .int, 2) := by decide +kernel
theorem dX6_init_49 : decode cX6_init 49 = .ok (.putfield 27, 3) := by decide +kernel
theorem dX6_init_52 : decode cX6_init 52 = .ok (.return_, 1) := by decide +kernel
theorem dX6_copyFrom_0 : decode cX6_copyFrom 0 = .ok (.aload_n 0, 1) := by decide +kernel
theorem dX6_copyFrom_1 : decode cX6_copyFrom 1 = .ok (.aload_n 1, 1) := by decide +kernel
theorem dX6_copyFrom_2 : decode cX6_copyFrom 2 = .ok (.getfield 30, 3) := by decide +kernel
theorem dX6_copyFrom_5 : decode cX6_copyFrom 5 = .ok (.putfield 30, 3) := by decide +kernel
theorem dX6_copyFrom_8 : decode cX6_copyFrom 8 = .ok (.aload_n 1, 1) := by decide +kernel
theorem dX6_copyFrom_9 : decode cX6_copyFrom 9 = .ok (.getfield 9, 3) := by decide +kernel
theorem dX6_copyFrom_12 : decode cX6_copyFrom 12 = .ok (.iconst 0, 1) := by decide +kernel
theorem dX6_copyFrom_13 : decode cX6_copyFrom 13 = .ok (.aload_n 0, 1) := by decide +kernel
theorem dX6_copyFrom_14 : decode cX6_copyFrom 14 = .ok (.getfield 9, 3) := by decide +kernel
theorem dX6_copyFrom_17 : decode cX6_copyFrom 17 = .ok (.iconst 0, 1) := by decide +kernel
theorem dX6_copyFrom_18 : decode cX6_copyFrom 18 = .ok (.bipush 10, 2) := by decide +kernel
theorem dX6_copyFrom_20 : decode cX6_copyFrom 20 = .ok (.invokestatic 34, 3) := by decide +kernel
theorem dX6_copyFrom_23 : decode cX6_copyFrom 23 = .ok (.aload_n 1, 1) := by decide +kernel
theorem dX6_copyFrom_24 : decode cX6_copyFrom 24 = .ok (.getfield 15, 3) := by decide +kernel
theorem dX6_copyFrom_27 : decode cX6_copyFrom 27 = .ok (.iconst 0, 1) := by decide +kernel
theorem dX6_copyFrom_28 : decode cX6_copyFrom 28 = .ok (.aload_n 0, 1) := by decide +kernel
theorem dX6_copyFrom_29 : decode cX6_copyFrom 29 = .ok (.getfield 15, 3) := by decide +kernel
theorem dX6_copyFrom_32 : decode cX6_copyFrom 32 = .ok (.iconst 0, 1) := by decide +kernel
theorem dX6_copyFrom_33 : decode cX6_copyFrom 33 = .ok (.bipush 10, 2) := by decide +kernel
theorem dX6_copyFrom_35 : decode cX6_copyFrom 35 = .ok (.invokestatic 34, 3) := by decide +kernel
theorem dX6_copyFrom_38 : decode cX6_copyFrom 38 = .ok (.aload_n 1, 1) := by decide +kernel
theorem dX6_copyFrom_39 : decode cX6_copyFrom 39 = .ok (.getfield 18, 3) := by decide +kernel
theorem dX6_copyFrom_42 : decode cX6_copyFrom 42 = .ok (.iconst 0, 1) := by decide +kernel
theorem dX6_copyFrom_43 : decode cX6_copyFrom 43 = .ok (.aload_n 0, 1) := by decide +kernel
theorem dX6_copyFrom_44 : decode cX6_copyFrom 44 = .ok (.getfield 18, 3) := by decide +kernel
theorem dX6_copyFrom_47 : decode cX6_copyFrom 47 = .ok (.iconst 0, 1) := by decide +kernel
theorem dX6_copyFrom_48 : decode cX6_copyFrom 48 = .ok (.bipush 10, 2) := by decide +kernel
theorem dX6_copyFrom_50 : decode cX6_copyFrom 50 = .ok (.invokestatic 34, 3) := by decide +kernel
theorem dX6_copyFrom_53 : decode cX6_copyFrom 53 = .ok (.aload_n 1, 1) := by decide +kernel
theorem dX6_copyFrom_54 : decode cX6_copyFrom 54 = .ok (.getfield 21, 3) := by decide +kernel
theorem dX6_copyFrom_57 : decode cX6_copyFrom 57 = .ok (.iconst 0, 1) := by decide +kernel
theorem dX6_copyFrom_58 : decode cX6_copyFrom 58 = .ok (.aload_n 0, 1) := by decide +kernel
theorem dX6_copyFrom_59 : decode cX6_copyFrom 59 = .ok (.getfield 21, 3) := by decide +kernel
theorem dX6_copyFrom_62 : decode cX6_copyFrom 62 = .ok (.iconst 0, 1) := by decide +kernel
theorem dX6_copyFrom_63 : decode cX6_copyFrom 63 = .ok (.bipush 10, 2) := by decide +kernel
theorem dX6_copyFrom_65 : decode cX6_copyFrom 65 = .ok (.invokestatic 34, 3) := by decide +kernel
theorem dX6_copyFrom_68 : decode cX6_copyFrom 68 = .ok (.aload_n 1, 1) := by decide +kernel
theorem dX6_copyFrom_69 : decode cX6_copyFrom 69 = .ok (.getfield 24, 3) := by decide +kernel
theorem dX6_copyFrom_72 : decode cX6_copyFrom 72 = .ok (.iconst 0, 1) := by decide +kernel
theorem dX6_copyFrom_73 : decode cX6_copyFrom 73 = .ok (.aload_n 0, 1) := by decide +kernel
theorem dX6_copyFrom_74 : decode cX6_copyFrom 74 = .ok (.getfield 24, 3) := by decide +kernel
theorem dX6_copyFrom_77 : decode cX6_copyFrom 77 = .ok (.iconst 0, 1) := by decide +kernel
theorem dX6_copyFrom_78 : decode cX6_copyFrom 78 = .ok (.bipush 10, 2) := by decide +kernel
theorem dX6_copyFrom_80 : decode cX6_copyFrom 80 = .ok (.invokestatic 34, 3) := by decide +kernel
theorem dX6_copyFrom_83 : decode cX6_copyFrom 83 = .ok (.aload_n 1, 1) := by decide +kernel
theorem dX6_copyFrom_84 : decode cX6_copyFrom 84 = .ok (.getfield 27, 3) := by decide +kernel
theorem dX6_copyFrom_87 : decode cX6_copyFrom 87 = .ok (.iconst 0, 1) := by decide +kernel
theorem dX6_copyFrom_88 : decode cX6_copyFrom 88 = .ok (.aload_n 0, 1) := by decide +kernel
theorem dX6_copyFrom_89 : decode cX6_copyFrom 89 = .ok (.getfield 27, 3) := by decide +kernel
theorem dX6_copyFrom_92 : decode cX6_copyFrom 92 = .ok (.iconst 0, 1) := by decide +kernel
theorem dX6_copyFrom_93 : decode cX6_copyFrom 93 = .ok (.bipush 10, 2) := by decide +kernel
theorem dX6_copyFrom_95 : decode cX6_copyFrom 95 = .ok (.invokestatic 34, 3) := by decide +kernel
theorem dX6_copyFrom_98 : decode cX6_copyFrom 98 = .ok (.return_, 1) := by decide +kernel
theorem dX6_has_0 : decode cX6_has 0 = .ok (.iload_n 1, 1) := by decide +kernel
theorem dX6_has_1 : decode cX6_has 1 = .ok (.ifCond .lt 15, 3) := by decide +kernel
theorem dX6_has_4 : decode cX6_has 4 = .ok (.iload_n 1, 1) := by decide +kernel
theorem dX6_has_5 : decode cX6_has 5 = .ok (.aload_n 0, 1) := by decide +kernel
theorem dX6_has_6 : decode cX6_has 6 = .ok (.getfield 30, 3) := by decide +kernel
theorem dX6_has_9 : decode cX6_has 9 = .ok (.if_icmp .ge 7, 3) := by decide +kernel
theorem dX6_has_12 : decode cX6_has 12 = .ok (.iconst 1, 1) := by decide +kernel
theorem dX6_has_13 : decode cX6_has 13 = .ok (.goto 4, 3) := by decide +kernel
theorem dX6_has_16 : decode cX6_has 16 = .ok (.iconst 0, 1) := by decide +kernel
theorem dX6_has_17 : decode cX6_has 17 = .ok (.ireturn, 1) := by decide +kernel
theorem dX6_hire_0 : decode cX6_hire 0 = .ok (.aload_n 0, 1) := by decide +kernel
theorem dX6_hire_1 : decode cX6_hire 1 = .ok (.getfield 30, 3) := by decide +kernel
theorem dX6_hire_4 : decode cX6_hire 4 = .ok (.bipush 10, 2) := by decide +kernel
theorem dX6_hire_6 : decode cX6_hire 6 = .ok (.if_icmp .lt 5, 3) := by decide +kernel
theorem dX6_hire_9 : decode cX6_hire 9 = .ok (.iconst (-1), 1) := by decide +kernel
theorem dX6_hire_10 : decode cX6_hire 10 = .ok (.ireturn, 1) := by decide +kernel
theorem dX6_hire_11 : decode cX6_hire 11 = .ok (.aload_n 0, 1) := by decide +kernel
theorem dX6_hire_12 : decode cX6_hire 12 = .ok (.getfield 9, 3) := by decide +kernel
theorem dX6_hire_15 : decode cX6_hire 15 = .ok (.aload_n 0, 1) := by decide +kernel
theorem dX6_hire_16 : decode cX6_hire 16 = .ok (.getfield 30, 3) := by decide +kernel
theorem dX6_hire_19 : decode cX6_hire 19 = .ok (.iload_n 1, 1) := by decide +kernel
theorem dX6_hire_20 : decode cX6_hire 20 = .ok (.iastore, 1) := by decide +kernel
theorem dX6_hire_21 : decode cX6_hire 21 = .ok (.aload_n 0, 1) := by decide +kernel
theorem dX6_hire_22 : decode cX6_hire 22 = .ok (.getfield 15, 3) := by decide +kernel
theorem dX6_hire_25 : decode cX6_hire 25 = .ok (.aload_n 0, 1) := by decide +kernel
theorem dX6_hire_26 : decode cX6_hire 26 = .ok (.getfield 30, 3) := by decide +kernel
theorem dX6_hire_29 : decode cX6_hire 29 = .ok (.iload_n 2, 1) := by decide +kernel
theorem dX6_hire_30 : decode cX6_hire 30 = .ok (.iastore, 1) := by decide +kernel
theorem dX6_hire_31 : decode cX6_hire 31 = .ok (.aload_n 0, 1) := by decide +kernel
theorem dX6_hire_32 : decode cX6_hire 32 = .ok (.getfield 18, 3) := by decide +kernel
theorem dX6_hire_35 : decode cX6_hire 35 = .ok (.aload_n 0, 1) := by decide +kernel
theorem dX6_hire_36 : decode cX6_hire 36 = .ok (.getfield 30, 3) := by decide +kernel
theorem dX6_hire_39 : decode cX6_hire 39 = .ok (.iload_n 3, 1) := by decide +kernel
theorem dX6_hire_40 : decode cX6_hire 40 = .ok (.iastore, 1) := by decide +kernel
theorem dX6_hire_41 : decode cX6_hire 41 = .ok (.aload_n 0, 1) := by decide +kernel
theorem dX6_hire_42 : decode cX6_hire 42 = .ok (.getfield 21, 3) := by decide +kernel
theorem dX6_hire_45 : decode cX6_hire 45 = .ok (.aload_n 0, 1) := by decide +kernel
theorem dX6_hire_46 : decode cX6_hire 46 = .ok (.getfield 30, 3) := by decide +kernel
theorem dX6_hire_49 : decode cX6_hire 49 = .ok (.iconst 0, 1) := by decide +kernel
theorem dX6_hire_50 : decode cX6_hire 50 = .ok (.iastore, 1) := by decide +kernel
theorem dX6_hire_51 : decode cX6_hire 51 = .ok (.aload_n 0, 1) := by decide +kernel
theorem dX6_hire_52 : decode cX6_hire 52 = .ok (.getfield 24, 3) := by decide +kernel
theorem dX6_hire_55 : decode cX6_hire 55 = .ok (.aload_n 0, 1) := by decide +kernel
theorem dX6_hire_56 : decode cX6_hire 56 = .ok (.getfield 30, 3) := by decide +kernel
theorem dX6_hire_59 : decode cX6_hire 59 = .ok (.iconst 0, 1) := by decide +kernel
theorem dX6_hire_60 : decode cX6_hire 60 = .ok (.iastore, 1) := by decide +kernel
theorem dX6_hire_61 : decode cX6_hire 61 = .ok (.aload_n 0, 1) := by decide +kernel
theorem dX6_hire_62 : decode cX6_hire 62 = .ok (.getfield 27, 3) := by decide +kernel
theorem dX6_hire_65 : decode cX6_hire 65 = .ok (.aload_n 0, 1) := by decide +kernel
theorem dX6_hire_66 : decode cX6_hire 66 = .ok (.getfield 30, 3) := by decide +kernel
theorem dX6_hire_69 : decode cX6_hire 69 = .ok (.iconst 0, 1) := by decide +kernel
theorem dX6_hire_70 : decode cX6_hire 70 = .ok (.iastore, 1) := by decide +kernel
theorem dX6_hire_71 : decode cX6_hire 71 = .ok (.aload_n 0, 1) := by decide +kernel
theorem dX6_hire_72 : decode cX6_hire 72 = .ok (.dup, 1) := by decide +kernel
theorem dX6_hire_73 : decode cX6_hire 73 = .ok (.getfield 30, 3) := by decide +kernel
theorem dX6_hire_76 : decode cX6_hire 76 = .ok (.iconst 1, 1) := by decide +kernel
theorem dX6_hire_77 : decode cX6_hire 77 = .ok (.iadd, 1) := by decide +kernel
theorem dX6_hire_78 : decode cX6_hire 78 = .ok (.putfield 30, 3) := by decide +kernel
theorem dX6_hire_81 : decode cX6_hire 81 = .ok (.aload_n 0, 1) := by decide +kernel
theorem dX6_hire_82 : decode cX6_hire 82 = .ok (.getfield 30, 3) := by decide +kernel
theorem dX6_hire_85 : decode cX6_hire 85 = .ok (.iconst 1, 1) := by decide +kernel
theorem dX6_hire_86 : decode cX6_hire 86 = .ok (.isub, 1) := by decide +kernel
theorem dX6_hire_87 : decode cX6_hire 87 = .ok (.ireturn, 1) := by decide +kernel
theorem dX6_speaks_0 : decode cX6_speaks 0 = .ok (.aload_n 0, 1) := by decide +kernel
theorem dX6_speaks_1 : decode cX6_speaks 1 = .ok (.iload_n 1, 1) := by decide +kernel
theorem dX6_speaks_2 : decode cX6_speaks 2 = .ok (.invokevirtual 40, 3) := by decide +kernel
theorem dX6_speaks_5 : decode cX6_speaks 5 = .ok (.ifCond .eq 20, 3) := by decide +kernel
theorem dX6_speaks_8 : decode cX6_speaks 8 = .ok (.aload_n 0, 1) := by decide +kernel
theorem dX6_speaks_9 : decode cX6_speaks 9 = .ok (.getfield 9, 3) := by decide +kernel
theorem dX6_speaks_12 : decode cX6_speaks 12 = .ok (.iload_n 1, 1) := by decide +kernel
theorem dX6_speaks_13 : decode cX6_speaks 13 = .ok (.iaload, 1) := by decide +kernel
theorem dX6_speaks_14 : decode cX6_speaks 14 = .ok (.iload_n 2, 1) := by decide +kernel
theorem dX6_speaks_15 : decode cX6_speaks 15 = .ok (.ishr, 1) := by decide +kernel
theorem dX6_speaks_16 : decode cX6_speaks 16 = .ok (.iconst 1, 1) := by decide +kernel
theorem dX6_speaks_17 : decode cX6_speaks 17 = .ok (.iand, 1) := by decide +kernel
theorem dX6_speaks_18 : decode cX6_speaks 18 = .ok (.ifCond .eq 7, 3) := by decide +kernel
theorem dX6_speaks_21 : decode cX6_speaks 21 = .ok (.iconst 1, 1) := by decide +kernel
theorem dX6_speaks_22 : decode cX6_speaks 22 = .ok (.goto 4, 3) := by decide +kernel
theorem dX6_speaks_25 : decode cX6_speaks 25 = .ok (.iconst 0, 1) := by decide +kernel
theorem dX6_speaks_26 : decode cX6_speaks 26 = .ok (.ireturn, 1) := by decide +kernel
theorem dX6_shareLanguage_0 : decode cX6_shareLanguage 0 = .ok (.aload_n 0, 1) := by decide +kernel
theorem dX6_shareLanguage_1 : decode cX6_shareLanguage 1 = .ok (.iload_n 1, 1) := by decide +kernel
theorem dX6_shareLanguage_2 : decode cX6_shareLanguage 2 = .ok (.invokevirtual 40, 3) := by decide +kernel
theorem dX6_shareLanguage_5 : decode cX6_shareLanguage 5 = .ok (.ifCond .eq 31, 3) := by decide +kernel
theorem dX6_shareLanguage_8 : decode cX6_shareLanguage 8 = .ok (.aload_n 0, 1) := by decide +kernel
theorem dX6_shareLanguage_9 : decode cX6_shareLanguage 9 = .ok (.iload_n 2, 1) := by decide +kernel
theorem dX6_shareLanguage_10 : decode cX6_shareLanguage 10 = .ok (.invokevirtual 40, 3) := by decide +kernel
theorem dX6_shareLanguage_13 : decode cX6_shareLanguage 13 = .ok (.ifCond .eq 23, 3) := by decide +kernel
theorem dX6_shareLanguage_16 : decode cX6_shareLanguage 16 = .ok (.aload_n 0, 1) := by decide +kernel
theorem dX6_shareLanguage_17 : decode cX6_shareLanguage 17 = .ok (.getfield 9, 3) := by decide +kernel
theorem dX6_shareLanguage_20 : decode cX6_shareLanguage 20 = .ok (.iload_n 1, 1) := by decide +kernel
theorem dX6_shareLanguage_21 : decode cX6_shareLanguage 21 = .ok (.iaload, 1) := by decide +kernel
theorem dX6_shareLanguage_22 : decode cX6_shareLanguage 22 = .ok (.aload_n 0, 1) := by decide +kernel
theorem dX6_shareLanguage_23 : decode cX6_shareLanguage 23 = .ok (.getfield 9, 3) := by decide +kernel
theorem dX6_shareLanguage_26 : decode cX6_shareLanguage 26 = .ok (.iload_n 2, 1) := by decide +kernel
theorem dX6_shareLanguage_27 : decode cX6_shareLanguage 27 = .ok (.iaload, 1) := by decide +kernel
theorem dX6_shareLanguage_28 : decode cX6_shareLanguage 28 = .ok (.iand, 1) := by decide +kernel
theorem dX6_shareLanguage_29 : decode cX6_shareLanguage 29 = .ok (.ifCond .eq 7, 3) := by decide +kernel
theorem dX6_shareLanguage_32 : decode cX6_shareLanguage 32 = .ok (.iconst 1, 1) := by decide +kernel
theorem dX6_shareLanguage_33 : decode cX6_shareLanguage 33 = .ok (.goto 4, 3) := by decide +kernel
theorem dX6_shareLanguage_36 : decode cX6_shareLanguage 36 = .ok (.iconst 0, 1) := by decide +kernel
theorem dX6_shareLanguage_37 : decode cX6_shareLanguage 37 = .ok (.ireturn, 1) := by decide +kernel
theorem dX6_leadToCourt_0 : decode cX6_leadToCourt 0 = .ok (.iload 4, 2) := by decide +kernel
theorem dX6_leadToCourt_2 : decode cX6_leadToCourt 2 = .ok (.iconst (-1), 1) := by decide +kernel
theorem dX6_leadToCourt_3 : decode cX6_leadToCourt 3 = .ok (.if_icmp .eq 8, 3) := by decide +kernel
theorem dX6_leadToCourt_6 : decode cX6_leadToCourt 6 = .ok (.iload 4, 2) := by decide +kernel
theorem dX6_leadToCourt_8 : decode cX6_leadToCourt 8 = .ok (.goto 13, 3) := by decide +kernel
theorem dX6_leadToCourt_11 : decode cX6_leadToCourt 11 = .ok (.iload_n 3, 1) := by decide +kernel
theorem dX6_leadToCourt_12 : decode cX6_leadToCourt 12 = .ok (.iconst (-1), 1) := by decide +kernel
theorem dX6_leadToCourt_13 : decode cX6_leadToCourt 13 = .ok (.if_icmp .eq 7, 3) := by decide +kernel
theorem dX6_leadToCourt_16 : decode cX6_leadToCourt 16 = .ok (.iload_n 3, 1) := by decide +kernel
theorem dX6_leadToCourt_17 : decode cX6_leadToCourt 17 = .ok (.goto 4, 3) := by decide +kernel
theorem dX6_leadToCourt_20 : decode cX6_leadToCourt 20 = .ok (.iload_n 2, 1) := by decide +kernel
theorem dX6_leadToCourt_21 : decode cX6_leadToCourt 21 = .ok (.istore 5, 2) := by decide +kernel
theorem dX6_leadToCourt_23 : decode cX6_leadToCourt 23 = .ok (.aload_n 0, 1) := by decide +kernel
theorem dX6_leadToCourt_24 : decode cX6_leadToCourt 24 = .ok (.iload_n 2, 1) := by decide +kernel
theorem dX6_leadToCourt_25 : decode cX6_leadToCourt 25 = .ok (.iload_n 1, 1) := by decide +kernel
theorem dX6_leadToCourt_26 : decode cX6_leadToCourt 26 = .ok (.invokevirtual 44, 3) := by decide +kernel
theorem dX6_leadToCourt_29 : decode cX6_leadToCourt 29 = .ok (.ifCond .eq 47, 3) := by decide +kernel
theorem dX6_leadToCourt_32 : decode cX6_leadToCourt 32 = .ok (.iload_n 3, 1) := by decide +kernel
theorem dX6_leadToCourt_33 : decode cX6_leadToCourt 33 = .ok (.iconst (-1), 1) := by decide +kernel
theorem dX6_leadToCourt_34 : decode cX6_leadToCourt 34 = .ok (.if_icmp .eq 12, 3) := by decide +kernel
theorem dX6_leadToCourt_37 : decode cX6_leadToCourt 37 = .ok (.aload_n 0, 1) := by decide +kernel
theorem dX6_leadToCourt_38 : decode cX6_leadToCourt 38 = .ok (.iload_n 2, 1) := by decide +kernel
theorem dX6_leadToCourt_39 : decode cX6_leadToCourt 39 = .ok (.iload_n 3, 1) := by decide +kernel
theorem dX6_leadToCourt_40 : decode cX6_leadToCourt 40 = .ok (.invokevirtual 48, 3) := by decide +kernel
theorem dX6_leadToCourt_43 : decode cX6_leadToCourt 43 = .ok (.ifCond .eq 33, 3) := by decide +kernel
theorem dX6_leadToCourt_46 : decode cX6_leadToCourt 46 = .ok (.iload 4, 2) := by decide +kernel
theorem dX6_leadToCourt_48 : decode cX6_leadToCourt 48 = .ok (.iconst (-1), 1) := by decide +kernel
theorem dX6_leadToCourt_49 : decode cX6_leadToCourt 49 = .ok (.if_icmp .eq 13, 3) := by decide +kernel
theorem dX6_leadToCourt_52 : decode cX6_leadToCourt 52 = .ok (.aload_n 0, 1) := by decide +kernel
theorem dX6_leadToCourt_53 : decode cX6_leadToCourt 53 = .ok (.iload_n 3, 1) := by decide +kernel
theorem dX6_leadToCourt_54 : decode cX6_leadToCourt 54 = .ok (.iload 4, 2) := by decide +kernel
theorem dX6_leadToCourt_56 : decode cX6_leadToCourt 56 = .ok (.invokevirtual 48, 3) := by decide +kernel
theorem dX6_leadToCourt_59 : decode cX6_leadToCourt 59 = .ok (.ifCond .eq 17, 3) := by decide +kernel
theorem dX6_leadToCourt_62 : decode cX6_leadToCourt 62 = .ok (.aload_n 0, 1) := by decide +kernel
theorem dX6_leadToCourt_63 : decode cX6_leadToCourt 63 = .ok (.iload 5, 2) := by decide +kernel
theorem dX6_leadToCourt_65 : decode cX6_leadToCourt 65 = .ok (.iconst 0, 1) := by decide +kernel
theorem dX6_leadToCourt_66 : decode cX6_leadToCourt 66 = .ok (.invokevirtual 44, 3) := by decide +kernel
theorem dX6_leadToCourt_69 : decode cX6_leadToCourt 69 = .ok (.ifCond .eq 7, 3) := by decide +kernel
theorem dX6_leadToCourt_72 : decode cX6_leadToCourt 72 = .ok (.iconst 1, 1) := by decide +kernel
theorem dX6_leadToCourt_73 : decode cX6_leadToCourt 73 = .ok (.goto 4, 3) := by decide +kernel
theorem dX6_leadToCourt_76 : decode cX6_leadToCourt 76 = .ok (.iconst 0, 1) := by decide +kernel
theorem dX6_leadToCourt_77 : decode cX6_leadToCourt 77 = .ok (.ireturn, 1) := by decide +kernel
theorem dX6_speakersOf_0 : decode cX6_speakersOf 0 = .ok (.iconst 0, 1) := by decide +kernel
theorem dX6_speakersOf_1 : decode cX6_speakersOf 1 = .ok (.istore_n 2, 1) := by decide +kernel
theorem dX6_speakersOf_2 : decode cX6_speakersOf 2 = .ok (.iconst 0, 1) := by decide +kernel
theorem dX6_speakersOf_3 : decode cX6_speakersOf 3 = .ok (.istore_n 3, 1) := by decide +kernel
theorem dX6_speakersOf_4 : decode cX6_speakersOf 4 = .ok (.iload_n 3, 1) := by decide +kernel
theorem dX6_speakersOf_5 : decode cX6_speakersOf 5 = .ok (.aload_n 0, 1) := by decide +kernel
theorem dX6_speakersOf_6 : decode cX6_speakersOf 6 = .ok (.getfield 30, 3) := by decide +kernel
theorem dX6_speakersOf_9 : decode cX6_speakersOf 9 = .ok (.if_icmp .ge 27, 3) := by decide +kernel
theorem dX6_speakersOf_12 : decode cX6_speakersOf 12 = .ok (.aload_n 0, 1) := by decide +kernel
theorem dX6_speakersOf_13 : decode cX6_speakersOf 13 = .ok (.getfield 9, 3) := by decide +kernel
theorem dX6_speakersOf_16 : decode cX6_speakersOf 16 = .ok (.iload_n 3, 1) := by decide +kernel
theorem dX6_speakersOf_17 : decode cX6_speakersOf 17 = .ok (.iaload, 1) := by decide +kernel
theorem dX6_speakersOf_18 : decode cX6_speakersOf 18 = .ok (.iload_n 1, 1) := by decide +kernel
theorem dX6_speakersOf_19 : decode cX6_speakersOf 19 = .ok (.iand, 1) := by decide +kernel
theorem dX6_speakersOf_20 : decode cX6_speakersOf 20 = .ok (.ifCond .eq 10, 3) := by decide +kernel
theorem dX6_speakersOf_23 : decode cX6_speakersOf 23 = .ok (.iload_n 2, 1) := by decide +kernel
theorem dX6_speakersOf_24 : decode cX6_speakersOf 24 = .ok (.iload_n 3, 1) := by decide +kernel
theorem dX6_speakersOf_25 : decode cX6_speakersOf 25 = .ok (.invokestatic 51, 3) := by decide +kernel
theorem dX6_speakersOf_28 : decode cX6_speakersOf 28 = .ok (.ior, 1) := by decide +kernel
theorem dX6_speakersOf_29 : decode cX6_speakersOf 29 = .ok (.istore_n 2, 1) := by decide +kernel
theorem dX6_speakersOf_30 : decode cX6_speakersOf 30 = .ok (.iinc 3 1, 3) := by decide +kernel
theorem dX6_speakersOf_33 : decode cX6_speakersOf 33 = .ok (.goto (-29), 3) := by decide +kernel
theorem dX6_speakersOf_36 : decode cX6_speakersOf 36 = .ok (.iload_n 2, 1) := by decide +kernel
theorem dX6_speakersOf_37 : decode cX6_speakersOf 37 = .ok (.ireturn, 1) := by decide +kernel
theorem dX6_certifiedFor_0 : decode cX6_certifiedFor 0 = .ok (.iconst 0, 1) := by decide +kernel
theorem dX6_certifiedFor_1 : decode cX6_certifiedFor 1 = .ok (.istore_n 2, 1) := by decide +kernel
theorem dX6_certifiedFor_2 : decode cX6_certifiedFor 2 = .ok (.iconst 0, 1) := by decide +kernel
theorem dX6_certifiedFor_3 : decode cX6_certifiedFor 3 = .ok (.istore_n 3, 1) := by decide +kernel
theorem dX6_certifiedFor_4 : decode cX6_certifiedFor 4 = .ok (.iload_n 3, 1) := by decide +kernel
theorem dX6_certifiedFor_5 : decode cX6_certifiedFor 5 = .ok (.aload_n 0, 1) := by decide +kernel
theorem dX6_certifiedFor_6 : decode cX6_certifiedFor 6 = .ok (.getfield 30, 3) := by decide +kernel
theorem dX6_certifiedFor_9 : decode cX6_certifiedFor 9 = .ok (.if_icmp .ge 29, 3) := by decide +kernel
theorem dX6_certifiedFor_12 : decode cX6_certifiedFor 12 = .ok (.aload_n 0, 1) := by decide +kernel
theorem dX6_certifiedFor_13 : decode cX6_certifiedFor 13 = .ok (.getfield 15, 3) := by decide +kernel
theorem dX6_certifiedFor_16 : decode cX6_certifiedFor 16 = .ok (.iload_n 3, 1) := by decide +kernel
theorem dX6_certifiedFor_17 : decode cX6_certifiedFor 17 = .ok (.iaload, 1) := by decide +kernel
theorem dX6_certifiedFor_18 : decode cX6_certifiedFor 18 = .ok (.iload_n 1, 1) := by decide +kernel
theorem dX6_certifiedFor_19 : decode cX6_certifiedFor 19 = .ok (.ishr, 1) := by decide +kernel
theorem dX6_certifiedFor_20 : decode cX6_certifiedFor 20 = .ok (.iconst 1, 1) := by decide +kernel
theorem dX6_certifiedFor_21 : decode cX6_certifiedFor 21 = .ok (.iand, 1) := by decide +kernel
theorem dX6_certifiedFor_22 : decode cX6_certifiedFor 22 = .ok (.ifCond .eq 10, 3) := by decide +kernel
theorem dX6_certifiedFor_25 : decode cX6_certifiedFor 25 = .ok (.iload_n 2, 1) := by decide +kernel
theorem dX6_certifiedFor_26 : decode cX6_certifiedFor 26 = .ok (.iload_n 3, 1) := by decide +kernel
theorem dX6_certifiedFor_27 : decode cX6_certifiedFor 27 = .ok (.invokestatic 51, 3) := by decide +kernel
theorem dX6_certifiedFor_30 : decode cX6_certifiedFor 30 = .ok (.ior, 1) := by decide +kernel
theorem dX6_certifiedFor_31 : decode cX6_certifiedFor 31 = .ok (.istore_n 2, 1) := by decide +kernel
theorem dX6_certifiedFor_32 : decode cX6_certifiedFor 32 = .ok (.iinc 3 1, 3) := by decide +kernel
theorem dX6_certifiedFor_35 : decode cX6_certifiedFor 35 = .ok (.goto (-31), 3) := by decide +kernel
theorem dX6_certifiedFor_38 : decode cX6_certifiedFor 38 = .ok (.iload_n 2, 1) := by decide +kernel
theorem dX6_certifiedFor_39 : decode cX6_certifiedFor 39 = .ok (.ireturn, 1) := by decide +kernel
theorem dX6_tiredAbove_0 : decode cX6_tiredAbove 0 = .ok (.iconst 0, 1) := by decide +kernel
theorem dX6_tiredAbove_1 : decode cX6_tiredAbove 1 = .ok (.istore_n 2, 1) := by decide +kernel
theorem dX6_tiredAbove_2 : decode cX6_tiredAbove 2 = .ok (.iconst 0, 1) := by decide +kernel
theorem dX6_tiredAbove_3 : decode cX6_tiredAbove 3 = .ok (.istore_n 3, 1) := by decide +kernel
theorem dX6_tiredAbove_4 : decode cX6_tiredAbove 4 = .ok (.iload_n 3, 1) := by decide +kernel
theorem dX6_tiredAbove_5 : decode cX6_tiredAbove 5 = .ok (.aload_n 0, 1) := by decide +kernel
theorem dX6_tiredAbove_6 : decode cX6_tiredAbove 6 = .ok (.getfield 30, 3) := by decide +kernel
theorem dX6_tiredAbove_9 : decode cX6_tiredAbove 9 = .ok (.if_icmp .ge 26, 3) := by decide +kernel
theorem dX6_tiredAbove_12 : decode cX6_tiredAbove 12 = .ok (.aload_n 0, 1) := by decide +kernel
theorem dX6_tiredAbove_13 : decode cX6_tiredAbove 13 = .ok (.getfield 21, 3) := by decide +kernel
theorem dX6_tiredAbove_16 : decode cX6_tiredAbove 16 = .ok (.iload_n 3, 1) := by decide +kernel
theorem dX6_tiredAbove_17 : decode cX6_tiredAbove 17 = .ok (.iaload, 1) := by decide +kernel
theorem dX6_tiredAbove_18 : decode cX6_tiredAbove 18 = .ok (.iload_n 1, 1) := by decide +kernel
theorem dX6_tiredAbove_19 : decode cX6_tiredAbove 19 = .ok (.if_icmp .le 10, 3) := by decide +kernel
theorem dX6_tiredAbove_22 : decode cX6_tiredAbove 22 = .ok (.iload_n 2, 1) := by decide +kernel
theorem dX6_tiredAbove_23 : decode cX6_tiredAbove 23 = .ok (.iload_n 3, 1) := by decide +kernel
theorem dX6_tiredAbove_24 : decode cX6_tiredAbove 24 = .ok (.invokestatic 51, 3) := by decide +kernel
theorem dX6_tiredAbove_27 : decode cX6_tiredAbove 27 = .ok (.ior, 1) := by decide +kernel
theorem dX6_tiredAbove_28 : decode cX6_tiredAbove 28 = .ok (.istore_n 2, 1) := by decide +kernel
theorem dX6_tiredAbove_29 : decode cX6_tiredAbove 29 = .ok (.iinc 3 1, 3) := by decide +kernel
theorem dX6_tiredAbove_32 : decode cX6_tiredAbove 32 = .ok (.goto (-28), 3) := by decide +kernel
theorem dX6_tiredAbove_35 : decode cX6_tiredAbove 35 = .ok (.iload_n 2, 1) := by decide +kernel
theorem dX6_tiredAbove_36 : decode cX6_tiredAbove 36 = .ok (.ireturn, 1) := by decide +kernel
theorem dX6_work_0 : decode cX6_work 0 = .ok (.aload_n 0, 1) := by decide +kernel
theorem dX6_work_1 : decode cX6_work 1 = .ok (.iload_n 1, 1) := by decide +kernel
theorem dX6_work_2 : decode cX6_work 2 = .ok (.invokevirtual 40, 3) := by decide +kernel
theorem dX6_work_5 : decode cX6_work 5 = .ok (.ifCond .eq 33, 3) := by decide +kernel
theorem dX6_work_8 : decode cX6_work 8 = .ok (.aload_n 0, 1) := by decide +kernel
theorem dX6_work_9 : decode cX6_work 9 = .ok (.getfield 21, 3) := by decide +kernel
theorem dX6_work_12 : decode cX6_work 12 = .ok (.iload_n 1, 1) := by decide +kernel
theorem dX6_work_13 : decode cX6_work 13 = .ok (.sipush 1000, 3) := by decide +kernel
theorem dX6_work_16 : decode cX6_work 16 = .ok (.aload_n 0, 1) := by decide +kernel
theorem dX6_work_17 : decode cX6_work 17 = .ok (.getfield 21, 3) := by decide +kernel
theorem dX6_work_20 : decode cX6_work 20 = .ok (.iload_n 1, 1) := by decide +kernel
theorem dX6_work_21 : decode cX6_work 21 = .ok (.iaload, 1) := by decide +kernel
theorem dX6_work_22 : decode cX6_work 22 = .ok (.iload_n 2, 1) := by decide +kernel
theorem dX6_work_23 : decode cX6_work 23 = .ok (.iadd, 1) := by decide +kernel
theorem dX6_work_24 : decode cX6_work 24 = .ok (.invokestatic 55, 3) := by decide +kernel
theorem dX6_work_27 : decode cX6_work 27 = .ok (.iastore, 1) := by decide +kernel
theorem dX6_work_28 : decode cX6_work 28 = .ok (.aload_n 0, 1) := by decide +kernel
theorem dX6_work_29 : decode cX6_work 29 = .ok (.getfield 27, 3) := by decide +kernel
theorem dX6_work_32 : decode cX6_work 32 = .ok (.iload_n 1, 1) := by decide +kernel
theorem dX6_work_33 : decode cX6_work 33 = .ok (.dup2, 1) := by decide +kernel
theorem dX6_work_34 : decode cX6_work 34 = .ok (.iaload, 1) := by decide +kernel
theorem dX6_work_35 : decode cX6_work 35 = .ok (.iconst 1, 1) := by decide +kernel
theorem dX6_work_36 : decode cX6_work 36 = .ok (.iadd, 1) := by decide +kernel
theorem dX6_work_37 : decode cX6_work 37 = .ok (.iastore, 1) := by decide +kernel
theorem dX6_work_38 : decode cX6_work 38 = .ok (.return_, 1) := by decide +kernel
theorem dX6_rest_0 : decode cX6_rest 0 = .ok (.aload_n 0, 1) := by decide +kernel
theorem dX6_rest_1 : decode cX6_rest 1 = .ok (.iload_n 1, 1) := by decide +kernel
theorem dX6_rest_2 : decode cX6_rest 2 = .ok (.invokevirtual 40, 3) := by decide +kernel
theorem dX6_rest_5 : decode cX6_rest 5 = .ok (.ifCond .eq 21, 3) := by decide +kernel
theorem dX6_rest_8 : decode cX6_rest 8 = .ok (.aload_n 0, 1) := by decide +kernel
theorem dX6_rest_9 : decode cX6_rest 9 = .ok (.getfield 21, 3) := by decide +kernel
theorem dX6_rest_12 : decode cX6_rest 12 = .ok (.iload_n 1, 1) := by decide +kernel
theorem dX6_rest_13 : decode cX6_rest 13 = .ok (.iconst 0, 1) := by decide +kernel
theorem dX6_rest_14 : decode cX6_rest 14 = .ok (.aload_n 0, 1) := by decide +kernel
theorem dX6_rest_15 : decode cX6_rest 15 = .ok (.getfield 21, 3) := by decide +kernel
theorem dX6_rest_18 : decode cX6_rest 18 = .ok (.iload_n 1, 1) := by decide +kernel
theorem dX6_rest_19 : decode cX6_rest 19 = .ok (.iaload, 1) := by decide +kernel
theorem dX6_rest_20 : decode cX6_rest 20 = .ok (.iload_n 2, 1) := by decide +kernel
theorem dX6_rest_21 : decode cX6_rest 21 = .ok (.isub, 1) := by decide +kernel
theorem dX6_rest_22 : decode cX6_rest 22 = .ok (.invokestatic 61, 3) := by decide +kernel
theorem dX6_rest_25 : decode cX6_rest 25 = .ok (.iastore, 1) := by decide +kernel
theorem dX6_rest_26 : decode cX6_rest 26 = .ok (.return_, 1) := by decide +kernel
theorem dX6_pay_0 : decode cX6_pay 0 = .ok (.aload_n 0, 1) := by decide +kernel
theorem dX6_pay_1 : decode cX6_pay 1 = .ok (.iload_n 1, 1) := by decide +kernel
theorem dX6_pay_2 : decode cX6_pay 2 = .ok (.invokevirtual 40, 3) := by decide +kernel
theorem dX6_pay_5 : decode cX6_pay 5 = .ok (.ifCond .eq 13, 3) := by decide +kernel
theorem dX6_pay_8 : decode cX6_pay 8 = .ok (.aload_n 0, 1) := by decide +kernel
theorem dX6_pay_9 : decode cX6_pay 9 = .ok (.getfield 24, 3) := by decide +kernel
theorem dX6_pay_12 : decode cX6_pay 12 = .ok (.iload_n 1, 1) := by decide +kernel
theorem dX6_pay_13 : decode cX6_pay 13 = .ok (.dup2, 1) := by decide +kernel
theorem dX6_pay_14 : decode cX6_pay 14 = .ok (.iaload, 1) := by decide +kernel
theorem dX6_pay_15 : decode cX6_pay 15 = .ok (.iload_n 2, 1) := by decide +kernel
theorem dX6_pay_16 : decode cX6_pay 16 = .ok (.iadd, 1) := by decide +kernel
theorem dX6_pay_17 : decode cX6_pay 17 = .ok (.iastore, 1) := by decide +kernel
theorem dX6_pay_18 : decode cX6_pay 18 = .ok (.return_, 1) := by decide +kernel
theorem dX6_languagesWithoutChain_0 : decode cX6_languagesWithoutChain 0 = .ok (.iconst 1, 1) := by decide +kernel
theorem dX6_languagesWithoutChain_1 : decode cX6_languagesWithoutChain 1 = .ok (.istore_n 2, 1) := by decide +kernel
theorem dX6_languagesWithoutChain_2 : decode cX6_languagesWithoutChain 2 = .ok (.iconst 0, 1) := by decide +kernel
theorem dX6_languagesWithoutChain_3 : decode cX6_languagesWithoutChain 3 = .ok (.istore_n 3, 1) := by decide +kernel
theorem dX6_languagesWithoutChain_4 : decode cX6_languagesWithoutChain 4 = .ok (.iload_n 3, 1) := by decide +kernel
theorem dX6_languagesWithoutChain_5 : decode cX6_languagesWithoutChain 5 = .ok (.iconst 3, 1) := by decide +kernel
theorem dX6_languagesWithoutChain_6 : decode cX6_languagesWithoutChain 6 = .ok (.if_icmp .ge 16, 3) := by decide +kernel
theorem dX6_languagesWithoutChain_9 : decode cX6_languagesWithoutChain 9 = .ok (.aload_n 0, 1) := by decide +kernel
theorem dX6_languagesWithoutChain_10 : decode cX6_languagesWithoutChain 10 = .ok (.iload_n 2, 1) := by decide +kernel
theorem dX6_languagesWithoutChain_11 : decode cX6_languagesWithoutChain 11 = .ok (.iload_n 1, 1) := by decide +kernel
theorem dX6_languagesWithoutChain_12 : decode cX6_languagesWithoutChain 12 = .ok (.invokevirtual 64, 3) := by decide +kernel
theorem dX6_languagesWithoutChain_15 : decode cX6_languagesWithoutChain 15 = .ok (.istore_n 2, 1) := by decide +kernel
theorem dX6_languagesWithoutChain_16 : decode cX6_languagesWithoutChain 16 = .ok (.iinc 3 1, 3) := by decide +kernel
theorem dX6_languagesWithoutChain_19 : decode cX6_languagesWithoutChain 19 = .ok (.goto (-15), 3) := by decide +kernel
theorem dX6_languagesWithoutChain_22 : decode cX6_languagesWithoutChain 22 = .ok (.sipush 1022, 3) := by decide +kernel
theorem dX6_languagesWithoutChain_25 : decode cX6_languagesWithoutChain 25 = .ok (.iload_n 2, 1) := by decide +kernel
theorem dX6_languagesWithoutChain_26 : decode cX6_languagesWithoutChain 26 = .ok (.iconst (-1), 1) := by decide +kernel
theorem dX6_languagesWithoutChain_27 : decode cX6_languagesWithoutChain 27 = .ok (.ixor, 1) := by decide +kernel
theorem dX6_languagesWithoutChain_28 : decode cX6_languagesWithoutChain 28 = .ok (.iand, 1) := by decide +kernel
theorem dX6_languagesWithoutChain_29 : decode cX6_languagesWithoutChain 29 = .ok (.ireturn, 1) := by decide +kernel
theorem dX6_widened_0 : decode cX6_widened 0 = .ok (.iload_n 1, 1) := by decide +kernel
theorem dX6_widened_1 : decode cX6_widened 1 = .ok (.istore_n 3, 1) := by decide +kernel
theorem dX6_widened_2 : decode cX6_widened 2 = .ok (.iconst 0, 1) := by decide +kernel
theorem dX6_widened_3 : decode cX6_widened 3 = .ok (.istore 4, 2) := by decide +kernel
theorem dX6_widened_5 : decode cX6_widened 5 = .ok (.iload 4, 2) := by decide +kernel
theorem dX6_widened_7 : decode cX6_widened 7 = .ok (.aload_n 0, 1) := by decide +kernel
theorem dX6_widened_8 : decode cX6_widened 8 = .ok (.getfield 30, 3) := by decide +kernel
theorem dX6_widened_11 : decode cX6_widened 11 = .ok (.if_icmp .ge 45, 3) := by decide +kernel
theorem dX6_widened_14 : decode cX6_widened 14 = .ok (.aload_n 0, 1) := by decide +kernel
theorem dX6_widened_15 : decode cX6_widened 15 = .ok (.getfield 15, 3) := by decide +kernel
theorem dX6_widened_18 : decode cX6_widened 18 = .ok (.iload 4, 2) := by decide +kernel
theorem dX6_widened_20 : decode cX6_widened 20 = .ok (.iaload, 1) := by decide +kernel
theorem dX6_widened_21 : decode cX6_widened 21 = .ok (.iload_n 2, 1) := by decide +kernel
theorem dX6_widened_22 : decode cX6_widened 22 = .ok (.ishr, 1) := by decide +kernel
theorem dX6_widened_23 : decode cX6_widened 23 = .ok (.iconst 1, 1) := by decide +kernel
theorem dX6_widened_24 : decode cX6_widened 24 = .ok (.iand, 1) := by decide +kernel
theorem dX6_widened_25 : decode cX6_widened 25 = .ok (.ifCond .eq 25, 3) := by decide +kernel
theorem dX6_widened_28 : decode cX6_widened 28 = .ok (.aload_n 0, 1) := by decide +kernel
theorem dX6_widened_29 : decode cX6_widened 29 = .ok (.getfield 9, 3) := by decide +kernel
theorem dX6_widened_32 : decode cX6_widened 32 = .ok (.iload 4, 2) := by decide +kernel
theorem dX6_widened_34 : decode cX6_widened 34 = .ok (.iaload, 1) := by decide +kernel
theorem dX6_widened_35 : decode cX6_widened 35 = .ok (.iload_n 1, 1) := by decide +kernel
theorem dX6_widened_36 : decode cX6_widened 36 = .ok (.iand, 1) := by decide +kernel
theorem dX6_widened_37 : decode cX6_widened 37 = .ok (.ifCond .eq 13, 3) := by decide +kernel
theorem dX6_widened_40 : decode cX6_widened 40 = .ok (.iload_n 3, 1) := by decide +kernel
theorem dX6_widened_41 : decode cX6_widened 41 = .ok (.aload_n 0, 1) := by decide +kernel
theorem dX6_widened_42 : decode cX6_widened 42 = .ok (.getfield 9, 3) := by decide +kernel
theorem dX6_widened_45 : decode cX6_widened 45 = .ok (.iload 4, 2) := by decide +kernel
theorem dX6_widened_47 : decode cX6_widened 47 = .ok (.iaload, 1) := by decide +kernel
theorem dX6_widened_48 : decode cX6_widened 48 = .ok (.ior, 1) := by decide +kernel
theorem dX6_widened_49 : decode cX6_widened 49 = .ok (.istore_n 3, 1) := by decide +kernel
theorem dX6_widened_50 : decode cX6_widened 50 = .ok (.iinc 4 1, 3) := by decide +kernel
theorem dX6_widened_53 : decode cX6_widened 53 = .ok (.goto (-48), 3) := by decide +kernel
theorem dX6_widened_56 : decode cX6_widened 56 = .ok (.iload_n 3, 1) := by decide +kernel
theorem dX6_widened_57 : decode cX6_widened 57 = .ok (.ireturn, 1) := by decide +kernel
theorem dX7_init_0 : decode cX7_init 0 = .ok (.aload_n 0, 1) := by decide +kernel
theorem dX7_init_1 : decode cX7_init 1 = .ok (.invokespecial 1, 3) := by decide +kernel
theorem dX7_init_4 : decode cX7_init 4 = .ok (.aload_n 0, 1) := by decide +kernel
theorem dX7_init_5 : decode cX7_init 5 = .ok (.new 7, 3) := by decide +kernel
theorem dX7_init_8 : decode cX7_init 8 = .ok (.dup, 1) := by decide +kernel
theorem dX7_init_9 : decode cX7_init 9 = .ok (.invokespecial 9, 3) := by decide +kernel
theorem dX7_init_12 : decode cX7_init 12 = .ok (.putfield 10, 3) := by decide +kernel
theorem dX7_init_15 : decode cX7_init 15 = .ok (.aload_n 0, 1) := by decide +kernel
theorem dX7_init_16 : decode cX7_init 16 = .ok (.new 7, 3) := by decide +kernel
theorem dX7_init_19 : decode cX7_init 19 = .ok (.dup, 1) := by decide +kernel
theorem dX7_init_20 : decode cX7_init 20 = .ok (.invokespecial 9, 3) := by decide +kernel
theorem dX7_init_23 : decode cX7_init 23 = .ok (.putfield 16, 3) := by decide +kernel
theorem dX7_init_26 : decode cX7_init 26 = .ok (.aload_n 0, 1) := by decide +kernel
theorem dX7_init_27 : decode cX7_init 27 = .ok (.new 19, 3) := by decide +kernel
theorem dX7_init_30 : decode cX7_init 30 = .ok (.dup, 1) := by decide +kernel
theorem dX7_init_31 : decode cX7_init 31 = .ok (.invokespecial 21, 3) := by decide +kernel
theorem dX7_init_34 : decode cX7_init 34 = .ok (.putfield 22, 3) := by decide +kernel
theorem dX7_init_37 : decode cX7_init 37 = .ok (.aload_n 0, 1) := by decide +kernel
theorem dX7_init_38 : decode cX7_init 38 = .ok (.new 26, 3) := by decide +kernel
theorem dX7_init_41 : decode cX7_init 41 = .ok (.dup, 1) := by decide +kernel
theorem dX7_init_42 : decode cX7_init 42 = .ok (.invokespecial 28, 3) := by decide +kernel
theorem dX7_init_45 : decode cX7_init 45 = .ok (.putfield 29, 3) := by decide +kernel
theorem dX7_init_48 : decode cX7_init 48 = .ok (.aload_n 0, 1) := by decide +kernel
theorem dX7_init_49 : decode cX7_init 49 = .ok (.new 33, 3) := by decide +kernel
theorem dX7_init_52 : decode cX7_init 52 = .ok (.dup, 1) := by decide +kernel
theorem dX7_init_53 : decode cX7_init 53 = .ok (.invokespecial 35, 3) := by decide +kernel
theorem dX7_init_56 : decode cX7_init 56 = .ok (.putfield 36, 3) := by decide +kernel
theorem dX7_init_59 : decode cX7_init 59 = .ok (.aload_n 0, 1) := by decide +kernel
theorem dX7_init_60 : decode cX7_init 60 = .ok (.new 40, 3) := by decide +kernel
theorem dX7_init_63 : decode cX7_init 63 = .ok (.dup, 1) := by decide +kernel
theorem dX7_init_64 : decode cX7_init 64 = .ok (.invokespecial 42, 3) := by decide +kernel
theorem dX7_init_67 : decode cX7_init 67 = .ok (.putfield 43, 3) := by decide +kernel
theorem dX7_init_70 : decode cX7_init 70 = .ok (.return_, 1) := by decide +kernel
theorem dX7_addInterpreter_0 : decode cX7_addInterpreter 0 = .ok (.iload_n 1, 1) := by decide +kernel
theorem dX7_addInterpreter_1 : decode cX7_addInterpreter 1 = .ok (.iconst 1, 1) := by decide +kernel
theorem dX7_addInterpreter_2 : decode cX7_addInterpreter 2 = .ok (.sipush 1023, 3) := by decide +kernel
theorem dX7_addInterpreter_5 : decode cX7_addInterpreter 5 = .ok (.invokestatic 47, 3) := by decide +kernel
theorem dX7_addInterpreter_8 : decode cX7_addInterpreter 8 = .ok (.ifCond .eq 31, 3) := by decide +kernel
theorem dX7_addInterpreter_11 : decode cX7_addInterpreter 11 = .ok (.iload_n 1, 1) := by decide +kernel
theorem dX7_addInterpreter_12 : decode cX7_addInterpreter 12 = .ok (.invokestatic 51, 3) := by decide +kernel
theorem dX7_addInterpreter_15 : decode cX7_addInterpreter 15 = .ok (.iconst 2, 1) := by decide +kernel
theorem dX7_addInterpreter_16 : decode cX7_addInterpreter 16 = .ok (.if_icmp .lt 23, 3) := by decide +kernel
theorem dX7_addInterpreter_19 : decode cX7_addInterpreter 19 = .ok (.iload_n 2, 1) := by decide +kernel
theorem dX7_addInterpreter_20 : decode cX7_addInterpreter 20 = .ok (.iconst 0, 1) := by decide +kernel
theorem dX7_addInterpreter_21 : decode cX7_addInterpreter 21 = .ok (.bipush 7, 2) := by decide +kernel
theorem dX7_addInterpreter_23 : decode cX7_addInterpreter 23 = .ok (.invokestatic 47, 3) := by decide +kernel
theorem dX7_addInterpreter_26 : decode cX7_addInterpreter 26 = .ok (.ifCond .eq 13, 3) := by decide +kernel
theorem dX7_addInterpreter_29 : decode cX7_addInterpreter 29 = .ok (.iload_n 3, 1) := by decide +kernel
theorem dX7_addInterpreter_30 : decode cX7_addInterpreter 30 = .ok (.iconst 1, 1) := by decide +kernel
theorem dX7_addInterpreter_31 : decode cX7_addInterpreter 31 = .ok (.bipush 100, 2) := by decide +kernel
theorem dX7_addInterpreter_33 : decode cX7_addInterpreter 33 = .ok (.invokestatic 47, 3) := by decide +kernel
theorem dX7_addInterpreter_36 : decode cX7_addInterpreter 36 = .ok (.ifCond .ne 13, 3) := by decide +kernel
theorem dX7_addInterpreter_39 : decode cX7_addInterpreter 39 = .ok (.new 57, 3) := by decide +kernel
theorem dX7_addInterpreter_42 : decode cX7_addInterpreter 42 = .ok (.dup, 1) := by decide +kernel
theorem dX7_addInterpreter_43 : decode cX7_addInterpreter 43 = .ok (.ldc 59, 2) := by decide +kernel
theorem dX7_addInterpreter_45 : decode cX7_addInterpreter 45 = .ok (.invokespecial 61, 3) := by decide +kernel
theorem dX7_addInterpreter_48 : decode cX7_addInterpreter 48 = .ok (.athrow, 1) := by decide +kernel
theorem dX7_addInterpreter_49 : decode cX7_addInterpreter 49 = .ok (.aload_n 0, 1) := by decide +kernel
theorem dX7_addInterpreter_50 : decode cX7_addInterpreter 50 = .ok (.getfield 10, 3) := by decide +kernel
theorem dX7_addInterpreter_53 : decode cX7_addInterpreter 53 = .ok (.getfield 64, 3) := by decide +kernel
theorem dX7_addInterpreter_56 : decode cX7_addInterpreter 56 = .ok (.getfield 68, 3) := by decide +kernel
theorem dX7_addInterpreter_59 : decode cX7_addInterpreter 59 = .ok (.bipush 10, 2) := by decide +kernel
theorem dX7_addInterpreter_61 : decode cX7_addInterpreter 61 = .ok (.if_icmp .lt 13, 3) := by decide +kernel
theorem dX7_addInterpreter_64 : decode cX7_addInterpreter 64 = .ok (.new 74, 3) := by decide +kernel
theorem dX7_addInterpreter_67 : decode cX7_addInterpreter 67 = .ok (.dup, 1) := by decide +kernel
theorem dX7_addInterpreter_68 : decode cX7_addInterpreter 68 = .ok (.ldc 76, 2) := by decide +kernel
theorem dX7_addInterpreter_70 : decode cX7_addInterpreter 70 = .ok (.invokespecial 78, 3) := by decide +kernel
theorem dX7_addInterpreter_73 : decode cX7_addInterpreter 73 = .ok (.athrow, 1) := by decide +kernel
theorem dX7_addInterpreter_74 : decode cX7_addInterpreter 74 = .ok (.aload_n 0, 1) := by decide +kernel
theorem dX7_addInterpreter_75 : decode cX7_addInterpreter 75 = .ok (.getfield 22, 3) := by decide +kernel
theorem dX7_addInterpreter_78 : decode cX7_addInterpreter 78 = .ok (.aload_n 0, 1) := by decide +kernel
theorem dX7_addInterpreter_79 : decode cX7_addInterpreter 79 = .ok (.getfield 10, 3) := by decide +kernel
theorem dX7_addInterpreter_82 : decode cX7_addInterpreter 82 = .ok (.invokevirtual 79, 3) := by decide +kernel
theorem dX7_addInterpreter_85 : decode cX7_addInterpreter 85 = .ok (.aload_n 0, 1) := by decide +kernel
theorem dX7_addInterpreter_86 : decode cX7_addInterpreter 86 = .ok (.getfield 10, 3) := by decide +kernel
theorem dX7_addInterpreter_89 : decode cX7_addInterpreter 89 = .ok (.getfield 64, 3) := by decide +kernel
theorem dX7_addInterpreter_92 : decode cX7_addInterpreter 92 = .ok (.iload_n 1, 1) := by decide +kernel
theorem dX7_addInterpreter_93 : decode cX7_addInterpreter 93 = .ok (.iload_n 2, 1) := by decide +kernel
theorem dX7_addInterpreter_94 : decode cX7_addInterpreter 94 = .ok (.iload_n 3, 1) := by decide +kernel
theorem dX7_addInterpreter_95 : decode cX7_addInterpreter 95 = .ok (.invokevirtual 83, 3) := by decide +kernel
theorem dX7_addInterpreter_98 : decode cX7_addInterpreter 98 = .ok (.ireturn, 1) := by decide +kernel
theorem dX7_addHearing_0 : decode cX7_addHearing 0 = .ok (.iload_n 1, 1) := by decide +kernel
theorem dX7_addHearing_1 : decode cX7_addHearing 1 = .ok (.iconst 0, 1) := by decide +kernel
theorem dX7_addHearing_2 : decode cX7_addHearing 2 = .ok (.iconst 2, 1) := by decide +kernel
theorem dX7_addHearing_3 : decode cX7_addHearing 3 = .ok (.invokestatic 47, 3) := by decide +kernel
theorem dX7_addHearing_6 : decode cX7_addHearing 6 = .ok (.ifCond .eq 37, 3) := by decide +kernel
theorem dX7_addHearing_9 : decode cX7_addHearing 9 = .ok (.iload_n 2, 1) := by decide +kernel
theorem dX7_addHearing_10 : decode cX7_addHearing 10 = .ok (.iconst 1, 1) := by decide +kernel
theorem dX7_addHearing_11 : decode cX7_addHearing 11 = .ok (.bipush 9, 2) := by decide +kernel
theorem dX7_addHearing_13 : decode cX7_addHearing 13 = .ok (.invokestatic 47, 3) := by decide +kernel
theorem dX7_addHearing_16 : decode cX7_addHearing 16 = .ok (.ifCond .eq 27, 3) := by decide +kernel
theorem dX7_addHearing_19 : decode cX7_addHearing 19 = .ok (.iload_n 3, 1) := by decide +kernel
theorem dX7_addHearing_20 : decode cX7_addHearing 20 = .ok (.iconst 1, 1) := by decide +kernel
theorem dX7_addHearing_21 : decode cX7_addHearing 21 = .ok (.sipush 2000, 3) := by decide +kernel
theorem dX7_addHearing_24 : decode cX7_addHearing 24 = .ok (.invokestatic 47, 3) := by decide +kernel
theorem dX7_addHearing_27 : decode cX7_addHearing 27 = .ok (.ifCond .eq 16, 3) := by decide +kernel
theorem dX7_addHearing_30 : decode cX7_addHearing 30 = .ok (.iload 4, 2) := by decide +kernel
theorem dX7_addHearing_32 : decode cX7_addHearing 32 = .ok (.bipush 10, 2) := by decide +kernel
theorem dX7_addHearing_34 : decode cX7_addHearing 34 = .ok (.sipush 240, 3) := by decide +kernel
theorem dX7_addHearing_37 : decode cX7_addHearing 37 = .ok (.invokestatic 47, 3) := by decide +kernel
theorem dX7_addHearing_40 : decode cX7_addHearing 40 = .ok (.ifCond .ne 13, 3) := by decide +kernel
theorem dX7_addHearing_43 : decode cX7_addHearing 43 = .ok (.new 57, 3) := by decide +kernel
theorem dX7_addHearing_46 : decode cX7_addHearing 46 = .ok (.dup, 1) := by decide +kernel
theorem dX7_addHearing_47 : decode cX7_addHearing 47 = .ok (.ldc 87, 2) := by decide +kernel
theorem dX7_addHearing_49 : decode cX7_addHearing 49 = .ok (.invokespecial 61, 3) := by decide +kernel
theorem dX7_addHearing_52 : decode cX7_addHearing 52 = .ok (.athrow, 1) := by decide +kernel
theorem dX7_addHearing_53 : decode cX7_addHearing 53 = .ok (.aload_n 0, 1) := by decide +kernel
theorem dX7_addHearing_54 : decode cX7_addHearing 54 = .ok (.getfield 10, 3) := by decide +kernel
theorem dX7_addHearing_57 : decode cX7_addHearing 57 = .ok (.getfield 89, 3) := by decide +kernel
theorem dX7_addHearing_60 : decode cX7_addHearing 60 = .ok (.getfield 93, 3) := by decide +kernel
theorem dX7_addHearing_63 : decode cX7_addHearing 63 = .ok (.bipush 30, 2) := by decide +kernel
theorem dX7_addHearing_65 : decode cX7_addHearing 65 = .ok (.if_icmp .lt 13, 3) := by decide +kernel
theorem dX7_addHearing_68 : decode cX7_addHearing 68 = .ok (.new 74, 3) := by decide +kernel
theorem dX7_addHearing_71 : decode cX7_addHearing 71 = .ok (.dup, 1) := by decide +kernel
theorem dX7_addHearing_72 : decode cX7_addHearing 72 = .ok (.ldc 96, 2) := by decide +kernel
theorem dX7_addHearing_74 : decode cX7_addHearing 74 = .ok (.invokespecial 78, 3) := by decide +kernel
theorem dX7_addHearing_77 : decode cX7_addHearing 77 = .ok (.athrow, 1) := by decide +kernel
theorem dX7_addHearing_78 : decode cX7_addHearing 78 = .ok (.aload_n 0, 1) := by decide +kernel
theorem dX7_addHearing_79 : decode cX7_addHearing 79 = .ok (.getfield 22, 3) := by decide +kernel
theorem dX7_addHearing_82 : decode cX7_addHearing 82 = .ok (.aload_n 0, 1) := by decide +kernel
theorem dX7_addHearing_83 : decode cX7_addHearing 83 = .ok (.getfield 10, 3) := by decide +kernel
theorem dX7_addHearing_86 : decode cX7_addHearing 86 = .ok (.invokevirtual 79, 3) := by decide +kernel
theorem dX7_addHearing_89 : decode cX7_addHearing 89 = .ok (.aload_n 0, 1) := by decide +kernel
theorem dX7_addHearing_90 : decode cX7_addHearing 90 = .ok (.getfield 10, 3) := by decide +kernel
theorem dX7_addHearing_93 : decode cX7_addHearing 93 = .ok (.getfield 89, 3) := by decide +kernel
theorem dX7_addHearing_96 : decode cX7_addHearing 96 = .ok (.iload_n 1, 1) := by decide +kernel
theorem dX7_addHearing_97 : decode cX7_addHearing 97 = .ok (.iload_n 2, 1) := by decide +kernel
theorem dX7_addHearing_98 : decode cX7_addHearing 98 = .ok (.aload_n 0, 1) := by decide +kernel
theorem dX7_addHearing_99 : decode cX7_addHearing 99 = .ok (.getfield 10, 3) := by decide +kernel
theorem dX7_addHearing_102 : decode cX7_addHearing 102 = .ok (.getfield 98, 3) := by decide +kernel
theorem dX7_addHearing_105 : decode cX7_addHearing 105 = .ok (.iload_n 3, 1) := by decide +kernel
theorem dX7_addHearing_106 : decode cX7_addHearing 106 = .ok (.iadd, 1) := by decide +kernel
theorem dX7_addHearing_107 : decode cX7_addHearing 107 = .ok (.iload 4, 2) := by decide +kernel
theorem dX7_addHearing_109 : decode cX7_addHearing 109 = .ok (.invokevirtual 101, 3) := by decide +kernel
theorem dX7_addHearing_112 : decode cX7_addHearing 112 = .ok (.ireturn, 1) := by decide +kernel
theorem dX7_certify_0 : decode cX7_certify 0 = .ok (.aload_n 0, 1) := by decide +kernel
theorem dX7_certify_1 : decode cX7_certify 1 = .ok (.getfield 10, 3) := by decide +kernel
theorem dX7_certify_4 : decode cX7_certify 4 = .ok (.getfield 64, 3) := by decide +kernel
theorem dX7_certify_7 : decode cX7_certify 7 = .ok (.iload_n 1, 1) := by decide +kernel
theorem dX7_certify_8 : decode cX7_certify 8 = .ok (.invokevirtual 105, 3) := by decide +kernel
theorem dX7_certify_11 : decode cX7_certify 11 = .ok (.ifCond .ne 13, 3) := by decide +kernel
theorem dX7_certify_14 : decode cX7_certify 14 = .ok (.new 109, 3) := by decide +kernel
theorem dX7_certify_17 : decode cX7_certify 17 = .ok (.dup, 1) := by decide +kernel
theorem dX7_certify_18 : decode cX7_certify 18 = .ok (.ldc 111, 2) := by decide +kernel
theorem dX7_certify_20 : decode cX7_certify 20 = .ok (.invokespecial 113, 3) := by decide +kernel
theorem dX7_certify_23 : decode cX7_certify 23 = .ok (.athrow, 1) := by decide +kernel
theorem dX7_certify_24 : decode cX7_certify 24 = .ok (.iload_n 2, 1) := by decide +kernel
theorem dX7_certify_25 : decode cX7_certify 25 = .ok (.iconst 0, 1) := by decide +kernel
theorem dX7_certify_26 : decode cX7_certify 26 = .ok (.bipush 7, 2) := by decide +kernel
theorem dX7_certify_28 : decode cX7_certify 28 = .ok (.invokestatic 47, 3) := by decide +kernel
theorem dX7_certify_31 : decode cX7_certify 31 = .ok (.ifCond .ne 13, 3) := by decide +kernel
theorem dX7_certify_34 : decode cX7_certify 34 = .ok (.new 57, 3) := by decide +kernel
theorem dX7_certify_37 : decode cX7_certify 37 = .ok (.dup, 1) := by decide +kernel
theorem dX7_certify_38 : decode cX7_certify 38 = .ok (.ldc 114, 2) := by decide +kernel
theorem dX7_certify_40 : decode cX7_certify 40 = .ok (.invokespecial 61, 3) := by decide +kernel
theorem dX7_certify_43 : decode cX7_certify 43 = .ok (.athrow, 1) := by decide +kernel
theorem dX7_certify_44 : decode cX7_certify 44 = .ok (.aload_n 0, 1) := by decide +kernel
theorem dX7_certify_45 : decode cX7_certify 45 = .ok (.getfield 22, 3) := by decide +kernel
theorem dX7_certify_48 : decode cX7_certify 48 = .ok (.aload_n 0, 1) := by decide +kernel
theorem dX7_certify_49 : decode cX7_certify 49 = .ok (.getfield 10, 3) := by decide +kernel
theorem dX7_certify_52 : decode cX7_certify 52 = .ok (.invokevirtual 79, 3) := by decide +kernel
theorem dX7_certify_55 : decode cX7_certify 55 = .ok (.aload_n 0, 1) := by decide +kernel
theorem dX7_certify_56 : decode cX7_certify 56 = .ok (.getfield 10, 3) := by decide +kernel
theorem dX7_certify_59 : decode cX7_certify 59 = .ok (.getfield 64, 3) := by decide +kernel
theorem dX7_certify_62 : decode cX7_certify 62 = .ok (.getfield 116, 3) := by decide +kernel
theorem dX7_certify_65 : decode cX7_certify 65 = .ok (.iload_n 1, 1) := by decide +kernel
theorem dX7_certify_66 : decode cX7_certify 66 = .ok (.iaload, 1) := by decide +kernel
theorem dX7_certify_67 : decode cX7_certify 67 = .ok (.istore_n 3, 1) := by decide +kernel
theorem dX7_certify_68 : decode cX7_certify 68 = .ok (.aload_n 0, 1) := by decide +kernel
theorem dX7_certify_69 : decode cX7_certify 69 = .ok (.getfield 10, 3) := by decide +kernel
theorem dX7_certify_72 : decode cX7_certify 72 = .ok (.getfield 64, 3) := by decide +kernel
theorem dX7_certify_75 : decode cX7_certify 75 = .ok (.getfield 116, 3) := by decide +kernel
theorem dX7_certify_78 : decode cX7_certify 78 = .ok (.iload_n 1, 1) := by decide +kernel
theorem dX7_certify_79 : decode cX7_certify 79 = .ok (.iload_n 2, 1) := by decide +kernel
theorem dX7_certify_80 : decode cX7_certify 80 = .ok (.iastore, 1) := by decide +kernel
theorem dX7_certify_81 : decode cX7_certify 81 = .ok (.iload_n 3, 1) := by decide +kernel
theorem dX7_certify_82 : decode cX7_certify 82 = .ok (.ireturn, 1) := by decide +kernel
theorem dX7_set_0 : decode cX7_set 0 = .ok (.iload_n 1, 1) := by decide +kernel
theorem dX7_set_1 : decode cX7_set 1 = .ok (.invokestatic 120, 3) := by decide +kernel
theorem dX7_set_4 : decode cX7_set 4 = .ok (.ifCond .ne 13, 3) := by decide +kernel
theorem dX7_set_7 : decode cX7_set 7 = .ok (.new 109, 3) := by decide +kernel
theorem dX7_set_10 : decode cX7_set 10 = .ok (.dup, 1) := by decide +kernel
theorem dX7_set_11 : decode cX7_set 11 = .ok (.ldc 123, 2) := by decide +kernel
theorem dX7_set_13 : decode cX7_set 13 = .ok (.invokespecial 113, 3) := by decide +kernel
theorem dX7_set_16 : decode cX7_set 16 = .ok (.athrow, 1) := by decide +kernel
theorem dX7_set_17 : decode cX7_set 17 = .ok (.iload_n 2, 1) := by decide +kernel
theorem dX7_set_18 : decode cX7_set 18 = .ok (.iconst 0, 1) := by decide +kernel
theorem dX7_set_19 : decode cX7_set 19 = .ok (.getstatic 125, 3) := by decide +kernel
theorem dX7_set_22 : decode cX7_set 22 = .ok (.iload_n 1, 1) := by decide +kernel
theorem dX7_set_23 : decode cX7_set 23 = .ok (.iaload, 1) := by decide +kernel
theorem dX7_set_24 : decode cX7_set 24 = .ok (.invokestatic 47, 3) := by decide +kernel
theorem dX7_set_27 : decode cX7_set 27 = .ok (.ifCond .ne 13, 3) := by decide +kernel
theorem dX7_set_30 : decode cX7_set 30 = .ok (.new 57, 3) := by decide +kernel
theorem dX7_set_33 : decode cX7_set 33 = .ok (.dup, 1) := by decide +kernel
theorem dX7_set_34 : decode cX7_set 34 = .ok (.ldc 128, 2) := by decide +kernel
theorem dX7_set_36 : decode cX7_set 36 = .ok (.invokespecial 61, 3) := by decide +kernel
theorem dX7_set_39 : decode cX7_set 39 = .ok (.athrow, 1) := by decide +kernel
theorem dX7_set_40 : decode cX7_set 40 = .ok (.aload_n 0, 1) := by decide +kernel
theorem dX7_set_41 : decode cX7_set 41 = .ok (.getfield 22, 3) := by decide +kernel
theorem dX7_set_44 : decode cX7_set 44 = .ok (.aload_n 0, 1) := by decide +kernel
theorem dX7_set_45 : decode cX7_set 45 = .ok (.getfield 10, 3) := by decide +kernel
theorem dX7_set_48 : decode cX7_set 48 = .ok (.invokevirtual 79, 3) := by decide +kernel
theorem dX7_set_51 : decode cX7_set 51 = .ok (.aload_n 0, 1) := by decide +kernel
theorem dX7_set_52 : decode cX7_set 52 = .ok (.getfield 10, 3) := by decide +kernel
theorem dX7_set_55 : decode cX7_set 55 = .ok (.getfield 130, 3) := by decide +kernel
theorem dX7_set_58 : decode cX7_set 58 = .ok (.iload_n 1, 1) := by decide +kernel
theorem dX7_set_59 : decode cX7_set 59 = .ok (.iaload, 1) := by decide +kernel
theorem dX7_set_60 : decode cX7_set 60 = .ok (.istore_n 3, 1) := by decide +kernel
theorem dX7_set_61 : decode cX7_set 61 = .ok (.aload_n 0, 1) := by decide +kernel
theorem dX7_set_62 : decode cX7_set 62 = .ok (.getfield 10, 3) := by decide +kernel
theorem dX7_set_65 : decode cX7_set 65 = .ok (.getfield 130, 3) := by decide +kernel
theorem dX7_set_68 : decode cX7_set 68 = .ok (.iload_n 1, 1) := by decide +kernel
theorem dX7_set_69 : decode cX7_set 69 = .ok (.iload_n 2, 1) := by decide +kernel
theorem dX7_set_70 : decode cX7_set 70 = .ok (.iastore, 1) := by decide +kernel
theorem dX7_set_71 : decode cX7_set 71 = .ok (.iload_n 3, 1) := by decide +kernel
theorem dX7_set_72 : decode cX7_set 72 = .ok (.ireturn, 1) := by decide +kernel
theorem dX7_assign_0 : decode cX7_assign 0 = .ok (.aload_n 0, 1) := by decide +kernel
theorem dX7_assign_1 : decode cX7_assign 1 = .ok (.getfield 10, 3) := by decide +kernel
theorem dX7_assign_4 : decode cX7_assign 4 = .ok (.getfield 89, 3) := by decide +kernel
theorem dX7_assign_7 : decode cX7_assign 7 = .ok (.iload_n 1, 1) := by decide +kernel
theorem dX7_assign_8 : decode cX7_assign 8 = .ok (.invokevirtual 133, 3) := by decide +kernel
theorem dX7_assign_11 : decode cX7_assign 11 = .ok (.ifCond .eq 14, 3) := by decide +kernel
theorem dX7_assign_14 : decode cX7_assign 14 = .ok (.aload_n 0, 1) := by decide +kernel
theorem dX7_assign_15 : decode cX7_assign 15 = .ok (.iload_n 2, 1) := by decide +kernel
theorem dX7_assign_16 : decode cX7_assign 16 = .ok (.iload_n 3, 1) := by decide +kernel
theorem dX7_assign_17 : decode cX7_assign 17 = .ok (.iload 4, 2) := by decide +kernel
theorem dX7_assign_19 : decode cX7_assign 19 = .ok (.invokevirtual 134, 3) := by decide +kernel
theorem dX7_assign_22 : decode cX7_assign 22 = .ok (.ifCond .ne 13, 3) := by decide +kernel
theorem dX7_assign_25 : decode cX7_assign 25 = .ok (.new 109, 3) := by decide +kernel
theorem dX7_assign_28 : decode cX7_assign 28 = .ok (.dup, 1) := by decide +kernel
theorem dX7_assign_29 : decode cX7_assign 29 = .ok (.ldc 137, 2) := by decide +kernel
theorem dX7_assign_31 : decode cX7_assign 31 = .ok (.invokespecial 113, 3) := by decide +kernel
theorem dX7_assign_34 : decode cX7_assign 34 = .ok (.athrow, 1) := by decide +kernel
theorem dX7_assign_35 : decode cX7_assign 35 = .ok (.iload_n 2, 1) := by decide +kernel
theorem dX7_assign_36 : decode cX7_assign 36 = .ok (.iload_n 3, 1) := by decide +kernel
theorem dX7_assign_37 : decode cX7_assign 37 = .ok (.iload 4, 2) := by decide +kernel
theorem dX7_assign_39 : decode cX7_assign 39 = .ok (.invokestatic 139, 3) := by decide +kernel
theorem dX7_assign_42 : decode cX7_assign 42 = .ok (.ifCond .ne 13, 3) := by decide +kernel
theorem dX7_assign_45 : decode cX7_assign 45 = .ok (.new 57, 3) := by decide +kernel
theorem dX7_assign_48 : decode cX7_assign 48 = .ok (.dup, 1) := by decide +kernel
theorem dX7_assign_49 : decode cX7_assign 49 = .ok (.ldc 142, 2) := by decide +kernel
theorem dX7_assign_51 : decode cX7_assign 51 = .ok (.invokespecial 61, 3) := by decide +kernel
theorem dX7_assign_54 : decode cX7_assign 54 = .ok (.athrow, 1) := by decide +kernel
theorem dX7_assign_55 : decode cX7_assign 55 = .ok (.aload_n 0, 1) := by decide +kernel
theorem dX7_assign_56 : decode cX7_assign 56 = .ok (.getfield 10, 3) := by decide +kernel
theorem dX7_assign_59 : decode cX7_assign 59 = .ok (.iload_n 1, 1) := by decide +kernel
theorem dX7_assign_60 : decode cX7_assign 60 = .ok (.iload_n 2, 1) := by decide +kernel
theorem dX7_assign_61 : decode cX7_assign 61 = .ok (.iload_n 3, 1) := by decide +kernel
theorem dX7_assign_62 : decode cX7_assign 62 = .ok (.iload 4, 2) := by decide +kernel
theorem dX7_assign_64 : decode cX7_assign 64 = .ok (.invokevirtual 144, 3) := by decide +kernel
theorem dX7_assign_67 : decode cX7_assign 67 = .ok (.ifCond .eq 13, 3) := by decide +kernel
theorem dX7_assign_70 : decode cX7_assign 70 = .ok (.new 74, 3) := by decide +kernel
theorem dX7_assign_73 : decode cX7_assign 73 = .ok (.dup, 1) := by decide +kernel
theorem dX7_assign_74 : decode cX7_assign 74 = .ok (.ldc 147, 2) := by decide +kernel
theorem dX7_assign_76 : decode cX7_assign 76 = .ok (.invokespecial 78, 3) := by decide +kernel
theorem dX7_assign_79 : decode cX7_assign 79 = .ok (.athrow, 1) := by decide +kernel
theorem dX7_assign_80 : decode cX7_assign 80 = .ok (.aload_n 0, 1) := by decide +kernel
theorem dX7_assign_81 : decode cX7_assign 81 = .ok (.getfield 22, 3) := by decide +kernel
theorem dX7_assign_84 : decode cX7_assign 84 = .ok (.aload_n 0, 1) := by decide +kernel
theorem dX7_assign_85 : decode cX7_assign 85 = .ok (.getfield 10, 3) := by decide +kernel
theorem dX7_assign_88 : decode cX7_assign 88 = .ok (.invokevirtual 79, 3) := by decide +kernel
theorem dX7_assign_91 : decode cX7_assign 91 = .ok (.aload_n 0, 1) := by decide +kernel
theorem dX7_assign_92 : decode cX7_assign 92 = .ok (.getfield 10, 3) := by decide +kernel
theorem dX7_assign_95 : decode cX7_assign 95 = .ok (.getfield 89, 3) := by decide +kernel
theorem dX7_assign_98 : decode cX7_assign 98 = .ok (.iload_n 1, 1) := by decide +kernel
theorem dX7_assign_99 : decode cX7_assign 99 = .ok (.iload_n 2, 1) := by decide +kernel
theorem dX7_assign_100 : decode cX7_assign 100 = .ok (.iload_n 3, 1) := by decide +kernel
theorem dX7_assign_101 : decode cX7_assign 101 = .ok (.iload 4, 2) := by decide +kernel
theorem dX7_assign_103 : decode cX7_assign 103 = .ok (.invokevirtual 149, 3) := by decide +kernel
theorem dX7_assign_106 : decode cX7_assign 106 = .ok (.aload_n 0, 1) := by decide +kernel
theorem dX7_assign_107 : decode cX7_assign 107 = .ok (.getfield 10, 3) := by decide +kernel
theorem dX7_assign_110 : decode cX7_assign 110 = .ok (.iload_n 1, 1) := by decide +kernel
theorem dX7_assign_111 : decode cX7_assign 111 = .ok (.iconst 2, 1) := by decide +kernel
theorem dX7_assign_112 : decode cX7_assign 112 = .ok (.invokevirtual 153, 3) := by decide +kernel
theorem dX7_assign_115 : decode cX7_assign 115 = .ok (.ireturn, 1) := by decide +kernel
theorem dX7_release_0 : decode cX7_release 0 = .ok (.aload_n 0, 1) := by decide +kernel
theorem dX7_release_1 : decode cX7_release 1 = .ok (.getfield 10, 3) := by decide +kernel
theorem dX7_release_4 : decode cX7_release 4 = .ok (.getfield 89, 3) := by decide +kernel
theorem dX7_release_7 : decode cX7_release 7 = .ok (.iload_n 1, 1) := by decide +kernel
theorem dX7_release_8 : decode cX7_release 8 = .ok (.invokevirtual 133, 3) := by decide +kernel
theorem dX7_release_11 : decode cX7_release 11 = .ok (.ifCond .ne 13, 3) := by decide +kernel
theorem dX7_release_14 : decode cX7_release 14 = .ok (.new 109, 3) := by decide +kernel
theorem dX7_release_17 : decode cX7_release 17 = .ok (.dup, 1) := by decide +kernel
theorem dX7_release_18 : decode cX7_release 18 = .ok (.ldc 157, 2) := by decide +kernel
theorem dX7_release_20 : decode cX7_release 20 = .ok (.invokespecial 113, 3) := by decide +kernel
theorem dX7_release_23 : decode cX7_release 23 = .ok (.athrow, 1) := by decide +kernel
theorem dX7_release_24 : decode cX7_release 24 = .ok (.aload_n 0, 1) := by decide +kernel
theorem dX7_release_25 : decode cX7_release 25 = .ok (.getfield 10, 3) := by decide +kernel
theorem dX7_release_28 : decode cX7_release 28 = .ok (.iload_n 1, 1) := by decide +kernel
theorem dX7_release_29 : decode cX7_release 29 = .ok (.invokevirtual 159, 3) := by decide +kernel
theorem dX7_release_32 : decode cX7_release 32 = .ok (.ifCond .ne 13, 3) := by decide +kernel
theorem dX7_release_35 : decode cX7_release 35 = .ok (.new 74, 3) := by decide +kernel
theorem dX7_release_38 : decode cX7_release 38 = .ok (.dup, 1) := by decide +kernel
theorem dX7_release_39 : decode cX7_release 39 = .ok (.ldc 162, 2) := by decide +kernel
theorem dX7_release_41 : decode cX7_release 41 = .ok (.invokespecial 78, 3) := by decide +kernel
theorem dX7_release_44 : decode cX7_release 44 = .ok (.athrow, 1) := by decide +kernel
theorem dX7_release_45 : decode cX7_release 45 = .ok (.aload_n 0, 1) := by decide +kernel
theorem dX7_release_46 : decode cX7_release 46 = .ok (.getfield 22, 3) := by decide +kernel
theorem dX7_release_49 : decode cX7_release 49 = .ok (.aload_n 0, 1) := by decide +kernel
theorem dX7_release_50 : decode cX7_release 50 = .ok (.getfield 10, 3) := by decide +kernel
theorem dX7_release_53 : decode cX7_release 53 = .ok (.invokevirtual 79, 3) := by decide +kernel
theorem dX7_release_56 : decode cX7_release 56 = .ok (.aload_n 0, 1) := by decide +kernel
theorem dX7_release_57 : decode cX7_release 57 = .ok (.getfield 10, 3) := by decide +kernel
theorem dX7_release_60 : decode cX7_release 60 = .ok (.getfield 89, 3) := by decide +kernel
theorem dX7_release_63 : decode cX7_release 63 = .ok (.getfield 164, 3) := by decide +kernel
theorem dX7_release_66 : decode cX7_release 66 = .ok (.iload_n 1, 1) := by decide +kernel
theorem dX7_release_67 : decode cX7_release 67 = .ok (.iaload, 1) := by decide +kernel
theorem dX7_release_68 : decode cX7_release 68 = .ok (.istore_n 2, 1) := by decide +kernel
theorem dX7_release_69 : decode cX7_release 69 = .ok (.aload_n 0, 1) := by decide +kernel
theorem dX7_release_70 : decode cX7_release 70 = .ok (.getfield 10, 3) := by decide +kernel
theorem dX7_release_73 : decode cX7_release 73 = .ok (.getfield 89, 3) := by decide +kernel
theorem dX7_release_76 : decode cX7_release 76 = .ok (.iload_n 1, 1) := by decide +kernel
theorem dX7_release_77 : decode cX7_release 77 = .ok (.iconst (-1), 1) := by decide +kernel
theorem dX7_release_78 : decode cX7_release 78 = .ok (.iconst (-1), 1) := by decide +kernel
theorem dX7_release_79 : decode cX7_release 79 = .ok (.iconst (-1), 1) := by decide +kernel
theorem dX7_release_80 : decode cX7_release 80 = .ok (.invokevirtual 149, 3) := by decide +kernel
theorem dX7_release_83 : decode cX7_release 83 = .ok (.iload_n 2, 1) := by decide +kernel
theorem dX7_release_84 : decode cX7_release 84 = .ok (.ireturn, 1) := by decide +kernel
theorem dX7_swap_0 : decode cX7_swap 0 = .ok (.aload_n 0, 1) := by decide +kernel
theorem dX7_swap_1 : decode cX7_swap 1 = .ok (.getfield 10, 3) := by decide +kernel
theorem dX7_swap_4 : decode cX7_swap 4 = .ok (.getfield 89, 3) := by decide +kernel
theorem dX7_swap_7 : decode cX7_swap 7 = .ok (.iload_n 1, 1) := by decide +kernel
theorem dX7_swap_8 : decode cX7_swap 8 = .ok (.invokevirtual 133, 3) := by decide +kernel
theorem dX7_swap_11 : decode cX7_swap 11 = .ok (.ifCond .eq 39, 3) := by decide +kernel
theorem dX7_swap_14 : decode cX7_swap 14 = .ok (.iload_n 2, 1) := by decide +kernel
theorem dX7_swap_15 : decode cX7_swap 15 = .ok (.iconst 0, 1) := by decide +kernel
theorem dX7_swap_16 : decode cX7_swap 16 = .ok (.aload_n 0, 1) := by decide +kernel
theorem dX7_swap_17 : decode cX7_swap 17 = .ok (.getfield 10, 3) := by decide +kernel
theorem dX7_swap_20 : decode cX7_swap 20 = .ok (.getfield 89, 3) := by decide +kernel
theorem dX7_swap_23 : decode cX7_swap 23 = .ok (.getfield 164, 3) := by decide +kernel
theorem dX7_swap_26 : decode cX7_swap 26 = .ok (.iload_n 1, 1) := by decide +kernel
theorem dX7_swap_27 : decode cX7_swap 27 = .ok (.iaload, 1) := by decide +kernel
theorem dX7_swap_28 : decode cX7_swap 28 = .ok (.iconst 1, 1) := by decide +kernel
theorem dX7_swap_29 : decode cX7_swap 29 = .ok (.isub, 1) := by decide +kernel
theorem dX7_swap_30 : decode cX7_swap 30 = .ok (.invokestatic 47, 3) := by decide +kernel
theorem dX7_swap_33 : decode cX7_swap 33 = .ok (.ifCond .eq 17, 3) := by decide +kernel
theorem dX7_swap_36 : decode cX7_swap 36 = .ok (.aload_n 0, 1) := by decide +kernel
theorem dX7_swap_37 : decode cX7_swap 37 = .ok (.getfield 10, 3) := by decide +kernel
theorem dX7_swap_40 : decode cX7_swap 40 = .ok (.getfield 64, 3) := by decide +kernel
theorem dX7_swap_43 : decode cX7_swap 43 = .ok (.iload_n 3, 1) := by decide +kernel
theorem dX7_swap_44 : decode cX7_swap 44 = .ok (.invokevirtual 105, 3) := by decide +kernel
theorem dX7_swap_47 : decode cX7_swap 47 = .ok (.ifCond .ne 13, 3) := by decide +kernel
theorem dX7_swap_50 : decode cX7_swap 50 = .ok (.new 109, 3) := by decide +kernel
theorem dX7_swap_53 : decode cX7_swap 53 = .ok (.dup, 1) := by decide +kernel
theorem dX7_swap_54 : decode cX7_swap 54 = .ok (.ldc 167, 2) := by decide +kernel
theorem dX7_swap_56 : decode cX7_swap 56 = .ok (.invokespecial 113, 3) := by decide +kernel
theorem dX7_swap_59 : decode cX7_swap 59 = .ok (.athrow, 1) := by decide +kernel
theorem dX7_swap_60 : decode cX7_swap 60 = .ok (.aload_n 0, 1) := by decide +kernel
theorem dX7_swap_61 : decode cX7_swap 61 = .ok (.getfield 10, 3) := by decide +kernel
theorem dX7_swap_64 : decode cX7_swap 64 = .ok (.getfield 89, 3) := by decide +kernel
theorem dX7_swap_67 : decode cX7_swap 67 = .ok (.iload_n 1, 1) := by decide +kernel
theorem dX7_swap_68 : decode cX7_swap 68 = .ok (.iload_n 3, 1) := by decide +kernel
theorem dX7_swap_69 : decode cX7_swap 69 = .ok (.invokevirtual 169, 3) := by decide +kernel
theorem dX7_swap_72 : decode cX7_swap 72 = .ok (.ifCond .eq 13, 3) := by decide +kernel
theorem dX7_swap_75 : decode cX7_swap 75 = .ok (.new 57, 3) := by decide +kernel
theorem dX7_swap_78 : decode cX7_swap 78 = .ok (.dup, 1) := by decide +kernel
theorem dX7_swap_79 : decode cX7_swap 79 = .ok (.ldc 173, 2) := by decide +kernel
theorem dX7_swap_81 : decode cX7_swap 81 = .ok (.invokespecial 61, 3) := by decide +kernel
theorem dX7_swap_84 : decode cX7_swap 84 = .ok (.athrow, 1) := by decide +kernel
theorem dX7_swap_85 : decode cX7_swap 85 = .ok (.iload_n 2, 1) := by decide +kernel
theorem dX7_swap_86 : decode cX7_swap 86 = .ok (.ifCond .ne 7, 3) := by decide +kernel
theorem dX7_swap_89 : decode cX7_swap 89 = .ok (.iload_n 3, 1) := by decide +kernel
theorem dX7_swap_90 : decode cX7_swap 90 = .ok (.goto 15, 3) := by decide +kernel
theorem dX7_swap_93 : decode cX7_swap 93 = .ok (.aload_n 0, 1) := by decide +kernel
theorem dX7_swap_94 : decode cX7_swap 94 = .ok (.getfield 10, 3) := by decide +kernel
theorem dX7_swap_97 : decode cX7_swap 97 = .ok (.getfield 89, 3) := by decide +kernel
theorem dX7_swap_100 : decode cX7_swap 100 = .ok (.iload_n 1, 1) := by decide +kernel
theorem dX7_swap_101 : decode cX7_swap 101 = .ok (.iconst 0, 1) := by decide +kernel
theorem dX7_swap_102 : decode cX7_swap 102 = .ok (.invokevirtual 175, 3) := by decide +kernel
theorem dX7_swap_105 : decode cX7_swap 105 = .ok (.istore 4, 2) := by decide +kernel
theorem dX7_swap_107 : decode cX7_swap 107 = .ok (.iload_n 2, 1) := by decide +kernel
theorem dX7_swap_108 : decode cX7_swap 108 = .ok (.iconst 1, 1) := by decide +kernel
theorem dX7_swap_109 : decode cX7_swap 109 = .ok (.if_icmp .ne 7, 3) := by decide +kernel
theorem dX7_swap_112 : decode cX7_swap 112 = .ok (.iload_n 3, 1) := by decide +kernel
theorem dX7_swap_113 : decode cX7_swap 113 = .ok (.goto 15, 3) := by decide +kernel
theorem dX7_swap_116 : decode cX7_swap 116 = .ok (.aload_n 0, 1) := by decide +kernel
theorem dX7_swap_117 : decode cX7_swap 117 = .ok (.getfield 10, 3) := by decide +kernel
end
section
theorem dX7_swap_120 : decode cX7_swap 120 = .ok (.getfield 89, 3) := by decide +kernel
theorem dX7_swap_123 : decode cX7_swap 123 = .ok (.iload_n 1, 1) := by decide +kernel
theorem dX7_swap_124 : decode cX7_swap 124 = .ok (.iconst 1, 1) := by decide +kernel
theorem dX7_swap_125 : decode cX7_swap 125 = .ok (.invokevirtual 175, 3) := by decide +kernel
theorem dX7_swap_128 : decode cX7_swap 128 = .ok (.istore 5, 2) := by decide +kernel
theorem dX7_swap_130 : decode cX7_swap 130 = .ok (.iload_n 2, 1) := by decide +kernel
theorem dX7_swap_131 : decode cX7_swap 131 = .ok (.iconst 2, 1) := by decide +kernel
theorem dX7_swap_132 : decode cX7_swap 132 = .ok (.if_icmp .ne 7, 3) := by decide +kernel
theorem dX7_swap_135 : decode cX7_swap 135 = .ok (.iload_n 3, 1) := by decide +kernel
theorem dX7_swap_136 : decode cX7_swap 136 = .ok (.goto 15, 3) := by decide +kernel
theorem dX7_swap_139 : decode cX7_swap 139 = .ok (.aload_n 0, 1) := by decide +kernel
theorem dX7_swap_140 : decode cX7_swap 140 = .ok (.getfield 10, 3) := by decide +kernel
theorem dX7_swap_143 : decode cX7_swap 143 = .ok (.getfield 89, 3) := by decide +kernel
theorem dX7_swap_146 : decode cX7_swap 146 = .ok (.iload_n 1, 1) := by decide +kernel
theorem dX7_swap_147 : decode cX7_swap 147 = .ok (.iconst 2, 1) := by decide +kernel
theorem dX7_swap_148 : decode cX7_swap 148 = .ok (.invokevirtual 175, 3) := by decide +kernel
theorem dX7_swap_151 : decode cX7_swap 151 = .ok (.istore 6, 2) := by decide +kernel
theorem dX7_swap_153 : decode cX7_swap 153 = .ok (.aload_n 0, 1) := by decide +kernel
theorem dX7_swap_154 : decode cX7_swap 154 = .ok (.getfield 10, 3) := by decide +kernel
theorem dX7_swap_157 : decode cX7_swap 157 = .ok (.iload_n 1, 1) := by decide +kernel
theorem dX7_swap_158 : decode cX7_swap 158 = .ok (.iload 4, 2) := by decide +kernel
theorem dX7_swap_160 : decode cX7_swap 160 = .ok (.iload 5, 2) := by decide +kernel
theorem dX7_swap_162 : decode cX7_swap 162 = .ok (.iload 6, 2) := by decide +kernel
theorem dX7_swap_164 : decode cX7_swap 164 = .ok (.invokevirtual 144, 3) := by decide +kernel
theorem dX7_swap_167 : decode cX7_swap 167 = .ok (.ifCond .eq 13, 3) := by decide +kernel
theorem dX7_swap_170 : decode cX7_swap 170 = .ok (.new 74, 3) := by decide +kernel
theorem dX7_swap_173 : decode cX7_swap 173 = .ok (.dup, 1) := by decide +kernel
theorem dX7_swap_174 : decode cX7_swap 174 = .ok (.ldc 178, 2) := by decide +kernel
theorem dX7_swap_176 : decode cX7_swap 176 = .ok (.invokespecial 78, 3) := by decide +kernel
theorem dX7_swap_179 : decode cX7_swap 179 = .ok (.athrow, 1) := by decide +kernel
theorem dX7_swap_180 : decode cX7_swap 180 = .ok (.aload_n 0, 1) := by decide +kernel
theorem dX7_swap_181 : decode cX7_swap 181 = .ok (.getfield 22, 3) := by decide +kernel
theorem dX7_swap_184 : decode cX7_swap 184 = .ok (.aload_n 0, 1) := by decide +kernel
theorem dX7_swap_185 : decode cX7_swap 185 = .ok (.getfield 10, 3) := by decide +kernel
theorem dX7_swap_188 : decode cX7_swap 188 = .ok (.invokevirtual 79, 3) := by decide +kernel
theorem dX7_swap_191 : decode cX7_swap 191 = .ok (.aload_n 0, 1) := by decide +kernel
theorem dX7_swap_192 : decode cX7_swap 192 = .ok (.getfield 10, 3) := by decide +kernel
theorem dX7_swap_195 : decode cX7_swap 195 = .ok (.getfield 89, 3) := by decide +kernel
theorem dX7_swap_198 : decode cX7_swap 198 = .ok (.iload_n 1, 1) := by decide +kernel
theorem dX7_swap_199 : decode cX7_swap 199 = .ok (.iload_n 2, 1) := by decide +kernel
theorem dX7_swap_200 : decode cX7_swap 200 = .ok (.invokevirtual 175, 3) := by decide +kernel
theorem dX7_swap_203 : decode cX7_swap 203 = .ok (.istore 7, 2) := by decide +kernel
theorem dX7_swap_205 : decode cX7_swap 205 = .ok (.aload_n 0, 1) := by decide +kernel
theorem dX7_swap_206 : decode cX7_swap 206 = .ok (.getfield 10, 3) := by decide +kernel
theorem dX7_swap_209 : decode cX7_swap 209 = .ok (.getfield 89, 3) := by decide +kernel
theorem dX7_swap_212 : decode cX7_swap 212 = .ok (.iload_n 1, 1) := by decide +kernel
theorem dX7_swap_213 : decode cX7_swap 213 = .ok (.iload 4, 2) := by decide +kernel
theorem dX7_swap_215 : decode cX7_swap 215 = .ok (.iload 5, 2) := by decide +kernel
theorem dX7_swap_217 : decode cX7_swap 217 = .ok (.iload 6, 2) := by decide +kernel
theorem dX7_swap_219 : decode cX7_swap 219 = .ok (.invokevirtual 149, 3) := by decide +kernel
theorem dX7_swap_222 : decode cX7_swap 222 = .ok (.iload 7, 2) := by decide +kernel
theorem dX7_swap_224 : decode cX7_swap 224 = .ok (.ireturn, 1) := by decide +kernel
theorem dX7_vacate_0 : decode cX7_vacate 0 = .ok (.aload_n 0, 1) := by decide +kernel
theorem dX7_vacate_1 : decode cX7_vacate 1 = .ok (.getfield 10, 3) := by decide +kernel
theorem dX7_vacate_4 : decode cX7_vacate 4 = .ok (.getfield 89, 3) := by decide +kernel
theorem dX7_vacate_7 : decode cX7_vacate 7 = .ok (.iload_n 1, 1) := by decide +kernel
theorem dX7_vacate_8 : decode cX7_vacate 8 = .ok (.invokevirtual 133, 3) := by decide +kernel
theorem dX7_vacate_11 : decode cX7_vacate 11 = .ok (.ifCond .ne 13, 3) := by decide +kernel
theorem dX7_vacate_14 : decode cX7_vacate 14 = .ok (.new 109, 3) := by decide +kernel
theorem dX7_vacate_17 : decode cX7_vacate 17 = .ok (.dup, 1) := by decide +kernel
theorem dX7_vacate_18 : decode cX7_vacate 18 = .ok (.ldc 157, 2) := by decide +kernel
theorem dX7_vacate_20 : decode cX7_vacate 20 = .ok (.invokespecial 113, 3) := by decide +kernel
theorem dX7_vacate_23 : decode cX7_vacate 23 = .ok (.athrow, 1) := by decide +kernel
theorem dX7_vacate_24 : decode cX7_vacate 24 = .ok (.aload_n 0, 1) := by decide +kernel
theorem dX7_vacate_25 : decode cX7_vacate 25 = .ok (.getfield 10, 3) := by decide +kernel
theorem dX7_vacate_28 : decode cX7_vacate 28 = .ok (.iload_n 1, 1) := by decide +kernel
theorem dX7_vacate_29 : decode cX7_vacate 29 = .ok (.invokevirtual 159, 3) := by decide +kernel
theorem dX7_vacate_32 : decode cX7_vacate 32 = .ok (.ifCond .ne 13, 3) := by decide +kernel
theorem dX7_vacate_35 : decode cX7_vacate 35 = .ok (.new 74, 3) := by decide +kernel
theorem dX7_vacate_38 : decode cX7_vacate 38 = .ok (.dup, 1) := by decide +kernel
theorem dX7_vacate_39 : decode cX7_vacate 39 = .ok (.ldc 162, 2) := by decide +kernel
theorem dX7_vacate_41 : decode cX7_vacate 41 = .ok (.invokespecial 78, 3) := by decide +kernel
theorem dX7_vacate_44 : decode cX7_vacate 44 = .ok (.athrow, 1) := by decide +kernel
theorem dX7_vacate_45 : decode cX7_vacate 45 = .ok (.aload_n 0, 1) := by decide +kernel
theorem dX7_vacate_46 : decode cX7_vacate 46 = .ok (.getfield 22, 3) := by decide +kernel
theorem dX7_vacate_49 : decode cX7_vacate 49 = .ok (.aload_n 0, 1) := by decide +kernel
theorem dX7_vacate_50 : decode cX7_vacate 50 = .ok (.getfield 10, 3) := by decide +kernel
theorem dX7_vacate_53 : decode cX7_vacate 53 = .ok (.invokevirtual 79, 3) := by decide +kernel
theorem dX7_vacate_56 : decode cX7_vacate 56 = .ok (.aload_n 0, 1) := by decide +kernel
theorem dX7_vacate_57 : decode cX7_vacate 57 = .ok (.getfield 10, 3) := by decide +kernel
theorem dX7_vacate_60 : decode cX7_vacate 60 = .ok (.iload_n 1, 1) := by decide +kernel
theorem dX7_vacate_61 : decode cX7_vacate 61 = .ok (.iconst 3, 1) := by decide +kernel
theorem dX7_vacate_62 : decode cX7_vacate 62 = .ok (.aload_n 0, 1) := by decide +kernel
theorem dX7_vacate_63 : decode cX7_vacate 63 = .ok (.getfield 10, 3) := by decide +kernel
theorem dX7_vacate_66 : decode cX7_vacate 66 = .ok (.aload_n 0, 1) := by decide +kernel
theorem dX7_vacate_67 : decode cX7_vacate 67 = .ok (.getfield 10, 3) := by decide +kernel
theorem dX7_vacate_70 : decode cX7_vacate 70 = .ok (.getfield 89, 3) := by decide +kernel
theorem dX7_vacate_73 : decode cX7_vacate 73 = .ok (.getfield 180, 3) := by decide +kernel
theorem dX7_vacate_76 : decode cX7_vacate 76 = .ok (.iload_n 1, 1) := by decide +kernel
theorem dX7_vacate_77 : decode cX7_vacate 77 = .ok (.iaload, 1) := by decide +kernel
theorem dX7_vacate_78 : decode cX7_vacate 78 = .ok (.aload_n 0, 1) := by decide +kernel
theorem dX7_vacate_79 : decode cX7_vacate 79 = .ok (.getfield 10, 3) := by decide +kernel
theorem dX7_vacate_82 : decode cX7_vacate 82 = .ok (.getfield 98, 3) := by decide +kernel
theorem dX7_vacate_85 : decode cX7_vacate 85 = .ok (.isub, 1) := by decide +kernel
theorem dX7_vacate_86 : decode cX7_vacate 86 = .ok (.invokevirtual 183, 3) := by decide +kernel
theorem dX7_vacate_89 : decode cX7_vacate 89 = .ok (.invokevirtual 186, 3) := by decide +kernel
theorem dX7_vacate_92 : decode cX7_vacate 92 = .ok (.ireturn, 1) := by decide +kernel
theorem dX7_pass_0 : decode cX7_pass 0 = .ok (.iload_n 1, 1) := by decide +kernel
theorem dX7_pass_1 : decode cX7_pass 1 = .ok (.iconst 1, 1) := by decide +kernel
theorem dX7_pass_2 : decode cX7_pass 2 = .ok (.sipush 500, 3) := by decide +kernel
theorem dX7_pass_5 : decode cX7_pass 5 = .ok (.invokestatic 47, 3) := by decide +kernel
theorem dX7_pass_8 : decode cX7_pass 8 = .ok (.ifCond .ne 13, 3) := by decide +kernel
theorem dX7_pass_11 : decode cX7_pass 11 = .ok (.new 57, 3) := by decide +kernel
theorem dX7_pass_14 : decode cX7_pass 14 = .ok (.dup, 1) := by decide +kernel
theorem dX7_pass_15 : decode cX7_pass 15 = .ok (.ldc 189, 2) := by decide +kernel
theorem dX7_pass_17 : decode cX7_pass 17 = .ok (.invokespecial 61, 3) := by decide +kernel
theorem dX7_pass_20 : decode cX7_pass 20 = .ok (.athrow, 1) := by decide +kernel
theorem dX7_pass_21 : decode cX7_pass 21 = .ok (.aload_n 0, 1) := by decide +kernel
theorem dX7_pass_22 : decode cX7_pass 22 = .ok (.getfield 10, 3) := by decide +kernel
theorem dX7_pass_25 : decode cX7_pass 25 = .ok (.getfield 98, 3) := by decide +kernel
theorem dX7_pass_28 : decode cX7_pass 28 = .ok (.iload_n 1, 1) := by decide +kernel
theorem dX7_pass_29 : decode cX7_pass 29 = .ok (.iadd, 1) := by decide +kernel
theorem dX7_pass_30 : decode cX7_pass 30 = .ok (.sipush 20000, 3) := by decide +kernel
theorem dX7_pass_33 : decode cX7_pass 33 = .ok (.if_icmp .le 13, 3) := by decide +kernel
theorem dX7_pass_36 : decode cX7_pass 36 = .ok (.new 74, 3) := by decide +kernel
theorem dX7_pass_39 : decode cX7_pass 39 = .ok (.dup, 1) := by decide +kernel
theorem dX7_pass_40 : decode cX7_pass 40 = .ok (.ldc 191, 2) := by decide +kernel
theorem dX7_pass_42 : decode cX7_pass 42 = .ok (.invokespecial 78, 3) := by decide +kernel
theorem dX7_pass_45 : decode cX7_pass 45 = .ok (.athrow, 1) := by decide +kernel
theorem dX7_pass_46 : decode cX7_pass 46 = .ok (.aload_n 0, 1) := by decide +kernel
theorem dX7_pass_47 : decode cX7_pass 47 = .ok (.getfield 22, 3) := by decide +kernel
theorem dX7_pass_50 : decode cX7_pass 50 = .ok (.aload_n 0, 1) := by decide +kernel
theorem dX7_pass_51 : decode cX7_pass 51 = .ok (.getfield 10, 3) := by decide +kernel
theorem dX7_pass_54 : decode cX7_pass 54 = .ok (.invokevirtual 79, 3) := by decide +kernel
theorem dX7_pass_57 : decode cX7_pass 57 = .ok (.iconst 0, 1) := by decide +kernel
theorem dX7_pass_58 : decode cX7_pass 58 = .ok (.istore_n 2, 1) := by decide +kernel
theorem dX7_pass_59 : decode cX7_pass 59 = .ok (.iconst 0, 1) := by decide +kernel
theorem dX7_pass_60 : decode cX7_pass 60 = .ok (.istore_n 3, 1) := by decide +kernel
theorem dX7_pass_61 : decode cX7_pass 61 = .ok (.iload_n 3, 1) := by decide +kernel
theorem dX7_pass_62 : decode cX7_pass 62 = .ok (.iload_n 1, 1) := by decide +kernel
theorem dX7_pass_63 : decode cX7_pass 63 = .ok (.if_icmp .ge 19, 3) := by decide +kernel
theorem dX7_pass_66 : decode cX7_pass 66 = .ok (.iload_n 2, 1) := by decide +kernel
theorem dX7_pass_67 : decode cX7_pass 67 = .ok (.aload_n 0, 1) := by decide +kernel
theorem dX7_pass_68 : decode cX7_pass 68 = .ok (.getfield 10, 3) := by decide +kernel
theorem dX7_pass_71 : decode cX7_pass 71 = .ok (.invokevirtual 193, 3) := by decide +kernel
theorem dX7_pass_74 : decode cX7_pass 74 = .ok (.iadd, 1) := by decide +kernel
theorem dX7_pass_75 : decode cX7_pass 75 = .ok (.istore_n 2, 1) := by decide +kernel
theorem dX7_pass_76 : decode cX7_pass 76 = .ok (.iinc 3 1, 3) := by decide +kernel
theorem dX7_pass_79 : decode cX7_pass 79 = .ok (.goto (-18), 3) := by decide +kernel
theorem dX7_pass_82 : decode cX7_pass 82 = .ok (.iload_n 2, 1) := by decide +kernel
theorem dX7_pass_83 : decode cX7_pass 83 = .ok (.ireturn, 1) := by decide +kernel
theorem dX7_append_0 : decode cX7_append 0 = .ok (.iload_n 1, 1) := by decide +kernel
theorem dX7_append_1 : decode cX7_append 1 = .ok (.bipush 33, 2) := by decide +kernel
theorem dX7_append_3 : decode cX7_append 3 = .ok (.bipush 126, 2) := by decide +kernel
theorem dX7_append_5 : decode cX7_append 5 = .ok (.invokestatic 47, 3) := by decide +kernel
theorem dX7_append_8 : decode cX7_append 8 = .ok (.ifCond .ne 13, 3) := by decide +kernel
theorem dX7_append_11 : decode cX7_append 11 = .ok (.new 57, 3) := by decide +kernel
theorem dX7_append_14 : decode cX7_append 14 = .ok (.dup, 1) := by decide +kernel
theorem dX7_append_15 : decode cX7_append 15 = .ok (.ldc 197, 2) := by decide +kernel
theorem dX7_append_17 : decode cX7_append 17 = .ok (.invokespecial 61, 3) := by decide +kernel
theorem dX7_append_20 : decode cX7_append 20 = .ok (.athrow, 1) := by decide +kernel
theorem dX7_append_21 : decode cX7_append 21 = .ok (.aload_n 0, 1) := by decide +kernel
theorem dX7_append_22 : decode cX7_append 22 = .ok (.getfield 29, 3) := by decide +kernel
theorem dX7_append_25 : decode cX7_append 25 = .ok (.getfield 199, 3) := by decide +kernel
theorem dX7_append_28 : decode cX7_append 28 = .ok (.bipush 60, 2) := by decide +kernel
theorem dX7_append_30 : decode cX7_append 30 = .ok (.if_icmp .lt 13, 3) := by decide +kernel
theorem dX7_append_33 : decode cX7_append 33 = .ok (.new 74, 3) := by decide +kernel
theorem dX7_append_36 : decode cX7_append 36 = .ok (.dup, 1) := by decide +kernel
theorem dX7_append_37 : decode cX7_append 37 = .ok (.ldc 202, 2) := by decide +kernel
theorem dX7_append_39 : decode cX7_append 39 = .ok (.invokespecial 78, 3) := by decide +kernel
theorem dX7_append_42 : decode cX7_append 42 = .ok (.athrow, 1) := by decide +kernel
theorem dX7_append_43 : decode cX7_append 43 = .ok (.aload_n 0, 1) := by decide +kernel
theorem dX7_append_44 : decode cX7_append 44 = .ok (.getfield 29, 3) := by decide +kernel
theorem dX7_append_47 : decode cX7_append 47 = .ok (.iload_n 1, 1) := by decide +kernel
theorem dX7_append_48 : decode cX7_append 48 = .ok (.invokevirtual 204, 3) := by decide +kernel
theorem dX7_append_51 : decode cX7_append 51 = .ok (.aload_n 0, 1) := by decide +kernel
theorem dX7_append_52 : decode cX7_append 52 = .ok (.getfield 29, 3) := by decide +kernel
theorem dX7_append_55 : decode cX7_append 55 = .ok (.getfield 199, 3) := by decide +kernel
theorem dX7_append_58 : decode cX7_append 58 = .ok (.ireturn, 1) := by decide +kernel
theorem dX7_clearBuffer_0 : decode cX7_clearBuffer 0 = .ok (.aload_n 0, 1) := by decide +kernel
theorem dX7_clearBuffer_1 : decode cX7_clearBuffer 1 = .ok (.getfield 29, 3) := by decide +kernel
theorem dX7_clearBuffer_4 : decode cX7_clearBuffer 4 = .ok (.getfield 199, 3) := by decide +kernel
theorem dX7_clearBuffer_7 : decode cX7_clearBuffer 7 = .ok (.istore_n 1, 1) := by decide +kernel
theorem dX7_clearBuffer_8 : decode cX7_clearBuffer 8 = .ok (.aload_n 0, 1) := by decide +kernel
theorem dX7_clearBuffer_9 : decode cX7_clearBuffer 9 = .ok (.getfield 29, 3) := by decide +kernel
theorem dX7_clearBuffer_12 : decode cX7_clearBuffer 12 = .ok (.iconst 0, 1) := by decide +kernel
theorem dX7_clearBuffer_13 : decode cX7_clearBuffer 13 = .ok (.putfield 199, 3) := by decide +kernel
theorem dX7_clearBuffer_16 : decode cX7_clearBuffer 16 = .ok (.iload_n 1, 1) := by decide +kernel
theorem dX7_clearBuffer_17 : decode cX7_clearBuffer 17 = .ok (.ireturn, 1) := by decide +kernel
theorem dX7_firstError_0 : decode cX7_firstError 0 = .ok (.aload_n 0, 1) := by decide +kernel
theorem dX7_firstError_1 : decode cX7_firstError 1 = .ok (.getfield 36, 3) := by decide +kernel
theorem dX7_firstError_4 : decode cX7_firstError 4 = .ok (.aload_n 0, 1) := by decide +kernel
theorem dX7_firstError_5 : decode cX7_firstError 5 = .ok (.getfield 29, 3) := by decide +kernel
theorem dX7_firstError_8 : decode cX7_firstError 8 = .ok (.invokevirtual 208, 3) := by decide +kernel
theorem dX7_firstError_11 : decode cX7_firstError 11 = .ok (.ireturn, 1) := by decide +kernel
theorem dX7_addList_0 : decode cX7_addList 0 = .ok (.aload_n 0, 1) := by decide +kernel
theorem dX7_addList_1 : decode cX7_addList 1 = .ok (.getfield 36, 3) := by decide +kernel
theorem dX7_addList_4 : decode cX7_addList 4 = .ok (.aload_n 0, 1) := by decide +kernel
theorem dX7_addList_5 : decode cX7_addList 5 = .ok (.getfield 29, 3) := by decide +kernel
theorem dX7_addList_8 : decode cX7_addList 8 = .ok (.invokevirtual 208, 3) := by decide +kernel
theorem dX7_addList_11 : decode cX7_addList 11 = .ok (.aload_n 0, 1) := by decide +kernel
theorem dX7_addList_12 : decode cX7_addList 12 = .ok (.getfield 29, 3) := by decide +kernel
theorem dX7_addList_15 : decode cX7_addList 15 = .ok (.getfield 199, 3) := by decide +kernel
theorem dX7_addList_18 : decode cX7_addList 18 = .ok (.if_icmp .lt 13, 3) := by decide +kernel
theorem dX7_addList_21 : decode cX7_addList 21 = .ok (.aload_n 0, 1) := by decide +kernel
theorem dX7_addList_22 : decode cX7_addList 22 = .ok (.getfield 36, 3) := by decide +kernel
theorem dX7_addList_25 : decode cX7_addList 25 = .ok (.invokevirtual 212, 3) := by decide +kernel
theorem dX7_addList_28 : decode cX7_addList 28 = .ok (.ifCond .ne 13, 3) := by decide +kernel
theorem dX7_addList_31 : decode cX7_addList 31 = .ok (.new 57, 3) := by decide +kernel
theorem dX7_addList_34 : decode cX7_addList 34 = .ok (.dup, 1) := by decide +kernel
theorem dX7_addList_35 : decode cX7_addList 35 = .ok (.ldc 216, 2) := by decide +kernel
theorem dX7_addList_37 : decode cX7_addList 37 = .ok (.invokespecial 61, 3) := by decide +kernel
theorem dX7_addList_40 : decode cX7_addList 40 = .ok (.athrow, 1) := by decide +kernel
theorem dX7_addList_41 : decode cX7_addList 41 = .ok (.aload_n 0, 1) := by decide +kernel
theorem dX7_addList_42 : decode cX7_addList 42 = .ok (.getfield 10, 3) := by decide +kernel
theorem dX7_addList_45 : decode cX7_addList 45 = .ok (.getfield 89, 3) := by decide +kernel
theorem dX7_addList_48 : decode cX7_addList 48 = .ok (.getfield 93, 3) := by decide +kernel
theorem dX7_addList_51 : decode cX7_addList 51 = .ok (.aload_n 0, 1) := by decide +kernel
theorem dX7_addList_52 : decode cX7_addList 52 = .ok (.getfield 36, 3) := by decide +kernel
theorem dX7_addList_55 : decode cX7_addList 55 = .ok (.getfield 218, 3) := by decide +kernel
theorem dX7_addList_58 : decode cX7_addList 58 = .ok (.iadd, 1) := by decide +kernel
theorem dX7_addList_59 : decode cX7_addList 59 = .ok (.bipush 30, 2) := by decide +kernel
theorem dX7_addList_61 : decode cX7_addList 61 = .ok (.if_icmp .le 13, 3) := by decide +kernel
theorem dX7_addList_64 : decode cX7_addList 64 = .ok (.new 74, 3) := by decide +kernel
theorem dX7_addList_67 : decode cX7_addList 67 = .ok (.dup, 1) := by decide +kernel
theorem dX7_addList_68 : decode cX7_addList 68 = .ok (.ldc 221, 2) := by decide +kernel
theorem dX7_addList_70 : decode cX7_addList 70 = .ok (.invokespecial 78, 3) := by decide +kernel
theorem dX7_addList_73 : decode cX7_addList 73 = .ok (.athrow, 1) := by decide +kernel
theorem dX7_addList_74 : decode cX7_addList 74 = .ok (.aload_n 0, 1) := by decide +kernel
theorem dX7_addList_75 : decode cX7_addList 75 = .ok (.getfield 22, 3) := by decide +kernel
theorem dX7_addList_78 : decode cX7_addList 78 = .ok (.aload_n 0, 1) := by decide +kernel
theorem dX7_addList_79 : decode cX7_addList 79 = .ok (.getfield 10, 3) := by decide +kernel
theorem dX7_addList_82 : decode cX7_addList 82 = .ok (.invokevirtual 79, 3) := by decide +kernel
theorem dX7_addList_85 : decode cX7_addList 85 = .ok (.aload_n 0, 1) := by decide +kernel
theorem dX7_addList_86 : decode cX7_addList 86 = .ok (.getfield 36, 3) := by decide +kernel
theorem dX7_addList_89 : decode cX7_addList 89 = .ok (.aload_n 0, 1) := by decide +kernel
theorem dX7_addList_90 : decode cX7_addList 90 = .ok (.getfield 29, 3) := by decide +kernel
theorem dX7_addList_93 : decode cX7_addList 93 = .ok (.aload_n 0, 1) := by decide +kernel
theorem dX7_addList_94 : decode cX7_addList 94 = .ok (.getfield 10, 3) := by decide +kernel
theorem dX7_addList_97 : decode cX7_addList 97 = .ok (.invokevirtual 223, 3) := by decide +kernel
theorem dX7_addList_100 : decode cX7_addList 100 = .ok (.aload_n 0, 1) := by decide +kernel
theorem dX7_addList_101 : decode cX7_addList 101 = .ok (.getfield 29, 3) := by decide +kernel
theorem dX7_addList_104 : decode cX7_addList 104 = .ok (.iconst 0, 1) := by decide +kernel
theorem dX7_addList_105 : decode cX7_addList 105 = .ok (.putfield 199, 3) := by decide +kernel
theorem dX7_addList_108 : decode cX7_addList 108 = .ok (.aload_n 0, 1) := by decide +kernel
theorem dX7_addList_109 : decode cX7_addList 109 = .ok (.getfield 10, 3) := by decide +kernel
theorem dX7_addList_112 : decode cX7_addList 112 = .ok (.getfield 89, 3) := by decide +kernel
theorem dX7_addList_115 : decode cX7_addList 115 = .ok (.getfield 93, 3) := by decide +kernel
theorem dX7_addList_118 : decode cX7_addList 118 = .ok (.ireturn, 1) := by decide +kernel
theorem dX7_undo_0 : decode cX7_undo 0 = .ok (.aload_n 0, 1) := by decide +kernel
theorem dX7_undo_1 : decode cX7_undo 1 = .ok (.getfield 22, 3) := by decide +kernel
theorem dX7_undo_4 : decode cX7_undo 4 = .ok (.getfield 227, 3) := by decide +kernel
theorem dX7_undo_7 : decode cX7_undo 7 = .ok (.ifCond .ne 13, 3) := by decide +kernel
theorem dX7_undo_10 : decode cX7_undo 10 = .ok (.new 74, 3) := by decide +kernel
theorem dX7_undo_13 : decode cX7_undo 13 = .ok (.dup, 1) := by decide +kernel
theorem dX7_undo_14 : decode cX7_undo 14 = .ok (.ldc 228, 2) := by decide +kernel
theorem dX7_undo_16 : decode cX7_undo 16 = .ok (.invokespecial 78, 3) := by decide +kernel
theorem dX7_undo_19 : decode cX7_undo 19 = .ok (.athrow, 1) := by decide +kernel
theorem dX7_undo_20 : decode cX7_undo 20 = .ok (.aload_n 0, 1) := by decide +kernel
theorem dX7_undo_21 : decode cX7_undo 21 = .ok (.getfield 22, 3) := by decide +kernel
theorem dX7_undo_24 : decode cX7_undo 24 = .ok (.aload_n 0, 1) := by decide +kernel
theorem dX7_undo_25 : decode cX7_undo 25 = .ok (.getfield 10, 3) := by decide +kernel
theorem dX7_undo_28 : decode cX7_undo 28 = .ok (.invokevirtual 230, 3) := by decide +kernel
theorem dX7_undo_31 : decode cX7_undo 31 = .ok (.aload_n 0, 1) := by decide +kernel
theorem dX7_undo_32 : decode cX7_undo 32 = .ok (.getfield 22, 3) := by decide +kernel
theorem dX7_undo_35 : decode cX7_undo 35 = .ok (.getfield 227, 3) := by decide +kernel
theorem dX7_undo_38 : decode cX7_undo 38 = .ok (.ireturn, 1) := by decide +kernel
theorem dX7_interpreter_0 : decode cX7_interpreter 0 = .ok (.aload_n 0, 1) := by decide +kernel
theorem dX7_interpreter_1 : decode cX7_interpreter 1 = .ok (.getfield 10, 3) := by decide +kernel
theorem dX7_interpreter_4 : decode cX7_interpreter 4 = .ok (.getfield 64, 3) := by decide +kernel
theorem dX7_interpreter_7 : decode cX7_interpreter 7 = .ok (.iload_n 1, 1) := by decide +kernel
theorem dX7_interpreter_8 : decode cX7_interpreter 8 = .ok (.invokevirtual 105, 3) := by decide +kernel
theorem dX7_interpreter_11 : decode cX7_interpreter 11 = .ok (.ifCond .ne 13, 3) := by decide +kernel
theorem dX7_interpreter_14 : decode cX7_interpreter 14 = .ok (.new 109, 3) := by decide +kernel
theorem dX7_interpreter_17 : decode cX7_interpreter 17 = .ok (.dup, 1) := by decide +kernel
theorem dX7_interpreter_18 : decode cX7_interpreter 18 = .ok (.ldc 111, 2) := by decide +kernel
theorem dX7_interpreter_20 : decode cX7_interpreter 20 = .ok (.invokespecial 113, 3) := by decide +kernel
theorem dX7_interpreter_23 : decode cX7_interpreter 23 = .ok (.athrow, 1) := by decide +kernel
theorem dX7_interpreter_24 : decode cX7_interpreter 24 = .ok (.iload_n 2, 1) := by decide +kernel
theorem dX7_interpreter_25 : decode cX7_interpreter 25 = .ok (.iconst 0, 1) := by decide +kernel
theorem dX7_interpreter_26 : decode cX7_interpreter 26 = .ok (.bipush 7, 2) := by decide +kernel
theorem dX7_interpreter_28 : decode cX7_interpreter 28 = .ok (.invokestatic 47, 3) := by decide +kernel
theorem dX7_interpreter_31 : decode cX7_interpreter 31 = .ok (.ifCond .ne 13, 3) := by decide +kernel
theorem dX7_interpreter_34 : decode cX7_interpreter 34 = .ok (.new 57, 3) := by decide +kernel
theorem dX7_interpreter_37 : decode cX7_interpreter 37 = .ok (.dup, 1) := by decide +kernel
theorem dX7_interpreter_38 : decode cX7_interpreter 38 = .ok (.ldc 233, 2) := by decide +kernel
theorem dX7_interpreter_40 : decode cX7_interpreter 40 = .ok (.invokespecial 61, 3) := by decide +kernel
theorem dX7_interpreter_43 : decode cX7_interpreter 43 = .ok (.athrow, 1) := by decide +kernel
theorem dX7_interpreter_44 : decode cX7_interpreter 44 = .ok (.aload_n 0, 1) := by decide +kernel
theorem dX7_interpreter_45 : decode cX7_interpreter 45 = .ok (.getfield 10, 3) := by decide +kernel
theorem dX7_interpreter_48 : decode cX7_interpreter 48 = .ok (.iload_n 1, 1) := by decide +kernel
theorem dX7_interpreter_49 : decode cX7_interpreter 49 = .ok (.iload_n 2, 1) := by decide +kernel
theorem dX7_interpreter_50 : decode cX7_interpreter 50 = .ok (.invokevirtual 235, 3) := by decide +kernel
theorem dX7_interpreter_53 : decode cX7_interpreter 53 = .ok (.ireturn, 1) := by decide +kernel
theorem dX7_hearing_0 : decode cX7_hearing 0 = .ok (.aload_n 0, 1) := by decide +kernel
theorem dX7_hearing_1 : decode cX7_hearing 1 = .ok (.getfield 10, 3) := by decide +kernel
theorem dX7_hearing_4 : decode cX7_hearing 4 = .ok (.getfield 89, 3) := by decide +kernel
theorem dX7_hearing_7 : decode cX7_hearing 7 = .ok (.iload_n 1, 1) := by decide +kernel
theorem dX7_hearing_8 : decode cX7_hearing 8 = .ok (.invokevirtual 133, 3) := by decide +kernel
theorem dX7_hearing_11 : decode cX7_hearing 11 = .ok (.ifCond .ne 13, 3) := by decide +kernel
theorem dX7_hearing_14 : decode cX7_hearing 14 = .ok (.new 109, 3) := by decide +kernel
theorem dX7_hearing_17 : decode cX7_hearing 17 = .ok (.dup, 1) := by decide +kernel
theorem dX7_hearing_18 : decode cX7_hearing 18 = .ok (.ldc 157, 2) := by decide +kernel
theorem dX7_hearing_20 : decode cX7_hearing 20 = .ok (.invokespecial 113, 3) := by decide +kernel
theorem dX7_hearing_23 : decode cX7_hearing 23 = .ok (.athrow, 1) := by decide +kernel
theorem dX7_hearing_24 : decode cX7_hearing 24 = .ok (.iload_n 2, 1) := by decide +kernel
theorem dX7_hearing_25 : decode cX7_hearing 25 = .ok (.iconst 0, 1) := by decide +kernel
theorem dX7_hearing_26 : decode cX7_hearing 26 = .ok (.bipush 11, 2) := by decide +kernel
theorem dX7_hearing_28 : decode cX7_hearing 28 = .ok (.invokestatic 47, 3) := by decide +kernel
theorem dX7_hearing_31 : decode cX7_hearing 31 = .ok (.ifCond .ne 13, 3) := by decide +kernel
theorem dX7_hearing_34 : decode cX7_hearing 34 = .ok (.new 57, 3) := by decide +kernel
theorem dX7_hearing_37 : decode cX7_hearing 37 = .ok (.dup, 1) := by decide +kernel
theorem dX7_hearing_38 : decode cX7_hearing 38 = .ok (.ldc 238, 2) := by decide +kernel
theorem dX7_hearing_40 : decode cX7_hearing 40 = .ok (.invokespecial 61, 3) := by decide +kernel
theorem dX7_hearing_43 : decode cX7_hearing 43 = .ok (.athrow, 1) := by decide +kernel
theorem dX7_hearing_44 : decode cX7_hearing 44 = .ok (.aload_n 0, 1) := by decide +kernel
theorem dX7_hearing_45 : decode cX7_hearing 45 = .ok (.getfield 10, 3) := by decide +kernel
theorem dX7_hearing_48 : decode cX7_hearing 48 = .ok (.iload_n 1, 1) := by decide +kernel
theorem dX7_hearing_49 : decode cX7_hearing 49 = .ok (.iload_n 2, 1) := by decide +kernel
theorem dX7_hearing_50 : decode cX7_hearing 50 = .ok (.invokevirtual 240, 3) := by decide +kernel
theorem dX7_hearing_53 : decode cX7_hearing 53 = .ok (.ireturn, 1) := by decide +kernel
theorem dX7_count_0 : decode cX7_count 0 = .ok (.iload_n 1, 1) := by decide +kernel
theorem dX7_count_1 : decode cX7_count 1 = .ok (.iconst 0, 1) := by decide +kernel
theorem dX7_count_2 : decode cX7_count 2 = .ok (.bipush 12, 2) := by decide +kernel
theorem dX7_count_4 : decode cX7_count 4 = .ok (.invokestatic 47, 3) := by decide +kernel
theorem dX7_count_7 : decode cX7_count 7 = .ok (.ifCond .ne 13, 3) := by decide +kernel
theorem dX7_count_10 : decode cX7_count 10 = .ok (.new 57, 3) := by decide +kernel
theorem dX7_count_13 : decode cX7_count 13 = .ok (.dup, 1) := by decide +kernel
theorem dX7_count_14 : decode cX7_count 14 = .ok (.ldc 243, 2) := by decide +kernel
theorem dX7_count_16 : decode cX7_count 16 = .ok (.invokespecial 61, 3) := by decide +kernel
theorem dX7_count_19 : decode cX7_count 19 = .ok (.athrow, 1) := by decide +kernel
theorem dX7_count_20 : decode cX7_count 20 = .ok (.iload_n 1, 1) := by decide +kernel
theorem dX7_count_21 : decode cX7_count 21 = .ok (.bipush 12, 2) := by decide +kernel
theorem dX7_count_23 : decode cX7_count 23 = .ok (.if_icmp .ne 13, 3) := by decide +kernel
theorem dX7_count_26 : decode cX7_count 26 = .ok (.aload_n 0, 1) := by decide +kernel
theorem dX7_count_27 : decode cX7_count 27 = .ok (.getfield 22, 3) := by decide +kernel
theorem dX7_count_30 : decode cX7_count 30 = .ok (.getfield 227, 3) := by decide +kernel
theorem dX7_count_33 : decode cX7_count 33 = .ok (.goto 11, 3) := by decide +kernel
theorem dX7_count_36 : decode cX7_count 36 = .ok (.aload_n 0, 1) := by decide +kernel
theorem dX7_count_37 : decode cX7_count 37 = .ok (.getfield 10, 3) := by decide +kernel
theorem dX7_count_40 : decode cX7_count 40 = .ok (.iload_n 1, 1) := by decide +kernel
theorem dX7_count_41 : decode cX7_count 41 = .ok (.invokevirtual 245, 3) := by decide +kernel
theorem dX7_count_44 : decode cX7_count 44 = .ok (.ireturn, 1) := by decide +kernel
theorem dX7_setting_0 : decode cX7_setting 0 = .ok (.iload_n 1, 1) := by decide +kernel
theorem dX7_setting_1 : decode cX7_setting 1 = .ok (.invokestatic 120, 3) := by decide +kernel
theorem dX7_setting_4 : decode cX7_setting 4 = .ok (.ifCond .ne 13, 3) := by decide +kernel
theorem dX7_setting_7 : decode cX7_setting 7 = .ok (.new 109, 3) := by decide +kernel
theorem dX7_setting_10 : decode cX7_setting 10 = .ok (.dup, 1) := by decide +kernel
theorem dX7_setting_11 : decode cX7_setting 11 = .ok (.ldc 123, 2) := by decide +kernel
theorem dX7_setting_13 : decode cX7_setting 13 = .ok (.invokespecial 113, 3) := by decide +kernel
theorem dX7_setting_16 : decode cX7_setting 16 = .ok (.athrow, 1) := by decide +kernel
theorem dX7_setting_17 : decode cX7_setting 17 = .ok (.aload_n 0, 1) := by decide +kernel
theorem dX7_setting_18 : decode cX7_setting 18 = .ok (.getfield 10, 3) := by decide +kernel
theorem dX7_setting_21 : decode cX7_setting 21 = .ok (.getfield 130, 3) := by decide +kernel
theorem dX7_setting_24 : decode cX7_setting 24 = .ok (.iload_n 1, 1) := by decide +kernel
theorem dX7_setting_25 : decode cX7_setting 25 = .ok (.iaload, 1) := by decide +kernel
theorem dX7_setting_26 : decode cX7_setting 26 = .ok (.ireturn, 1) := by decide +kernel
theorem dX7_whyNot_0 : decode cX7_whyNot 0 = .ok (.aload_n 0, 1) := by decide +kernel
theorem dX7_whyNot_1 : decode cX7_whyNot 1 = .ok (.getfield 10, 3) := by decide +kernel
theorem dX7_whyNot_4 : decode cX7_whyNot 4 = .ok (.getfield 89, 3) := by decide +kernel
theorem dX7_whyNot_7 : decode cX7_whyNot 7 = .ok (.iload_n 1, 1) := by decide +kernel
theorem dX7_whyNot_8 : decode cX7_whyNot 8 = .ok (.invokevirtual 133, 3) := by decide +kernel
theorem dX7_whyNot_11 : decode cX7_whyNot 11 = .ok (.ifCond .eq 14, 3) := by decide +kernel
theorem dX7_whyNot_14 : decode cX7_whyNot 14 = .ok (.aload_n 0, 1) := by decide +kernel
theorem dX7_whyNot_15 : decode cX7_whyNot 15 = .ok (.iload_n 2, 1) := by decide +kernel
theorem dX7_whyNot_16 : decode cX7_whyNot 16 = .ok (.iload_n 3, 1) := by decide +kernel
theorem dX7_whyNot_17 : decode cX7_whyNot 17 = .ok (.iload 4, 2) := by decide +kernel
theorem dX7_whyNot_19 : decode cX7_whyNot 19 = .ok (.invokevirtual 134, 3) := by decide +kernel
theorem dX7_whyNot_22 : decode cX7_whyNot 22 = .ok (.ifCond .ne 13, 3) := by decide +kernel
theorem dX7_whyNot_25 : decode cX7_whyNot 25 = .ok (.new 109, 3) := by decide +kernel
theorem dX7_whyNot_28 : decode cX7_whyNot 28 = .ok (.dup, 1) := by decide +kernel
theorem dX7_whyNot_29 : decode cX7_whyNot 29 = .ok (.ldc 137, 2) := by decide +kernel
theorem dX7_whyNot_31 : decode cX7_whyNot 31 = .ok (.invokespecial 113, 3) := by decide +kernel
theorem dX7_whyNot_34 : decode cX7_whyNot 34 = .ok (.athrow, 1) := by decide +kernel
theorem dX7_whyNot_35 : decode cX7_whyNot 35 = .ok (.iload_n 2, 1) := by decide +kernel
theorem dX7_whyNot_36 : decode cX7_whyNot 36 = .ok (.iload_n 3, 1) := by decide +kernel
theorem dX7_whyNot_37 : decode cX7_whyNot 37 = .ok (.iload 4, 2) := by decide +kernel
theorem dX7_whyNot_39 : decode cX7_whyNot 39 = .ok (.invokestatic 139, 3) := by decide +kernel
theorem dX7_whyNot_42 : decode cX7_whyNot 42 = .ok (.ifCond .ne 13, 3) := by decide +kernel
theorem dX7_whyNot_45 : decode cX7_whyNot 45 = .ok (.new 57, 3) := by decide +kernel
theorem dX7_whyNot_48 : decode cX7_whyNot 48 = .ok (.dup, 1) := by decide +kernel
theorem dX7_whyNot_49 : decode cX7_whyNot 49 = .ok (.ldc 142, 2) := by decide +kernel
theorem dX7_whyNot_51 : decode cX7_whyNot 51 = .ok (.invokespecial 61, 3) := by decide +kernel
theorem dX7_whyNot_54 : decode cX7_whyNot 54 = .ok (.athrow, 1) := by decide +kernel
theorem dX7_whyNot_55 : decode cX7_whyNot 55 = .ok (.aload_n 0, 1) := by decide +kernel
theorem dX7_whyNot_56 : decode cX7_whyNot 56 = .ok (.getfield 10, 3) := by decide +kernel
theorem dX7_whyNot_59 : decode cX7_whyNot 59 = .ok (.iload_n 1, 1) := by decide +kernel
theorem dX7_whyNot_60 : decode cX7_whyNot 60 = .ok (.iload_n 2, 1) := by decide +kernel
theorem dX7_whyNot_61 : decode cX7_whyNot 61 = .ok (.iload_n 3, 1) := by decide +kernel
theorem dX7_whyNot_62 : decode cX7_whyNot 62 = .ok (.iload 4, 2) := by decide +kernel
theorem dX7_whyNot_64 : decode cX7_whyNot 64 = .ok (.invokevirtual 144, 3) := by decide +kernel
theorem dX7_whyNot_67 : decode cX7_whyNot 67 = .ok (.ireturn, 1) := by decide +kernel
theorem dX7_cheapest_0 : decode cX7_cheapest 0 = .ok (.aload_n 0, 1) := by decide +kernel
theorem dX7_cheapest_1 : decode cX7_cheapest 1 = .ok (.getfield 10, 3) := by decide +kernel
theorem dX7_cheapest_4 : decode cX7_cheapest 4 = .ok (.getfield 89, 3) := by decide +kernel
theorem dX7_cheapest_7 : decode cX7_cheapest 7 = .ok (.iload_n 1, 1) := by decide +kernel
theorem dX7_cheapest_8 : decode cX7_cheapest 8 = .ok (.invokevirtual 133, 3) := by decide +kernel
theorem dX7_cheapest_11 : decode cX7_cheapest 11 = .ok (.ifCond .ne 13, 3) := by decide +kernel
theorem dX7_cheapest_14 : decode cX7_cheapest 14 = .ok (.new 109, 3) := by decide +kernel
theorem dX7_cheapest_17 : decode cX7_cheapest 17 = .ok (.dup, 1) := by decide +kernel
theorem dX7_cheapest_18 : decode cX7_cheapest 18 = .ok (.ldc 157, 2) := by decide +kernel
theorem dX7_cheapest_20 : decode cX7_cheapest 20 = .ok (.invokespecial 113, 3) := by decide +kernel
theorem dX7_cheapest_23 : decode cX7_cheapest 23 = .ok (.athrow, 1) := by decide +kernel
theorem dX7_cheapest_24 : decode cX7_cheapest 24 = .ok (.iload_n 2, 1) := by decide +kernel
theorem dX7_cheapest_25 : decode cX7_cheapest 25 = .ok (.iconst 0, 1) := by decide +kernel
theorem dX7_cheapest_26 : decode cX7_cheapest 26 = .ok (.iconst 4, 1) := by decide +kernel
theorem dX7_cheapest_27 : decode cX7_cheapest 27 = .ok (.invokestatic 47, 3) := by decide +kernel
theorem dX7_cheapest_30 : decode cX7_cheapest 30 = .ok (.ifCond .ne 13, 3) := by decide +kernel
theorem dX7_cheapest_33 : decode cX7_cheapest 33 = .ok (.new 57, 3) := by decide +kernel
theorem dX7_cheapest_36 : decode cX7_cheapest 36 = .ok (.dup, 1) := by decide +kernel
theorem dX7_cheapest_37 : decode cX7_cheapest 37 = .ok (.ldc 248, 2) := by decide +kernel
theorem dX7_cheapest_39 : decode cX7_cheapest 39 = .ok (.invokespecial 61, 3) := by decide +kernel
theorem dX7_cheapest_42 : decode cX7_cheapest 42 = .ok (.athrow, 1) := by decide +kernel
theorem dX7_cheapest_43 : decode cX7_cheapest 43 = .ok (.aload_n 0, 1) := by decide +kernel
theorem dX7_cheapest_44 : decode cX7_cheapest 44 = .ok (.getfield 43, 3) := by decide +kernel
theorem dX7_cheapest_47 : decode cX7_cheapest 47 = .ok (.aload_n 0, 1) := by decide +kernel
theorem dX7_cheapest_48 : decode cX7_cheapest 48 = .ok (.getfield 10, 3) := by decide +kernel
theorem dX7_cheapest_51 : decode cX7_cheapest 51 = .ok (.iload_n 1, 1) := by decide +kernel
theorem dX7_cheapest_52 : decode cX7_cheapest 52 = .ok (.invokevirtual 250, 3) := by decide +kernel
theorem dX7_cheapest_55 : decode cX7_cheapest 55 = .ok (.aload_n 0, 1) := by decide +kernel
theorem dX7_cheapest_56 : decode cX7_cheapest 56 = .ok (.getfield 43, 3) := by decide +kernel
theorem dX7_cheapest_59 : decode cX7_cheapest 59 = .ok (.iload_n 2, 1) := by decide +kernel
theorem dX7_cheapest_60 : decode cX7_cheapest 60 = .ok (.invokevirtual 254, 3) := by decide +kernel
theorem dX7_cheapest_63 : decode cX7_cheapest 63 = .ok (.ireturn, 1) := by decide +kernel
theorem dX7_tiredIn_0 : decode cX7_tiredIn 0 = .ok (.aload_n 0, 1) := by decide +kernel
theorem dX7_tiredIn_1 : decode cX7_tiredIn 1 = .ok (.getfield 10, 3) := by decide +kernel
theorem dX7_tiredIn_4 : decode cX7_tiredIn 4 = .ok (.getfield 64, 3) := by decide +kernel
theorem dX7_tiredIn_7 : decode cX7_tiredIn 7 = .ok (.iload_n 1, 1) := by decide +kernel
theorem dX7_tiredIn_8 : decode cX7_tiredIn 8 = .ok (.invokevirtual 105, 3) := by decide +kernel
theorem dX7_tiredIn_11 : decode cX7_tiredIn 11 = .ok (.ifCond .ne 13, 3) := by decide +kernel
theorem dX7_tiredIn_14 : decode cX7_tiredIn 14 = .ok (.new 109, 3) := by decide +kernel
theorem dX7_tiredIn_17 : decode cX7_tiredIn 17 = .ok (.dup, 1) := by decide +kernel
theorem dX7_tiredIn_18 : decode cX7_tiredIn 18 = .ok (.ldc 111, 2) := by decide +kernel
theorem dX7_tiredIn_20 : decode cX7_tiredIn 20 = .ok (.invokespecial 113, 3) := by decide +kernel
theorem dX7_tiredIn_23 : decode cX7_tiredIn 23 = .ok (.athrow, 1) := by decide +kernel
theorem dX7_tiredIn_24 : decode cX7_tiredIn 24 = .ok (.iload_n 2, 1) := by decide +kernel
theorem dX7_tiredIn_25 : decode cX7_tiredIn 25 = .ok (.iconst 0, 1) := by decide +kernel
theorem dX7_tiredIn_26 : decode cX7_tiredIn 26 = .ok (.sipush 500, 3) := by decide +kernel
theorem dX7_tiredIn_29 : decode cX7_tiredIn 29 = .ok (.invokestatic 47, 3) := by decide +kernel
theorem dX7_tiredIn_32 : decode cX7_tiredIn 32 = .ok (.ifCond .ne 13, 3) := by decide +kernel
theorem dX7_tiredIn_35 : decode cX7_tiredIn 35 = .ok (.new 57, 3) := by decide +kernel
theorem dX7_tiredIn_38 : decode cX7_tiredIn 38 = .ok (.dup, 1) := by decide +kernel
theorem dX7_tiredIn_39 : decode cX7_tiredIn 39 = .ok (.ldc 189, 2) := by decide +kernel
theorem dX7_tiredIn_41 : decode cX7_tiredIn 41 = .ok (.invokespecial 61, 3) := by decide +kernel
theorem dX7_tiredIn_44 : decode cX7_tiredIn 44 = .ok (.athrow, 1) := by decide +kernel
theorem dX7_tiredIn_45 : decode cX7_tiredIn 45 = .ok (.aload_n 0, 1) := by decide +kernel
theorem dX7_tiredIn_46 : decode cX7_tiredIn 46 = .ok (.iload_n 2, 1) := by decide +kernel
theorem dX7_tiredIn_47 : decode cX7_tiredIn 47 = .ok (.invokevirtual 257, 3) := by decide +kernel
theorem dX7_tiredIn_50 : decode cX7_tiredIn 50 = .ok (.aload_n 0, 1) := by decide +kernel
theorem dX7_tiredIn_51 : decode cX7_tiredIn 51 = .ok (.getfield 16, 3) := by decide +kernel
theorem dX7_tiredIn_54 : decode cX7_tiredIn 54 = .ok (.getfield 64, 3) := by decide +kernel
theorem dX7_tiredIn_57 : decode cX7_tiredIn 57 = .ok (.getfield 260, 3) := by decide +kernel
theorem dX7_tiredIn_60 : decode cX7_tiredIn 60 = .ok (.iload_n 1, 1) := by decide +kernel
theorem dX7_tiredIn_61 : decode cX7_tiredIn 61 = .ok (.iaload, 1) := by decide +kernel
theorem dX7_tiredIn_62 : decode cX7_tiredIn 62 = .ok (.ireturn, 1) := by decide +kernel
theorem dX7_ifVacated_0 : decode cX7_ifVacated 0 = .ok (.aload_n 0, 1) := by decide +kernel
theorem dX7_ifVacated_1 : decode cX7_ifVacated 1 = .ok (.getfield 10, 3) := by decide +kernel
theorem dX7_ifVacated_4 : decode cX7_ifVacated 4 = .ok (.getfield 89, 3) := by decide +kernel
theorem dX7_ifVacated_7 : decode cX7_ifVacated 7 = .ok (.iload_n 1, 1) := by decide +kernel
theorem dX7_ifVacated_8 : decode cX7_ifVacated 8 = .ok (.invokevirtual 133, 3) := by decide +kernel
theorem dX7_ifVacated_11 : decode cX7_ifVacated 11 = .ok (.ifCond .ne 13, 3) := by decide +kernel
theorem dX7_ifVacated_14 : decode cX7_ifVacated 14 = .ok (.new 109, 3) := by decide +kernel
theorem dX7_ifVacated_17 : decode cX7_ifVacated 17 = .ok (.dup, 1) := by decide +kernel
theorem dX7_ifVacated_18 : decode cX7_ifVacated 18 = .ok (.ldc 157, 2) := by decide +kernel
theorem dX7_ifVacated_20 : decode cX7_ifVacated 20 = .ok (.invokespecial 113, 3) := by decide +kernel
theorem dX7_ifVacated_23 : decode cX7_ifVacated 23 = .ok (.athrow, 1) := by decide +kernel
theorem dX7_ifVacated_24 : decode cX7_ifVacated 24 = .ok (.iload_n 2, 1) := by decide +kernel
theorem dX7_ifVacated_25 : decode cX7_ifVacated 25 = .ok (.iconst 0, 1) := by decide +kernel
theorem dX7_ifVacated_26 : decode cX7_ifVacated 26 = .ok (.sipush 2000, 3) := by decide +kernel
theorem dX7_ifVacated_29 : decode cX7_ifVacated 29 = .ok (.invokestatic 47, 3) := by decide +kernel
theorem dX7_ifVacated_32 : decode cX7_ifVacated 32 = .ok (.ifCond .ne 13, 3) := by decide +kernel
theorem dX7_ifVacated_35 : decode cX7_ifVacated 35 = .ok (.new 57, 3) := by decide +kernel
theorem dX7_ifVacated_38 : decode cX7_ifVacated 38 = .ok (.dup, 1) := by decide +kernel
theorem dX7_ifVacated_39 : decode cX7_ifVacated 39 = .ok (.ldc 189, 2) := by decide +kernel
theorem dX7_ifVacated_41 : decode cX7_ifVacated 41 = .ok (.invokespecial 61, 3) := by decide +kernel
theorem dX7_ifVacated_44 : decode cX7_ifVacated 44 = .ok (.athrow, 1) := by decide +kernel
theorem dX7_ifVacated_45 : decode cX7_ifVacated 45 = .ok (.aload_n 0, 1) := by decide +kernel
theorem dX7_ifVacated_46 : decode cX7_ifVacated 46 = .ok (.getfield 10, 3) := by decide +kernel
theorem dX7_ifVacated_49 : decode cX7_ifVacated 49 = .ok (.iload_n 1, 1) := by decide +kernel
theorem dX7_ifVacated_50 : decode cX7_ifVacated 50 = .ok (.iload_n 2, 1) := by decide +kernel
theorem dX7_ifVacated_51 : decode cX7_ifVacated 51 = .ok (.invokevirtual 263, 3) := by decide +kernel
theorem dX7_ifVacated_54 : decode cX7_ifVacated 54 = .ok (.ireturn, 1) := by decide +kernel
theorem dX7_mannable_0 : decode cX7_mannable 0 = .ok (.aload_n 0, 1) := by decide +kernel
theorem dX7_mannable_1 : decode cX7_mannable 1 = .ok (.getfield 16, 3) := by decide +kernel
theorem dX7_mannable_4 : decode cX7_mannable 4 = .ok (.aload_n 0, 1) := by decide +kernel
theorem dX7_mannable_5 : decode cX7_mannable 5 = .ok (.getfield 10, 3) := by decide +kernel
theorem dX7_mannable_8 : decode cX7_mannable 8 = .ok (.invokevirtual 266, 3) := by decide +kernel
theorem dX7_mannable_11 : decode cX7_mannable 11 = .ok (.iconst 0, 1) := by decide +kernel
theorem dX7_mannable_12 : decode cX7_mannable 12 = .ok (.istore_n 1, 1) := by decide +kernel
theorem dX7_mannable_13 : decode cX7_mannable 13 = .ok (.iconst 0, 1) := by decide +kernel
theorem dX7_mannable_14 : decode cX7_mannable 14 = .ok (.istore_n 2, 1) := by decide +kernel
theorem dX7_mannable_15 : decode cX7_mannable 15 = .ok (.iload_n 2, 1) := by decide +kernel
theorem dX7_mannable_16 : decode cX7_mannable 16 = .ok (.aload_n 0, 1) := by decide +kernel
theorem dX7_mannable_17 : decode cX7_mannable 17 = .ok (.getfield 16, 3) := by decide +kernel
theorem dX7_mannable_20 : decode cX7_mannable 20 = .ok (.getfield 89, 3) := by decide +kernel
theorem dX7_mannable_23 : decode cX7_mannable 23 = .ok (.getfield 93, 3) := by decide +kernel
theorem dX7_mannable_26 : decode cX7_mannable 26 = .ok (.if_icmp .ge 92, 3) := by decide +kernel
theorem dX7_mannable_29 : decode cX7_mannable 29 = .ok (.aload_n 0, 1) := by decide +kernel
theorem dX7_mannable_30 : decode cX7_mannable 30 = .ok (.getfield 16, 3) := by decide +kernel
theorem dX7_mannable_33 : decode cX7_mannable 33 = .ok (.iload_n 2, 1) := by decide +kernel
theorem dX7_mannable_34 : decode cX7_mannable 34 = .ok (.invokevirtual 159, 3) := by decide +kernel
theorem dX7_mannable_37 : decode cX7_mannable 37 = .ok (.ifCond .eq 75, 3) := by decide +kernel
theorem dX7_mannable_40 : decode cX7_mannable 40 = .ok (.aload_n 0, 1) := by decide +kernel
theorem dX7_mannable_41 : decode cX7_mannable 41 = .ok (.getfield 16, 3) := by decide +kernel
theorem dX7_mannable_44 : decode cX7_mannable 44 = .ok (.getfield 89, 3) := by decide +kernel
theorem dX7_mannable_47 : decode cX7_mannable 47 = .ok (.getfield 164, 3) := by decide +kernel
theorem dX7_mannable_50 : decode cX7_mannable 50 = .ok (.iload_n 2, 1) := by decide +kernel
theorem dX7_mannable_51 : decode cX7_mannable 51 = .ok (.iaload, 1) := by decide +kernel
theorem dX7_mannable_52 : decode cX7_mannable 52 = .ok (.ifCond .ne 60, 3) := by decide +kernel
theorem dX7_mannable_55 : decode cX7_mannable 55 = .ok (.aload_n 0, 1) := by decide +kernel
theorem dX7_mannable_56 : decode cX7_mannable 56 = .ok (.getfield 43, 3) := by decide +kernel
theorem dX7_mannable_59 : decode cX7_mannable 59 = .ok (.aload_n 0, 1) := by decide +kernel
theorem dX7_mannable_60 : decode cX7_mannable 60 = .ok (.getfield 16, 3) := by decide +kernel
theorem dX7_mannable_63 : decode cX7_mannable 63 = .ok (.iload_n 2, 1) := by decide +kernel
theorem dX7_mannable_64 : decode cX7_mannable 64 = .ok (.invokevirtual 250, 3) := by decide +kernel
theorem dX7_mannable_67 : decode cX7_mannable 67 = .ok (.aload_n 0, 1) := by decide +kernel
theorem dX7_mannable_68 : decode cX7_mannable 68 = .ok (.getfield 43, 3) := by decide +kernel
theorem dX7_mannable_71 : decode cX7_mannable 71 = .ok (.getfield 269, 3) := by decide +kernel
theorem dX7_mannable_74 : decode cX7_mannable 74 = .ok (.ifCond .le 38, 3) := by decide +kernel
theorem dX7_mannable_77 : decode cX7_mannable 77 = .ok (.aload_n 0, 1) := by decide +kernel
theorem dX7_mannable_78 : decode cX7_mannable 78 = .ok (.getfield 16, 3) := by decide +kernel
theorem dX7_mannable_81 : decode cX7_mannable 81 = .ok (.getfield 89, 3) := by decide +kernel
theorem dX7_mannable_84 : decode cX7_mannable 84 = .ok (.iload_n 2, 1) := by decide +kernel
theorem dX7_mannable_85 : decode cX7_mannable 85 = .ok (.aload_n 0, 1) := by decide +kernel
theorem dX7_mannable_86 : decode cX7_mannable 86 = .ok (.getfield 43, 3) := by decide +kernel
theorem dX7_mannable_89 : decode cX7_mannable 89 = .ok (.getfield 271, 3) := by decide +kernel
theorem dX7_mannable_92 : decode cX7_mannable 92 = .ok (.aload_n 0, 1) := by decide +kernel
theorem dX7_mannable_93 : decode cX7_mannable 93 = .ok (.getfield 43, 3) := by decide +kernel
theorem dX7_mannable_96 : decode cX7_mannable 96 = .ok (.getfield 274, 3) := by decide +kernel
theorem dX7_mannable_99 : decode cX7_mannable 99 = .ok (.aload_n 0, 1) := by decide +kernel
theorem dX7_mannable_100 : decode cX7_mannable 100 = .ok (.getfield 43, 3) := by decide +kernel
theorem dX7_mannable_103 : decode cX7_mannable 103 = .ok (.getfield 277, 3) := by decide +kernel
theorem dX7_mannable_106 : decode cX7_mannable 106 = .ok (.invokevirtual 149, 3) := by decide +kernel
theorem dX7_mannable_109 : decode cX7_mannable 109 = .ok (.iinc 1 1, 3) := by decide +kernel
theorem dX7_mannable_112 : decode cX7_mannable 112 = .ok (.iinc 2 1, 3) := by decide +kernel
theorem dX7_mannable_115 : decode cX7_mannable 115 = .ok (.goto (-100), 3) := by decide +kernel
theorem dX7_mannable_118 : decode cX7_mannable 118 = .ok (.iload_n 1, 1) := by decide +kernel
theorem dX7_mannable_119 : decode cX7_mannable 119 = .ok (.ireturn, 1) := by decide +kernel
theorem dX7_missing_0 : decode cX7_missing 0 = .ok (.iload_n 1, 1) := by decide +kernel
theorem dX7_missing_1 : decode cX7_missing 1 = .ok (.iconst 0, 1) := by decide +kernel
theorem dX7_missing_2 : decode cX7_missing 2 = .ok (.iconst 2, 1) := by decide +kernel
theorem dX7_missing_3 : decode cX7_missing 3 = .ok (.invokestatic 47, 3) := by decide +kernel
theorem dX7_missing_6 : decode cX7_missing 6 = .ok (.ifCond .ne 14, 3) := by decide +kernel
theorem dX7_missing_9 : decode cX7_missing 9 = .ok (.new 57, 3) := by decide +kernel
theorem dX7_missing_12 : decode cX7_missing 12 = .ok (.dup, 1) := by decide +kernel
theorem dX7_missing_13 : decode cX7_missing 13 = .ok (.ldc_w 280, 3) := by decide +kernel
theorem dX7_missing_16 : decode cX7_missing 16 = .ok (.invokespecial 61, 3) := by decide +kernel
theorem dX7_missing_19 : decode cX7_missing 19 = .ok (.athrow, 1) := by decide +kernel
theorem dX7_missing_20 : decode cX7_missing 20 = .ok (.aload_n 0, 1) := by decide +kernel
theorem dX7_missing_21 : decode cX7_missing 21 = .ok (.getfield 10, 3) := by decide +kernel
theorem dX7_missing_24 : decode cX7_missing 24 = .ok (.getfield 64, 3) := by decide +kernel
theorem dX7_missing_27 : decode cX7_missing 27 = .ok (.iload_n 1, 1) := by decide +kernel
theorem dX7_missing_28 : decode cX7_missing 28 = .ok (.invokevirtual 282, 3) := by decide +kernel
theorem dX7_missing_31 : decode cX7_missing 31 = .ok (.ireturn, 1) := by decide +kernel
theorem dX7_doneShare_0 : decode cX7_doneShare 0 = .ok (.aload_n 0, 1) := by decide +kernel
theorem dX7_doneShare_1 : decode cX7_doneShare 1 = .ok (.getfield 10, 3) := by decide +kernel
theorem dX7_doneShare_4 : decode cX7_doneShare 4 = .ok (.getfield 285, 3) := by decide +kernel
theorem dX7_doneShare_7 : decode cX7_doneShare 7 = .ok (.ifCond .ne 5, 3) := by decide +kernel
theorem dX7_doneShare_10 : decode cX7_doneShare 10 = .ok (.dconst 0, 1) := by decide +kernel
theorem dX7_doneShare_11 : decode cX7_doneShare 11 = .ok (.dreturn, 1) := by decide +kernel
theorem dX7_doneShare_12 : decode cX7_doneShare 12 = .ok (.aload_n 0, 1) := by decide +kernel
theorem dX7_doneShare_13 : decode cX7_doneShare 13 = .ok (.getfield 10, 3) := by decide +kernel
theorem dX7_doneShare_16 : decode cX7_doneShare 16 = .ok (.getfield 285, 3) := by decide +kernel
theorem dX7_doneShare_19 : decode cX7_doneShare 19 = .ok (.aload_n 0, 1) := by decide +kernel
theorem dX7_doneShare_20 : decode cX7_doneShare 20 = .ok (.getfield 10, 3) := by decide +kernel
theorem dX7_doneShare_23 : decode cX7_doneShare 23 = .ok (.getfield 288, 3) := by decide +kernel
theorem dX7_doneShare_26 : decode cX7_doneShare 26 = .ok (.isub, 1) := by decide +kernel
theorem dX7_doneShare_27 : decode cX7_doneShare 27 = .ok (.aload_n 0, 1) := by decide +kernel
theorem dX7_doneShare_28 : decode cX7_doneShare 28 = .ok (.getfield 10, 3) := by decide +kernel
theorem dX7_doneShare_31 : decode cX7_doneShare 31 = .ok (.getfield 291, 3) := by decide +kernel
theorem dX7_doneShare_34 : decode cX7_doneShare 34 = .ok (.isub, 1) := by decide +kernel
theorem dX7_doneShare_35 : decode cX7_doneShare 35 = .ok (.i2d, 1) := by decide +kernel
theorem dX7_doneShare_36 : decode cX7_doneShare 36 = .ok (.aload_n 0, 1) := by decide +kernel
theorem dX7_doneShare_37 : decode cX7_doneShare 37 = .ok (.getfield 10, 3) := by decide +kernel
theorem dX7_doneShare_40 : decode cX7_doneShare 40 = .ok (.getfield 285, 3) := by decide +kernel
theorem dX7_doneShare_43 : decode cX7_doneShare 43 = .ok (.i2d, 1) := by decide +kernel
theorem dX7_doneShare_44 : decode cX7_doneShare 44 = .ok (.ddiv, 1) := by decide +kernel
theorem dX7_doneShare_45 : decode cX7_doneShare 45 = .ok (.dreturn, 1) := by decide +kernel
theorem dX7_digest_0 : decode cX7_digest 0 = .ok (.ldc2_w 294, 3) := by decide +kernel
theorem dX7_digest_3 : decode cX7_digest 3 = .ok (.lstore_n 1, 1) := by decide +kernel
theorem dX7_digest_4 : decode cX7_digest 4 = .ok (.iconst 0, 1) := by decide +kernel
theorem dX7_digest_5 : decode cX7_digest 5 = .ok (.istore_n 3, 1) := by decide +kernel
theorem dX7_digest_6 : decode cX7_digest 6 = .ok (.iload_n 3, 1) := by decide +kernel
theorem dX7_digest_7 : decode cX7_digest 7 = .ok (.bipush 12, 2) := by decide +kernel
theorem dX7_digest_9 : decode cX7_digest 9 = .ok (.if_icmp .gt 20, 3) := by decide +kernel
theorem dX7_digest_12 : decode cX7_digest 12 = .ok (.lload_n 1, 1) := by decide +kernel
theorem dX7_digest_13 : decode cX7_digest 13 = .ok (.aload_n 0, 1) := by decide +kernel
theorem dX7_digest_14 : decode cX7_digest 14 = .ok (.iload_n 3, 1) := by decide +kernel
theorem dX7_digest_15 : decode cX7_digest 15 = .ok (.invokevirtual 296, 3) := by decide +kernel
theorem dX7_digest_18 : decode cX7_digest 18 = .ok (.i2l, 1) := by decide +kernel
theorem dX7_digest_19 : decode cX7_digest 19 = .ok (.invokestatic 298, 3) := by decide +kernel
theorem dX7_digest_22 : decode cX7_digest 22 = .ok (.lstore_n 1, 1) := by decide +kernel
theorem dX7_digest_23 : decode cX7_digest 23 = .ok (.iinc 3 1, 3) := by decide +kernel
theorem dX7_digest_26 : decode cX7_digest 26 = .ok (.goto (-20), 3) := by decide +kernel
theorem dX7_digest_29 : decode cX7_digest 29 = .ok (.iconst 0, 1) := by decide +kernel
theorem dX7_digest_30 : decode cX7_digest 30 = .ok (.istore_n 3, 1) := by decide +kernel
theorem dX7_digest_31 : decode cX7_digest 31 = .ok (.iload_n 3, 1) := by decide +kernel
theorem dX7_digest_32 : decode cX7_digest 32 = .ok (.aload_n 0, 1) := by decide +kernel
theorem dX7_digest_33 : decode cX7_digest 33 = .ok (.getfield 10, 3) := by decide +kernel
theorem dX7_digest_36 : decode cX7_digest 36 = .ok (.getfield 130, 3) := by decide +kernel
theorem dX7_digest_39 : decode cX7_digest 39 = .ok (.arraylength, 1) := by decide +kernel
theorem dX7_digest_40 : decode cX7_digest 40 = .ok (.if_icmp .ge 24, 3) := by decide +kernel
theorem dX7_digest_43 : decode cX7_digest 43 = .ok (.lload_n 1, 1) := by decide +kernel
theorem dX7_digest_44 : decode cX7_digest 44 = .ok (.aload_n 0, 1) := by decide +kernel
theorem dX7_digest_45 : decode cX7_digest 45 = .ok (.getfield 10, 3) := by decide +kernel
theorem dX7_digest_48 : decode cX7_digest 48 = .ok (.getfield 130, 3) := by decide +kernel
theorem dX7_digest_51 : decode cX7_digest 51 = .ok (.iload_n 3, 1) := by decide +kernel
theorem dX7_digest_52 : decode cX7_digest 52 = .ok (.iaload, 1) := by decide +kernel
theorem dX7_digest_53 : decode cX7_digest 53 = .ok (.i2l, 1) := by decide +kernel
theorem dX7_digest_54 : decode cX7_digest 54 = .ok (.invokestatic 298, 3) := by decide +kernel
theorem dX7_digest_57 : decode cX7_digest 57 = .ok (.lstore_n 1, 1) := by decide +kernel
theorem dX7_digest_58 : decode cX7_digest 58 = .ok (.iinc 3 1, 3) := by decide +kernel
theorem dX7_digest_61 : decode cX7_digest 61 = .ok (.goto (-30), 3) := by decide +kernel
theorem dX7_digest_64 : decode cX7_digest 64 = .ok (.aload_n 0, 1) := by decide +kernel
theorem dX7_digest_65 : decode cX7_digest 65 = .ok (.bipush 60, 2) := by decide +kernel
theorem dX7_digest_67 : decode cX7_digest 67 = .ok (.invokevirtual 257, 3) := by decide +kernel
theorem dX7_digest_70 : decode cX7_digest 70 = .ok (.aload_n 0, 1) := by decide +kernel
theorem dX7_digest_71 : decode cX7_digest 71 = .ok (.lload_n 1, 1) := by decide +kernel
theorem dX7_digest_72 : decode cX7_digest 72 = .ok (.invokevirtual 302, 3) := by decide +kernel
theorem dX7_digest_75 : decode cX7_digest 75 = .ok (.lstore_n 1, 1) := by decide +kernel
theorem dX7_digest_76 : decode cX7_digest 76 = .ok (.aload_n 0, 1) := by decide +kernel
theorem dX7_digest_77 : decode cX7_digest 77 = .ok (.lload_n 1, 1) := by decide +kernel
theorem dX7_digest_78 : decode cX7_digest 78 = .ok (.invokevirtual 306, 3) := by decide +kernel
theorem dX7_digest_81 : decode cX7_digest 81 = .ok (.lstore_n 1, 1) := by decide +kernel
theorem dX7_digest_82 : decode cX7_digest 82 = .ok (.lload_n 1, 1) := by decide +kernel
theorem dX7_digest_83 : decode cX7_digest 83 = .ok (.aload_n 0, 1) := by decide +kernel
theorem dX7_digest_84 : decode cX7_digest 84 = .ok (.invokevirtual 309, 3) := by decide +kernel
theorem dX7_digest_87 : decode cX7_digest 87 = .ok (.i2l, 1) := by decide +kernel
theorem dX7_digest_88 : decode cX7_digest 88 = .ok (.invokestatic 298, 3) := by decide +kernel
theorem dX7_digest_91 : decode cX7_digest 91 = .ok (.lstore_n 1, 1) := by decide +kernel
theorem dX7_digest_92 : decode cX7_digest 92 = .ok (.iconst 0, 1) := by decide +kernel
theorem dX7_digest_93 : decode cX7_digest 93 = .ok (.istore_n 3, 1) := by decide +kernel
theorem dX7_digest_94 : decode cX7_digest 94 = .ok (.iload_n 3, 1) := by decide +kernel
theorem dX7_digest_95 : decode cX7_digest 95 = .ok (.iconst 3, 1) := by decide +kernel
theorem dX7_digest_96 : decode cX7_digest 96 = .ok (.if_icmp .ge 26, 3) := by decide +kernel
theorem dX7_digest_99 : decode cX7_digest 99 = .ok (.lload_n 1, 1) := by decide +kernel
theorem dX7_digest_100 : decode cX7_digest 100 = .ok (.aload_n 0, 1) := by decide +kernel
theorem dX7_digest_101 : decode cX7_digest 101 = .ok (.getfield 10, 3) := by decide +kernel
theorem dX7_digest_104 : decode cX7_digest 104 = .ok (.getfield 64, 3) := by decide +kernel
theorem dX7_digest_107 : decode cX7_digest 107 = .ok (.iload_n 3, 1) := by decide +kernel
theorem dX7_digest_108 : decode cX7_digest 108 = .ok (.invokevirtual 282, 3) := by decide +kernel
theorem dX7_digest_111 : decode cX7_digest 111 = .ok (.i2l, 1) := by decide +kernel
theorem dX7_digest_112 : decode cX7_digest 112 = .ok (.invokestatic 298, 3) := by decide +kernel
theorem dX7_digest_115 : decode cX7_digest 115 = .ok (.lstore_n 1, 1) := by decide +kernel
theorem dX7_digest_116 : decode cX7_digest 116 = .ok (.iinc 3 1, 3) := by decide +kernel
theorem dX7_digest_119 : decode cX7_digest 119 = .ok (.goto (-25), 3) := by decide +kernel
theorem dX7_digest_122 : decode cX7_digest 122 = .ok (.lload_n 1, 1) := by decide +kernel
theorem dX7_digest_123 : decode cX7_digest 123 = .ok (.aload_n 0, 1) := by decide +kernel
theorem dX7_digest_124 : decode cX7_digest 124 = .ok (.invokevirtual 312, 3) := by decide +kernel
theorem dX7_digest_127 : decode cX7_digest 127 = .ok (.invokestatic 316, 3) := by decide +kernel
theorem dX7_digest_130 : decode cX7_digest 130 = .ok (.invokestatic 298, 3) := by decide +kernel
theorem dX7_digest_133 : decode cX7_digest 133 = .ok (.lstore_n 1, 1) := by decide +kernel
theorem dX7_digest_134 : decode cX7_digest 134 = .ok (.aload_n 0, 1) := by decide +kernel
theorem dX7_digest_135 : decode cX7_digest 135 = .ok (.getfield 29, 3) := by decide +kernel
theorem dX7_digest_138 : decode cX7_digest 138 = .ok (.lload_n 1, 1) := by decide +kernel
theorem dX7_digest_139 : decode cX7_digest 139 = .ok (.invokevirtual 320, 3) := by decide +kernel
theorem dX7_digest_142 : decode cX7_digest 142 = .ok (.lreturn, 1) := by decide +kernel
theorem dX7_within_0 : decode cX7_within 0 = .ok (.iload_n 0, 1) := by decide +kernel
theorem dX7_within_1 : decode cX7_within 1 = .ok (.iload_n 1, 1) := by decide +kernel
theorem dX7_within_2 : decode cX7_within 2 = .ok (.if_icmp .lt 12, 3) := by decide +kernel
theorem dX7_within_5 : decode cX7_within 5 = .ok (.iload_n 0, 1) := by decide +kernel
theorem dX7_within_6 : decode cX7_within 6 = .ok (.iload_n 2, 1) := by decide +kernel
theorem dX7_within_7 : decode cX7_within 7 = .ok (.if_icmp .gt 7, 3) := by decide +kernel
theorem dX7_within_10 : decode cX7_within 10 = .ok (.iconst 1, 1) := by decide +kernel
theorem dX7_within_11 : decode cX7_within 11 = .ok (.goto 4, 3) := by decide +kernel
theorem dX7_within_14 : decode cX7_within 14 = .ok (.iconst 0, 1) := by decide +kernel
theorem dX7_within_15 : decode cX7_within 15 = .ok (.ireturn, 1) := by decide +kernel
theorem dX7_isSetting_0 : decode cX7_isSetting 0 = .ok (.iload_n 0, 1) := by decide +kernel
theorem dX7_isSetting_1 : decode cX7_isSetting 1 = .ok (.ifCond .lt 15, 3) := by decide +kernel
theorem dX7_isSetting_4 : decode cX7_isSetting 4 = .ok (.iload_n 0, 1) := by decide +kernel
theorem dX7_isSetting_5 : decode cX7_isSetting 5 = .ok (.getstatic 323, 3) := by decide +kernel
theorem dX7_isSetting_8 : decode cX7_isSetting 8 = .ok (.arraylength, 1) := by decide +kernel
theorem dX7_isSetting_9 : decode cX7_isSetting 9 = .ok (.if_icmp .ge 7, 3) := by decide +kernel
theorem dX7_isSetting_12 : decode cX7_isSetting 12 = .ok (.iconst 1, 1) := by decide +kernel
theorem dX7_isSetting_13 : decode cX7_isSetting 13 = .ok (.goto 4, 3) := by decide +kernel
theorem dX7_isSetting_16 : decode cX7_isSetting 16 = .ok (.iconst 0, 1) := by decide +kernel
theorem dX7_isSetting_17 : decode cX7_isSetting 17 = .ok (.ireturn, 1) := by decide +kernel
theorem dX7_nameInterpreters_0 : decode cX7_nameInterpreters 0 = .ok (.aload_n 0, 1) := by decide +kernel
theorem dX7_nameInterpreters_1 : decode cX7_nameInterpreters 1 = .ok (.getfield 10, 3) := by decide +kernel
theorem dX7_nameInterpreters_4 : decode cX7_nameInterpreters 4 = .ok (.getfield 64, 3) := by decide +kernel
theorem dX7_nameInterpreters_7 : decode cX7_nameInterpreters 7 = .ok (.iload_n 1, 1) := by decide +kernel
theorem dX7_nameInterpreters_8 : decode cX7_nameInterpreters 8 = .ok (.invokevirtual 105, 3) := by decide +kernel
theorem dX7_nameInterpreters_11 : decode cX7_nameInterpreters 11 = .ok (.ifCond .eq 45, 3) := by decide +kernel
theorem dX7_nameInterpreters_14 : decode cX7_nameInterpreters 14 = .ok (.iload_n 2, 1) := by decide +kernel
theorem dX7_nameInterpreters_15 : decode cX7_nameInterpreters 15 = .ok (.iconst (-1), 1) := by decide +kernel
theorem dX7_nameInterpreters_16 : decode cX7_nameInterpreters 16 = .ok (.if_icmp .eq 17, 3) := by decide +kernel
theorem dX7_nameInterpreters_19 : decode cX7_nameInterpreters 19 = .ok (.aload_n 0, 1) := by decide +kernel
theorem dX7_nameInterpreters_20 : decode cX7_nameInterpreters 20 = .ok (.getfield 10, 3) := by decide +kernel
theorem dX7_nameInterpreters_23 : decode cX7_nameInterpreters 23 = .ok (.getfield 64, 3) := by decide +kernel
theorem dX7_nameInterpreters_26 : decode cX7_nameInterpreters 26 = .ok (.iload_n 2, 1) := by decide +kernel
theorem dX7_nameInterpreters_27 : decode cX7_nameInterpreters 27 = .ok (.invokevirtual 105, 3) := by decide +kernel
theorem dX7_nameInterpreters_30 : decode cX7_nameInterpreters 30 = .ok (.ifCond .eq 26, 3) := by decide +kernel
theorem dX7_nameInterpreters_33 : decode cX7_nameInterpreters 33 = .ok (.iload_n 3, 1) := by decide +kernel
theorem dX7_nameInterpreters_34 : decode cX7_nameInterpreters 34 = .ok (.iconst (-1), 1) := by decide +kernel
theorem dX7_nameInterpreters_35 : decode cX7_nameInterpreters 35 = .ok (.if_icmp .eq 17, 3) := by decide +kernel
theorem dX7_nameInterpreters_38 : decode cX7_nameInterpreters 38 = .ok (.aload_n 0, 1) := by decide +kernel
theorem dX7_nameInterpreters_39 : decode cX7_nameInterpreters 39 = .ok (.getfield 10, 3) := by decide +kernel
theorem dX7_nameInterpreters_42 : decode cX7_nameInterpreters 42 = .ok (.getfield 64, 3) := by decide +kernel
theorem dX7_nameInterpreters_45 : decode cX7_nameInterpreters 45 = .ok (.iload_n 3, 1) := by decide +kernel
theorem dX7_nameInterpreters_46 : decode cX7_nameInterpreters 46 = .ok (.invokevirtual 105, 3) := by decide +kernel
theorem dX7_nameInterpreters_49 : decode cX7_nameInterpreters 49 = .ok (.ifCond .eq 7, 3) := by decide +kernel
theorem dX7_nameInterpreters_52 : decode cX7_nameInterpreters 52 = .ok (.iconst 1, 1) := by decide +kernel
theorem dX7_nameInterpreters_53 : decode cX7_nameInterpreters 53 = .ok (.goto 4, 3) := by decide +kernel
theorem dX7_nameInterpreters_56 : decode cX7_nameInterpreters 56 = .ok (.iconst 0, 1) := by decide +kernel
theorem dX7_nameInterpreters_57 : decode cX7_nameInterpreters 57 = .ok (.ireturn, 1) := by decide +kernel
theorem dX7_areRowOfDifferent_0 : decode cX7_areRowOfDifferent 0 = .ok (.iload_n 1, 1) := by decide +kernel
theorem dX7_areRowOfDifferent_1 : decode cX7_areRowOfDifferent 1 = .ok (.iconst (-1), 1) := by decide +kernel
theorem dX7_areRowOfDifferent_2 : decode cX7_areRowOfDifferent 2 = .ok (.if_icmp .ne 14, 3) := by decide +kernel
theorem dX7_areRowOfDifferent_5 : decode cX7_areRowOfDifferent 5 = .ok (.iload_n 2, 1) := by decide +kernel
theorem dX7_areRowOfDifferent_6 : decode cX7_areRowOfDifferent 6 = .ok (.iconst (-1), 1) := by decide +kernel
theorem dX7_areRowOfDifferent_7 : decode cX7_areRowOfDifferent 7 = .ok (.if_icmp .ne 7, 3) := by decide +kernel
theorem dX7_areRowOfDifferent_10 : decode cX7_areRowOfDifferent 10 = .ok (.iconst 1, 1) := by decide +kernel
theorem dX7_areRowOfDifferent_11 : decode cX7_areRowOfDifferent 11 = .ok (.goto 4, 3) := by decide +kernel
theorem dX7_areRowOfDifferent_14 : decode cX7_areRowOfDifferent 14 = .ok (.iconst 0, 1) := by decide +kernel
theorem dX7_areRowOfDifferent_15 : decode cX7_areRowOfDifferent 15 = .ok (.ireturn, 1) := by decide +kernel
theorem dX7_areRowOfDifferent_16 : decode cX7_areRowOfDifferent 16 = .ok (.iload_n 0, 1) := by decide +kernel
theorem dX7_areRowOfDifferent_17 : decode cX7_areRowOfDifferent 17 = .ok (.iload_n 1, 1) := by decide +kernel
theorem dX7_areRowOfDifferent_18 : decode cX7_areRowOfDifferent 18 = .ok (.if_icmp .eq 17, 3) := by decide +kernel
theorem dX7_areRowOfDifferent_21 : decode cX7_areRowOfDifferent 21 = .ok (.iload_n 0, 1) := by decide +kernel
theorem dX7_areRowOfDifferent_22 : decode cX7_areRowOfDifferent 22 = .ok (.iload_n 2, 1) := by decide +kernel
theorem dX7_areRowOfDifferent_23 : decode cX7_areRowOfDifferent 23 = .ok (.if_icmp .eq 12, 3) := by decide +kernel
theorem dX7_areRowOfDifferent_26 : decode cX7_areRowOfDifferent 26 = .ok (.iload_n 1, 1) := by decide +kernel
theorem dX7_areRowOfDifferent_27 : decode cX7_areRowOfDifferent 27 = .ok (.iload_n 2, 1) := by decide +kernel
theorem dX7_areRowOfDifferent_28 : decode cX7_areRowOfDifferent 28 = .ok (.if_icmp .eq 7, 3) := by decide +kernel
theorem dX7_areRowOfDifferent_31 : decode cX7_areRowOfDifferent 31 = .ok (.iconst 1, 1) := by decide +kernel
theorem dX7_areRowOfDifferent_32 : decode cX7_areRowOfDifferent 32 = .ok (.goto 4, 3) := by decide +kernel
theorem dX7_areRowOfDifferent_35 : decode cX7_areRowOfDifferent 35 = .ok (.iconst 0, 1) := by decide +kernel
theorem dX7_areRowOfDifferent_36 : decode cX7_areRowOfDifferent 36 = .ok (.ireturn, 1) := by decide +kernel
theorem dX7_imagineLater_0 : decode cX7_imagineLater 0 = .ok (.aload_n 0, 1) := by decide +kernel
theorem dX7_imagineLater_1 : decode cX7_imagineLater 1 = .ok (.getfield 16, 3) := by decide +kernel
theorem dX7_imagineLater_4 : decode cX7_imagineLater 4 = .ok (.aload_n 0, 1) := by decide +kernel
theorem dX7_imagineLater_5 : decode cX7_imagineLater 5 = .ok (.getfield 10, 3) := by decide +kernel
theorem dX7_imagineLater_8 : decode cX7_imagineLater 8 = .ok (.invokevirtual 266, 3) := by decide +kernel
theorem dX7_imagineLater_11 : decode cX7_imagineLater 11 = .ok (.iconst 0, 1) := by decide +kernel
theorem dX7_imagineLater_12 : decode cX7_imagineLater 12 = .ok (.istore_n 2, 1) := by decide +kernel
theorem dX7_imagineLater_13 : decode cX7_imagineLater 13 = .ok (.iload_n 2, 1) := by decide +kernel
theorem dX7_imagineLater_14 : decode cX7_imagineLater 14 = .ok (.iload_n 1, 1) := by decide +kernel
theorem dX7_imagineLater_15 : decode cX7_imagineLater 15 = .ok (.if_icmp .ge 17, 3) := by decide +kernel
theorem dX7_imagineLater_18 : decode cX7_imagineLater 18 = .ok (.aload_n 0, 1) := by decide +kernel
theorem dX7_imagineLater_19 : decode cX7_imagineLater 19 = .ok (.getfield 16, 3) := by decide +kernel
theorem dX7_imagineLater_22 : decode cX7_imagineLater 22 = .ok (.invokevirtual 193, 3) := by decide +kernel
theorem dX7_imagineLater_25 : decode cX7_imagineLater 25 = .ok (.pop, 1) := by decide +kernel
theorem dX7_imagineLater_26 : decode cX7_imagineLater 26 = .ok (.iinc 2 1, 3) := by decide +kernel
theorem dX7_imagineLater_29 : decode cX7_imagineLater 29 = .ok (.goto (-16), 3) := by decide +kernel
theorem dX7_imagineLater_32 : decode cX7_imagineLater 32 = .ok (.return_, 1) := by decide +kernel
theorem dX7_bitOf_0 : decode cX7_bitOf 0 = .ok (.iload_n 0, 1) := by decide +kernel
theorem dX7_bitOf_1 : decode cX7_bitOf 1 = .ok (.ifCond .ge 7, 3) := by decide +kernel
theorem dX7_bitOf_4 : decode cX7_bitOf 4 = .ok (.iconst 0, 1) := by decide +kernel
theorem dX7_bitOf_5 : decode cX7_bitOf 5 = .ok (.goto 6, 3) := by decide +kernel
theorem dX7_bitOf_8 : decode cX7_bitOf 8 = .ok (.iconst 1, 1) := by decide +kernel
theorem dX7_bitOf_9 : decode cX7_bitOf 9 = .ok (.iload_n 0, 1) := by decide +kernel
theorem dX7_bitOf_10 : decode cX7_bitOf 10 = .ok (.ishl, 1) := by decide +kernel
theorem dX7_bitOf_11 : decode cX7_bitOf 11 = .ok (.ireturn, 1) := by decide +kernel
theorem dX7_maskOf_0 : decode cX7_maskOf 0 = .ok (.iload_n 0, 1) := by decide +kernel
theorem dX7_maskOf_1 : decode cX7_maskOf 1 = .ok (.invokestatic 326, 3) := by decide +kernel
theorem dX7_maskOf_4 : decode cX7_maskOf 4 = .ok (.iload_n 1, 1) := by decide +kernel
theorem dX7_maskOf_5 : decode cX7_maskOf 5 = .ok (.invokestatic 326, 3) := by decide +kernel
theorem dX7_maskOf_8 : decode cX7_maskOf 8 = .ok (.ior, 1) := by decide +kernel
theorem dX7_maskOf_9 : decode cX7_maskOf 9 = .ok (.iload_n 2, 1) := by decide +kernel
theorem dX7_maskOf_10 : decode cX7_maskOf 10 = .ok (.invokestatic 326, 3) := by decide +kernel
theorem dX7_maskOf_13 : decode cX7_maskOf 13 = .ok (.ior, 1) := by decide +kernel
theorem dX7_maskOf_14 : decode cX7_maskOf 14 = .ok (.ireturn, 1) := by decide +kernel
theorem dX7_mix_0 : decode cX7_mix 0 = .ok (.ldc2_w 329, 3) := by decide +kernel
theorem dX7_mix_3 : decode cX7_mix 3 = .ok (.lload_n 0, 1) := by decide +kernel
theorem dX7_mix_4 : decode cX7_mix 4 = .ok (.lmul, 1) := by decide +kernel
theorem dX7_mix_5 : decode cX7_mix 5 = .ok (.lload_n 2, 1) := by decide +kernel
theorem dX7_mix_6 : decode cX7_mix 6 = .ok (.ladd, 1) := by decide +kernel
theorem dX7_mix_7 : decode cX7_mix 7 = .ok (.lreturn, 1) := by decide +kernel
theorem dX7_mixInterpreters_0 : decode cX7_mixInterpreters 0 = .ok (.lload_n 1, 1) := by decide +kernel
theorem dX7_mixInterpreters_1 : decode cX7_mixInterpreters 1 = .ok (.lstore_n 3, 1) := by decide +kernel
theorem dX7_mixInterpreters_2 : decode cX7_mixInterpreters 2 = .ok (.iconst 0, 1) := by decide +kernel
theorem dX7_mixInterpreters_3 : decode cX7_mixInterpreters 3 = .ok (.istore 5, 2) := by decide +kernel
theorem dX7_mixInterpreters_5 : decode cX7_mixInterpreters 5 = .ok (.iload 5, 2) := by decide +kernel
theorem dX7_mixInterpreters_7 : decode cX7_mixInterpreters 7 = .ok (.aload_n 0, 1) := by decide +kernel
theorem dX7_mixInterpreters_8 : decode cX7_mixInterpreters 8 = .ok (.getfield 10, 3) := by decide +kernel
theorem dX7_mixInterpreters_11 : decode cX7_mixInterpreters 11 = .ok (.getfield 64, 3) := by decide +kernel
theorem dX7_mixInterpreters_14 : decode cX7_mixInterpreters 14 = .ok (.getfield 68, 3) := by decide +kernel
theorem dX7_mixInterpreters_17 : decode cX7_mixInterpreters 17 = .ok (.if_icmp .ge 61, 3) := by decide +kernel
theorem dX7_mixInterpreters_20 : decode cX7_mixInterpreters 20 = .ok (.iconst 0, 1) := by decide +kernel
theorem dX7_mixInterpreters_21 : decode cX7_mixInterpreters 21 = .ok (.istore 6, 2) := by decide +kernel
theorem dX7_mixInterpreters_23 : decode cX7_mixInterpreters 23 = .ok (.iload 6, 2) := by decide +kernel
theorem dX7_mixInterpreters_25 : decode cX7_mixInterpreters 25 = .ok (.bipush 7, 2) := by decide +kernel
theorem dX7_mixInterpreters_27 : decode cX7_mixInterpreters 27 = .ok (.if_icmp .gt 26, 3) := by decide +kernel
theorem dX7_mixInterpreters_30 : decode cX7_mixInterpreters 30 = .ok (.lload_n 3, 1) := by decide +kernel
theorem dX7_mixInterpreters_31 : decode cX7_mixInterpreters 31 = .ok (.aload_n 0, 1) := by decide +kernel
theorem dX7_mixInterpreters_32 : decode cX7_mixInterpreters 32 = .ok (.getfield 10, 3) := by decide +kernel
theorem dX7_mixInterpreters_35 : decode cX7_mixInterpreters 35 = .ok (.iload 5, 2) := by decide +kernel
theorem dX7_mixInterpreters_37 : decode cX7_mixInterpreters 37 = .ok (.iload 6, 2) := by decide +kernel
theorem dX7_mixInterpreters_39 : decode cX7_mixInterpreters 39 = .ok (.invokevirtual 235, 3) := by decide +kernel
theorem dX7_mixInterpreters_42 : decode cX7_mixInterpreters 42 = .ok (.i2l, 1) := by decide +kernel
theorem dX7_mixInterpreters_43 : decode cX7_mixInterpreters 43 = .ok (.invokestatic 298, 3) := by decide +kernel
theorem dX7_mixInterpreters_46 : decode cX7_mixInterpreters 46 = .ok (.lstore_n 3, 1) := by decide +kernel
theorem dX7_mixInterpreters_47 : decode cX7_mixInterpreters 47 = .ok (.iinc 6 1, 3) := by decide +kernel
theorem dX7_mixInterpreters_50 : decode cX7_mixInterpreters 50 = .ok (.goto (-27), 3) := by decide +kernel
theorem dX7_mixInterpreters_53 : decode cX7_mixInterpreters 53 = .ok (.lload_n 3, 1) := by decide +kernel
theorem dX7_mixInterpreters_54 : decode cX7_mixInterpreters 54 = .ok (.aload_n 0, 1) := by decide +kernel
theorem dX7_mixInterpreters_55 : decode cX7_mixInterpreters 55 = .ok (.getfield 16, 3) := by decide +kernel
theorem dX7_mixInterpreters_58 : decode cX7_mixInterpreters 58 = .ok (.getfield 64, 3) := by decide +kernel
theorem dX7_mixInterpreters_61 : decode cX7_mixInterpreters 61 = .ok (.getfield 260, 3) := by decide +kernel
theorem dX7_mixInterpreters_64 : decode cX7_mixInterpreters 64 = .ok (.iload 5, 2) := by decide +kernel
theorem dX7_mixInterpreters_66 : decode cX7_mixInterpreters 66 = .ok (.iaload, 1) := by decide +kernel
theorem dX7_mixInterpreters_67 : decode cX7_mixInterpreters 67 = .ok (.i2l, 1) := by decide +kernel
theorem dX7_mixInterpreters_68 : decode cX7_mixInterpreters 68 = .ok (.invokestatic 298, 3) := by decide +kernel
theorem dX7_mixInterpreters_71 : decode cX7_mixInterpreters 71 = .ok (.lstore_n 3, 1) := by decide +kernel
theorem dX7_mixInterpreters_72 : decode cX7_mixInterpreters 72 = .ok (.iinc 5 1, 3) := by decide +kernel
theorem dX7_mixInterpreters_75 : decode cX7_mixInterpreters 75 = .ok (.goto (-70), 3) := by decide +kernel
theorem dX7_mixInterpreters_78 : decode cX7_mixInterpreters 78 = .ok (.lload_n 3, 1) := by decide +kernel
theorem dX7_mixInterpreters_79 : decode cX7_mixInterpreters 79 = .ok (.lreturn, 1) := by decide +kernel
theorem dX7_mixHearings_0 : decode cX7_mixHearings 0 = .ok (.lload_n 1, 1) := by decide +kernel
theorem dX7_mixHearings_1 : decode cX7_mixHearings 1 = .ok (.lstore_n 3, 1) := by decide +kernel
theorem dX7_mixHearings_2 : decode cX7_mixHearings 2 = .ok (.iconst 0, 1) := by decide +kernel
theorem dX7_mixHearings_3 : decode cX7_mixHearings 3 = .ok (.istore 5, 2) := by decide +kernel
theorem dX7_mixHearings_5 : decode cX7_mixHearings 5 = .ok (.iload 5, 2) := by decide +kernel
theorem dX7_mixHearings_7 : decode cX7_mixHearings 7 = .ok (.aload_n 0, 1) := by decide +kernel
theorem dX7_mixHearings_8 : decode cX7_mixHearings 8 = .ok (.getfield 10, 3) := by decide +kernel
theorem dX7_mixHearings_11 : decode cX7_mixHearings 11 = .ok (.getfield 89, 3) := by decide +kernel
theorem dX7_mixHearings_14 : decode cX7_mixHearings 14 = .ok (.getfield 93, 3) := by decide +kernel
theorem dX7_mixHearings_17 : decode cX7_mixHearings 17 = .ok (.if_icmp .ge 101, 3) := by decide +kernel
theorem dX7_mixHearings_20 : decode cX7_mixHearings 20 = .ok (.iconst 0, 1) := by decide +kernel
theorem dX7_mixHearings_21 : decode cX7_mixHearings 21 = .ok (.istore 6, 2) := by decide +kernel
theorem dX7_mixHearings_23 : decode cX7_mixHearings 23 = .ok (.iload 6, 2) := by decide +kernel
theorem dX7_mixHearings_25 : decode cX7_mixHearings 25 = .ok (.bipush 11, 2) := by decide +kernel
theorem dX7_mixHearings_27 : decode cX7_mixHearings 27 = .ok (.if_icmp .gt 26, 3) := by decide +kernel
theorem dX7_mixHearings_30 : decode cX7_mixHearings 30 = .ok (.lload_n 3, 1) := by decide +kernel
theorem dX7_mixHearings_31 : decode cX7_mixHearings 31 = .ok (.aload_n 0, 1) := by decide +kernel
theorem dX7_mixHearings_32 : decode cX7_mixHearings 32 = .ok (.getfield 10, 3) := by decide +kernel
theorem dX7_mixHearings_35 : decode cX7_mixHearings 35 = .ok (.iload 5, 2) := by decide +kernel
theorem dX7_mixHearings_37 : decode cX7_mixHearings 37 = .ok (.iload 6, 2) := by decide +kernel
theorem dX7_mixHearings_39 : decode cX7_mixHearings 39 = .ok (.invokevirtual 240, 3) := by decide +kernel
theorem dX7_mixHearings_42 : decode cX7_mixHearings 42 = .ok (.i2l, 1) := by decide +kernel
theorem dX7_mixHearings_43 : decode cX7_mixHearings 43 = .ok (.invokestatic 298, 3) := by decide +kernel
theorem dX7_mixHearings_46 : decode cX7_mixHearings 46 = .ok (.lstore_n 3, 1) := by decide +kernel
theorem dX7_mixHearings_47 : decode cX7_mixHearings 47 = .ok (.iinc 6 1, 3) := by decide +kernel
theorem dX7_mixHearings_50 : decode cX7_mixHearings 50 = .ok (.goto (-27), 3) := by decide +kernel
theorem dX7_mixHearings_53 : decode cX7_mixHearings 53 = .ok (.aload_n 0, 1) := by decide +kernel
theorem dX7_mixHearings_54 : decode cX7_mixHearings 54 = .ok (.getfield 43, 3) := by decide +kernel
theorem dX7_mixHearings_57 : decode cX7_mixHearings 57 = .ok (.aload_n 0, 1) := by decide +kernel
theorem dX7_mixHearings_58 : decode cX7_mixHearings 58 = .ok (.getfield 10, 3) := by decide +kernel
theorem dX7_mixHearings_61 : decode cX7_mixHearings 61 = .ok (.iload 5, 2) := by decide +kernel
theorem dX7_mixHearings_63 : decode cX7_mixHearings 63 = .ok (.invokevirtual 250, 3) := by decide +kernel
theorem dX7_mixHearings_66 : decode cX7_mixHearings 66 = .ok (.iconst 0, 1) := by decide +kernel
theorem dX7_mixHearings_67 : decode cX7_mixHearings 67 = .ok (.istore 6, 2) := by decide +kernel
theorem dX7_mixHearings_69 : decode cX7_mixHearings 69 = .ok (.iload 6, 2) := by decide +kernel
theorem dX7_mixHearings_71 : decode cX7_mixHearings 71 = .ok (.iconst 4, 1) := by decide +kernel
theorem dX7_mixHearings_72 : decode cX7_mixHearings 72 = .ok (.if_icmp .gt 24, 3) := by decide +kernel
theorem dX7_mixHearings_75 : decode cX7_mixHearings 75 = .ok (.lload_n 3, 1) := by decide +kernel
theorem dX7_mixHearings_76 : decode cX7_mixHearings 76 = .ok (.aload_n 0, 1) := by decide +kernel
theorem dX7_mixHearings_77 : decode cX7_mixHearings 77 = .ok (.getfield 43, 3) := by decide +kernel
theorem dX7_mixHearings_80 : decode cX7_mixHearings 80 = .ok (.iload 6, 2) := by decide +kernel
theorem dX7_mixHearings_82 : decode cX7_mixHearings 82 = .ok (.invokevirtual 254, 3) := by decide +kernel
theorem dX7_mixHearings_85 : decode cX7_mixHearings 85 = .ok (.i2l, 1) := by decide +kernel
theorem dX7_mixHearings_86 : decode cX7_mixHearings 86 = .ok (.invokestatic 298, 3) := by decide +kernel
theorem dX7_mixHearings_89 : decode cX7_mixHearings 89 = .ok (.lstore_n 3, 1) := by decide +kernel
theorem dX7_mixHearings_90 : decode cX7_mixHearings 90 = .ok (.iinc 6 1, 3) := by decide +kernel
theorem dX7_mixHearings_93 : decode cX7_mixHearings 93 = .ok (.goto (-24), 3) := by decide +kernel
theorem dX7_mixHearings_96 : decode cX7_mixHearings 96 = .ok (.lload_n 3, 1) := by decide +kernel
theorem dX7_mixHearings_97 : decode cX7_mixHearings 97 = .ok (.aload_n 0, 1) := by decide +kernel
theorem dX7_mixHearings_98 : decode cX7_mixHearings 98 = .ok (.getfield 10, 3) := by decide +kernel
theorem dX7_mixHearings_101 : decode cX7_mixHearings 101 = .ok (.iload 5, 2) := by decide +kernel
theorem dX7_mixHearings_103 : decode cX7_mixHearings 103 = .ok (.iconst 0, 1) := by decide +kernel
theorem dX7_mixHearings_104 : decode cX7_mixHearings 104 = .ok (.invokevirtual 263, 3) := by decide +kernel
theorem dX7_mixHearings_107 : decode cX7_mixHearings 107 = .ok (.i2l, 1) := by decide +kernel
theorem dX7_mixHearings_108 : decode cX7_mixHearings 108 = .ok (.invokestatic 298, 3) := by decide +kernel
theorem dX7_mixHearings_111 : decode cX7_mixHearings 111 = .ok (.lstore_n 3, 1) := by decide +kernel
theorem dX7_mixHearings_112 : decode cX7_mixHearings 112 = .ok (.iinc 5 1, 3) := by decide +kernel
theorem dX7_mixHearings_115 : decode cX7_mixHearings 115 = .ok (.goto (-110), 3) := by decide +kernel
theorem dX7_mixHearings_118 : decode cX7_mixHearings 118 = .ok (.lload_n 3, 1) := by decide +kernel
theorem dX7_mixHearings_119 : decode cX7_mixHearings 119 = .ok (.lreturn, 1) := by decide +kernel
theorem dX7_bitsOfShare_0 : decode cX7_bitsOfShare 0 = .ok (.dload_n 0, 1) := by decide +kernel
theorem dX7_bitsOfShare_1 : decode cX7_bitsOfShare 1 = .ok (.dconst 0, 1) := by decide +kernel
theorem dX7_bitsOfShare_2 : decode cX7_bitsOfShare 2 = .ok (.dcmp .g, 1) := by decide +kernel
theorem dX7_bitsOfShare_3 : decode cX7_bitsOfShare 3 = .ok (.ifCond .gt 5, 3) := by decide +kernel
theorem dX7_bitsOfShare_6 : decode cX7_bitsOfShare 6 = .ok (.lconst 0, 1) := by decide +kernel
theorem dX7_bitsOfShare_7 : decode cX7_bitsOfShare 7 = .ok (.lreturn, 1) := by decide +kernel
theorem dX7_bitsOfShare_8 : decode cX7_bitsOfShare 8 = .ok (.dload_n 0, 1) := by decide +kernel
theorem dX7_bitsOfShare_9 : decode cX7_bitsOfShare 9 = .ok (.dstore_n 2, 1) := by decide +kernel
theorem dX7_bitsOfShare_10 : decode cX7_bitsOfShare 10 = .ok (.ldc2_w 331, 3) := by decide +kernel
theorem dX7_bitsOfShare_13 : decode cX7_bitsOfShare 13 = .ok (.lstore 4, 2) := by decide +kernel
theorem dX7_bitsOfShare_15 : decode cX7_bitsOfShare 15 = .ok (.iconst 0, 1) := by decide +kernel
theorem dX7_bitsOfShare_16 : decode cX7_bitsOfShare 16 = .ok (.istore 6, 2) := by decide +kernel
theorem dX7_bitsOfShare_18 : decode cX7_bitsOfShare 18 = .ok (.iload 6, 2) := by decide +kernel
theorem dX7_bitsOfShare_20 : decode cX7_bitsOfShare 20 = .ok (.sipush 1000, 3) := by decide +kernel
theorem dX7_bitsOfShare_23 : decode cX7_bitsOfShare 23 = .ok (.if_icmp .ge 27, 3) := by decide +kernel
theorem dX7_bitsOfShare_26 : decode cX7_bitsOfShare 26 = .ok (.dload_n 2, 1) := by decide +kernel
theorem dX7_bitsOfShare_27 : decode cX7_bitsOfShare 27 = .ok (.dconst 1, 1) := by decide +kernel
theorem dX7_bitsOfShare_28 : decode cX7_bitsOfShare 28 = .ok (.dcmp .g, 1) := by decide +kernel
theorem dX7_bitsOfShare_29 : decode cX7_bitsOfShare 29 = .ok (.ifCond .ge 21, 3) := by decide +kernel
theorem dX7_bitsOfShare_32 : decode cX7_bitsOfShare 32 = .ok (.dload_n 2, 1) := by decide +kernel
theorem dX7_bitsOfShare_33 : decode cX7_bitsOfShare 33 = .ok (.ldc2_w 333, 3) := by decide +kernel
theorem dX7_bitsOfShare_36 : decode cX7_bitsOfShare 36 = .ok (.dmul, 1) := by decide +kernel
theorem dX7_bitsOfShare_37 : decode cX7_bitsOfShare 37 = .ok (.dstore_n 2, 1) := by decide +kernel
theorem dX7_bitsOfShare_38 : decode cX7_bitsOfShare 38 = .ok (.lload 4, 2) := by decide +kernel
theorem dX7_bitsOfShare_40 : decode cX7_bitsOfShare 40 = .ok (.lconst 1, 1) := by decide +kernel
theorem dX7_bitsOfShare_41 : decode cX7_bitsOfShare 41 = .ok (.lsub, 1) := by decide +kernel
theorem dX7_bitsOfShare_42 : decode cX7_bitsOfShare 42 = .ok (.lstore 4, 2) := by decide +kernel
theorem dX7_bitsOfShare_44 : decode cX7_bitsOfShare 44 = .ok (.iinc 6 1, 3) := by decide +kernel
theorem dX7_bitsOfShare_47 : decode cX7_bitsOfShare 47 = .ok (.goto (-29), 3) := by decide +kernel
theorem dX7_bitsOfShare_50 : decode cX7_bitsOfShare 50 = .ok (.dload_n 2, 1) := by decide +kernel
theorem dX7_bitsOfShare_51 : decode cX7_bitsOfShare 51 = .ok (.dconst 1, 1) := by decide +kernel
theorem dX7_bitsOfShare_52 : decode cX7_bitsOfShare 52 = .ok (.dsub, 1) := by decide +kernel
theorem dX7_bitsOfShare_53 : decode cX7_bitsOfShare 53 = .ok (.ldc2_w 335, 3) := by decide +kernel
theorem dX7_bitsOfShare_56 : decode cX7_bitsOfShare 56 = .ok (.dmul, 1) := by decide +kernel
theorem dX7_bitsOfShare_57 : decode cX7_bitsOfShare 57 = .ok (.d2l, 1) := by decide +kernel
theorem dX7_bitsOfShare_58 : decode cX7_bitsOfShare 58 = .ok (.lstore 6, 2) := by decide +kernel
theorem dX7_bitsOfShare_60 : decode cX7_bitsOfShare 60 = .ok (.lload 4, 2) := by decide +kernel
theorem dX7_bitsOfShare_62 : decode cX7_bitsOfShare 62 = .ok (.bipush 52, 2) := by decide +kernel
theorem dX7_bitsOfShare_64 : decode cX7_bitsOfShare 64 = .ok (.lshl, 1) := by decide +kernel
theorem dX7_bitsOfShare_65 : decode cX7_bitsOfShare 65 = .ok (.lload 6, 2) := by decide +kernel
theorem dX7_bitsOfShare_67 : decode cX7_bitsOfShare 67 = .ok (.lor, 1) := by decide +kernel
theorem dX7_bitsOfShare_68 : decode cX7_bitsOfShare 68 = .ok (.lreturn, 1) := by decide +kernel
theorem dX8_init_0 : decode cX8_init 0 = .ok (.aload_n 0, 1) := by decide +kernel
theorem dX8_init_1 : decode cX8_init 1 = .ok (.invokespecial 1, 3) := by decide +kernel
theorem dX8_init_4 : decode cX8_init 4 = .ok (.aload_n 0, 1) := by decide +kernel
theorem dX8_init_5 : decode cX8_init 5 = .ok (.sipush 373, 3) := by decide +kernel
theorem dX8_init_8 : decode cX8_init 8 = .ok (.newarray .int, 2) := by decide +kernel
theorem dX8_init_10 : decode cX8_init 10 = .ok (.putfield 7, 3) := by decide +kernel
theorem dX8_init_13 : decode cX8_init 13 = .ok (.aload_n 0, 1) := by decide +kernel
theorem dX8_init_14 : decode cX8_init 14 = .ok (.sipush 2238, 3) := by decide +kernel
theorem dX8_init_17 : decode cX8_init 17 = .ok (.newarray .int, 2) := by decide +kernel
theorem dX8_init_19 : decode cX8_init 19 = .ok (.putfield 13, 3) := by decide +kernel
theorem dX8_init_22 : decode cX8_init 22 = .ok (.aload_n 0, 1) := by decide +kernel
theorem dX8_init_23 : decode cX8_init 23 = .ok (.bipush 60, 2) := by decide +kernel
theorem dX8_init_25 : decode cX8_init 25 = .ok (.newarray .int, 2) := by decide +kernel
theorem dX8_init_27 : decode cX8_init 27 = .ok (.putfield 16, 3) := by decide +kernel
theorem dX8_init_30 : decode cX8_init 30 = .ok (.aload_n 0, 1) := by decide +kernel
theorem dX8_init_31 : decode cX8_init 31 = .ok (.iconst 3, 1) := by decide +kernel
theorem dX8_init_32 : decode cX8_init 32 = .ok (.newarray .int, 2) := by decide +kernel
theorem dX8_init_34 : decode cX8_init 34 = .ok (.putfield 19, 3) := by decide +kernel
theorem dX8_init_37 : decode cX8_init 37 = .ok (.aload_n 0, 1) := by decide +kernel
theorem dX8_init_38 : decode cX8_init 38 = .ok (.bipush 40, 2) := by decide +kernel
theorem dX8_init_40 : decode cX8_init 40 = .ok (.newarray .int, 2) := by decide +kernel
theorem dX8_init_42 : decode cX8_init 42 = .ok (.putfield 22, 3) := by decide +kernel
theorem dX8_init_45 : decode cX8_init 45 = .ok (.aload_n 0, 1) := by decide +kernel
theorem dX8_init_46 : decode cX8_init 46 = .ok (.iconst 3, 1) := by decide +kernel
theorem dX8_init_47 : decode cX8_init 47 = .ok (.newarray .int, 2) := by decide +kernel
theorem dX8_init_49 : decode cX8_init 49 = .ok (.putfield 25, 3) := by decide +kernel
theorem dX8_init_52 : decode cX8_init 52 = .ok (.aload_n 0, 1) := by decide +kernel
theorem dX8_init_53 : decode cX8_init 53 = .ok (.sipush 373, 3) := by decide +kernel
theorem dX8_init_56 : decode cX8_init 56 = .ok (.newarray .int, 2) := by decide +kernel
theorem dX8_init_58 : decode cX8_init 58 = .ok (.putfield 28, 3) := by decide +kernel
theorem dX8_init_61 : decode cX8_init 61 = .ok (.aload_n 0, 1) := by decide +kernel
theorem dX8_init_62 : decode cX8_init 62 = .ok (.getfield 7, 3) := by decide +kernel
theorem dX8_init_65 : decode cX8_init 65 = .ok (.iconst 0, 1) := by decide +kernel
theorem dX8_init_66 : decode cX8_init 66 = .ok (.iconst 2, 1) := by decide +kernel
theorem dX8_init_67 : decode cX8_init 67 = .ok (.iastore, 1) := by decide +kernel
theorem dX8_init_68 : decode cX8_init 68 = .ok (.aload_n 0, 1) := by decide +kernel
theorem dX8_init_69 : decode cX8_init 69 = .ok (.getfield 7, 3) := by decide +kernel
theorem dX8_init_72 : decode cX8_init 72 = .ok (.iconst 1, 1) := by decide +kernel
theorem dX8_init_73 : decode cX8_init 73 = .ok (.iconst 1, 1) := by decide +kernel
theorem dX8_init_74 : decode cX8_init 74 = .ok (.iastore, 1) := by decide +kernel
theorem dX8_init_75 : decode cX8_init 75 = .ok (.aload_n 0, 1) := by decide +kernel
theorem dX8_init_76 : decode cX8_init 76 = .ok (.getfield 7, 3) := by decide +kernel
theorem dX8_init_79 : decode cX8_init 79 = .ok (.iconst 2, 1) := by decide +kernel
theorem dX8_init_80 : decode cX8_init 80 = .ok (.iconst 1, 1) := by decide +kernel
theorem dX8_init_81 : decode cX8_init 81 = .ok (.iastore, 1) := by decide +kernel
theorem dX8_init_82 : decode cX8_init 82 = .ok (.aload_n 0, 1) := by decide +kernel
theorem dX8_init_83 : decode cX8_init 83 = .ok (.getfield 7, 3) := by decide +kernel
theorem dX8_init_86 : decode cX8_init 86 = .ok (.iconst 3, 1) := by decide +kernel
theorem dX8_init_87 : decode cX8_init 87 = .ok (.sipush 600, 3) := by decide +kernel
theorem dX8_init_90 : decode cX8_init 90 = .ok (.iastore, 1) := by decide +kernel
theorem dX8_init_91 : decode cX8_init 91 = .ok (.aload_n 0, 1) := by decide +kernel
theorem dX8_init_92 : decode cX8_init 92 = .ok (.getfield 7, 3) := by decide +kernel
theorem dX8_init_95 : decode cX8_init 95 = .ok (.iconst 4, 1) := by decide +kernel
theorem dX8_init_96 : decode cX8_init 96 = .ok (.bipush 60, 2) := by decide +kernel
theorem dX8_init_98 : decode cX8_init 98 = .ok (.iastore, 1) := by decide +kernel
theorem dX8_init_99 : decode cX8_init 99 = .ok (.aload_n 0, 1) := by decide +kernel
theorem dX8_init_100 : decode cX8_init 100 = .ok (.getfield 7, 3) := by decide +kernel
theorem dX8_init_103 : decode cX8_init 103 = .ok (.iconst 5, 1) := by decide +kernel
theorem dX8_init_104 : decode cX8_init 104 = .ok (.sipush 1440, 3) := by decide +kernel
theorem dX8_init_107 : decode cX8_init 107 = .ok (.iastore, 1) := by decide +kernel
theorem dX8_init_108 : decode cX8_init 108 = .ok (.aload_n 0, 1) := by decide +kernel
theorem dX8_init_109 : decode cX8_init 109 = .ok (.getfield 7, 3) := by decide +kernel
theorem dX8_init_112 : decode cX8_init 112 = .ok (.bipush 6, 2) := by decide +kernel
theorem dX8_init_114 : decode cX8_init 114 = .ok (.bipush 20, 2) := by decide +kernel
theorem dX8_init_116 : decode cX8_init 116 = .ok (.iastore, 1) := by decide +kernel
theorem dX8_init_117 : decode cX8_init 117 = .ok (.return_, 1) := by decide +kernel
theorem dX8_thrown_0 : decode cX8_thrown 0 = .ok (.aload_n 0, 1) := by decide +kernel
theorem dX8_thrown_1 : decode cX8_thrown 1 = .ok (.getfield 31, 3) := by decide +kernel
theorem dX8_thrown_4 : decode cX8_thrown 4 = .ok (.ireturn, 1) := by decide +kernel
theorem dX8_within_0 : decode cX8_within 0 = .ok (.iload_n 0, 1) := by decide +kernel
theorem dX8_within_1 : decode cX8_within 1 = .ok (.iload_n 1, 1) := by decide +kernel
theorem dX8_within_2 : decode cX8_within 2 = .ok (.if_icmp .lt 12, 3) := by decide +kernel
theorem dX8_within_5 : decode cX8_within 5 = .ok (.iload_n 0, 1) := by decide +kernel
theorem dX8_within_6 : decode cX8_within 6 = .ok (.iload_n 2, 1) := by decide +kernel
theorem dX8_within_7 : decode cX8_within 7 = .ok (.if_icmp .gt 7, 3) := by decide +kernel
theorem dX8_within_10 : decode cX8_within 10 = .ok (.iconst 1, 1) := by decide +kernel
theorem dX8_within_11 : decode cX8_within 11 = .ok (.goto 4, 3) := by decide +kernel
theorem dX8_within_14 : decode cX8_within 14 = .ok (.iconst 0, 1) := by decide +kernel
theorem dX8_within_15 : decode cX8_within 15 = .ok (.ireturn, 1) := by decide +kernel
theorem dX8_save_0 : decode cX8_save 0 = .ok (.aload_n 0, 1) := by decide +kernel
theorem dX8_save_1 : decode cX8_save 1 = .ok (.getfield 35, 3) := by decide +kernel
theorem dX8_save_4 : decode cX8_save 4 = .ok (.bipush 6, 2) := by decide +kernel
theorem dX8_save_6 : decode cX8_save 6 = .ok (.if_icmp .ne 46, 3) := by decide +kernel
theorem dX8_save_9 : decode cX8_save 9 = .ok (.sipush 373, 3) := by decide +kernel
theorem dX8_save_12 : decode cX8_save 12 = .ok (.istore_n 1, 1) := by decide +kernel
theorem dX8_save_13 : decode cX8_save 13 = .ok (.iload_n 1, 1) := by decide +kernel
theorem dX8_save_14 : decode cX8_save 14 = .ok (.sipush 2238, 3) := by decide +kernel
theorem dX8_save_17 : decode cX8_save 17 = .ok (.if_icmp .ge 25, 3) := by decide +kernel
theorem dX8_save_20 : decode cX8_save 20 = .ok (.aload_n 0, 1) := by decide +kernel
theorem dX8_save_21 : decode cX8_save 21 = .ok (.getfield 13, 3) := by decide +kernel
theorem dX8_save_24 : decode cX8_save 24 = .ok (.iload_n 1, 1) := by decide +kernel
theorem dX8_save_25 : decode cX8_save 25 = .ok (.sipush 373, 3) := by decide +kernel
theorem dX8_save_28 : decode cX8_save 28 = .ok (.isub, 1) := by decide +kernel
theorem dX8_save_29 : decode cX8_save 29 = .ok (.aload_n 0, 1) := by decide +kernel
theorem dX8_save_30 : decode cX8_save 30 = .ok (.getfield 13, 3) := by decide +kernel
theorem dX8_save_33 : decode cX8_save 33 = .ok (.iload_n 1, 1) := by decide +kernel
theorem dX8_save_34 : decode cX8_save 34 = .ok (.iaload, 1) := by decide +kernel
theorem dX8_save_35 : decode cX8_save 35 = .ok (.iastore, 1) := by decide +kernel
theorem dX8_save_36 : decode cX8_save 36 = .ok (.iinc 1 1, 3) := by decide +kernel
theorem dX8_save_39 : decode cX8_save 39 = .ok (.goto (-26), 3) := by decide +kernel
theorem dX8_save_42 : decode cX8_save 42 = .ok (.aload_n 0, 1) := by decide +kernel
theorem dX8_save_43 : decode cX8_save 43 = .ok (.dup, 1) := by decide +kernel
theorem dX8_save_44 : decode cX8_save 44 = .ok (.getfield 35, 3) := by decide +kernel
theorem dX8_save_47 : decode cX8_save 47 = .ok (.iconst 1, 1) := by decide +kernel
theorem dX8_save_48 : decode cX8_save 48 = .ok (.isub, 1) := by decide +kernel
theorem dX8_save_49 : decode cX8_save 49 = .ok (.putfield 35, 3) := by decide +kernel
theorem dX8_save_52 : decode cX8_save 52 = .ok (.iconst 0, 1) := by decide +kernel
theorem dX8_save_53 : decode cX8_save 53 = .ok (.istore_n 1, 1) := by decide +kernel
theorem dX8_save_54 : decode cX8_save 54 = .ok (.iload_n 1, 1) := by decide +kernel
theorem dX8_save_55 : decode cX8_save 55 = .ok (.sipush 373, 3) := by decide +kernel
theorem dX8_save_58 : decode cX8_save 58 = .ok (.if_icmp .ge 30, 3) := by decide +kernel
theorem dX8_save_61 : decode cX8_save 61 = .ok (.aload_n 0, 1) := by decide +kernel
theorem dX8_save_62 : decode cX8_save 62 = .ok (.getfield 13, 3) := by decide +kernel
theorem dX8_save_65 : decode cX8_save 65 = .ok (.sipush 373, 3) := by decide +kernel
theorem dX8_save_68 : decode cX8_save 68 = .ok (.aload_n 0, 1) := by decide +kernel
theorem dX8_save_69 : decode cX8_save 69 = .ok (.getfield 35, 3) := by decide +kernel
theorem dX8_save_72 : decode cX8_save 72 = .ok (.imul, 1) := by decide +kernel
theorem dX8_save_73 : decode cX8_save 73 = .ok (.iload_n 1, 1) := by decide +kernel
theorem dX8_save_74 : decode cX8_save 74 = .ok (.iadd, 1) := by decide +kernel
theorem dX8_save_75 : decode cX8_save 75 = .ok (.aload_n 0, 1) := by decide +kernel
theorem dX8_save_76 : decode cX8_save 76 = .ok (.getfield 7, 3) := by decide +kernel
theorem dX8_save_79 : decode cX8_save 79 = .ok (.iload_n 1, 1) := by decide +kernel
theorem dX8_save_80 : decode cX8_save 80 = .ok (.iaload, 1) := by decide +kernel
theorem dX8_save_81 : decode cX8_save 81 = .ok (.iastore, 1) := by decide +kernel
theorem dX8_save_82 : decode cX8_save 82 = .ok (.iinc 1 1, 3) := by decide +kernel
theorem dX8_save_85 : decode cX8_save 85 = .ok (.goto (-31), 3) := by decide +kernel
theorem dX8_save_88 : decode cX8_save 88 = .ok (.aload_n 0, 1) := by decide +kernel
theorem dX8_save_89 : decode cX8_save 89 = .ok (.dup, 1) := by decide +kernel
theorem dX8_save_90 : decode cX8_save 90 = .ok (.getfield 35, 3) := by decide +kernel
theorem dX8_save_93 : decode cX8_save 93 = .ok (.iconst 1, 1) := by decide +kernel
theorem dX8_save_94 : decode cX8_save 94 = .ok (.iadd, 1) := by decide +kernel
theorem dX8_save_95 : decode cX8_save 95 = .ok (.putfield 35, 3) := by decide +kernel
theorem dX8_save_98 : decode cX8_save 98 = .ok (.return_, 1) := by decide +kernel
theorem dX8_isPerson_0 : decode cX8_isPerson 0 = .ok (.iload_n 1, 1) := by decide +kernel
theorem dX8_isPerson_1 : decode cX8_isPerson 1 = .ok (.iconst 0, 1) := by decide +kernel
theorem dX8_isPerson_2 : decode cX8_isPerson 2 = .ok (.aload_n 0, 1) := by decide +kernel
theorem dX8_isPerson_3 : decode cX8_isPerson 3 = .ok (.getfield 7, 3) := by decide +kernel
theorem dX8_isPerson_6 : decode cX8_isPerson 6 = .ok (.bipush 7, 2) := by decide +kernel
theorem dX8_isPerson_8 : decode cX8_isPerson 8 = .ok (.iaload, 1) := by decide +kernel
theorem dX8_isPerson_9 : decode cX8_isPerson 9 = .ok (.iconst 1, 1) := by decide +kernel
theorem dX8_isPerson_10 : decode cX8_isPerson 10 = .ok (.isub, 1) := by decide +kernel
theorem dX8_isPerson_11 : decode cX8_isPerson 11 = .ok (.invokestatic 38, 3) := by decide +kernel
theorem dX8_isPerson_14 : decode cX8_isPerson 14 = .ok (.ireturn, 1) := by decide +kernel
theorem dX8_isHearing_0 : decode cX8_isHearing 0 = .ok (.iload_n 1, 1) := by decide +kernel
theorem dX8_isHearing_1 : decode cX8_isHearing 1 = .ok (.iconst 0, 1) := by decide +kernel
theorem dX8_isHearing_2 : decode cX8_isHearing 2 = .ok (.aload_n 0, 1) := by decide +kernel
theorem dX8_isHearing_3 : decode cX8_isHearing 3 = .ok (.getfield 7, 3) := by decide +kernel
theorem dX8_isHearing_6 : decode cX8_isHearing 6 = .ok (.bipush 8, 2) := by decide +kernel
theorem dX8_isHearing_8 : decode cX8_isHearing 8 = .ok (.iaload, 1) := by decide +kernel
theorem dX8_isHearing_9 : decode cX8_isHearing 9 = .ok (.iconst 1, 1) := by decide +kernel
theorem dX8_isHearing_10 : decode cX8_isHearing 10 = .ok (.isub, 1) := by decide +kernel
theorem dX8_isHearing_11 : decode cX8_isHearing 11 = .ok (.invokestatic 38, 3) := by decide +kernel
theorem dX8_isHearing_14 : decode cX8_isHearing 14 = .ok (.ireturn, 1) := by decide +kernel
theorem dX8_of_0 : decode cX8_of 0 = .ok (.aload_n 0, 1) := by decide +kernel
theorem dX8_of_1 : decode cX8_of 1 = .ok (.getfield 7, 3) := by decide +kernel
theorem dX8_of_4 : decode cX8_of 4 = .ok (.bipush 73, 2) := by decide +kernel
theorem dX8_of_6 : decode cX8_of 6 = .ok (.bipush 10, 2) := by decide +kernel
theorem dX8_of_8 : decode cX8_of 8 = .ok (.iload_n 1, 1) := by decide +kernel
theorem dX8_of_9 : decode cX8_of 9 = .ok (.imul, 1) := by decide +kernel
theorem dX8_of_10 : decode cX8_of 10 = .ok (.iadd, 1) := by decide +kernel
theorem dX8_of_11 : decode cX8_of 11 = .ok (.iload_n 2, 1) := by decide +kernel
theorem dX8_of_12 : decode cX8_of 12 = .ok (.iadd, 1) := by decide +kernel
theorem dX8_of_13 : decode cX8_of 13 = .ok (.iaload, 1) := by decide +kernel
theorem dX8_of_14 : decode cX8_of 14 = .ok (.ireturn, 1) := by decide +kernel
theorem dX8_put_0 : decode cX8_put 0 = .ok (.aload_n 0, 1) := by decide +kernel
theorem dX8_put_1 : decode cX8_put 1 = .ok (.getfield 7, 3) := by decide +kernel
theorem dX8_put_4 : decode cX8_put 4 = .ok (.bipush 73, 2) := by decide +kernel
theorem dX8_put_6 : decode cX8_put 6 = .ok (.bipush 10, 2) := by decide +kernel
theorem dX8_put_8 : decode cX8_put 8 = .ok (.iload_n 1, 1) := by decide +kernel
theorem dX8_put_9 : decode cX8_put 9 = .ok (.imul, 1) := by decide +kernel
theorem dX8_put_10 : decode cX8_put 10 = .ok (.iadd, 1) := by decide +kernel
theorem dX8_put_11 : decode cX8_put 11 = .ok (.iload_n 2, 1) := by decide +kernel
theorem dX8_put_12 : decode cX8_put 12 = .ok (.iadd, 1) := by decide +kernel
theorem dX8_put_13 : decode cX8_put 13 = .ok (.iload_n 3, 1) := by decide +kernel
theorem dX8_put_14 : decode cX8_put 14 = .ok (.iastore, 1) := by decide +kernel
theorem dX8_put_15 : decode cX8_put 15 = .ok (.return_, 1) := by decide +kernel
theorem dX8_isListed_0 : decode cX8_isListed 0 = .ok (.aload_n 0, 1) := by decide +kernel
theorem dX8_isListed_1 : decode cX8_isListed 1 = .ok (.iload_n 1, 1) := by decide +kernel
theorem dX8_isListed_2 : decode cX8_isListed 2 = .ok (.iconst 4, 1) := by decide +kernel
theorem dX8_isListed_3 : decode cX8_isListed 3 = .ok (.invokevirtual 42, 3) := by decide +kernel
theorem dX8_isListed_6 : decode cX8_isListed 6 = .ok (.ifCond .ne 7, 3) := by decide +kernel
theorem dX8_isListed_9 : decode cX8_isListed 9 = .ok (.iconst 1, 1) := by decide +kernel
theorem dX8_isListed_10 : decode cX8_isListed 10 = .ok (.goto 4, 3) := by decide +kernel
theorem dX8_isListed_13 : decode cX8_isListed 13 = .ok (.iconst 0, 1) := by decide +kernel
theorem dX8_isListed_14 : decode cX8_isListed 14 = .ok (.ireturn, 1) := by decide +kernel
theorem dX8_hasStarted_0 : decode cX8_hasStarted 0 = .ok (.aload_n 0, 1) := by decide +kernel
theorem dX8_hasStarted_1 : decode cX8_hasStarted 1 = .ok (.iload_n 1, 1) := by decide +kernel
theorem dX8_hasStarted_2 : decode cX8_hasStarted 2 = .ok (.iconst 2, 1) := by decide +kernel
theorem dX8_hasStarted_3 : decode cX8_hasStarted 3 = .ok (.invokevirtual 42, 3) := by decide +kernel
theorem dX8_hasStarted_6 : decode cX8_hasStarted 6 = .ok (.aload_n 0, 1) := by decide +kernel
theorem dX8_hasStarted_7 : decode cX8_hasStarted 7 = .ok (.getfield 7, 3) := by decide +kernel
theorem dX8_hasStarted_10 : decode cX8_hasStarted 10 = .ok (.bipush 9, 2) := by decide +kernel
theorem dX8_hasStarted_12 : decode cX8_hasStarted 12 = .ok (.iaload, 1) := by decide +kernel
theorem dX8_hasStarted_13 : decode cX8_hasStarted 13 = .ok (.if_icmp .gt 7, 3) := by decide +kernel
theorem dX8_hasStarted_16 : decode cX8_hasStarted 16 = .ok (.iconst 1, 1) := by decide +kernel
theorem dX8_hasStarted_17 : decode cX8_hasStarted 17 = .ok (.goto 4, 3) := by decide +kernel
theorem dX8_hasStarted_20 : decode cX8_hasStarted 20 = .ok (.iconst 0, 1) := by decide +kernel
theorem dX8_hasStarted_21 : decode cX8_hasStarted 21 = .ok (.ireturn, 1) := by decide +kernel
theorem dX8_endOf_0 : decode cX8_endOf 0 = .ok (.aload_n 0, 1) := by decide +kernel
theorem dX8_endOf_1 : decode cX8_endOf 1 = .ok (.iload_n 1, 1) := by decide +kernel
theorem dX8_endOf_2 : decode cX8_endOf 2 = .ok (.iconst 2, 1) := by decide +kernel
theorem dX8_endOf_3 : decode cX8_endOf 3 = .ok (.invokevirtual 42, 3) := by decide +kernel
theorem dX8_endOf_6 : decode cX8_endOf 6 = .ok (.aload_n 0, 1) := by decide +kernel
theorem dX8_endOf_7 : decode cX8_endOf 7 = .ok (.iload_n 1, 1) := by decide +kernel
theorem dX8_endOf_8 : decode cX8_endOf 8 = .ok (.iconst 3, 1) := by decide +kernel
theorem dX8_endOf_9 : decode cX8_endOf 9 = .ok (.invokevirtual 42, 3) := by decide +kernel
theorem dX8_endOf_12 : decode cX8_endOf 12 = .ok (.iadd, 1) := by decide +kernel
theorem dX8_endOf_13 : decode cX8_endOf 13 = .ok (.ireturn, 1) := by decide +kernel
theorem dX8_isIn_0 : decode cX8_isIn 0 = .ok (.iconst 0, 1) := by decide +kernel
theorem dX8_isIn_1 : decode cX8_isIn 1 = .ok (.istore_n 3, 1) := by decide +kernel
theorem dX8_isIn_2 : decode cX8_isIn 2 = .ok (.iconst 0, 1) := by decide +kernel
theorem dX8_isIn_3 : decode cX8_isIn 3 = .ok (.istore 4, 2) := by decide +kernel
theorem dX8_isIn_5 : decode cX8_isIn 5 = .ok (.iload 4, 2) := by decide +kernel
theorem dX8_isIn_7 : decode cX8_isIn 7 = .ok (.aload_n 0, 1) := by decide +kernel
theorem dX8_isIn_8 : decode cX8_isIn 8 = .ok (.iload_n 2, 1) := by decide +kernel
theorem dX8_isIn_9 : decode cX8_isIn 9 = .ok (.iconst 5, 1) := by decide +kernel
theorem dX8_isIn_10 : decode cX8_isIn 10 = .ok (.invokevirtual 42, 3) := by decide +kernel
theorem dX8_isIn_13 : decode cX8_isIn 13 = .ok (.if_icmp .ge 33, 3) := by decide +kernel
theorem dX8_isIn_16 : decode cX8_isIn 16 = .ok (.iload_n 3, 1) := by decide +kernel
theorem dX8_isIn_17 : decode cX8_isIn 17 = .ok (.ifCond .ne 17, 3) := by decide +kernel
theorem dX8_isIn_20 : decode cX8_isIn 20 = .ok (.aload_n 0, 1) := by decide +kernel
theorem dX8_isIn_21 : decode cX8_isIn 21 = .ok (.iload_n 2, 1) := by decide +kernel
theorem dX8_isIn_22 : decode cX8_isIn 22 = .ok (.bipush 6, 2) := by decide +kernel
theorem dX8_isIn_24 : decode cX8_isIn 24 = .ok (.iload 4, 2) := by decide +kernel
theorem dX8_isIn_26 : decode cX8_isIn 26 = .ok (.iadd, 1) := by decide +kernel
theorem dX8_isIn_27 : decode cX8_isIn 27 = .ok (.invokevirtual 42, 3) := by decide +kernel
theorem dX8_isIn_30 : decode cX8_isIn 30 = .ok (.iload_n 1, 1) := by decide +kernel
theorem dX8_isIn_31 : decode cX8_isIn 31 = .ok (.if_icmp .ne 7, 3) := by decide +kernel
theorem dX8_isIn_34 : decode cX8_isIn 34 = .ok (.iconst 1, 1) := by decide +kernel
theorem dX8_isIn_35 : decode cX8_isIn 35 = .ok (.goto 4, 3) := by decide +kernel
theorem dX8_isIn_38 : decode cX8_isIn 38 = .ok (.iconst 0, 1) := by decide +kernel
theorem dX8_isIn_39 : decode cX8_isIn 39 = .ok (.istore_n 3, 1) := by decide +kernel
theorem dX8_isIn_40 : decode cX8_isIn 40 = .ok (.iinc 4 1, 3) := by decide +kernel
theorem dX8_isIn_43 : decode cX8_isIn 43 = .ok (.goto (-38), 3) := by decide +kernel
theorem dX8_isIn_46 : decode cX8_isIn 46 = .ok (.iload_n 3, 1) := by decide +kernel
theorem dX8_isIn_47 : decode cX8_isIn 47 = .ok (.ireturn, 1) := by decide +kernel
theorem dX8_clash_0 : decode cX8_clash 0 = .ok (.aload_n 0, 1) := by decide +kernel
theorem dX8_clash_1 : decode cX8_clash 1 = .ok (.iload_n 1, 1) := by decide +kernel
theorem dX8_clash_2 : decode cX8_clash 2 = .ok (.iconst 2, 1) := by decide +kernel
theorem dX8_clash_3 : decode cX8_clash 3 = .ok (.invokevirtual 42, 3) := by decide +kernel
theorem dX8_clash_6 : decode cX8_clash 6 = .ok (.aload_n 0, 1) := by decide +kernel
theorem dX8_clash_7 : decode cX8_clash 7 = .ok (.iload_n 2, 1) := by decide +kernel
theorem dX8_clash_8 : decode cX8_clash 8 = .ok (.invokevirtual 46, 3) := by decide +kernel
theorem dX8_clash_11 : decode cX8_clash 11 = .ok (.if_icmp .ge 21, 3) := by decide +kernel
theorem dX8_clash_14 : decode cX8_clash 14 = .ok (.aload_n 0, 1) := by decide +kernel
theorem dX8_clash_15 : decode cX8_clash 15 = .ok (.iload_n 2, 1) := by decide +kernel
theorem dX8_clash_16 : decode cX8_clash 16 = .ok (.iconst 2, 1) := by decide +kernel
theorem dX8_clash_17 : decode cX8_clash 17 = .ok (.invokevirtual 42, 3) := by decide +kernel
theorem dX8_clash_20 : decode cX8_clash 20 = .ok (.aload_n 0, 1) := by decide +kernel
theorem dX8_clash_21 : decode cX8_clash 21 = .ok (.iload_n 1, 1) := by decide +kernel
theorem dX8_clash_22 : decode cX8_clash 22 = .ok (.invokevirtual 46, 3) := by decide +kernel
theorem dX8_clash_25 : decode cX8_clash 25 = .ok (.if_icmp .ge 7, 3) := by decide +kernel
theorem dX8_clash_28 : decode cX8_clash 28 = .ok (.iconst 1, 1) := by decide +kernel
theorem dX8_clash_29 : decode cX8_clash 29 = .ok (.goto 4, 3) := by decide +kernel
theorem dX8_clash_32 : decode cX8_clash 32 = .ok (.iconst 0, 1) := by decide +kernel
theorem dX8_clash_33 : decode cX8_clash 33 = .ok (.ireturn, 1) := by decide +kernel
theorem dX8_isBusy_0 : decode cX8_isBusy 0 = .ok (.iconst 0, 1) := by decide +kernel
theorem dX8_isBusy_1 : decode cX8_isBusy 1 = .ok (.istore_n 3, 1) := by decide +kernel
theorem dX8_isBusy_2 : decode cX8_isBusy 2 = .ok (.iconst 0, 1) := by decide +kernel
theorem dX8_isBusy_3 : decode cX8_isBusy 3 = .ok (.istore 4, 2) := by decide +kernel
theorem dX8_isBusy_5 : decode cX8_isBusy 5 = .ok (.iload 4, 2) := by decide +kernel
theorem dX8_isBusy_7 : decode cX8_isBusy 7 = .ok (.aload_n 0, 1) := by decide +kernel
theorem dX8_isBusy_8 : decode cX8_isBusy 8 = .ok (.getfield 7, 3) := by decide +kernel
theorem dX8_isBusy_11 : decode cX8_isBusy 11 = .ok (.bipush 8, 2) := by decide +kernel
theorem dX8_isBusy_13 : decode cX8_isBusy 13 = .ok (.iaload, 1) := by decide +kernel
theorem dX8_isBusy_14 : decode cX8_isBusy 14 = .ok (.if_icmp .ge 54, 3) := by decide +kernel
theorem dX8_isBusy_17 : decode cX8_isBusy 17 = .ok (.iload_n 3, 1) := by decide +kernel
theorem dX8_isBusy_18 : decode cX8_isBusy 18 = .ok (.ifCond .ne 38, 3) := by decide +kernel
theorem dX8_isBusy_21 : decode cX8_isBusy 21 = .ok (.iload 4, 2) := by decide +kernel
theorem dX8_isBusy_23 : decode cX8_isBusy 23 = .ok (.iload_n 2, 1) := by decide +kernel
theorem dX8_isBusy_24 : decode cX8_isBusy 24 = .ok (.if_icmp .eq 36, 3) := by decide +kernel
theorem dX8_isBusy_27 : decode cX8_isBusy 27 = .ok (.aload_n 0, 1) := by decide +kernel
theorem dX8_isBusy_28 : decode cX8_isBusy 28 = .ok (.iload 4, 2) := by decide +kernel
theorem dX8_isBusy_30 : decode cX8_isBusy 30 = .ok (.invokevirtual 50, 3) := by decide +kernel
theorem dX8_isBusy_33 : decode cX8_isBusy 33 = .ok (.ifCond .eq 27, 3) := by decide +kernel
theorem dX8_isBusy_36 : decode cX8_isBusy 36 = .ok (.aload_n 0, 1) := by decide +kernel
theorem dX8_isBusy_37 : decode cX8_isBusy 37 = .ok (.iload_n 1, 1) := by decide +kernel
theorem dX8_isBusy_38 : decode cX8_isBusy 38 = .ok (.iload 4, 2) := by decide +kernel
theorem dX8_isBusy_40 : decode cX8_isBusy 40 = .ok (.invokevirtual 54, 3) := by decide +kernel
theorem dX8_isBusy_43 : decode cX8_isBusy 43 = .ok (.ifCond .eq 17, 3) := by decide +kernel
theorem dX8_isBusy_46 : decode cX8_isBusy 46 = .ok (.aload_n 0, 1) := by decide +kernel
theorem dX8_isBusy_47 : decode cX8_isBusy 47 = .ok (.iload 4, 2) := by decide +kernel
theorem dX8_isBusy_49 : decode cX8_isBusy 49 = .ok (.iload_n 2, 1) := by decide +kernel
theorem dX8_isBusy_50 : decode cX8_isBusy 50 = .ok (.invokevirtual 58, 3) := by decide +kernel
theorem dX8_isBusy_53 : decode cX8_isBusy 53 = .ok (.ifCond .eq 7, 3) := by decide +kernel
theorem dX8_isBusy_56 : decode cX8_isBusy 56 = .ok (.iconst 1, 1) := by decide +kernel
theorem dX8_isBusy_57 : decode cX8_isBusy 57 = .ok (.goto 4, 3) := by decide +kernel
theorem dX8_isBusy_60 : decode cX8_isBusy 60 = .ok (.iconst 0, 1) := by decide +kernel
theorem dX8_isBusy_61 : decode cX8_isBusy 61 = .ok (.istore_n 3, 1) := by decide +kernel
theorem dX8_isBusy_62 : decode cX8_isBusy 62 = .ok (.iinc 4 1, 3) := by decide +kernel
theorem dX8_isBusy_65 : decode cX8_isBusy 65 = .ok (.goto (-60), 3) := by decide +kernel
theorem dX8_isBusy_68 : decode cX8_isBusy 68 = .ok (.iload_n 3, 1) := by decide +kernel
theorem dX8_isBusy_69 : decode cX8_isBusy 69 = .ok (.ireturn, 1) := by decide +kernel
theorem dX8_earns_0 : decode cX8_earns 0 = .ok (.aload_n 0, 1) := by decide +kernel
theorem dX8_earns_1 : decode cX8_earns 1 = .ok (.getfield 7, 3) := by decide +kernel
theorem dX8_earns_4 : decode cX8_earns 4 = .ok (.bipush 33, 2) := by decide +kernel
theorem dX8_earns_6 : decode cX8_earns 6 = .ok (.iload_n 1, 1) := by decide +kernel
theorem dX8_earns_7 : decode cX8_earns 7 = .ok (.iadd, 1) := by decide +kernel
theorem dX8_earns_8 : decode cX8_earns 8 = .ok (.iaload, 1) := by decide +kernel
theorem dX8_earns_9 : decode cX8_earns 9 = .ok (.aload_n 0, 1) := by decide +kernel
theorem dX8_earns_10 : decode cX8_earns 10 = .ok (.iload_n 2, 1) := by decide +kernel
theorem dX8_earns_11 : decode cX8_earns 11 = .ok (.iconst 3, 1) := by decide +kernel
theorem dX8_earns_12 : decode cX8_earns 12 = .ok (.invokevirtual 42, 3) := by decide +kernel
theorem dX8_earns_15 : decode cX8_earns 15 = .ok (.imul, 1) := by decide +kernel
theorem dX8_earns_16 : decode cX8_earns 16 = .ok (.bipush 9, 2) := by decide +kernel
theorem dX8_earns_18 : decode cX8_earns 18 = .ok (.iadd, 1) := by decide +kernel
theorem dX8_earns_19 : decode cX8_earns 19 = .ok (.bipush 10, 2) := by decide +kernel
theorem dX8_earns_21 : decode cX8_earns 21 = .ok (.idiv, 1) := by decide +kernel
theorem dX8_earns_22 : decode cX8_earns 22 = .ok (.istore 4, 2) := by decide +kernel
theorem dX8_earns_24 : decode cX8_earns 24 = .ok (.iload_n 3, 1) := by decide +kernel
theorem dX8_earns_25 : decode cX8_earns 25 = .ok (.iconst 1, 1) := by decide +kernel
theorem dX8_earns_26 : decode cX8_earns 26 = .ok (.if_icmp .le 22, 3) := by decide +kernel
theorem dX8_earns_29 : decode cX8_earns 29 = .ok (.iload 4, 2) := by decide +kernel
theorem dX8_earns_31 : decode cX8_earns 31 = .ok (.bipush 100, 2) := by decide +kernel
theorem dX8_earns_33 : decode cX8_earns 33 = .ok (.aload_n 0, 1) := by decide +kernel
theorem dX8_earns_34 : decode cX8_earns 34 = .ok (.getfield 7, 3) := by decide +kernel
theorem dX8_earns_37 : decode cX8_earns 37 = .ok (.bipush 6, 2) := by decide +kernel
theorem dX8_earns_39 : decode cX8_earns 39 = .ok (.iaload, 1) := by decide +kernel
theorem dX8_earns_40 : decode cX8_earns 40 = .ok (.iadd, 1) := by decide +kernel
theorem dX8_earns_41 : decode cX8_earns 41 = .ok (.imul, 1) := by decide +kernel
theorem dX8_earns_42 : decode cX8_earns 42 = .ok (.bipush 100, 2) := by decide +kernel
theorem dX8_earns_44 : decode cX8_earns 44 = .ok (.idiv, 1) := by decide +kernel
theorem dX8_earns_45 : decode cX8_earns 45 = .ok (.goto 5, 3) := by decide +kernel
theorem dX8_earns_48 : decode cX8_earns 48 = .ok (.iload 4, 2) := by decide +kernel
theorem dX8_earns_50 : decode cX8_earns 50 = .ok (.ireturn, 1) := by decide +kernel
theorem dX8_payFor_0 : decode cX8_payFor 0 = .ok (.iconst 0, 1) := by decide +kernel
theorem dX8_payFor_1 : decode cX8_payFor 1 = .ok (.istore_n 3, 1) := by decide +kernel
theorem dX8_payFor_2 : decode cX8_payFor 2 = .ok (.aload_n 0, 1) := by decide +kernel
theorem dX8_payFor_3 : decode cX8_payFor 3 = .ok (.iload_n 1, 1) := by decide +kernel
theorem dX8_payFor_4 : decode cX8_payFor 4 = .ok (.iconst 5, 1) := by decide +kernel
theorem dX8_payFor_5 : decode cX8_payFor 5 = .ok (.invokevirtual 42, 3) := by decide +kernel
theorem dX8_payFor_8 : decode cX8_payFor 8 = .ok (.istore 4, 2) := by decide +kernel
theorem dX8_payFor_10 : decode cX8_payFor 10 = .ok (.iconst 0, 1) := by decide +kernel
theorem dX8_payFor_11 : decode cX8_payFor 11 = .ok (.istore 5, 2) := by decide +kernel
theorem dX8_payFor_13 : decode cX8_payFor 13 = .ok (.iload 5, 2) := by decide +kernel
theorem dX8_payFor_15 : decode cX8_payFor 15 = .ok (.iload 4, 2) := by decide +kernel
theorem dX8_payFor_17 : decode cX8_payFor 17 = .ok (.if_icmp .ge 33, 3) := by decide +kernel
theorem dX8_payFor_20 : decode cX8_payFor 20 = .ok (.iload_n 3, 1) := by decide +kernel
theorem dX8_payFor_21 : decode cX8_payFor 21 = .ok (.aload_n 0, 1) := by decide +kernel
theorem dX8_payFor_22 : decode cX8_payFor 22 = .ok (.aload_n 0, 1) := by decide +kernel
theorem dX8_payFor_23 : decode cX8_payFor 23 = .ok (.iload_n 1, 1) := by decide +kernel
theorem dX8_payFor_24 : decode cX8_payFor 24 = .ok (.bipush 6, 2) := by decide +kernel
theorem dX8_payFor_26 : decode cX8_payFor 26 = .ok (.iload 5, 2) := by decide +kernel
theorem dX8_payFor_28 : decode cX8_payFor 28 = .ok (.iadd, 1) := by decide +kernel
theorem dX8_payFor_29 : decode cX8_payFor 29 = .ok (.invokevirtual 42, 3) := by decide +kernel
theorem dX8_payFor_32 : decode cX8_payFor 32 = .ok (.iload_n 1, 1) := by decide +kernel
theorem dX8_payFor_33 : decode cX8_payFor 33 = .ok (.iload 4, 2) := by decide +kernel
theorem dX8_payFor_35 : decode cX8_payFor 35 = .ok (.invokevirtual 61, 3) := by decide +kernel
theorem dX8_payFor_38 : decode cX8_payFor 38 = .ok (.iload_n 2, 1) := by decide +kernel
theorem dX8_payFor_39 : decode cX8_payFor 39 = .ok (.imul, 1) := by decide +kernel
theorem dX8_payFor_40 : decode cX8_payFor 40 = .ok (.iconst 2, 1) := by decide +kernel
theorem dX8_payFor_41 : decode cX8_payFor 41 = .ok (.idiv, 1) := by decide +kernel
theorem dX8_payFor_42 : decode cX8_payFor 42 = .ok (.iadd, 1) := by decide +kernel
theorem dX8_payFor_43 : decode cX8_payFor 43 = .ok (.istore_n 3, 1) := by decide +kernel
theorem dX8_payFor_44 : decode cX8_payFor 44 = .ok (.iinc 5 1, 3) := by decide +kernel
theorem dX8_payFor_47 : decode cX8_payFor 47 = .ok (.goto (-34), 3) := by decide +kernel
theorem dX8_payFor_50 : decode cX8_payFor 50 = .ok (.iload_n 3, 1) := by decide +kernel
theorem dX8_payFor_51 : decode cX8_payFor 51 = .ok (.ireturn, 1) := by decide +kernel
theorem dX8_pay_0 : decode cX8_pay 0 = .ok (.aload_n 0, 1) := by decide +kernel
theorem dX8_pay_1 : decode cX8_pay 1 = .ok (.iload_n 1, 1) := by decide +kernel
theorem dX8_pay_2 : decode cX8_pay 2 = .ok (.iload_n 2, 1) := by decide +kernel
theorem dX8_pay_3 : decode cX8_pay 3 = .ok (.invokevirtual 65, 3) := by decide +kernel
theorem dX8_pay_6 : decode cX8_pay 6 = .ok (.istore_n 3, 1) := by decide +kernel
theorem dX8_pay_7 : decode cX8_pay 7 = .ok (.aload_n 0, 1) := by decide +kernel
theorem dX8_pay_8 : decode cX8_pay 8 = .ok (.iload_n 1, 1) := by decide +kernel
theorem dX8_pay_9 : decode cX8_pay 9 = .ok (.iconst 5, 1) := by decide +kernel
theorem dX8_pay_10 : decode cX8_pay 10 = .ok (.invokevirtual 42, 3) := by decide +kernel
theorem dX8_pay_13 : decode cX8_pay 13 = .ok (.istore 4, 2) := by decide +kernel
theorem dX8_pay_15 : decode cX8_pay 15 = .ok (.iconst 0, 1) := by decide +kernel
theorem dX8_pay_16 : decode cX8_pay 16 = .ok (.istore 5, 2) := by decide +kernel
theorem dX8_pay_18 : decode cX8_pay 18 = .ok (.iload 5, 2) := by decide +kernel
theorem dX8_pay_20 : decode cX8_pay 20 = .ok (.iload 4, 2) := by decide +kernel
theorem dX8_pay_22 : decode cX8_pay 22 = .ok (.if_icmp .ge 47, 3) := by decide +kernel
theorem dX8_pay_25 : decode cX8_pay 25 = .ok (.aload_n 0, 1) := by decide +kernel
theorem dX8_pay_26 : decode cX8_pay 26 = .ok (.iload_n 1, 1) := by decide +kernel
theorem dX8_pay_27 : decode cX8_pay 27 = .ok (.bipush 6, 2) := by decide +kernel
theorem dX8_pay_29 : decode cX8_pay 29 = .ok (.iload 5, 2) := by decide +kernel
theorem dX8_pay_31 : decode cX8_pay 31 = .ok (.iadd, 1) := by decide +kernel
theorem dX8_pay_32 : decode cX8_pay 32 = .ok (.invokevirtual 42, 3) := by decide +kernel
theorem dX8_pay_35 : decode cX8_pay 35 = .ok (.istore 6, 2) := by decide +kernel
theorem dX8_pay_37 : decode cX8_pay 37 = .ok (.aload_n 0, 1) := by decide +kernel
theorem dX8_pay_38 : decode cX8_pay 38 = .ok (.getfield 7, 3) := by decide +kernel
theorem dX8_pay_41 : decode cX8_pay 41 = .ok (.bipush 53, 2) := by decide +kernel
theorem dX8_pay_43 : decode cX8_pay 43 = .ok (.iload 6, 2) := by decide +kernel
theorem dX8_pay_45 : decode cX8_pay 45 = .ok (.iadd, 1) := by decide +kernel
theorem dX8_pay_46 : decode cX8_pay 46 = .ok (.dup2, 1) := by decide +kernel
theorem dX8_pay_47 : decode cX8_pay 47 = .ok (.iaload, 1) := by decide +kernel
theorem dX8_pay_48 : decode cX8_pay 48 = .ok (.aload_n 0, 1) := by decide +kernel
theorem dX8_pay_49 : decode cX8_pay 49 = .ok (.iload 6, 2) := by decide +kernel
theorem dX8_pay_51 : decode cX8_pay 51 = .ok (.iload_n 1, 1) := by decide +kernel
theorem dX8_pay_52 : decode cX8_pay 52 = .ok (.iload 4, 2) := by decide +kernel
theorem dX8_pay_54 : decode cX8_pay 54 = .ok (.invokevirtual 61, 3) := by decide +kernel
theorem dX8_pay_57 : decode cX8_pay 57 = .ok (.iload_n 2, 1) := by decide +kernel
theorem dX8_pay_58 : decode cX8_pay 58 = .ok (.imul, 1) := by decide +kernel
theorem dX8_pay_59 : decode cX8_pay 59 = .ok (.iconst 2, 1) := by decide +kernel
theorem dX8_pay_60 : decode cX8_pay 60 = .ok (.idiv, 1) := by decide +kernel
theorem dX8_pay_61 : decode cX8_pay 61 = .ok (.iadd, 1) := by decide +kernel
theorem dX8_pay_62 : decode cX8_pay 62 = .ok (.iastore, 1) := by decide +kernel
theorem dX8_pay_63 : decode cX8_pay 63 = .ok (.iinc 5 1, 3) := by decide +kernel
theorem dX8_pay_66 : decode cX8_pay 66 = .ok (.goto (-48), 3) := by decide +kernel
theorem dX8_pay_69 : decode cX8_pay 69 = .ok (.aload_n 0, 1) := by decide +kernel
theorem dX8_pay_70 : decode cX8_pay 70 = .ok (.getfield 7, 3) := by decide +kernel
theorem dX8_pay_73 : decode cX8_pay 73 = .ok (.bipush 73, 2) := by decide +kernel
theorem dX8_pay_75 : decode cX8_pay 75 = .ok (.bipush 10, 2) := by decide +kernel
theorem dX8_pay_77 : decode cX8_pay 77 = .ok (.iload_n 1, 1) := by decide +kernel
theorem dX8_pay_78 : decode cX8_pay 78 = .ok (.imul, 1) := by decide +kernel
theorem dX8_pay_79 : decode cX8_pay 79 = .ok (.iadd, 1) := by decide +kernel
theorem dX8_pay_80 : decode cX8_pay 80 = .ok (.bipush 9, 2) := by decide +kernel
theorem dX8_pay_82 : decode cX8_pay 82 = .ok (.iadd, 1) := by decide +kernel
theorem dX8_pay_83 : decode cX8_pay 83 = .ok (.dup2, 1) := by decide +kernel
theorem dX8_pay_84 : decode cX8_pay 84 = .ok (.iaload, 1) := by decide +kernel
theorem dX8_pay_85 : decode cX8_pay 85 = .ok (.iload_n 3, 1) := by decide +kernel
theorem dX8_pay_86 : decode cX8_pay 86 = .ok (.iadd, 1) := by decide +kernel
theorem dX8_pay_87 : decode cX8_pay 87 = .ok (.iastore, 1) := by decide +kernel
theorem dX8_pay_88 : decode cX8_pay 88 = .ok (.aload_n 0, 1) := by decide +kernel
theorem dX8_pay_89 : decode cX8_pay 89 = .ok (.getfield 7, 3) := by decide +kernel
theorem dX8_pay_92 : decode cX8_pay 92 = .ok (.bipush 10, 2) := by decide +kernel
theorem dX8_pay_94 : decode cX8_pay 94 = .ok (.dup2, 1) := by decide +kernel
theorem dX8_pay_95 : decode cX8_pay 95 = .ok (.iaload, 1) := by decide +kernel
theorem dX8_pay_96 : decode cX8_pay 96 = .ok (.iload_n 3, 1) := by decide +kernel
theorem dX8_pay_97 : decode cX8_pay 97 = .ok (.iadd, 1) := by decide +kernel
theorem dX8_pay_98 : decode cX8_pay 98 = .ok (.iastore, 1) := by decide +kernel
theorem dX8_pay_99 : decode cX8_pay 99 = .ok (.iload_n 3, 1) := by decide +kernel
theorem dX8_pay_100 : decode cX8_pay 100 = .ok (.ireturn, 1) := by decide +kernel
theorem dX8_halvesBy_0 : decode cX8_halvesBy 0 = .ok (.iload_n 1, 1) := by decide +kernel
theorem dX8_halvesBy_1 : decode cX8_halvesBy 1 = .ok (.aload_n 0, 1) := by decide +kernel
theorem dX8_halvesBy_2 : decode cX8_halvesBy 2 = .ok (.getfield 7, 3) := by decide +kernel
theorem dX8_halvesBy_5 : decode cX8_halvesBy 5 = .ok (.iconst 4, 1) := by decide +kernel
theorem dX8_halvesBy_6 : decode cX8_halvesBy 6 = .ok (.iaload, 1) := by decide +kernel
theorem dX8_halvesBy_7 : decode cX8_halvesBy 7 = .ok (.if_icmp .ge 7, 3) := by decide +kernel
theorem dX8_halvesBy_10 : decode cX8_halvesBy 10 = .ok (.iconst 2, 1) := by decide +kernel
theorem dX8_halvesBy_11 : decode cX8_halvesBy 11 = .ok (.goto 18, 3) := by decide +kernel
theorem dX8_halvesBy_14 : decode cX8_halvesBy 14 = .ok (.iload_n 1, 1) := by decide +kernel
theorem dX8_halvesBy_15 : decode cX8_halvesBy 15 = .ok (.aload_n 0, 1) := by decide +kernel
theorem dX8_halvesBy_16 : decode cX8_halvesBy 16 = .ok (.getfield 7, 3) := by decide +kernel
theorem dX8_halvesBy_19 : decode cX8_halvesBy 19 = .ok (.iconst 5, 1) := by decide +kernel
theorem dX8_halvesBy_20 : decode cX8_halvesBy 20 = .ok (.iaload, 1) := by decide +kernel
theorem dX8_halvesBy_21 : decode cX8_halvesBy 21 = .ok (.if_icmp .ge 7, 3) := by decide +kernel
theorem dX8_halvesBy_24 : decode cX8_halvesBy 24 = .ok (.iconst 1, 1) := by decide +kernel
theorem dX8_halvesBy_25 : decode cX8_halvesBy 25 = .ok (.goto 4, 3) := by decide +kernel
theorem dX8_halvesBy_28 : decode cX8_halvesBy 28 = .ok (.iconst 0, 1) := by decide +kernel
theorem dX8_halvesBy_29 : decode cX8_halvesBy 29 = .ok (.ireturn, 1) := by decide +kernel
theorem dX8_ones_0 : decode cX8_ones 0 = .ok (.iconst 0, 1) := by decide +kernel
theorem dX8_ones_1 : decode cX8_ones 1 = .ok (.istore_n 1, 1) := by decide +kernel
theorem dX8_ones_2 : decode cX8_ones 2 = .ok (.iconst 0, 1) := by decide +kernel
theorem dX8_ones_3 : decode cX8_ones 3 = .ok (.istore_n 2, 1) := by decide +kernel
theorem dX8_ones_4 : decode cX8_ones 4 = .ok (.iload_n 2, 1) := by decide +kernel
theorem dX8_ones_5 : decode cX8_ones 5 = .ok (.bipush 10, 2) := by decide +kernel
theorem dX8_ones_7 : decode cX8_ones 7 = .ok (.if_icmp .ge 17, 3) := by decide +kernel
theorem dX8_ones_10 : decode cX8_ones 10 = .ok (.iload_n 1, 1) := by decide +kernel
theorem dX8_ones_11 : decode cX8_ones 11 = .ok (.iload_n 0, 1) := by decide +kernel
theorem dX8_ones_12 : decode cX8_ones 12 = .ok (.iload_n 2, 1) := by decide +kernel
theorem dX8_ones_13 : decode cX8_ones 13 = .ok (.ishr, 1) := by decide +kernel
theorem dX8_ones_14 : decode cX8_ones 14 = .ok (.iconst 1, 1) := by decide +kernel
theorem dX8_ones_15 : decode cX8_ones 15 = .ok (.iand, 1) := by decide +kernel
theorem dX8_ones_16 : decode cX8_ones 16 = .ok (.iadd, 1) := by decide +kernel
theorem dX8_ones_17 : decode cX8_ones 17 = .ok (.istore_n 1, 1) := by decide +kernel
theorem dX8_ones_18 : decode cX8_ones 18 = .ok (.iinc 2 1, 3) := by decide +kernel
theorem dX8_ones_21 : decode cX8_ones 21 = .ok (.goto (-17), 3) := by decide +kernel
theorem dX8_ones_24 : decode cX8_ones 24 = .ok (.iload_n 1, 1) := by decide +kernel
theorem dX8_ones_25 : decode cX8_ones 25 = .ok (.ireturn, 1) := by decide +kernel
theorem dX8_addInterpreter_0 : decode cX8_addInterpreter 0 = .ok (.iload_n 1, 1) := by decide +kernel
theorem dX8_addInterpreter_1 : decode cX8_addInterpreter 1 = .ok (.iconst 1, 1) := by decide +kernel
theorem dX8_addInterpreter_2 : decode cX8_addInterpreter 2 = .ok (.sipush 1023, 3) := by decide +kernel
theorem dX8_addInterpreter_5 : decode cX8_addInterpreter 5 = .ok (.invokestatic 38, 3) := by decide +kernel
theorem dX8_addInterpreter_8 : decode cX8_addInterpreter 8 = .ok (.ifCond .eq 35, 3) := by decide +kernel
theorem dX8_addInterpreter_11 : decode cX8_addInterpreter 11 = .ok (.iload_n 1, 1) := by decide +kernel
theorem dX8_addInterpreter_12 : decode cX8_addInterpreter 12 = .ok (.invokestatic 68, 3) := by decide +kernel
theorem dX8_addInterpreter_15 : decode cX8_addInterpreter 15 = .ok (.iconst 1, 1) := by decide +kernel
theorem dX8_addInterpreter_16 : decode cX8_addInterpreter 16 = .ok (.if_icmp .le 27, 3) := by decide +kernel
theorem dX8_addInterpreter_19 : decode cX8_addInterpreter 19 = .ok (.iload_n 2, 1) := by decide +kernel
theorem dX8_addInterpreter_20 : decode cX8_addInterpreter 20 = .ok (.iconst 0, 1) := by decide +kernel
theorem dX8_addInterpreter_21 : decode cX8_addInterpreter 21 = .ok (.bipush 7, 2) := by decide +kernel
theorem dX8_addInterpreter_23 : decode cX8_addInterpreter 23 = .ok (.invokestatic 38, 3) := by decide +kernel
theorem dX8_addInterpreter_26 : decode cX8_addInterpreter 26 = .ok (.ifCond .eq 17, 3) := by decide +kernel
theorem dX8_addInterpreter_29 : decode cX8_addInterpreter 29 = .ok (.iload_n 3, 1) := by decide +kernel
theorem dX8_addInterpreter_30 : decode cX8_addInterpreter 30 = .ok (.iconst 1, 1) := by decide +kernel
theorem dX8_addInterpreter_31 : decode cX8_addInterpreter 31 = .ok (.bipush 100, 2) := by decide +kernel
theorem dX8_addInterpreter_33 : decode cX8_addInterpreter 33 = .ok (.invokestatic 38, 3) := by decide +kernel
theorem dX8_addInterpreter_36 : decode cX8_addInterpreter 36 = .ok (.ifCond .eq 7, 3) := by decide +kernel
theorem dX8_addInterpreter_39 : decode cX8_addInterpreter 39 = .ok (.iconst 1, 1) := by decide +kernel
theorem dX8_addInterpreter_40 : decode cX8_addInterpreter 40 = .ok (.goto 4, 3) := by decide +kernel
theorem dX8_addInterpreter_43 : decode cX8_addInterpreter 43 = .ok (.iconst 0, 1) := by decide +kernel
theorem dX8_addInterpreter_44 : decode cX8_addInterpreter 44 = .ok (.istore 4, 2) := by decide +kernel
theorem dX8_addInterpreter_46 : decode cX8_addInterpreter 46 = .ok (.aload_n 0, 1) := by decide +kernel
theorem dX8_addInterpreter_47 : decode cX8_addInterpreter 47 = .ok (.iload 4, 2) := by decide +kernel
theorem dX8_addInterpreter_49 : decode cX8_addInterpreter 49 = .ok (.ifCond .ne 7, 3) := by decide +kernel
theorem dX8_addInterpreter_52 : decode cX8_addInterpreter 52 = .ok (.iconst 1, 1) := by decide +kernel
theorem dX8_addInterpreter_53 : decode cX8_addInterpreter 53 = .ok (.goto 20, 3) := by decide +kernel
theorem dX8_addInterpreter_56 : decode cX8_addInterpreter 56 = .ok (.aload_n 0, 1) := by decide +kernel
theorem dX8_addInterpreter_57 : decode cX8_addInterpreter 57 = .ok (.getfield 7, 3) := by decide +kernel
theorem dX8_addInterpreter_60 : decode cX8_addInterpreter 60 = .ok (.bipush 7, 2) := by decide +kernel
theorem dX8_addInterpreter_62 : decode cX8_addInterpreter 62 = .ok (.iaload, 1) := by decide +kernel
theorem dX8_addInterpreter_63 : decode cX8_addInterpreter 63 = .ok (.bipush 10, 2) := by decide +kernel
theorem dX8_addInterpreter_65 : decode cX8_addInterpreter 65 = .ok (.if_icmp .ne 7, 3) := by decide +kernel
theorem dX8_addInterpreter_68 : decode cX8_addInterpreter 68 = .ok (.iconst 2, 1) := by decide +kernel
theorem dX8_addInterpreter_69 : decode cX8_addInterpreter 69 = .ok (.goto 4, 3) := by decide +kernel
theorem dX8_addInterpreter_72 : decode cX8_addInterpreter 72 = .ok (.iconst 0, 1) := by decide +kernel
theorem dX8_addInterpreter_73 : decode cX8_addInterpreter 73 = .ok (.putfield 31, 3) := by decide +kernel
theorem dX8_addInterpreter_76 : decode cX8_addInterpreter 76 = .ok (.aload_n 0, 1) := by decide +kernel
theorem dX8_addInterpreter_77 : decode cX8_addInterpreter 77 = .ok (.getfield 31, 3) := by decide +kernel
theorem dX8_addInterpreter_80 : decode cX8_addInterpreter 80 = .ok (.ifCond .le 5, 3) := by decide +kernel
theorem dX8_addInterpreter_83 : decode cX8_addInterpreter 83 = .ok (.iconst 0, 1) := by decide +kernel
theorem dX8_addInterpreter_84 : decode cX8_addInterpreter 84 = .ok (.ireturn, 1) := by decide +kernel
theorem dX8_addInterpreter_85 : decode cX8_addInterpreter 85 = .ok (.aload_n 0, 1) := by decide +kernel
theorem dX8_addInterpreter_86 : decode cX8_addInterpreter 86 = .ok (.invokevirtual 71, 3) := by decide +kernel
theorem dX8_addInterpreter_89 : decode cX8_addInterpreter 89 = .ok (.aload_n 0, 1) := by decide +kernel
theorem dX8_addInterpreter_90 : decode cX8_addInterpreter 90 = .ok (.getfield 7, 3) := by decide +kernel
theorem dX8_addInterpreter_93 : decode cX8_addInterpreter 93 = .ok (.bipush 7, 2) := by decide +kernel
theorem dX8_addInterpreter_95 : decode cX8_addInterpreter 95 = .ok (.iaload, 1) := by decide +kernel
theorem dX8_addInterpreter_96 : decode cX8_addInterpreter 96 = .ok (.istore 5, 2) := by decide +kernel
theorem dX8_addInterpreter_98 : decode cX8_addInterpreter 98 = .ok (.aload_n 0, 1) := by decide +kernel
theorem dX8_addInterpreter_99 : decode cX8_addInterpreter 99 = .ok (.getfield 7, 3) := by decide +kernel
theorem dX8_addInterpreter_102 : decode cX8_addInterpreter 102 = .ok (.bipush 7, 2) := by decide +kernel
theorem dX8_addInterpreter_104 : decode cX8_addInterpreter 104 = .ok (.dup2, 1) := by decide +kernel
theorem dX8_addInterpreter_105 : decode cX8_addInterpreter 105 = .ok (.iaload, 1) := by decide +kernel
theorem dX8_addInterpreter_106 : decode cX8_addInterpreter 106 = .ok (.iconst 1, 1) := by decide +kernel
theorem dX8_addInterpreter_107 : decode cX8_addInterpreter 107 = .ok (.iadd, 1) := by decide +kernel
theorem dX8_addInterpreter_108 : decode cX8_addInterpreter 108 = .ok (.iastore, 1) := by decide +kernel
theorem dX8_addInterpreter_109 : decode cX8_addInterpreter 109 = .ok (.aload_n 0, 1) := by decide +kernel
theorem dX8_addInterpreter_110 : decode cX8_addInterpreter 110 = .ok (.getfield 7, 3) := by decide +kernel
theorem dX8_addInterpreter_113 : decode cX8_addInterpreter 113 = .ok (.bipush 13, 2) := by decide +kernel
theorem dX8_addInterpreter_115 : decode cX8_addInterpreter 115 = .ok (.iload 5, 2) := by decide +kernel
theorem dX8_addInterpreter_117 : decode cX8_addInterpreter 117 = .ok (.iadd, 1) := by decide +kernel
theorem dX8_addInterpreter_118 : decode cX8_addInterpreter 118 = .ok (.iload_n 1, 1) := by decide +kernel
theorem dX8_addInterpreter_119 : decode cX8_addInterpreter 119 = .ok (.iastore, 1) := by decide +kernel
theorem dX8_addInterpreter_120 : decode cX8_addInterpreter 120 = .ok (.aload_n 0, 1) := by decide +kernel
theorem dX8_addInterpreter_121 : decode cX8_addInterpreter 121 = .ok (.getfield 7, 3) := by decide +kernel
theorem dX8_addInterpreter_124 : decode cX8_addInterpreter 124 = .ok (.bipush 23, 2) := by decide +kernel
theorem dX8_addInterpreter_126 : decode cX8_addInterpreter 126 = .ok (.iload 5, 2) := by decide +kernel
theorem dX8_addInterpreter_128 : decode cX8_addInterpreter 128 = .ok (.iadd, 1) := by decide +kernel
theorem dX8_addInterpreter_129 : decode cX8_addInterpreter 129 = .ok (.iload_n 2, 1) := by decide +kernel
theorem dX8_addInterpreter_130 : decode cX8_addInterpreter 130 = .ok (.iastore, 1) := by decide +kernel
theorem dX8_addInterpreter_131 : decode cX8_addInterpreter 131 = .ok (.aload_n 0, 1) := by decide +kernel
theorem dX8_addInterpreter_132 : decode cX8_addInterpreter 132 = .ok (.getfield 7, 3) := by decide +kernel
theorem dX8_addInterpreter_135 : decode cX8_addInterpreter 135 = .ok (.bipush 33, 2) := by decide +kernel
theorem dX8_addInterpreter_137 : decode cX8_addInterpreter 137 = .ok (.iload 5, 2) := by decide +kernel
theorem dX8_addInterpreter_139 : decode cX8_addInterpreter 139 = .ok (.iadd, 1) := by decide +kernel
theorem dX8_addInterpreter_140 : decode cX8_addInterpreter 140 = .ok (.iload_n 3, 1) := by decide +kernel
theorem dX8_addInterpreter_141 : decode cX8_addInterpreter 141 = .ok (.iastore, 1) := by decide +kernel
theorem dX8_addInterpreter_142 : decode cX8_addInterpreter 142 = .ok (.aload_n 0, 1) := by decide +kernel
theorem dX8_addInterpreter_143 : decode cX8_addInterpreter 143 = .ok (.getfield 7, 3) := by decide +kernel
theorem dX8_addInterpreter_146 : decode cX8_addInterpreter 146 = .ok (.bipush 43, 2) := by decide +kernel
theorem dX8_addInterpreter_148 : decode cX8_addInterpreter 148 = .ok (.iload 5, 2) := by decide +kernel
theorem dX8_addInterpreter_150 : decode cX8_addInterpreter 150 = .ok (.iadd, 1) := by decide +kernel
theorem dX8_addInterpreter_151 : decode cX8_addInterpreter 151 = .ok (.iconst 0, 1) := by decide +kernel
theorem dX8_addInterpreter_152 : decode cX8_addInterpreter 152 = .ok (.iastore, 1) := by decide +kernel
theorem dX8_addInterpreter_153 : decode cX8_addInterpreter 153 = .ok (.aload_n 0, 1) := by decide +kernel
theorem dX8_addInterpreter_154 : decode cX8_addInterpreter 154 = .ok (.getfield 7, 3) := by decide +kernel
theorem dX8_addInterpreter_157 : decode cX8_addInterpreter 157 = .ok (.bipush 53, 2) := by decide +kernel
theorem dX8_addInterpreter_159 : decode cX8_addInterpreter 159 = .ok (.iload 5, 2) := by decide +kernel
theorem dX8_addInterpreter_161 : decode cX8_addInterpreter 161 = .ok (.iadd, 1) := by decide +kernel
theorem dX8_addInterpreter_162 : decode cX8_addInterpreter 162 = .ok (.iconst 0, 1) := by decide +kernel
theorem dX8_addInterpreter_163 : decode cX8_addInterpreter 163 = .ok (.iastore, 1) := by decide +kernel
theorem dX8_addInterpreter_164 : decode cX8_addInterpreter 164 = .ok (.aload_n 0, 1) := by decide +kernel
theorem dX8_addInterpreter_165 : decode cX8_addInterpreter 165 = .ok (.getfield 7, 3) := by decide +kernel
theorem dX8_addInterpreter_168 : decode cX8_addInterpreter 168 = .ok (.bipush 63, 2) := by decide +kernel
theorem dX8_addInterpreter_170 : decode cX8_addInterpreter 170 = .ok (.iload 5, 2) := by decide +kernel
theorem dX8_addInterpreter_172 : decode cX8_addInterpreter 172 = .ok (.iadd, 1) := by decide +kernel
theorem dX8_addInterpreter_173 : decode cX8_addInterpreter 173 = .ok (.iconst 0, 1) := by decide +kernel
theorem dX8_addInterpreter_174 : decode cX8_addInterpreter 174 = .ok (.iastore, 1) := by decide +kernel
theorem dX8_addInterpreter_175 : decode cX8_addInterpreter 175 = .ok (.iload 5, 2) := by decide +kernel
theorem dX8_addInterpreter_177 : decode cX8_addInterpreter 177 = .ok (.ireturn, 1) := by decide +kernel
theorem dX8_putHearing_0 : decode cX8_putHearing 0 = .ok (.aload_n 0, 1) := by decide +kernel
theorem dX8_putHearing_1 : decode cX8_putHearing 1 = .ok (.getfield 7, 3) := by decide +kernel
theorem dX8_putHearing_4 : decode cX8_putHearing 4 = .ok (.bipush 8, 2) := by decide +kernel
theorem dX8_putHearing_6 : decode cX8_putHearing 6 = .ok (.iaload, 1) := by decide +kernel
theorem dX8_putHearing_7 : decode cX8_putHearing 7 = .ok (.istore 5, 2) := by decide +kernel
theorem dX8_putHearing_9 : decode cX8_putHearing 9 = .ok (.aload_n 0, 1) := by decide +kernel
theorem dX8_putHearing_10 : decode cX8_putHearing 10 = .ok (.getfield 7, 3) := by decide +kernel
theorem dX8_putHearing_13 : decode cX8_putHearing 13 = .ok (.bipush 8, 2) := by decide +kernel
theorem dX8_putHearing_15 : decode cX8_putHearing 15 = .ok (.dup2, 1) := by decide +kernel
theorem dX8_putHearing_16 : decode cX8_putHearing 16 = .ok (.iaload, 1) := by decide +kernel
theorem dX8_putHearing_17 : decode cX8_putHearing 17 = .ok (.iconst 1, 1) := by decide +kernel
theorem dX8_putHearing_18 : decode cX8_putHearing 18 = .ok (.iadd, 1) := by decide +kernel
theorem dX8_putHearing_19 : decode cX8_putHearing 19 = .ok (.iastore, 1) := by decide +kernel
theorem dX8_putHearing_20 : decode cX8_putHearing 20 = .ok (.iconst 0, 1) := by decide +kernel
theorem dX8_putHearing_21 : decode cX8_putHearing 21 = .ok (.istore 6, 2) := by decide +kernel
theorem dX8_putHearing_23 : decode cX8_putHearing 23 = .ok (.iload 6, 2) := by decide +kernel
theorem dX8_putHearing_25 : decode cX8_putHearing 25 = .ok (.bipush 10, 2) := by decide +kernel
theorem dX8_putHearing_27 : decode cX8_putHearing 27 = .ok (.if_icmp .ge 34, 3) := by decide +kernel
theorem dX8_putHearing_30 : decode cX8_putHearing 30 = .ok (.aload_n 0, 1) := by decide +kernel
theorem dX8_putHearing_31 : decode cX8_putHearing 31 = .ok (.iload 5, 2) := by decide +kernel
theorem dX8_putHearing_33 : decode cX8_putHearing 33 = .ok (.iload 6, 2) := by decide +kernel
theorem dX8_putHearing_35 : decode cX8_putHearing 35 = .ok (.iload 6, 2) := by decide +kernel
theorem dX8_putHearing_37 : decode cX8_putHearing 37 = .ok (.bipush 6, 2) := by decide +kernel
theorem dX8_putHearing_39 : decode cX8_putHearing 39 = .ok (.bipush 8, 2) := by decide +kernel
theorem dX8_putHearing_41 : decode cX8_putHearing 41 = .ok (.invokestatic 38, 3) := by decide +kernel
theorem dX8_putHearing_44 : decode cX8_putHearing 44 = .ok (.ifCond .eq 7, 3) := by decide +kernel
theorem dX8_putHearing_47 : decode cX8_putHearing 47 = .ok (.iconst (-1), 1) := by decide +kernel
theorem dX8_putHearing_48 : decode cX8_putHearing 48 = .ok (.goto 4, 3) := by decide +kernel
theorem dX8_putHearing_51 : decode cX8_putHearing 51 = .ok (.iconst 0, 1) := by decide +kernel
theorem dX8_putHearing_52 : decode cX8_putHearing 52 = .ok (.invokevirtual 74, 3) := by decide +kernel
theorem dX8_putHearing_55 : decode cX8_putHearing 55 = .ok (.iinc 6 1, 3) := by decide +kernel
theorem dX8_putHearing_58 : decode cX8_putHearing 58 = .ok (.goto (-35), 3) := by decide +kernel
theorem dX8_putHearing_61 : decode cX8_putHearing 61 = .ok (.aload_n 0, 1) := by decide +kernel
theorem dX8_putHearing_62 : decode cX8_putHearing 62 = .ok (.iload 5, 2) := by decide +kernel
theorem dX8_putHearing_64 : decode cX8_putHearing 64 = .ok (.iconst 0, 1) := by decide +kernel
theorem dX8_putHearing_65 : decode cX8_putHearing 65 = .ok (.iload_n 1, 1) := by decide +kernel
theorem dX8_putHearing_66 : decode cX8_putHearing 66 = .ok (.invokevirtual 74, 3) := by decide +kernel
theorem dX8_putHearing_69 : decode cX8_putHearing 69 = .ok (.aload_n 0, 1) := by decide +kernel
theorem dX8_putHearing_70 : decode cX8_putHearing 70 = .ok (.iload 5, 2) := by decide +kernel
theorem dX8_putHearing_72 : decode cX8_putHearing 72 = .ok (.iconst 1, 1) := by decide +kernel
theorem dX8_putHearing_73 : decode cX8_putHearing 73 = .ok (.iload_n 2, 1) := by decide +kernel
theorem dX8_putHearing_74 : decode cX8_putHearing 74 = .ok (.invokevirtual 74, 3) := by decide +kernel
theorem dX8_putHearing_77 : decode cX8_putHearing 77 = .ok (.aload_n 0, 1) := by decide +kernel
theorem dX8_putHearing_78 : decode cX8_putHearing 78 = .ok (.iload 5, 2) := by decide +kernel
theorem dX8_putHearing_80 : decode cX8_putHearing 80 = .ok (.iconst 2, 1) := by decide +kernel
theorem dX8_putHearing_81 : decode cX8_putHearing 81 = .ok (.aload_n 0, 1) := by decide +kernel
theorem dX8_putHearing_82 : decode cX8_putHearing 82 = .ok (.getfield 7, 3) := by decide +kernel
theorem dX8_putHearing_85 : decode cX8_putHearing 85 = .ok (.bipush 9, 2) := by decide +kernel
theorem dX8_putHearing_87 : decode cX8_putHearing 87 = .ok (.iaload, 1) := by decide +kernel
theorem dX8_putHearing_88 : decode cX8_putHearing 88 = .ok (.iload_n 3, 1) := by decide +kernel
theorem dX8_putHearing_89 : decode cX8_putHearing 89 = .ok (.iadd, 1) := by decide +kernel
theorem dX8_putHearing_90 : decode cX8_putHearing 90 = .ok (.invokevirtual 74, 3) := by decide +kernel
theorem dX8_putHearing_93 : decode cX8_putHearing 93 = .ok (.aload_n 0, 1) := by decide +kernel
theorem dX8_putHearing_94 : decode cX8_putHearing 94 = .ok (.iload 5, 2) := by decide +kernel
theorem dX8_putHearing_96 : decode cX8_putHearing 96 = .ok (.iconst 3, 1) := by decide +kernel
theorem dX8_putHearing_97 : decode cX8_putHearing 97 = .ok (.iload 4, 2) := by decide +kernel
theorem dX8_putHearing_99 : decode cX8_putHearing 99 = .ok (.invokevirtual 74, 3) := by decide +kernel
theorem dX8_putHearing_102 : decode cX8_putHearing 102 = .ok (.iload 5, 2) := by decide +kernel
theorem dX8_putHearing_104 : decode cX8_putHearing 104 = .ok (.ireturn, 1) := by decide +kernel
theorem dX8_addHearing_0 : decode cX8_addHearing 0 = .ok (.iload_n 1, 1) := by decide +kernel
theorem dX8_addHearing_1 : decode cX8_addHearing 1 = .ok (.iconst 0, 1) := by decide +kernel
theorem dX8_addHearing_2 : decode cX8_addHearing 2 = .ok (.iconst 2, 1) := by decide +kernel
theorem dX8_addHearing_3 : decode cX8_addHearing 3 = .ok (.invokestatic 38, 3) := by decide +kernel
theorem dX8_addHearing_6 : decode cX8_addHearing 6 = .ok (.ifCond .eq 41, 3) := by decide +kernel
theorem dX8_addHearing_9 : decode cX8_addHearing 9 = .ok (.iload_n 2, 1) := by decide +kernel
theorem dX8_addHearing_10 : decode cX8_addHearing 10 = .ok (.iconst 1, 1) := by decide +kernel
theorem dX8_addHearing_11 : decode cX8_addHearing 11 = .ok (.bipush 9, 2) := by decide +kernel
theorem dX8_addHearing_13 : decode cX8_addHearing 13 = .ok (.invokestatic 38, 3) := by decide +kernel
theorem dX8_addHearing_16 : decode cX8_addHearing 16 = .ok (.ifCond .eq 31, 3) := by decide +kernel
theorem dX8_addHearing_19 : decode cX8_addHearing 19 = .ok (.iload_n 3, 1) := by decide +kernel
theorem dX8_addHearing_20 : decode cX8_addHearing 20 = .ok (.iconst 1, 1) := by decide +kernel
theorem dX8_addHearing_21 : decode cX8_addHearing 21 = .ok (.sipush 2000, 3) := by decide +kernel
theorem dX8_addHearing_24 : decode cX8_addHearing 24 = .ok (.invokestatic 38, 3) := by decide +kernel
theorem dX8_addHearing_27 : decode cX8_addHearing 27 = .ok (.ifCond .eq 20, 3) := by decide +kernel
theorem dX8_addHearing_30 : decode cX8_addHearing 30 = .ok (.iload 4, 2) := by decide +kernel
theorem dX8_addHearing_32 : decode cX8_addHearing 32 = .ok (.bipush 10, 2) := by decide +kernel
theorem dX8_addHearing_34 : decode cX8_addHearing 34 = .ok (.sipush 240, 3) := by decide +kernel
theorem dX8_addHearing_37 : decode cX8_addHearing 37 = .ok (.invokestatic 38, 3) := by decide +kernel
theorem dX8_addHearing_40 : decode cX8_addHearing 40 = .ok (.ifCond .eq 7, 3) := by decide +kernel
theorem dX8_addHearing_43 : decode cX8_addHearing 43 = .ok (.iconst 1, 1) := by decide +kernel
theorem dX8_addHearing_44 : decode cX8_addHearing 44 = .ok (.goto 4, 3) := by decide +kernel
theorem dX8_addHearing_47 : decode cX8_addHearing 47 = .ok (.iconst 0, 1) := by decide +kernel
theorem dX8_addHearing_48 : decode cX8_addHearing 48 = .ok (.istore 5, 2) := by decide +kernel
theorem dX8_addHearing_50 : decode cX8_addHearing 50 = .ok (.aload_n 0, 1) := by decide +kernel
theorem dX8_addHearing_51 : decode cX8_addHearing 51 = .ok (.iload 5, 2) := by decide +kernel
theorem dX8_addHearing_53 : decode cX8_addHearing 53 = .ok (.ifCond .ne 7, 3) := by decide +kernel
theorem dX8_addHearing_56 : decode cX8_addHearing 56 = .ok (.iconst 1, 1) := by decide +kernel
theorem dX8_addHearing_57 : decode cX8_addHearing 57 = .ok (.goto 20, 3) := by decide +kernel
theorem dX8_addHearing_60 : decode cX8_addHearing 60 = .ok (.aload_n 0, 1) := by decide +kernel
theorem dX8_addHearing_61 : decode cX8_addHearing 61 = .ok (.getfield 7, 3) := by decide +kernel
theorem dX8_addHearing_64 : decode cX8_addHearing 64 = .ok (.bipush 8, 2) := by decide +kernel
theorem dX8_addHearing_66 : decode cX8_addHearing 66 = .ok (.iaload, 1) := by decide +kernel
theorem dX8_addHearing_67 : decode cX8_addHearing 67 = .ok (.bipush 30, 2) := by decide +kernel
theorem dX8_addHearing_69 : decode cX8_addHearing 69 = .ok (.if_icmp .ne 7, 3) := by decide +kernel
theorem dX8_addHearing_72 : decode cX8_addHearing 72 = .ok (.iconst 2, 1) := by decide +kernel
theorem dX8_addHearing_73 : decode cX8_addHearing 73 = .ok (.goto 4, 3) := by decide +kernel
theorem dX8_addHearing_76 : decode cX8_addHearing 76 = .ok (.iconst 0, 1) := by decide +kernel
theorem dX8_addHearing_77 : decode cX8_addHearing 77 = .ok (.putfield 31, 3) := by decide +kernel
theorem dX8_addHearing_80 : decode cX8_addHearing 80 = .ok (.aload_n 0, 1) := by decide +kernel
theorem dX8_addHearing_81 : decode cX8_addHearing 81 = .ok (.getfield 31, 3) := by decide +kernel
theorem dX8_addHearing_84 : decode cX8_addHearing 84 = .ok (.ifCond .le 5, 3) := by decide +kernel
theorem dX8_addHearing_87 : decode cX8_addHearing 87 = .ok (.iconst 0, 1) := by decide +kernel
theorem dX8_addHearing_88 : decode cX8_addHearing 88 = .ok (.ireturn, 1) := by decide +kernel
theorem dX8_addHearing_89 : decode cX8_addHearing 89 = .ok (.aload_n 0, 1) := by decide +kernel
theorem dX8_addHearing_90 : decode cX8_addHearing 90 = .ok (.invokevirtual 71, 3) := by decide +kernel
theorem dX8_addHearing_93 : decode cX8_addHearing 93 = .ok (.aload_n 0, 1) := by decide +kernel
theorem dX8_addHearing_94 : decode cX8_addHearing 94 = .ok (.iload_n 1, 1) := by decide +kernel
theorem dX8_addHearing_95 : decode cX8_addHearing 95 = .ok (.iload_n 2, 1) := by decide +kernel
theorem dX8_addHearing_96 : decode cX8_addHearing 96 = .ok (.iload_n 3, 1) := by decide +kernel
theorem dX8_addHearing_97 : decode cX8_addHearing 97 = .ok (.iload 4, 2) := by decide +kernel
theorem dX8_addHearing_99 : decode cX8_addHearing 99 = .ok (.invokevirtual 78, 3) := by decide +kernel
theorem dX8_addHearing_102 : decode cX8_addHearing 102 = .ok (.ireturn, 1) := by decide +kernel
theorem dX8_certify_0 : decode cX8_certify 0 = .ok (.aload_n 0, 1) := by decide +kernel
theorem dX8_certify_1 : decode cX8_certify 1 = .ok (.aload_n 0, 1) := by decide +kernel
theorem dX8_certify_2 : decode cX8_certify 2 = .ok (.iload_n 1, 1) := by decide +kernel
theorem dX8_certify_3 : decode cX8_certify 3 = .ok (.invokevirtual 82, 3) := by decide +kernel
theorem dX8_certify_6 : decode cX8_certify 6 = .ok (.ifCond .ne 7, 3) := by decide +kernel
theorem dX8_certify_9 : decode cX8_certify 9 = .ok (.iconst 1, 1) := by decide +kernel
theorem dX8_certify_10 : decode cX8_certify 10 = .ok (.goto 18, 3) := by decide +kernel
theorem dX8_certify_13 : decode cX8_certify 13 = .ok (.iload_n 2, 1) := by decide +kernel
theorem dX8_certify_14 : decode cX8_certify 14 = .ok (.iconst 0, 1) := by decide +kernel
theorem dX8_certify_15 : decode cX8_certify 15 = .ok (.bipush 7, 2) := by decide +kernel
theorem dX8_certify_17 : decode cX8_certify 17 = .ok (.invokestatic 38, 3) := by decide +kernel
theorem dX8_certify_20 : decode cX8_certify 20 = .ok (.ifCond .eq 7, 3) := by decide +kernel
theorem dX8_certify_23 : decode cX8_certify 23 = .ok (.iconst 0, 1) := by decide +kernel
theorem dX8_certify_24 : decode cX8_certify 24 = .ok (.goto 4, 3) := by decide +kernel
theorem dX8_certify_27 : decode cX8_certify 27 = .ok (.iconst 2, 1) := by decide +kernel
theorem dX8_certify_28 : decode cX8_certify 28 = .ok (.putfield 31, 3) := by decide +kernel
theorem dX8_certify_31 : decode cX8_certify 31 = .ok (.aload_n 0, 1) := by decide +kernel
theorem dX8_certify_32 : decode cX8_certify 32 = .ok (.getfield 31, 3) := by decide +kernel
theorem dX8_certify_35 : decode cX8_certify 35 = .ok (.ifCond .le 5, 3) := by decide +kernel
theorem dX8_certify_38 : decode cX8_certify 38 = .ok (.iconst 0, 1) := by decide +kernel
theorem dX8_certify_39 : decode cX8_certify 39 = .ok (.ireturn, 1) := by decide +kernel
theorem dX8_certify_40 : decode cX8_certify 40 = .ok (.aload_n 0, 1) := by decide +kernel
theorem dX8_certify_41 : decode cX8_certify 41 = .ok (.invokevirtual 71, 3) := by decide +kernel
theorem dX8_certify_44 : decode cX8_certify 44 = .ok (.aload_n 0, 1) := by decide +kernel
theorem dX8_certify_45 : decode cX8_certify 45 = .ok (.getfield 7, 3) := by decide +kernel
theorem dX8_certify_48 : decode cX8_certify 48 = .ok (.bipush 23, 2) := by decide +kernel
theorem dX8_certify_50 : decode cX8_certify 50 = .ok (.iload_n 1, 1) := by decide +kernel
theorem dX8_certify_51 : decode cX8_certify 51 = .ok (.iadd, 1) := by decide +kernel
theorem dX8_certify_52 : decode cX8_certify 52 = .ok (.iaload, 1) := by decide +kernel
theorem dX8_certify_53 : decode cX8_certify 53 = .ok (.istore_n 3, 1) := by decide +kernel
theorem dX8_certify_54 : decode cX8_certify 54 = .ok (.aload_n 0, 1) := by decide +kernel
theorem dX8_certify_55 : decode cX8_certify 55 = .ok (.getfield 7, 3) := by decide +kernel
theorem dX8_certify_58 : decode cX8_certify 58 = .ok (.bipush 23, 2) := by decide +kernel
theorem dX8_certify_60 : decode cX8_certify 60 = .ok (.iload_n 1, 1) := by decide +kernel
theorem dX8_certify_61 : decode cX8_certify 61 = .ok (.iadd, 1) := by decide +kernel
theorem dX8_certify_62 : decode cX8_certify 62 = .ok (.iload_n 2, 1) := by decide +kernel
theorem dX8_certify_63 : decode cX8_certify 63 = .ok (.iastore, 1) := by decide +kernel
theorem dX8_certify_64 : decode cX8_certify 64 = .ok (.iload_n 3, 1) := by decide +kernel
theorem dX8_certify_65 : decode cX8_certify 65 = .ok (.ireturn, 1) := by decide +kernel
theorem dX8_isSetting_0 : decode cX8_isSetting 0 = .ok (.iload_n 0, 1) := by decide +kernel
theorem dX8_isSetting_1 : decode cX8_isSetting 1 = .ok (.iconst 0, 1) := by decide +kernel
theorem dX8_isSetting_2 : decode cX8_isSetting 2 = .ok (.bipush 6, 2) := by decide +kernel
theorem dX8_isSetting_4 : decode cX8_isSetting 4 = .ok (.invokestatic 38, 3) := by decide +kernel
theorem dX8_isSetting_7 : decode cX8_isSetting 7 = .ok (.ireturn, 1) := by decide +kernel
theorem dX8_isValue_0 : decode cX8_isValue 0 = .ok (.iload_n 0, 1) := by decide +kernel
theorem dX8_isValue_1 : decode cX8_isValue 1 = .ok (.tableswitch 66 3 6 #[31, 40, 49, 58], 31) := by decide +kernel
theorem dX8_isValue_32 : decode cX8_isValue 32 = .ok (.iload_n 1, 1) := by decide +kernel
theorem dX8_isValue_33 : decode cX8_isValue 33 = .ok (.iconst 0, 1) := by decide +kernel
theorem dX8_isValue_34 : decode cX8_isValue 34 = .ok (.sipush 1000, 3) := by decide +kernel
theorem dX8_isValue_37 : decode cX8_isValue 37 = .ok (.invokestatic 38, 3) := by decide +kernel
theorem dX8_isValue_40 : decode cX8_isValue 40 = .ok (.ireturn, 1) := by decide +kernel
theorem dX8_isValue_41 : decode cX8_isValue 41 = .ok (.iload_n 1, 1) := by decide +kernel
theorem dX8_isValue_42 : decode cX8_isValue 42 = .ok (.iconst 0, 1) := by decide +kernel
theorem dX8_isValue_43 : decode cX8_isValue 43 = .ok (.sipush 2000, 3) := by decide +kernel
theorem dX8_isValue_46 : decode cX8_isValue 46 = .ok (.invokestatic 38, 3) := by decide +kernel
theorem dX8_isValue_49 : decode cX8_isValue 49 = .ok (.ireturn, 1) := by decide +kernel
theorem dX8_isValue_50 : decode cX8_isValue 50 = .ok (.iload_n 1, 1) := by decide +kernel
theorem dX8_isValue_51 : decode cX8_isValue 51 = .ok (.iconst 0, 1) := by decide +kernel
theorem dX8_isValue_52 : decode cX8_isValue 52 = .ok (.sipush 5000, 3) := by decide +kernel
theorem dX8_isValue_55 : decode cX8_isValue 55 = .ok (.invokestatic 38, 3) := by decide +kernel
theorem dX8_isValue_58 : decode cX8_isValue 58 = .ok (.ireturn, 1) := by decide +kernel
theorem dX8_isValue_59 : decode cX8_isValue 59 = .ok (.iload_n 1, 1) := by decide +kernel
theorem dX8_isValue_60 : decode cX8_isValue 60 = .ok (.iconst 0, 1) := by decide +kernel
theorem dX8_isValue_61 : decode cX8_isValue 61 = .ok (.bipush 100, 2) := by decide +kernel
theorem dX8_isValue_63 : decode cX8_isValue 63 = .ok (.invokestatic 38, 3) := by decide +kernel
theorem dX8_isValue_66 : decode cX8_isValue 66 = .ok (.ireturn, 1) := by decide +kernel
theorem dX8_isValue_67 : decode cX8_isValue 67 = .ok (.iload_n 1, 1) := by decide +kernel
theorem dX8_isValue_68 : decode cX8_isValue 68 = .ok (.iconst 0, 1) := by decide +kernel
theorem dX8_isValue_69 : decode cX8_isValue 69 = .ok (.bipush 20, 2) := by decide +kernel
theorem dX8_isValue_71 : decode cX8_isValue 71 = .ok (.invokestatic 38, 3) := by decide +kernel
theorem dX8_isValue_74 : decode cX8_isValue 74 = .ok (.ireturn, 1) := by decide +kernel
theorem dX8_set_0 : decode cX8_set 0 = .ok (.aload_n 0, 1) := by decide +kernel
theorem dX8_set_1 : decode cX8_set 1 = .ok (.iload_n 1, 1) := by decide +kernel
theorem dX8_set_2 : decode cX8_set 2 = .ok (.invokestatic 85, 3) := by decide +kernel
theorem dX8_set_5 : decode cX8_set 5 = .ok (.ifCond .ne 7, 3) := by decide +kernel
theorem dX8_set_8 : decode cX8_set 8 = .ok (.iconst 1, 1) := by decide +kernel
theorem dX8_set_9 : decode cX8_set 9 = .ok (.goto 16, 3) := by decide +kernel
theorem dX8_set_12 : decode cX8_set 12 = .ok (.iload_n 1, 1) := by decide +kernel
theorem dX8_set_13 : decode cX8_set 13 = .ok (.iload_n 2, 1) := by decide +kernel
theorem dX8_set_14 : decode cX8_set 14 = .ok (.invokestatic 88, 3) := by decide +kernel
theorem dX8_set_17 : decode cX8_set 17 = .ok (.ifCond .eq 7, 3) := by decide +kernel
theorem dX8_set_20 : decode cX8_set 20 = .ok (.iconst 0, 1) := by decide +kernel
theorem dX8_set_21 : decode cX8_set 21 = .ok (.goto 4, 3) := by decide +kernel
theorem dX8_set_24 : decode cX8_set 24 = .ok (.iconst 2, 1) := by decide +kernel
theorem dX8_set_25 : decode cX8_set 25 = .ok (.putfield 31, 3) := by decide +kernel
theorem dX8_set_28 : decode cX8_set 28 = .ok (.aload_n 0, 1) := by decide +kernel
theorem dX8_set_29 : decode cX8_set 29 = .ok (.getfield 31, 3) := by decide +kernel
theorem dX8_set_32 : decode cX8_set 32 = .ok (.ifCond .le 5, 3) := by decide +kernel
theorem dX8_set_35 : decode cX8_set 35 = .ok (.iconst 0, 1) := by decide +kernel
theorem dX8_set_36 : decode cX8_set 36 = .ok (.ireturn, 1) := by decide +kernel
theorem dX8_set_37 : decode cX8_set 37 = .ok (.aload_n 0, 1) := by decide +kernel
theorem dX8_set_38 : decode cX8_set 38 = .ok (.invokevirtual 71, 3) := by decide +kernel
theorem dX8_set_41 : decode cX8_set 41 = .ok (.aload_n 0, 1) := by decide +kernel
theorem dX8_set_42 : decode cX8_set 42 = .ok (.getfield 7, 3) := by decide +kernel
theorem dX8_set_45 : decode cX8_set 45 = .ok (.iconst 0, 1) := by decide +kernel
theorem dX8_set_46 : decode cX8_set 46 = .ok (.iload_n 1, 1) := by decide +kernel
theorem dX8_set_47 : decode cX8_set 47 = .ok (.iadd, 1) := by decide +kernel
theorem dX8_set_48 : decode cX8_set 48 = .ok (.iaload, 1) := by decide +kernel
theorem dX8_set_49 : decode cX8_set 49 = .ok (.istore_n 3, 1) := by decide +kernel
theorem dX8_set_50 : decode cX8_set 50 = .ok (.aload_n 0, 1) := by decide +kernel
theorem dX8_set_51 : decode cX8_set 51 = .ok (.getfield 7, 3) := by decide +kernel
theorem dX8_set_54 : decode cX8_set 54 = .ok (.iconst 0, 1) := by decide +kernel
theorem dX8_set_55 : decode cX8_set 55 = .ok (.iload_n 1, 1) := by decide +kernel
theorem dX8_set_56 : decode cX8_set 56 = .ok (.iadd, 1) := by decide +kernel
theorem dX8_set_57 : decode cX8_set 57 = .ok (.iload_n 2, 1) := by decide +kernel
theorem dX8_set_58 : decode cX8_set 58 = .ok (.iastore, 1) := by decide +kernel
theorem dX8_set_59 : decode cX8_set 59 = .ok (.iload_n 3, 1) := by decide +kernel
theorem dX8_set_60 : decode cX8_set 60 = .ok (.ireturn, 1) := by decide +kernel
theorem dX8_lay_0 : decode cX8_lay 0 = .ok (.aload_n 0, 1) := by decide +kernel
theorem dX8_lay_1 : decode cX8_lay 1 = .ok (.getfield 19, 3) := by decide +kernel
theorem dX8_lay_4 : decode cX8_lay 4 = .ok (.iconst 0, 1) := by decide +kernel
theorem dX8_lay_5 : decode cX8_lay 5 = .ok (.iload_n 1, 1) := by decide +kernel
theorem dX8_lay_6 : decode cX8_lay 6 = .ok (.iastore, 1) := by decide +kernel
theorem dX8_lay_7 : decode cX8_lay 7 = .ok (.aload_n 0, 1) := by decide +kernel
theorem dX8_lay_8 : decode cX8_lay 8 = .ok (.getfield 19, 3) := by decide +kernel
theorem dX8_lay_11 : decode cX8_lay 11 = .ok (.iconst 1, 1) := by decide +kernel
theorem dX8_lay_12 : decode cX8_lay 12 = .ok (.iload_n 2, 1) := by decide +kernel
theorem dX8_lay_13 : decode cX8_lay 13 = .ok (.iastore, 1) := by decide +kernel
theorem dX8_lay_14 : decode cX8_lay 14 = .ok (.aload_n 0, 1) := by decide +kernel
theorem dX8_lay_15 : decode cX8_lay 15 = .ok (.getfield 19, 3) := by decide +kernel
theorem dX8_lay_18 : decode cX8_lay 18 = .ok (.iconst 2, 1) := by decide +kernel
theorem dX8_lay_19 : decode cX8_lay 19 = .ok (.iload_n 3, 1) := by decide +kernel
theorem dX8_lay_20 : decode cX8_lay 20 = .ok (.iastore, 1) := by decide +kernel
theorem dX8_lay_21 : decode cX8_lay 21 = .ok (.aload_n 0, 1) := by decide +kernel
theorem dX8_lay_22 : decode cX8_lay 22 = .ok (.iload_n 2, 1) := by decide +kernel
theorem dX8_lay_23 : decode cX8_lay 23 = .ok (.iconst (-1), 1) := by decide +kernel
theorem dX8_lay_24 : decode cX8_lay 24 = .ok (.if_icmp .ne 7, 3) := by decide +kernel
theorem dX8_lay_27 : decode cX8_lay 27 = .ok (.iconst 1, 1) := by decide +kernel
theorem dX8_lay_28 : decode cX8_lay 28 = .ok (.goto 13, 3) := by decide +kernel
theorem dX8_lay_31 : decode cX8_lay 31 = .ok (.iload_n 3, 1) := by decide +kernel
theorem dX8_lay_32 : decode cX8_lay 32 = .ok (.iconst (-1), 1) := by decide +kernel
theorem dX8_lay_33 : decode cX8_lay 33 = .ok (.if_icmp .ne 7, 3) := by decide +kernel
theorem dX8_lay_36 : decode cX8_lay 36 = .ok (.iconst 2, 1) := by decide +kernel
theorem dX8_lay_37 : decode cX8_lay 37 = .ok (.goto 4, 3) := by decide +kernel
theorem dX8_lay_40 : decode cX8_lay 40 = .ok (.iconst 3, 1) := by decide +kernel
theorem dX8_lay_41 : decode cX8_lay 41 = .ok (.putfield 91, 3) := by decide +kernel
theorem dX8_lay_44 : decode cX8_lay 44 = .ok (.return_, 1) := by decide +kernel
theorem dX8_isChain_0 : decode cX8_isChain 0 = .ok (.iconst 1, 1) := by decide +kernel
theorem dX8_isChain_1 : decode cX8_isChain 1 = .ok (.iload_n 1, 1) := by decide +kernel
theorem dX8_isChain_2 : decode cX8_isChain 2 = .ok (.ishl, 1) := by decide +kernel
theorem dX8_isChain_3 : decode cX8_isChain 3 = .ok (.istore_n 2, 1) := by decide +kernel
theorem dX8_isChain_4 : decode cX8_isChain 4 = .ok (.iconst 1, 1) := by decide +kernel
theorem dX8_isChain_5 : decode cX8_isChain 5 = .ok (.istore_n 3, 1) := by decide +kernel
theorem dX8_isChain_6 : decode cX8_isChain 6 = .ok (.iconst 0, 1) := by decide +kernel
theorem dX8_isChain_7 : decode cX8_isChain 7 = .ok (.istore 4, 2) := by decide +kernel
theorem dX8_isChain_9 : decode cX8_isChain 9 = .ok (.iload 4, 2) := by decide +kernel
theorem dX8_isChain_11 : decode cX8_isChain 11 = .ok (.aload_n 0, 1) := by decide +kernel
theorem dX8_isChain_12 : decode cX8_isChain 12 = .ok (.getfield 91, 3) := by decide +kernel
theorem dX8_isChain_15 : decode cX8_isChain 15 = .ok (.if_icmp .ge 55, 3) := by decide +kernel
theorem dX8_isChain_18 : decode cX8_isChain 18 = .ok (.iload_n 3, 1) := by decide +kernel
theorem dX8_isChain_19 : decode cX8_isChain 19 = .ok (.ifCond .eq 27, 3) := by decide +kernel
theorem dX8_isChain_22 : decode cX8_isChain 22 = .ok (.aload_n 0, 1) := by decide +kernel
theorem dX8_isChain_23 : decode cX8_isChain 23 = .ok (.getfield 7, 3) := by decide +kernel
theorem dX8_isChain_26 : decode cX8_isChain 26 = .ok (.bipush 13, 2) := by decide +kernel
theorem dX8_isChain_28 : decode cX8_isChain 28 = .ok (.aload_n 0, 1) := by decide +kernel
theorem dX8_isChain_29 : decode cX8_isChain 29 = .ok (.getfield 19, 3) := by decide +kernel
theorem dX8_isChain_32 : decode cX8_isChain 32 = .ok (.iload 4, 2) := by decide +kernel
theorem dX8_isChain_34 : decode cX8_isChain 34 = .ok (.iaload, 1) := by decide +kernel
theorem dX8_isChain_35 : decode cX8_isChain 35 = .ok (.iadd, 1) := by decide +kernel
theorem dX8_isChain_36 : decode cX8_isChain 36 = .ok (.iaload, 1) := by decide +kernel
theorem dX8_isChain_37 : decode cX8_isChain 37 = .ok (.iload_n 2, 1) := by decide +kernel
theorem dX8_isChain_38 : decode cX8_isChain 38 = .ok (.iand, 1) := by decide +kernel
theorem dX8_isChain_39 : decode cX8_isChain 39 = .ok (.ifCond .eq 7, 3) := by decide +kernel
theorem dX8_isChain_42 : decode cX8_isChain 42 = .ok (.iconst 1, 1) := by decide +kernel
theorem dX8_isChain_43 : decode cX8_isChain 43 = .ok (.goto 4, 3) := by decide +kernel
theorem dX8_isChain_46 : decode cX8_isChain 46 = .ok (.iconst 0, 1) := by decide +kernel
theorem dX8_isChain_47 : decode cX8_isChain 47 = .ok (.istore_n 3, 1) := by decide +kernel
theorem dX8_isChain_48 : decode cX8_isChain 48 = .ok (.aload_n 0, 1) := by decide +kernel
theorem dX8_isChain_49 : decode cX8_isChain 49 = .ok (.getfield 7, 3) := by decide +kernel
theorem dX8_isChain_52 : decode cX8_isChain 52 = .ok (.bipush 13, 2) := by decide +kernel
theorem dX8_isChain_54 : decode cX8_isChain 54 = .ok (.aload_n 0, 1) := by decide +kernel
theorem dX8_isChain_55 : decode cX8_isChain 55 = .ok (.getfield 19, 3) := by decide +kernel
theorem dX8_isChain_58 : decode cX8_isChain 58 = .ok (.iload 4, 2) := by decide +kernel
theorem dX8_isChain_60 : decode cX8_isChain 60 = .ok (.iaload, 1) := by decide +kernel
theorem dX8_isChain_61 : decode cX8_isChain 61 = .ok (.iadd, 1) := by decide +kernel
theorem dX8_isChain_62 : decode cX8_isChain 62 = .ok (.iaload, 1) := by decide +kernel
theorem dX8_isChain_63 : decode cX8_isChain 63 = .ok (.istore_n 2, 1) := by decide +kernel
theorem dX8_isChain_64 : decode cX8_isChain 64 = .ok (.iinc 4 1, 3) := by decide +kernel
theorem dX8_isChain_67 : decode cX8_isChain 67 = .ok (.goto (-58), 3) := by decide +kernel
theorem dX8_isChain_70 : decode cX8_isChain 70 = .ok (.iload_n 3, 1) := by decide +kernel
theorem dX8_isChain_71 : decode cX8_isChain 71 = .ok (.ifCond .eq 14, 3) := by decide +kernel
theorem dX8_isChain_74 : decode cX8_isChain 74 = .ok (.iload_n 2, 1) := by decide +kernel
theorem dX8_isChain_75 : decode cX8_isChain 75 = .ok (.iconst 1, 1) := by decide +kernel
theorem dX8_isChain_76 : decode cX8_isChain 76 = .ok (.iand, 1) := by decide +kernel
theorem dX8_isChain_77 : decode cX8_isChain 77 = .ok (.iconst 1, 1) := by decide +kernel
theorem dX8_isChain_78 : decode cX8_isChain 78 = .ok (.if_icmp .ne 7, 3) := by decide +kernel
theorem dX8_isChain_81 : decode cX8_isChain 81 = .ok (.iconst 1, 1) := by decide +kernel
theorem dX8_isChain_82 : decode cX8_isChain 82 = .ok (.goto 4, 3) := by decide +kernel
theorem dX8_isChain_85 : decode cX8_isChain 85 = .ok (.iconst 0, 1) := by decide +kernel
theorem dX8_isChain_86 : decode cX8_isChain 86 = .ok (.ireturn, 1) := by decide +kernel
theorem dX8_areCertified_0 : decode cX8_areCertified 0 = .ok (.iconst 1, 1) := by decide +kernel
theorem dX8_areCertified_1 : decode cX8_areCertified 1 = .ok (.istore_n 2, 1) := by decide +kernel
theorem dX8_areCertified_2 : decode cX8_areCertified 2 = .ok (.iconst 0, 1) := by decide +kernel
theorem dX8_areCertified_3 : decode cX8_areCertified 3 = .ok (.istore_n 3, 1) := by decide +kernel
theorem dX8_areCertified_4 : decode cX8_areCertified 4 = .ok (.iload_n 3, 1) := by decide +kernel
theorem dX8_areCertified_5 : decode cX8_areCertified 5 = .ok (.aload_n 0, 1) := by decide +kernel
theorem dX8_areCertified_6 : decode cX8_areCertified 6 = .ok (.getfield 91, 3) := by decide +kernel
theorem dX8_areCertified_9 : decode cX8_areCertified 9 = .ok (.if_icmp .ge 41, 3) := by decide +kernel
theorem dX8_areCertified_12 : decode cX8_areCertified 12 = .ok (.iload_n 2, 1) := by decide +kernel
theorem dX8_areCertified_13 : decode cX8_areCertified 13 = .ok (.ifCond .eq 29, 3) := by decide +kernel
theorem dX8_areCertified_16 : decode cX8_areCertified 16 = .ok (.aload_n 0, 1) := by decide +kernel
theorem dX8_areCertified_17 : decode cX8_areCertified 17 = .ok (.getfield 7, 3) := by decide +kernel
theorem dX8_areCertified_20 : decode cX8_areCertified 20 = .ok (.bipush 23, 2) := by decide +kernel
theorem dX8_areCertified_22 : decode cX8_areCertified 22 = .ok (.aload_n 0, 1) := by decide +kernel
theorem dX8_areCertified_23 : decode cX8_areCertified 23 = .ok (.getfield 19, 3) := by decide +kernel
theorem dX8_areCertified_26 : decode cX8_areCertified 26 = .ok (.iload_n 3, 1) := by decide +kernel
theorem dX8_areCertified_27 : decode cX8_areCertified 27 = .ok (.iaload, 1) := by decide +kernel
theorem dX8_areCertified_28 : decode cX8_areCertified 28 = .ok (.iadd, 1) := by decide +kernel
theorem dX8_areCertified_29 : decode cX8_areCertified 29 = .ok (.iaload, 1) := by decide +kernel
theorem dX8_areCertified_30 : decode cX8_areCertified 30 = .ok (.iload_n 1, 1) := by decide +kernel
theorem dX8_areCertified_31 : decode cX8_areCertified 31 = .ok (.ishr, 1) := by decide +kernel
theorem dX8_areCertified_32 : decode cX8_areCertified 32 = .ok (.iconst 1, 1) := by decide +kernel
theorem dX8_areCertified_33 : decode cX8_areCertified 33 = .ok (.iand, 1) := by decide +kernel
theorem dX8_areCertified_34 : decode cX8_areCertified 34 = .ok (.iconst 1, 1) := by decide +kernel
theorem dX8_areCertified_35 : decode cX8_areCertified 35 = .ok (.if_icmp .ne 7, 3) := by decide +kernel
theorem dX8_areCertified_38 : decode cX8_areCertified 38 = .ok (.iconst 1, 1) := by decide +kernel
theorem dX8_areCertified_39 : decode cX8_areCertified 39 = .ok (.goto 4, 3) := by decide +kernel
theorem dX8_areCertified_42 : decode cX8_areCertified 42 = .ok (.iconst 0, 1) := by decide +kernel
theorem dX8_areCertified_43 : decode cX8_areCertified 43 = .ok (.istore_n 2, 1) := by decide +kernel
theorem dX8_areCertified_44 : decode cX8_areCertified 44 = .ok (.iinc 3 1, 3) := by decide +kernel
theorem dX8_areCertified_47 : decode cX8_areCertified 47 = .ok (.goto (-43), 3) := by decide +kernel
theorem dX8_areCertified_50 : decode cX8_areCertified 50 = .ok (.iload_n 2, 1) := by decide +kernel
theorem dX8_areCertified_51 : decode cX8_areCertified 51 = .ok (.ireturn, 1) := by decide +kernel
theorem dX8_areBusy_0 : decode cX8_areBusy 0 = .ok (.iconst 0, 1) := by decide +kernel
theorem dX8_areBusy_1 : decode cX8_areBusy 1 = .ok (.istore_n 2, 1) := by decide +kernel
theorem dX8_areBusy_2 : decode cX8_areBusy 2 = .ok (.iconst 0, 1) := by decide +kernel
theorem dX8_areBusy_3 : decode cX8_areBusy 3 = .ok (.istore_n 3, 1) := by decide +kernel
theorem dX8_areBusy_4 : decode cX8_areBusy 4 = .ok (.iload_n 3, 1) := by decide +kernel
theorem dX8_areBusy_5 : decode cX8_areBusy 5 = .ok (.aload_n 0, 1) := by decide +kernel
theorem dX8_areBusy_6 : decode cX8_areBusy 6 = .ok (.getfield 91, 3) := by decide +kernel
theorem dX8_areBusy_9 : decode cX8_areBusy 9 = .ok (.if_icmp .ge 33, 3) := by decide +kernel
theorem dX8_areBusy_12 : decode cX8_areBusy 12 = .ok (.iload_n 2, 1) := by decide +kernel
theorem dX8_areBusy_13 : decode cX8_areBusy 13 = .ok (.ifCond .ne 17, 3) := by decide +kernel
theorem dX8_areBusy_16 : decode cX8_areBusy 16 = .ok (.aload_n 0, 1) := by decide +kernel
theorem dX8_areBusy_17 : decode cX8_areBusy 17 = .ok (.aload_n 0, 1) := by decide +kernel
theorem dX8_areBusy_18 : decode cX8_areBusy 18 = .ok (.getfield 19, 3) := by decide +kernel
theorem dX8_areBusy_21 : decode cX8_areBusy 21 = .ok (.iload_n 3, 1) := by decide +kernel
theorem dX8_areBusy_22 : decode cX8_areBusy 22 = .ok (.iaload, 1) := by decide +kernel
theorem dX8_areBusy_23 : decode cX8_areBusy 23 = .ok (.iload_n 1, 1) := by decide +kernel
theorem dX8_areBusy_24 : decode cX8_areBusy 24 = .ok (.invokevirtual 94, 3) := by decide +kernel
theorem dX8_areBusy_27 : decode cX8_areBusy 27 = .ok (.ifCond .eq 7, 3) := by decide +kernel
theorem dX8_areBusy_30 : decode cX8_areBusy 30 = .ok (.iconst 1, 1) := by decide +kernel
theorem dX8_areBusy_31 : decode cX8_areBusy 31 = .ok (.goto 4, 3) := by decide +kernel
theorem dX8_areBusy_34 : decode cX8_areBusy 34 = .ok (.iconst 0, 1) := by decide +kernel
theorem dX8_areBusy_35 : decode cX8_areBusy 35 = .ok (.istore_n 2, 1) := by decide +kernel
theorem dX8_areBusy_36 : decode cX8_areBusy 36 = .ok (.iinc 3 1, 3) := by decide +kernel
theorem dX8_areBusy_39 : decode cX8_areBusy 39 = .ok (.goto (-35), 3) := by decide +kernel
theorem dX8_areBusy_42 : decode cX8_areBusy 42 = .ok (.iload_n 2, 1) := by decide +kernel
theorem dX8_areBusy_43 : decode cX8_areBusy 43 = .ok (.ireturn, 1) := by decide +kernel
theorem dX8_reason_0 : decode cX8_reason 0 = .ok (.aload_n 0, 1) := by decide +kernel
theorem dX8_reason_1 : decode cX8_reason 1 = .ok (.iload_n 1, 1) := by decide +kernel
theorem dX8_reason_2 : decode cX8_reason 2 = .ok (.invokevirtual 50, 3) := by decide +kernel
theorem dX8_reason_5 : decode cX8_reason 5 = .ok (.ifCond .ne 5, 3) := by decide +kernel
theorem dX8_reason_8 : decode cX8_reason 8 = .ok (.iconst 1, 1) := by decide +kernel
theorem dX8_reason_9 : decode cX8_reason 9 = .ok (.ireturn, 1) := by decide +kernel
theorem dX8_reason_10 : decode cX8_reason 10 = .ok (.aload_n 0, 1) := by decide +kernel
theorem dX8_reason_11 : decode cX8_reason 11 = .ok (.iload_n 1, 1) := by decide +kernel
theorem dX8_reason_12 : decode cX8_reason 12 = .ok (.invokevirtual 97, 3) := by decide +kernel
theorem dX8_reason_15 : decode cX8_reason 15 = .ok (.ifCond .eq 5, 3) := by decide +kernel
theorem dX8_reason_18 : decode cX8_reason 18 = .ok (.iconst 2, 1) := by decide +kernel
theorem dX8_reason_19 : decode cX8_reason 19 = .ok (.ireturn, 1) := by decide +kernel
theorem dX8_reason_20 : decode cX8_reason 20 = .ok (.aload_n 0, 1) := by decide +kernel
theorem dX8_reason_21 : decode cX8_reason 21 = .ok (.aload_n 0, 1) := by decide +kernel
theorem dX8_reason_22 : decode cX8_reason 22 = .ok (.iload_n 1, 1) := by decide +kernel
theorem dX8_reason_23 : decode cX8_reason 23 = .ok (.iconst 1, 1) := by decide +kernel
theorem dX8_reason_24 : decode cX8_reason 24 = .ok (.invokevirtual 42, 3) := by decide +kernel
theorem dX8_reason_27 : decode cX8_reason 27 = .ok (.invokevirtual 100, 3) := by decide +kernel
theorem dX8_reason_30 : decode cX8_reason 30 = .ok (.ifCond .ne 7, 3) := by decide +kernel
theorem dX8_reason_33 : decode cX8_reason 33 = .ok (.iconst 3, 1) := by decide +kernel
theorem dX8_reason_34 : decode cX8_reason 34 = .ok (.goto 33, 3) := by decide +kernel
theorem dX8_reason_37 : decode cX8_reason 37 = .ok (.aload_n 0, 1) := by decide +kernel
theorem dX8_reason_38 : decode cX8_reason 38 = .ok (.aload_n 0, 1) := by decide +kernel
theorem dX8_reason_39 : decode cX8_reason 39 = .ok (.iload_n 1, 1) := by decide +kernel
theorem dX8_reason_40 : decode cX8_reason 40 = .ok (.iconst 0, 1) := by decide +kernel
theorem dX8_reason_41 : decode cX8_reason 41 = .ok (.invokevirtual 42, 3) := by decide +kernel
theorem dX8_reason_44 : decode cX8_reason 44 = .ok (.invokevirtual 103, 3) := by decide +kernel
theorem dX8_reason_47 : decode cX8_reason 47 = .ok (.ifCond .ne 7, 3) := by decide +kernel
theorem dX8_reason_50 : decode cX8_reason 50 = .ok (.iconst 4, 1) := by decide +kernel
theorem dX8_reason_51 : decode cX8_reason 51 = .ok (.goto 16, 3) := by decide +kernel
theorem dX8_reason_54 : decode cX8_reason 54 = .ok (.aload_n 0, 1) := by decide +kernel
theorem dX8_reason_55 : decode cX8_reason 55 = .ok (.iload_n 1, 1) := by decide +kernel
theorem dX8_reason_56 : decode cX8_reason 56 = .ok (.invokevirtual 106, 3) := by decide +kernel
theorem dX8_reason_59 : decode cX8_reason 59 = .ok (.ifCond .eq 7, 3) := by decide +kernel
theorem dX8_reason_62 : decode cX8_reason 62 = .ok (.iconst 5, 1) := by decide +kernel
theorem dX8_reason_63 : decode cX8_reason 63 = .ok (.goto 4, 3) := by decide +kernel
theorem dX8_reason_66 : decode cX8_reason 66 = .ok (.iconst 0, 1) := by decide +kernel
theorem dX8_reason_67 : decode cX8_reason 67 = .ok (.ireturn, 1) := by decide +kernel
theorem dX8_refusedChain_0 : decode cX8_refusedChain 0 = .ok (.aload_n 0, 1) := by decide +kernel
theorem dX8_refusedChain_1 : decode cX8_refusedChain 1 = .ok (.iload_n 1, 1) := by decide +kernel
theorem dX8_refusedChain_2 : decode cX8_refusedChain 2 = .ok (.invokevirtual 109, 3) := by decide +kernel
theorem dX8_refusedChain_5 : decode cX8_refusedChain 5 = .ok (.ifCond .eq 43, 3) := by decide +kernel
theorem dX8_refusedChain_8 : decode cX8_refusedChain 8 = .ok (.aload_n 0, 1) := by decide +kernel
theorem dX8_refusedChain_9 : decode cX8_refusedChain 9 = .ok (.iload_n 2, 1) := by decide +kernel
theorem dX8_refusedChain_10 : decode cX8_refusedChain 10 = .ok (.invokevirtual 82, 3) := by decide +kernel
theorem dX8_refusedChain_13 : decode cX8_refusedChain 13 = .ok (.ifCond .eq 35, 3) := by decide +kernel
theorem dX8_refusedChain_16 : decode cX8_refusedChain 16 = .ok (.iload_n 3, 1) := by decide +kernel
theorem dX8_refusedChain_17 : decode cX8_refusedChain 17 = .ok (.iconst (-1), 1) := by decide +kernel
theorem dX8_refusedChain_18 : decode cX8_refusedChain 18 = .ok (.if_icmp .eq 11, 3) := by decide +kernel
theorem dX8_refusedChain_21 : decode cX8_refusedChain 21 = .ok (.aload_n 0, 1) := by decide +kernel
theorem dX8_refusedChain_22 : decode cX8_refusedChain 22 = .ok (.iload_n 3, 1) := by decide +kernel
theorem dX8_refusedChain_23 : decode cX8_refusedChain 23 = .ok (.invokevirtual 82, 3) := by decide +kernel
theorem dX8_refusedChain_26 : decode cX8_refusedChain 26 = .ok (.ifCond .eq 22, 3) := by decide +kernel
theorem dX8_refusedChain_29 : decode cX8_refusedChain 29 = .ok (.iload 4, 2) := by decide +kernel
theorem dX8_refusedChain_31 : decode cX8_refusedChain 31 = .ok (.iconst (-1), 1) := by decide +kernel
theorem dX8_refusedChain_32 : decode cX8_refusedChain 32 = .ok (.if_icmp .eq 12, 3) := by decide +kernel
theorem dX8_refusedChain_35 : decode cX8_refusedChain 35 = .ok (.aload_n 0, 1) := by decide +kernel
theorem dX8_refusedChain_36 : decode cX8_refusedChain 36 = .ok (.iload 4, 2) := by decide +kernel
theorem dX8_refusedChain_38 : decode cX8_refusedChain 38 = .ok (.invokevirtual 82, 3) := by decide +kernel
theorem dX8_refusedChain_41 : decode cX8_refusedChain 41 = .ok (.ifCond .eq 7, 3) := by decide +kernel
theorem dX8_refusedChain_44 : decode cX8_refusedChain 44 = .ok (.iconst 1, 1) := by decide +kernel
theorem dX8_refusedChain_45 : decode cX8_refusedChain 45 = .ok (.goto 4, 3) := by decide +kernel
theorem dX8_refusedChain_48 : decode cX8_refusedChain 48 = .ok (.iconst 0, 1) := by decide +kernel
theorem dX8_refusedChain_49 : decode cX8_refusedChain 49 = .ok (.istore 5, 2) := by decide +kernel
theorem dX8_refusedChain_51 : decode cX8_refusedChain 51 = .ok (.iload 5, 2) := by decide +kernel
theorem dX8_refusedChain_53 : decode cX8_refusedChain 53 = .ok (.ifCond .ne 5, 3) := by decide +kernel
theorem dX8_refusedChain_56 : decode cX8_refusedChain 56 = .ok (.iconst 1, 1) := by decide +kernel
theorem dX8_refusedChain_57 : decode cX8_refusedChain 57 = .ok (.ireturn, 1) := by decide +kernel
theorem dX8_refusedChain_58 : decode cX8_refusedChain 58 = .ok (.iload_n 3, 1) := by decide +kernel
theorem dX8_refusedChain_59 : decode cX8_refusedChain 59 = .ok (.iconst (-1), 1) := by decide +kernel
theorem dX8_refusedChain_60 : decode cX8_refusedChain 60 = .ok (.if_icmp .ne 9, 3) := by decide +kernel
theorem dX8_refusedChain_63 : decode cX8_refusedChain 63 = .ok (.iload 4, 2) := by decide +kernel
theorem dX8_refusedChain_65 : decode cX8_refusedChain 65 = .ok (.iconst (-1), 1) := by decide +kernel
theorem dX8_refusedChain_66 : decode cX8_refusedChain 66 = .ok (.if_icmp .ne 30, 3) := by decide +kernel
theorem dX8_refusedChain_69 : decode cX8_refusedChain 69 = .ok (.iload_n 2, 1) := by decide +kernel
theorem dX8_refusedChain_70 : decode cX8_refusedChain 70 = .ok (.iload_n 3, 1) := by decide +kernel
theorem dX8_refusedChain_71 : decode cX8_refusedChain 71 = .ok (.if_icmp .eq 25, 3) := by decide +kernel
theorem dX8_refusedChain_74 : decode cX8_refusedChain 74 = .ok (.iload 4, 2) := by decide +kernel
theorem dX8_refusedChain_76 : decode cX8_refusedChain 76 = .ok (.iconst (-1), 1) := by decide +kernel
theorem dX8_refusedChain_77 : decode cX8_refusedChain 77 = .ok (.if_icmp .eq 15, 3) := by decide +kernel
theorem dX8_refusedChain_80 : decode cX8_refusedChain 80 = .ok (.iload 4, 2) := by decide +kernel
theorem dX8_refusedChain_82 : decode cX8_refusedChain 82 = .ok (.iload_n 2, 1) := by decide +kernel
theorem dX8_refusedChain_83 : decode cX8_refusedChain 83 = .ok (.if_icmp .eq 13, 3) := by decide +kernel
theorem dX8_refusedChain_86 : decode cX8_refusedChain 86 = .ok (.iload 4, 2) := by decide +kernel
theorem dX8_refusedChain_88 : decode cX8_refusedChain 88 = .ok (.iload_n 3, 1) := by decide +kernel
theorem dX8_refusedChain_89 : decode cX8_refusedChain 89 = .ok (.if_icmp .eq 7, 3) := by decide +kernel
theorem dX8_refusedChain_92 : decode cX8_refusedChain 92 = .ok (.iconst 1, 1) := by decide +kernel
theorem dX8_refusedChain_93 : decode cX8_refusedChain 93 = .ok (.goto 4, 3) := by decide +kernel
theorem dX8_refusedChain_96 : decode cX8_refusedChain 96 = .ok (.iconst 0, 1) := by decide +kernel
theorem dX8_refusedChain_97 : decode cX8_refusedChain 97 = .ok (.istore 6, 2) := by decide +kernel
theorem dX8_refusedChain_99 : decode cX8_refusedChain 99 = .ok (.aload_n 0, 1) := by decide +kernel
theorem dX8_refusedChain_100 : decode cX8_refusedChain 100 = .ok (.iload_n 2, 1) := by decide +kernel
theorem dX8_refusedChain_101 : decode cX8_refusedChain 101 = .ok (.iload_n 3, 1) := by decide +kernel
theorem dX8_refusedChain_102 : decode cX8_refusedChain 102 = .ok (.iload 4, 2) := by decide +kernel
theorem dX8_refusedChain_104 : decode cX8_refusedChain 104 = .ok (.invokevirtual 112, 3) := by decide +kernel
theorem dX8_refusedChain_107 : decode cX8_refusedChain 107 = .ok (.iload 6, 2) := by decide +kernel
theorem dX8_refusedChain_109 : decode cX8_refusedChain 109 = .ok (.ifCond .eq 7, 3) := by decide +kernel
theorem dX8_refusedChain_112 : decode cX8_refusedChain 112 = .ok (.iconst 0, 1) := by decide +kernel
theorem dX8_refusedChain_113 : decode cX8_refusedChain 113 = .ok (.goto 4, 3) := by decide +kernel
theorem dX8_refusedChain_116 : decode cX8_refusedChain 116 = .ok (.iconst 2, 1) := by decide +kernel
theorem dX8_refusedChain_117 : decode cX8_refusedChain 117 = .ok (.ireturn, 1) := by decide +kernel
theorem dX8_assignTried_0 : decode cX8_assignTried 0 = .ok (.aload_n 0, 1) := by decide +kernel
theorem dX8_assignTried_1 : decode cX8_assignTried 1 = .ok (.iload_n 1, 1) := by decide +kernel
theorem dX8_assignTried_2 : decode cX8_assignTried 2 = .ok (.iconst 5, 1) := by decide +kernel
theorem dX8_assignTried_3 : decode cX8_assignTried 3 = .ok (.aload_n 0, 1) := by decide +kernel
theorem dX8_assignTried_4 : decode cX8_assignTried 4 = .ok (.getfield 91, 3) := by decide +kernel
theorem dX8_assignTried_7 : decode cX8_assignTried 7 = .ok (.invokevirtual 74, 3) := by decide +kernel
theorem dX8_assignTried_10 : decode cX8_assignTried 10 = .ok (.iconst 0, 1) := by decide +kernel
theorem dX8_assignTried_11 : decode cX8_assignTried 11 = .ok (.istore_n 2, 1) := by decide +kernel
theorem dX8_assignTried_12 : decode cX8_assignTried 12 = .ok (.iload_n 2, 1) := by decide +kernel
theorem dX8_assignTried_13 : decode cX8_assignTried 13 = .ok (.iconst 3, 1) := by decide +kernel
theorem dX8_assignTried_14 : decode cX8_assignTried 14 = .ok (.if_icmp .ge 36, 3) := by decide +kernel
theorem dX8_assignTried_17 : decode cX8_assignTried 17 = .ok (.aload_n 0, 1) := by decide +kernel
theorem dX8_assignTried_18 : decode cX8_assignTried 18 = .ok (.iload_n 1, 1) := by decide +kernel
theorem dX8_assignTried_19 : decode cX8_assignTried 19 = .ok (.bipush 6, 2) := by decide +kernel
theorem dX8_assignTried_21 : decode cX8_assignTried 21 = .ok (.iload_n 2, 1) := by decide +kernel
theorem dX8_assignTried_22 : decode cX8_assignTried 22 = .ok (.iadd, 1) := by decide +kernel
theorem dX8_assignTried_23 : decode cX8_assignTried 23 = .ok (.iload_n 2, 1) := by decide +kernel
theorem dX8_assignTried_24 : decode cX8_assignTried 24 = .ok (.aload_n 0, 1) := by decide +kernel
theorem dX8_assignTried_25 : decode cX8_assignTried 25 = .ok (.getfield 91, 3) := by decide +kernel
theorem dX8_assignTried_28 : decode cX8_assignTried 28 = .ok (.if_icmp .ge 12, 3) := by decide +kernel
theorem dX8_assignTried_31 : decode cX8_assignTried 31 = .ok (.aload_n 0, 1) := by decide +kernel
theorem dX8_assignTried_32 : decode cX8_assignTried 32 = .ok (.getfield 19, 3) := by decide +kernel
theorem dX8_assignTried_35 : decode cX8_assignTried 35 = .ok (.iload_n 2, 1) := by decide +kernel
theorem dX8_assignTried_36 : decode cX8_assignTried 36 = .ok (.iaload, 1) := by decide +kernel
theorem dX8_assignTried_37 : decode cX8_assignTried 37 = .ok (.goto 4, 3) := by decide +kernel
theorem dX8_assignTried_40 : decode cX8_assignTried 40 = .ok (.iconst (-1), 1) := by decide +kernel
theorem dX8_assignTried_41 : decode cX8_assignTried 41 = .ok (.invokevirtual 74, 3) := by decide +kernel
theorem dX8_assignTried_44 : decode cX8_assignTried 44 = .ok (.iinc 2 1, 3) := by decide +kernel
theorem dX8_assignTried_47 : decode cX8_assignTried 47 = .ok (.goto (-35), 3) := by decide +kernel
theorem dX8_assignTried_50 : decode cX8_assignTried 50 = .ok (.return_, 1) := by decide +kernel
theorem dX8_assign_0 : decode cX8_assign 0 = .ok (.aload_n 0, 1) := by decide +kernel
theorem dX8_assign_1 : decode cX8_assign 1 = .ok (.aload_n 0, 1) := by decide +kernel
theorem dX8_assign_2 : decode cX8_assign 2 = .ok (.iload_n 1, 1) := by decide +kernel
theorem dX8_assign_3 : decode cX8_assign 3 = .ok (.iload_n 2, 1) := by decide +kernel
theorem dX8_assign_4 : decode cX8_assign 4 = .ok (.iload_n 3, 1) := by decide +kernel
theorem dX8_assign_5 : decode cX8_assign 5 = .ok (.iload 4, 2) := by decide +kernel
theorem dX8_assign_7 : decode cX8_assign 7 = .ok (.invokevirtual 115, 3) := by decide +kernel
theorem dX8_assign_10 : decode cX8_assign 10 = .ok (.putfield 31, 3) := by decide +kernel
theorem dX8_assign_13 : decode cX8_assign 13 = .ok (.aload_n 0, 1) := by decide +kernel
theorem dX8_assign_14 : decode cX8_assign 14 = .ok (.getfield 31, 3) := by decide +kernel
theorem dX8_assign_17 : decode cX8_assign 17 = .ok (.ifCond .ne 20, 3) := by decide +kernel
theorem dX8_assign_20 : decode cX8_assign 20 = .ok (.aload_n 0, 1) := by decide +kernel
theorem dX8_assign_21 : decode cX8_assign 21 = .ok (.aload_n 0, 1) := by decide +kernel
theorem dX8_assign_22 : decode cX8_assign 22 = .ok (.iload_n 1, 1) := by decide +kernel
theorem dX8_assign_23 : decode cX8_assign 23 = .ok (.invokevirtual 118, 3) := by decide +kernel
theorem dX8_assign_26 : decode cX8_assign 26 = .ok (.ifCond .ne 7, 3) := by decide +kernel
theorem dX8_assign_29 : decode cX8_assign 29 = .ok (.iconst 0, 1) := by decide +kernel
theorem dX8_assign_30 : decode cX8_assign 30 = .ok (.goto 4, 3) := by decide +kernel
theorem dX8_assign_33 : decode cX8_assign 33 = .ok (.iconst 3, 1) := by decide +kernel
theorem dX8_assign_34 : decode cX8_assign 34 = .ok (.putfield 31, 3) := by decide +kernel
theorem dX8_assign_37 : decode cX8_assign 37 = .ok (.aload_n 0, 1) := by decide +kernel
theorem dX8_assign_38 : decode cX8_assign 38 = .ok (.getfield 31, 3) := by decide +kernel
theorem dX8_assign_41 : decode cX8_assign 41 = .ok (.ifCond .le 5, 3) := by decide +kernel
theorem dX8_assign_44 : decode cX8_assign 44 = .ok (.iconst 0, 1) := by decide +kernel
theorem dX8_assign_45 : decode cX8_assign 45 = .ok (.ireturn, 1) := by decide +kernel
theorem dX8_assign_46 : decode cX8_assign 46 = .ok (.aload_n 0, 1) := by decide +kernel
theorem dX8_assign_47 : decode cX8_assign 47 = .ok (.invokevirtual 71, 3) := by decide +kernel
theorem dX8_assign_50 : decode cX8_assign 50 = .ok (.aload_n 0, 1) := by decide +kernel
theorem dX8_assign_51 : decode cX8_assign 51 = .ok (.iload_n 1, 1) := by decide +kernel
theorem dX8_assign_52 : decode cX8_assign 52 = .ok (.invokevirtual 121, 3) := by decide +kernel
theorem dX8_assign_55 : decode cX8_assign 55 = .ok (.aload_n 0, 1) := by decide +kernel
theorem dX8_assign_56 : decode cX8_assign 56 = .ok (.iload_n 1, 1) := by decide +kernel
theorem dX8_assign_57 : decode cX8_assign 57 = .ok (.iconst 2, 1) := by decide +kernel
theorem dX8_assign_58 : decode cX8_assign 58 = .ok (.invokevirtual 65, 3) := by decide +kernel
theorem dX8_assign_61 : decode cX8_assign 61 = .ok (.ireturn, 1) := by decide +kernel
theorem dX8_isOpen_0 : decode cX8_isOpen 0 = .ok (.aload_n 0, 1) := by decide +kernel
theorem dX8_isOpen_1 : decode cX8_isOpen 1 = .ok (.iload_n 1, 1) := by decide +kernel
theorem dX8_isOpen_2 : decode cX8_isOpen 2 = .ok (.invokevirtual 50, 3) := by decide +kernel
theorem dX8_isOpen_5 : decode cX8_isOpen 5 = .ok (.ifCond .eq 15, 3) := by decide +kernel
theorem dX8_isOpen_8 : decode cX8_isOpen 8 = .ok (.aload_n 0, 1) := by decide +kernel
theorem dX8_isOpen_9 : decode cX8_isOpen 9 = .ok (.iload_n 1, 1) := by decide +kernel
theorem dX8_isOpen_10 : decode cX8_isOpen 10 = .ok (.invokevirtual 97, 3) := by decide +kernel
theorem dX8_isOpen_13 : decode cX8_isOpen 13 = .ok (.ifCond .ne 7, 3) := by decide +kernel
theorem dX8_isOpen_16 : decode cX8_isOpen 16 = .ok (.iconst 1, 1) := by decide +kernel
theorem dX8_isOpen_17 : decode cX8_isOpen 17 = .ok (.goto 4, 3) := by decide +kernel
theorem dX8_isOpen_20 : decode cX8_isOpen 20 = .ok (.iconst 0, 1) := by decide +kernel
theorem dX8_isOpen_21 : decode cX8_isOpen 21 = .ok (.ireturn, 1) := by decide +kernel
theorem dX8_release_0 : decode cX8_release 0 = .ok (.aload_n 0, 1) := by decide +kernel
theorem dX8_release_1 : decode cX8_release 1 = .ok (.aload_n 0, 1) := by decide +kernel
theorem dX8_release_2 : decode cX8_release 2 = .ok (.iload_n 1, 1) := by decide +kernel
theorem dX8_release_3 : decode cX8_release 3 = .ok (.invokevirtual 109, 3) := by decide +kernel
theorem dX8_release_6 : decode cX8_release 6 = .ok (.ifCond .ne 7, 3) := by decide +kernel
theorem dX8_release_9 : decode cX8_release 9 = .ok (.iconst 1, 1) := by decide +kernel
theorem dX8_release_10 : decode cX8_release 10 = .ok (.goto 16, 3) := by decide +kernel
theorem dX8_release_13 : decode cX8_release 13 = .ok (.aload_n 0, 1) := by decide +kernel
theorem dX8_release_14 : decode cX8_release 14 = .ok (.iload_n 1, 1) := by decide +kernel
theorem dX8_release_15 : decode cX8_release 15 = .ok (.invokevirtual 125, 3) := by decide +kernel
theorem dX8_release_18 : decode cX8_release 18 = .ok (.ifCond .eq 7, 3) := by decide +kernel
theorem dX8_release_21 : decode cX8_release 21 = .ok (.iconst 0, 1) := by decide +kernel
theorem dX8_release_22 : decode cX8_release 22 = .ok (.goto 4, 3) := by decide +kernel
theorem dX8_release_25 : decode cX8_release 25 = .ok (.iconst 2, 1) := by decide +kernel
theorem dX8_release_26 : decode cX8_release 26 = .ok (.putfield 31, 3) := by decide +kernel
theorem dX8_release_29 : decode cX8_release 29 = .ok (.aload_n 0, 1) := by decide +kernel
theorem dX8_release_30 : decode cX8_release 30 = .ok (.getfield 31, 3) := by decide +kernel
theorem dX8_release_33 : decode cX8_release 33 = .ok (.ifCond .le 5, 3) := by decide +kernel
theorem dX8_release_36 : decode cX8_release 36 = .ok (.iconst 0, 1) := by decide +kernel
theorem dX8_release_37 : decode cX8_release 37 = .ok (.ireturn, 1) := by decide +kernel
theorem dX8_release_38 : decode cX8_release 38 = .ok (.aload_n 0, 1) := by decide +kernel
theorem dX8_release_39 : decode cX8_release 39 = .ok (.invokevirtual 71, 3) := by decide +kernel
theorem dX8_release_42 : decode cX8_release 42 = .ok (.aload_n 0, 1) := by decide +kernel
theorem dX8_release_43 : decode cX8_release 43 = .ok (.iload_n 1, 1) := by decide +kernel
theorem dX8_release_44 : decode cX8_release 44 = .ok (.iconst 5, 1) := by decide +kernel
theorem dX8_release_45 : decode cX8_release 45 = .ok (.invokevirtual 42, 3) := by decide +kernel
theorem dX8_release_48 : decode cX8_release 48 = .ok (.istore_n 2, 1) := by decide +kernel
theorem dX8_release_49 : decode cX8_release 49 = .ok (.aload_n 0, 1) := by decide +kernel
theorem dX8_release_50 : decode cX8_release 50 = .ok (.iconst 0, 1) := by decide +kernel
theorem dX8_release_51 : decode cX8_release 51 = .ok (.putfield 91, 3) := by decide +kernel
theorem dX8_release_54 : decode cX8_release 54 = .ok (.aload_n 0, 1) := by decide +kernel
theorem dX8_release_55 : decode cX8_release 55 = .ok (.iload_n 1, 1) := by decide +kernel
theorem dX8_release_56 : decode cX8_release 56 = .ok (.invokevirtual 121, 3) := by decide +kernel
theorem dX8_release_59 : decode cX8_release 59 = .ok (.iload_n 2, 1) := by decide +kernel
theorem dX8_release_60 : decode cX8_release 60 = .ok (.ireturn, 1) := by decide +kernel
theorem dX8_swap_0 : decode cX8_swap 0 = .ok (.aload_n 0, 1) := by decide +kernel
theorem dX8_swap_1 : decode cX8_swap 1 = .ok (.iload_n 1, 1) := by decide +kernel
theorem dX8_swap_2 : decode cX8_swap 2 = .ok (.invokevirtual 109, 3) := by decide +kernel
theorem dX8_swap_5 : decode cX8_swap 5 = .ok (.ifCond .eq 31, 3) := by decide +kernel
theorem dX8_swap_8 : decode cX8_swap 8 = .ok (.iload_n 2, 1) := by decide +kernel
theorem dX8_swap_9 : decode cX8_swap 9 = .ok (.iconst 0, 1) := by decide +kernel
theorem dX8_swap_10 : decode cX8_swap 10 = .ok (.aload_n 0, 1) := by decide +kernel
theorem dX8_swap_11 : decode cX8_swap 11 = .ok (.iload_n 1, 1) := by decide +kernel
theorem dX8_swap_12 : decode cX8_swap 12 = .ok (.iconst 5, 1) := by decide +kernel
theorem dX8_swap_13 : decode cX8_swap 13 = .ok (.invokevirtual 42, 3) := by decide +kernel
theorem dX8_swap_16 : decode cX8_swap 16 = .ok (.iconst 1, 1) := by decide +kernel
theorem dX8_swap_17 : decode cX8_swap 17 = .ok (.isub, 1) := by decide +kernel
theorem dX8_swap_18 : decode cX8_swap 18 = .ok (.invokestatic 38, 3) := by decide +kernel
theorem dX8_swap_21 : decode cX8_swap 21 = .ok (.ifCond .eq 15, 3) := by decide +kernel
theorem dX8_swap_24 : decode cX8_swap 24 = .ok (.aload_n 0, 1) := by decide +kernel
theorem dX8_swap_25 : decode cX8_swap 25 = .ok (.iload_n 3, 1) := by decide +kernel
theorem dX8_swap_26 : decode cX8_swap 26 = .ok (.invokevirtual 82, 3) := by decide +kernel
theorem dX8_swap_29 : decode cX8_swap 29 = .ok (.ifCond .eq 7, 3) := by decide +kernel
theorem dX8_swap_32 : decode cX8_swap 32 = .ok (.iconst 1, 1) := by decide +kernel
theorem dX8_swap_33 : decode cX8_swap 33 = .ok (.goto 4, 3) := by decide +kernel
theorem dX8_swap_36 : decode cX8_swap 36 = .ok (.iconst 0, 1) := by decide +kernel
theorem dX8_swap_37 : decode cX8_swap 37 = .ok (.istore 4, 2) := by decide +kernel
theorem dX8_swap_39 : decode cX8_swap 39 = .ok (.aload_n 0, 1) := by decide +kernel
theorem dX8_swap_40 : decode cX8_swap 40 = .ok (.iload 4, 2) := by decide +kernel
theorem dX8_swap_42 : decode cX8_swap 42 = .ok (.ifCond .ne 7, 3) := by decide +kernel
theorem dX8_swap_45 : decode cX8_swap 45 = .ok (.iconst 1, 1) := by decide +kernel
theorem dX8_swap_46 : decode cX8_swap 46 = .ok (.goto 17, 3) := by decide +kernel
theorem dX8_swap_49 : decode cX8_swap 49 = .ok (.aload_n 0, 1) := by decide +kernel
theorem dX8_swap_50 : decode cX8_swap 50 = .ok (.iload_n 3, 1) := by decide +kernel
theorem dX8_swap_51 : decode cX8_swap 51 = .ok (.iload_n 1, 1) := by decide +kernel
theorem dX8_swap_52 : decode cX8_swap 52 = .ok (.invokevirtual 54, 3) := by decide +kernel
theorem dX8_swap_55 : decode cX8_swap 55 = .ok (.ifCond .eq 7, 3) := by decide +kernel
theorem dX8_swap_58 : decode cX8_swap 58 = .ok (.iconst 2, 1) := by decide +kernel
theorem dX8_swap_59 : decode cX8_swap 59 = .ok (.goto 4, 3) := by decide +kernel
theorem dX8_swap_62 : decode cX8_swap 62 = .ok (.iconst 0, 1) := by decide +kernel
theorem dX8_swap_63 : decode cX8_swap 63 = .ok (.putfield 31, 3) := by decide +kernel
theorem dX8_swap_66 : decode cX8_swap 66 = .ok (.aload_n 0, 1) := by decide +kernel
theorem dX8_swap_67 : decode cX8_swap 67 = .ok (.getfield 31, 3) := by decide +kernel
theorem dX8_swap_70 : decode cX8_swap 70 = .ok (.ifCond .ne 52, 3) := by decide +kernel
theorem dX8_swap_73 : decode cX8_swap 73 = .ok (.aload_n 0, 1) := by decide +kernel
theorem dX8_swap_74 : decode cX8_swap 74 = .ok (.aload_n 0, 1) := by decide +kernel
theorem dX8_swap_75 : decode cX8_swap 75 = .ok (.iload_n 1, 1) := by decide +kernel
theorem dX8_swap_76 : decode cX8_swap 76 = .ok (.bipush 6, 2) := by decide +kernel
theorem dX8_swap_78 : decode cX8_swap 78 = .ok (.invokevirtual 42, 3) := by decide +kernel
theorem dX8_swap_81 : decode cX8_swap 81 = .ok (.aload_n 0, 1) := by decide +kernel
theorem dX8_swap_82 : decode cX8_swap 82 = .ok (.iload_n 1, 1) := by decide +kernel
theorem dX8_swap_83 : decode cX8_swap 83 = .ok (.bipush 7, 2) := by decide +kernel
theorem dX8_swap_85 : decode cX8_swap 85 = .ok (.invokevirtual 42, 3) := by decide +kernel
theorem dX8_swap_88 : decode cX8_swap 88 = .ok (.aload_n 0, 1) := by decide +kernel
theorem dX8_swap_89 : decode cX8_swap 89 = .ok (.iload_n 1, 1) := by decide +kernel
theorem dX8_swap_90 : decode cX8_swap 90 = .ok (.bipush 8, 2) := by decide +kernel
theorem dX8_swap_92 : decode cX8_swap 92 = .ok (.invokevirtual 42, 3) := by decide +kernel
theorem dX8_swap_95 : decode cX8_swap 95 = .ok (.invokevirtual 112, 3) := by decide +kernel
theorem dX8_swap_98 : decode cX8_swap 98 = .ok (.aload_n 0, 1) := by decide +kernel
theorem dX8_swap_99 : decode cX8_swap 99 = .ok (.getfield 19, 3) := by decide +kernel
theorem dX8_swap_102 : decode cX8_swap 102 = .ok (.iload_n 2, 1) := by decide +kernel
theorem dX8_swap_103 : decode cX8_swap 103 = .ok (.iload_n 3, 1) := by decide +kernel
theorem dX8_swap_104 : decode cX8_swap 104 = .ok (.iastore, 1) := by decide +kernel
theorem dX8_swap_105 : decode cX8_swap 105 = .ok (.aload_n 0, 1) := by decide +kernel
theorem dX8_swap_106 : decode cX8_swap 106 = .ok (.aload_n 0, 1) := by decide +kernel
theorem dX8_swap_107 : decode cX8_swap 107 = .ok (.iload_n 1, 1) := by decide +kernel
theorem dX8_swap_108 : decode cX8_swap 108 = .ok (.invokevirtual 118, 3) := by decide +kernel
theorem dX8_swap_111 : decode cX8_swap 111 = .ok (.ifCond .ne 7, 3) := by decide +kernel
theorem dX8_swap_114 : decode cX8_swap 114 = .ok (.iconst 0, 1) := by decide +kernel
theorem dX8_swap_115 : decode cX8_swap 115 = .ok (.goto 4, 3) := by decide +kernel
theorem dX8_swap_118 : decode cX8_swap 118 = .ok (.iconst 3, 1) := by decide +kernel
theorem dX8_swap_119 : decode cX8_swap 119 = .ok (.putfield 31, 3) := by decide +kernel
theorem dX8_swap_122 : decode cX8_swap 122 = .ok (.aload_n 0, 1) := by decide +kernel
theorem dX8_swap_123 : decode cX8_swap 123 = .ok (.getfield 31, 3) := by decide +kernel
theorem dX8_swap_126 : decode cX8_swap 126 = .ok (.ifCond .le 5, 3) := by decide +kernel
theorem dX8_swap_129 : decode cX8_swap 129 = .ok (.iconst 0, 1) := by decide +kernel
theorem dX8_swap_130 : decode cX8_swap 130 = .ok (.ireturn, 1) := by decide +kernel
theorem dX8_swap_131 : decode cX8_swap 131 = .ok (.aload_n 0, 1) := by decide +kernel
theorem dX8_swap_132 : decode cX8_swap 132 = .ok (.invokevirtual 71, 3) := by decide +kernel
theorem dX8_swap_135 : decode cX8_swap 135 = .ok (.aload_n 0, 1) := by decide +kernel
theorem dX8_swap_136 : decode cX8_swap 136 = .ok (.iload_n 1, 1) := by decide +kernel
theorem dX8_swap_137 : decode cX8_swap 137 = .ok (.bipush 6, 2) := by decide +kernel
theorem dX8_swap_139 : decode cX8_swap 139 = .ok (.iload_n 2, 1) := by decide +kernel
theorem dX8_swap_140 : decode cX8_swap 140 = .ok (.iadd, 1) := by decide +kernel
theorem dX8_swap_141 : decode cX8_swap 141 = .ok (.invokevirtual 42, 3) := by decide +kernel
theorem dX8_swap_144 : decode cX8_swap 144 = .ok (.istore 5, 2) := by decide +kernel
theorem dX8_swap_146 : decode cX8_swap 146 = .ok (.aload_n 0, 1) := by decide +kernel
theorem dX8_swap_147 : decode cX8_swap 147 = .ok (.iload_n 1, 1) := by decide +kernel
theorem dX8_swap_148 : decode cX8_swap 148 = .ok (.bipush 6, 2) := by decide +kernel
theorem dX8_swap_150 : decode cX8_swap 150 = .ok (.iload_n 2, 1) := by decide +kernel
theorem dX8_swap_151 : decode cX8_swap 151 = .ok (.iadd, 1) := by decide +kernel
theorem dX8_swap_152 : decode cX8_swap 152 = .ok (.iload_n 3, 1) := by decide +kernel
theorem dX8_swap_153 : decode cX8_swap 153 = .ok (.invokevirtual 74, 3) := by decide +kernel
theorem dX8_swap_156 : decode cX8_swap 156 = .ok (.iload 5, 2) := by decide +kernel
theorem dX8_swap_158 : decode cX8_swap 158 = .ok (.ireturn, 1) := by decide +kernel
theorem dX8_vacate_0 : decode cX8_vacate 0 = .ok (.aload_n 0, 1) := by decide +kernel
theorem dX8_vacate_1 : decode cX8_vacate 1 = .ok (.aload_n 0, 1) := by decide +kernel
theorem dX8_vacate_2 : decode cX8_vacate 2 = .ok (.iload_n 1, 1) := by decide +kernel
theorem dX8_vacate_3 : decode cX8_vacate 3 = .ok (.invokevirtual 109, 3) := by decide +kernel
theorem dX8_vacate_6 : decode cX8_vacate 6 = .ok (.ifCond .ne 7, 3) := by decide +kernel
theorem dX8_vacate_9 : decode cX8_vacate 9 = .ok (.iconst 1, 1) := by decide +kernel
theorem dX8_vacate_10 : decode cX8_vacate 10 = .ok (.goto 16, 3) := by decide +kernel
theorem dX8_vacate_13 : decode cX8_vacate 13 = .ok (.aload_n 0, 1) := by decide +kernel
theorem dX8_vacate_14 : decode cX8_vacate 14 = .ok (.iload_n 1, 1) := by decide +kernel
theorem dX8_vacate_15 : decode cX8_vacate 15 = .ok (.invokevirtual 125, 3) := by decide +kernel
theorem dX8_vacate_18 : decode cX8_vacate 18 = .ok (.ifCond .eq 7, 3) := by decide +kernel
theorem dX8_vacate_21 : decode cX8_vacate 21 = .ok (.iconst 0, 1) := by decide +kernel
theorem dX8_vacate_22 : decode cX8_vacate 22 = .ok (.goto 4, 3) := by decide +kernel
theorem dX8_vacate_25 : decode cX8_vacate 25 = .ok (.iconst 2, 1) := by decide +kernel
theorem dX8_vacate_26 : decode cX8_vacate 26 = .ok (.putfield 31, 3) := by decide +kernel
theorem dX8_vacate_29 : decode cX8_vacate 29 = .ok (.aload_n 0, 1) := by decide +kernel
theorem dX8_vacate_30 : decode cX8_vacate 30 = .ok (.getfield 31, 3) := by decide +kernel
theorem dX8_vacate_33 : decode cX8_vacate 33 = .ok (.ifCond .le 5, 3) := by decide +kernel
theorem dX8_vacate_36 : decode cX8_vacate 36 = .ok (.iconst 0, 1) := by decide +kernel
theorem dX8_vacate_37 : decode cX8_vacate 37 = .ok (.ireturn, 1) := by decide +kernel
theorem dX8_vacate_38 : decode cX8_vacate 38 = .ok (.aload_n 0, 1) := by decide +kernel
theorem dX8_vacate_39 : decode cX8_vacate 39 = .ok (.invokevirtual 71, 3) := by decide +kernel
theorem dX8_vacate_42 : decode cX8_vacate 42 = .ok (.aload_n 0, 1) := by decide +kernel
theorem dX8_vacate_43 : decode cX8_vacate 43 = .ok (.iload_n 1, 1) := by decide +kernel
theorem dX8_vacate_44 : decode cX8_vacate 44 = .ok (.aload_n 0, 1) := by decide +kernel
theorem dX8_vacate_45 : decode cX8_vacate 45 = .ok (.aload_n 0, 1) := by decide +kernel
theorem dX8_vacate_46 : decode cX8_vacate 46 = .ok (.iload_n 1, 1) := by decide +kernel
theorem dX8_vacate_47 : decode cX8_vacate 47 = .ok (.iconst 2, 1) := by decide +kernel
theorem dX8_vacate_48 : decode cX8_vacate 48 = .ok (.invokevirtual 42, 3) := by decide +kernel
theorem dX8_vacate_51 : decode cX8_vacate 51 = .ok (.aload_n 0, 1) := by decide +kernel
theorem dX8_vacate_52 : decode cX8_vacate 52 = .ok (.getfield 7, 3) := by decide +kernel
theorem dX8_vacate_55 : decode cX8_vacate 55 = .ok (.bipush 9, 2) := by decide +kernel
theorem dX8_vacate_57 : decode cX8_vacate 57 = .ok (.iaload, 1) := by decide +kernel
theorem dX8_vacate_58 : decode cX8_vacate 58 = .ok (.isub, 1) := by decide +kernel
theorem dX8_vacate_59 : decode cX8_vacate 59 = .ok (.invokevirtual 128, 3) := by decide +kernel
theorem dX8_vacate_62 : decode cX8_vacate 62 = .ok (.invokevirtual 131, 3) := by decide +kernel
theorem dX8_vacate_65 : decode cX8_vacate 65 = .ok (.istore_n 2, 1) := by decide +kernel
theorem dX8_vacate_66 : decode cX8_vacate 66 = .ok (.aload_n 0, 1) := by decide +kernel
theorem dX8_vacate_67 : decode cX8_vacate 67 = .ok (.getfield 7, 3) := by decide +kernel
theorem dX8_vacate_70 : decode cX8_vacate 70 = .ok (.bipush 11, 2) := by decide +kernel
theorem dX8_vacate_72 : decode cX8_vacate 72 = .ok (.dup2, 1) := by decide +kernel
theorem dX8_vacate_73 : decode cX8_vacate 73 = .ok (.iaload, 1) := by decide +kernel
theorem dX8_vacate_74 : decode cX8_vacate 74 = .ok (.iload_n 2, 1) := by decide +kernel
theorem dX8_vacate_75 : decode cX8_vacate 75 = .ok (.iadd, 1) := by decide +kernel
theorem dX8_vacate_76 : decode cX8_vacate 76 = .ok (.iastore, 1) := by decide +kernel
theorem dX8_vacate_77 : decode cX8_vacate 77 = .ok (.aload_n 0, 1) := by decide +kernel
theorem dX8_vacate_78 : decode cX8_vacate 78 = .ok (.iload_n 1, 1) := by decide +kernel
theorem dX8_vacate_79 : decode cX8_vacate 79 = .ok (.iconst 4, 1) := by decide +kernel
theorem dX8_vacate_80 : decode cX8_vacate 80 = .ok (.iconst 3, 1) := by decide +kernel
theorem dX8_vacate_81 : decode cX8_vacate 81 = .ok (.invokevirtual 74, 3) := by decide +kernel
theorem dX8_vacate_84 : decode cX8_vacate 84 = .ok (.iload_n 2, 1) := by decide +kernel
theorem dX8_vacate_85 : decode cX8_vacate 85 = .ok (.ireturn, 1) := by decide +kernel
theorem dX8_worksIn_0 : decode cX8_worksIn 0 = .ok (.iconst (-1), 1) := by decide +kernel
theorem dX8_worksIn_1 : decode cX8_worksIn 1 = .ok (.istore_n 2, 1) := by decide +kernel
theorem dX8_worksIn_2 : decode cX8_worksIn 2 = .ok (.aload_n 0, 1) := by decide +kernel
theorem dX8_worksIn_3 : decode cX8_worksIn 3 = .ok (.getfield 7, 3) := by decide +kernel
theorem dX8_worksIn_6 : decode cX8_worksIn 6 = .ok (.bipush 8, 2) := by decide +kernel
theorem dX8_worksIn_8 : decode cX8_worksIn 8 = .ok (.iaload, 1) := by decide +kernel
theorem dX8_worksIn_9 : decode cX8_worksIn 9 = .ok (.iconst 1, 1) := by decide +kernel
theorem dX8_worksIn_10 : decode cX8_worksIn 10 = .ok (.isub, 1) := by decide +kernel
theorem dX8_worksIn_11 : decode cX8_worksIn 11 = .ok (.istore_n 3, 1) := by decide +kernel
theorem dX8_worksIn_12 : decode cX8_worksIn 12 = .ok (.iload_n 3, 1) := by decide +kernel
theorem dX8_worksIn_13 : decode cX8_worksIn 13 = .ok (.ifCond .lt 40, 3) := by decide +kernel
theorem dX8_worksIn_16 : decode cX8_worksIn 16 = .ok (.aload_n 0, 1) := by decide +kernel
theorem dX8_worksIn_17 : decode cX8_worksIn 17 = .ok (.iload_n 3, 1) := by decide +kernel
theorem dX8_worksIn_18 : decode cX8_worksIn 18 = .ok (.invokevirtual 50, 3) := by decide +kernel
theorem dX8_worksIn_21 : decode cX8_worksIn 21 = .ok (.ifCond .eq 24, 3) := by decide +kernel
theorem dX8_worksIn_24 : decode cX8_worksIn 24 = .ok (.aload_n 0, 1) := by decide +kernel
theorem dX8_worksIn_25 : decode cX8_worksIn 25 = .ok (.iload_n 3, 1) := by decide +kernel
theorem dX8_worksIn_26 : decode cX8_worksIn 26 = .ok (.invokevirtual 97, 3) := by decide +kernel
theorem dX8_worksIn_29 : decode cX8_worksIn 29 = .ok (.ifCond .eq 16, 3) := by decide +kernel
theorem dX8_worksIn_32 : decode cX8_worksIn 32 = .ok (.aload_n 0, 1) := by decide +kernel
theorem dX8_worksIn_33 : decode cX8_worksIn 33 = .ok (.iload_n 1, 1) := by decide +kernel
theorem dX8_worksIn_34 : decode cX8_worksIn 34 = .ok (.iload_n 3, 1) := by decide +kernel
theorem dX8_worksIn_35 : decode cX8_worksIn 35 = .ok (.invokevirtual 54, 3) := by decide +kernel
theorem dX8_worksIn_38 : decode cX8_worksIn 38 = .ok (.ifCond .eq 7, 3) := by decide +kernel
theorem dX8_worksIn_41 : decode cX8_worksIn 41 = .ok (.iload_n 3, 1) := by decide +kernel
theorem dX8_worksIn_42 : decode cX8_worksIn 42 = .ok (.goto 4, 3) := by decide +kernel
theorem dX8_worksIn_45 : decode cX8_worksIn 45 = .ok (.iload_n 2, 1) := by decide +kernel
theorem dX8_worksIn_46 : decode cX8_worksIn 46 = .ok (.istore_n 2, 1) := by decide +kernel
theorem dX8_worksIn_47 : decode cX8_worksIn 47 = .ok (.iinc 3 (-1), 3) := by decide +kernel
theorem dX8_worksIn_50 : decode cX8_worksIn 50 = .ok (.goto (-38), 3) := by decide +kernel
theorem dX8_worksIn_53 : decode cX8_worksIn 53 = .ok (.iload_n 2, 1) := by decide +kernel
theorem dX8_worksIn_54 : decode cX8_worksIn 54 = .ok (.ireturn, 1) := by decide +kernel
theorem dX8_tireAll_0 : decode cX8_tireAll 0 = .ok (.iconst 0, 1) := by decide +kernel
theorem dX8_tireAll_1 : decode cX8_tireAll 1 = .ok (.istore_n 1, 1) := by decide +kernel
theorem dX8_tireAll_2 : decode cX8_tireAll 2 = .ok (.iload_n 1, 1) := by decide +kernel
theorem dX8_tireAll_3 : decode cX8_tireAll 3 = .ok (.aload_n 0, 1) := by decide +kernel
theorem dX8_tireAll_4 : decode cX8_tireAll 4 = .ok (.getfield 7, 3) := by decide +kernel
theorem dX8_tireAll_7 : decode cX8_tireAll 7 = .ok (.bipush 7, 2) := by decide +kernel
theorem dX8_tireAll_9 : decode cX8_tireAll 9 = .ok (.iaload, 1) := by decide +kernel
theorem dX8_tireAll_10 : decode cX8_tireAll 10 = .ok (.if_icmp .ge 116, 3) := by decide +kernel
theorem dX8_tireAll_13 : decode cX8_tireAll 13 = .ok (.aload_n 0, 1) := by decide +kernel
theorem dX8_tireAll_14 : decode cX8_tireAll 14 = .ok (.iload_n 1, 1) := by decide +kernel
theorem dX8_tireAll_15 : decode cX8_tireAll 15 = .ok (.invokevirtual 134, 3) := by decide +kernel
theorem dX8_tireAll_18 : decode cX8_tireAll 18 = .ok (.istore_n 2, 1) := by decide +kernel
theorem dX8_tireAll_19 : decode cX8_tireAll 19 = .ok (.aload_n 0, 1) := by decide +kernel
theorem dX8_tireAll_20 : decode cX8_tireAll 20 = .ok (.getfield 7, 3) := by decide +kernel
theorem dX8_tireAll_23 : decode cX8_tireAll 23 = .ok (.bipush 43, 2) := by decide +kernel
theorem dX8_tireAll_25 : decode cX8_tireAll 25 = .ok (.iload_n 1, 1) := by decide +kernel
theorem dX8_tireAll_26 : decode cX8_tireAll 26 = .ok (.iadd, 1) := by decide +kernel
theorem dX8_tireAll_27 : decode cX8_tireAll 27 = .ok (.iaload, 1) := by decide +kernel
theorem dX8_tireAll_28 : decode cX8_tireAll 28 = .ok (.istore_n 3, 1) := by decide +kernel
theorem dX8_tireAll_29 : decode cX8_tireAll 29 = .ok (.iload_n 2, 1) := by decide +kernel
theorem dX8_tireAll_30 : decode cX8_tireAll 30 = .ok (.iconst (-1), 1) := by decide +kernel
theorem dX8_tireAll_31 : decode cX8_tireAll 31 = .ok (.if_icmp .ne 15, 3) := by decide +kernel
theorem dX8_tireAll_34 : decode cX8_tireAll 34 = .ok (.iload_n 3, 1) := by decide +kernel
theorem dX8_tireAll_35 : decode cX8_tireAll 35 = .ok (.aload_n 0, 1) := by decide +kernel
theorem dX8_tireAll_36 : decode cX8_tireAll 36 = .ok (.getfield 7, 3) := by decide +kernel
theorem dX8_tireAll_39 : decode cX8_tireAll 39 = .ok (.iconst 2, 1) := by decide +kernel
theorem dX8_tireAll_40 : decode cX8_tireAll 40 = .ok (.iaload, 1) := by decide +kernel
theorem dX8_tireAll_41 : decode cX8_tireAll 41 = .ok (.isub, 1) := by decide +kernel
theorem dX8_tireAll_42 : decode cX8_tireAll 42 = .ok (.istore_n 3, 1) := by decide +kernel
theorem dX8_tireAll_43 : decode cX8_tireAll 43 = .ok (.goto 46, 3) := by decide +kernel
theorem dX8_tireAll_46 : decode cX8_tireAll 46 = .ok (.iload_n 3, 1) := by decide +kernel
theorem dX8_tireAll_47 : decode cX8_tireAll 47 = .ok (.aload_n 0, 1) := by decide +kernel
theorem dX8_tireAll_48 : decode cX8_tireAll 48 = .ok (.getfield 7, 3) := by decide +kernel
theorem dX8_tireAll_51 : decode cX8_tireAll 51 = .ok (.iconst 0, 1) := by decide +kernel
theorem dX8_tireAll_52 : decode cX8_tireAll 52 = .ok (.iaload, 1) := by decide +kernel
theorem dX8_tireAll_53 : decode cX8_tireAll 53 = .ok (.aload_n 0, 1) := by decide +kernel
theorem dX8_tireAll_54 : decode cX8_tireAll 54 = .ok (.iload_n 2, 1) := by decide +kernel
theorem dX8_tireAll_55 : decode cX8_tireAll 55 = .ok (.iconst 5, 1) := by decide +kernel
theorem dX8_tireAll_56 : decode cX8_tireAll 56 = .ok (.invokevirtual 42, 3) := by decide +kernel
theorem dX8_tireAll_59 : decode cX8_tireAll 59 = .ok (.iconst 1, 1) := by decide +kernel
theorem dX8_tireAll_60 : decode cX8_tireAll 60 = .ok (.if_icmp .le 12, 3) := by decide +kernel
theorem dX8_tireAll_63 : decode cX8_tireAll 63 = .ok (.aload_n 0, 1) := by decide +kernel
theorem dX8_tireAll_64 : decode cX8_tireAll 64 = .ok (.getfield 7, 3) := by decide +kernel
theorem dX8_tireAll_67 : decode cX8_tireAll 67 = .ok (.iconst 1, 1) := by decide +kernel
theorem dX8_tireAll_68 : decode cX8_tireAll 68 = .ok (.iaload, 1) := by decide +kernel
theorem dX8_tireAll_69 : decode cX8_tireAll 69 = .ok (.goto 4, 3) := by decide +kernel
theorem dX8_tireAll_72 : decode cX8_tireAll 72 = .ok (.iconst 0, 1) := by decide +kernel
theorem dX8_tireAll_73 : decode cX8_tireAll 73 = .ok (.iadd, 1) := by decide +kernel
theorem dX8_tireAll_74 : decode cX8_tireAll 74 = .ok (.iadd, 1) := by decide +kernel
theorem dX8_tireAll_75 : decode cX8_tireAll 75 = .ok (.istore_n 3, 1) := by decide +kernel
theorem dX8_tireAll_76 : decode cX8_tireAll 76 = .ok (.aload_n 0, 1) := by decide +kernel
theorem dX8_tireAll_77 : decode cX8_tireAll 77 = .ok (.getfield 7, 3) := by decide +kernel
theorem dX8_tireAll_80 : decode cX8_tireAll 80 = .ok (.bipush 63, 2) := by decide +kernel
theorem dX8_tireAll_82 : decode cX8_tireAll 82 = .ok (.iload_n 1, 1) := by decide +kernel
theorem dX8_tireAll_83 : decode cX8_tireAll 83 = .ok (.iadd, 1) := by decide +kernel
theorem dX8_tireAll_84 : decode cX8_tireAll 84 = .ok (.dup2, 1) := by decide +kernel
theorem dX8_tireAll_85 : decode cX8_tireAll 85 = .ok (.iaload, 1) := by decide +kernel
theorem dX8_tireAll_86 : decode cX8_tireAll 86 = .ok (.iconst 1, 1) := by decide +kernel
theorem dX8_tireAll_87 : decode cX8_tireAll 87 = .ok (.iadd, 1) := by decide +kernel
theorem dX8_tireAll_88 : decode cX8_tireAll 88 = .ok (.iastore, 1) := by decide +kernel
theorem dX8_tireAll_89 : decode cX8_tireAll 89 = .ok (.aload_n 0, 1) := by decide +kernel
theorem dX8_tireAll_90 : decode cX8_tireAll 90 = .ok (.getfield 7, 3) := by decide +kernel
theorem dX8_tireAll_93 : decode cX8_tireAll 93 = .ok (.bipush 43, 2) := by decide +kernel
theorem dX8_tireAll_95 : decode cX8_tireAll 95 = .ok (.iload_n 1, 1) := by decide +kernel
theorem dX8_tireAll_96 : decode cX8_tireAll 96 = .ok (.iadd, 1) := by decide +kernel
theorem dX8_tireAll_97 : decode cX8_tireAll 97 = .ok (.iload_n 3, 1) := by decide +kernel
theorem dX8_tireAll_98 : decode cX8_tireAll 98 = .ok (.ifCond .ge 7, 3) := by decide +kernel
theorem dX8_tireAll_101 : decode cX8_tireAll 101 = .ok (.iconst 0, 1) := by decide +kernel
theorem dX8_tireAll_102 : decode cX8_tireAll 102 = .ok (.goto 17, 3) := by decide +kernel
theorem dX8_tireAll_105 : decode cX8_tireAll 105 = .ok (.iload_n 3, 1) := by decide +kernel
theorem dX8_tireAll_106 : decode cX8_tireAll 106 = .ok (.sipush 1000, 3) := by decide +kernel
theorem dX8_tireAll_109 : decode cX8_tireAll 109 = .ok (.if_icmp .le 9, 3) := by decide +kernel
theorem dX8_tireAll_112 : decode cX8_tireAll 112 = .ok (.sipush 1000, 3) := by decide +kernel
theorem dX8_tireAll_115 : decode cX8_tireAll 115 = .ok (.goto 4, 3) := by decide +kernel
theorem dX8_tireAll_118 : decode cX8_tireAll 118 = .ok (.iload_n 3, 1) := by decide +kernel
theorem dX8_tireAll_119 : decode cX8_tireAll 119 = .ok (.iastore, 1) := by decide +kernel
theorem dX8_tireAll_120 : decode cX8_tireAll 120 = .ok (.iinc 1 1, 3) := by decide +kernel
theorem dX8_tireAll_123 : decode cX8_tireAll 123 = .ok (.goto (-121), 3) := by decide +kernel
theorem dX8_tireAll_126 : decode cX8_tireAll 126 = .ok (.return_, 1) := by decide +kernel
theorem dX8_isTooTired_0 : decode cX8_isTooTired 0 = .ok (.iconst 0, 1) := by decide +kernel
theorem dX8_isTooTired_1 : decode cX8_isTooTired 1 = .ok (.istore_n 2, 1) := by decide +kernel
theorem dX8_isTooTired_2 : decode cX8_isTooTired 2 = .ok (.iconst 0, 1) := by decide +kernel
theorem dX8_isTooTired_3 : decode cX8_isTooTired 3 = .ok (.istore_n 3, 1) := by decide +kernel
theorem dX8_isTooTired_4 : decode cX8_isTooTired 4 = .ok (.iload_n 3, 1) := by decide +kernel
theorem dX8_isTooTired_5 : decode cX8_isTooTired 5 = .ok (.aload_n 0, 1) := by decide +kernel
theorem dX8_isTooTired_6 : decode cX8_isTooTired 6 = .ok (.iload_n 1, 1) := by decide +kernel
theorem dX8_isTooTired_7 : decode cX8_isTooTired 7 = .ok (.iconst 5, 1) := by decide +kernel
theorem dX8_isTooTired_8 : decode cX8_isTooTired 8 = .ok (.invokevirtual 42, 3) := by decide +kernel
theorem dX8_isTooTired_11 : decode cX8_isTooTired 11 = .ok (.if_icmp .ge 45, 3) := by decide +kernel
theorem dX8_isTooTired_14 : decode cX8_isTooTired 14 = .ok (.iload_n 2, 1) := by decide +kernel
theorem dX8_isTooTired_15 : decode cX8_isTooTired 15 = .ok (.ifCond .ne 29, 3) := by decide +kernel
theorem dX8_isTooTired_18 : decode cX8_isTooTired 18 = .ok (.aload_n 0, 1) := by decide +kernel
theorem dX8_isTooTired_19 : decode cX8_isTooTired 19 = .ok (.getfield 7, 3) := by decide +kernel
theorem dX8_isTooTired_22 : decode cX8_isTooTired 22 = .ok (.bipush 43, 2) := by decide +kernel
theorem dX8_isTooTired_24 : decode cX8_isTooTired 24 = .ok (.aload_n 0, 1) := by decide +kernel
theorem dX8_isTooTired_25 : decode cX8_isTooTired 25 = .ok (.iload_n 1, 1) := by decide +kernel
theorem dX8_isTooTired_26 : decode cX8_isTooTired 26 = .ok (.bipush 6, 2) := by decide +kernel
theorem dX8_isTooTired_28 : decode cX8_isTooTired 28 = .ok (.iload_n 3, 1) := by decide +kernel
theorem dX8_isTooTired_29 : decode cX8_isTooTired 29 = .ok (.iadd, 1) := by decide +kernel
theorem dX8_isTooTired_30 : decode cX8_isTooTired 30 = .ok (.invokevirtual 42, 3) := by decide +kernel
theorem dX8_isTooTired_33 : decode cX8_isTooTired 33 = .ok (.iadd, 1) := by decide +kernel
theorem dX8_isTooTired_34 : decode cX8_isTooTired 34 = .ok (.iaload, 1) := by decide +kernel
theorem dX8_isTooTired_35 : decode cX8_isTooTired 35 = .ok (.aload_n 0, 1) := by decide +kernel
theorem dX8_isTooTired_36 : decode cX8_isTooTired 36 = .ok (.getfield 7, 3) := by decide +kernel
theorem dX8_isTooTired_39 : decode cX8_isTooTired 39 = .ok (.iconst 3, 1) := by decide +kernel
theorem dX8_isTooTired_40 : decode cX8_isTooTired 40 = .ok (.iaload, 1) := by decide +kernel
theorem dX8_isTooTired_41 : decode cX8_isTooTired 41 = .ok (.if_icmp .le 7, 3) := by decide +kernel
theorem dX8_isTooTired_44 : decode cX8_isTooTired 44 = .ok (.iconst 1, 1) := by decide +kernel
theorem dX8_isTooTired_45 : decode cX8_isTooTired 45 = .ok (.goto 4, 3) := by decide +kernel
theorem dX8_isTooTired_48 : decode cX8_isTooTired 48 = .ok (.iconst 0, 1) := by decide +kernel
theorem dX8_isTooTired_49 : decode cX8_isTooTired 49 = .ok (.istore_n 2, 1) := by decide +kernel
theorem dX8_isTooTired_50 : decode cX8_isTooTired 50 = .ok (.iinc 3 1, 3) := by decide +kernel
theorem dX8_isTooTired_53 : decode cX8_isTooTired 53 = .ok (.goto (-49), 3) := by decide +kernel
theorem dX8_isTooTired_56 : decode cX8_isTooTired 56 = .ok (.iload_n 2, 1) := by decide +kernel
theorem dX8_isTooTired_57 : decode cX8_isTooTired 57 = .ok (.ireturn, 1) := by decide +kernel
theorem dX8_adjourn_0 : decode cX8_adjourn 0 = .ok (.aload_n 0, 1) := by decide +kernel
theorem dX8_adjourn_1 : decode cX8_adjourn 1 = .ok (.getfield 7, 3) := by decide +kernel
theorem dX8_adjourn_4 : decode cX8_adjourn 4 = .ok (.bipush 12, 2) := by decide +kernel
theorem dX8_adjourn_6 : decode cX8_adjourn 6 = .ok (.dup2, 1) := by decide +kernel
theorem dX8_adjourn_7 : decode cX8_adjourn 7 = .ok (.iaload, 1) := by decide +kernel
theorem dX8_adjourn_8 : decode cX8_adjourn 8 = .ok (.aload_n 0, 1) := by decide +kernel
theorem dX8_adjourn_9 : decode cX8_adjourn 9 = .ok (.iload_n 1, 1) := by decide +kernel
theorem dX8_adjourn_10 : decode cX8_adjourn 10 = .ok (.iconst 1, 1) := by decide +kernel
theorem dX8_adjourn_11 : decode cX8_adjourn 11 = .ok (.invokevirtual 131, 3) := by decide +kernel
theorem dX8_adjourn_14 : decode cX8_adjourn 14 = .ok (.iadd, 1) := by decide +kernel
theorem dX8_adjourn_15 : decode cX8_adjourn 15 = .ok (.iastore, 1) := by decide +kernel
theorem dX8_adjourn_16 : decode cX8_adjourn 16 = .ok (.aload_n 0, 1) := by decide +kernel
theorem dX8_adjourn_17 : decode cX8_adjourn 17 = .ok (.iload_n 1, 1) := by decide +kernel
theorem dX8_adjourn_18 : decode cX8_adjourn 18 = .ok (.iconst 4, 1) := by decide +kernel
theorem dX8_adjourn_19 : decode cX8_adjourn 19 = .ok (.iconst 2, 1) := by decide +kernel
theorem dX8_adjourn_20 : decode cX8_adjourn 20 = .ok (.invokevirtual 74, 3) := by decide +kernel
theorem dX8_adjourn_23 : decode cX8_adjourn 23 = .ok (.return_, 1) := by decide +kernel
theorem dX8_minute_0 : decode cX8_minute 0 = .ok (.aload_n 0, 1) := by decide +kernel
theorem dX8_minute_1 : decode cX8_minute 1 = .ok (.invokevirtual 137, 3) := by decide +kernel
theorem dX8_minute_4 : decode cX8_minute 4 = .ok (.aload_n 0, 1) := by decide +kernel
theorem dX8_minute_5 : decode cX8_minute 5 = .ok (.getfield 7, 3) := by decide +kernel
theorem dX8_minute_8 : decode cX8_minute 8 = .ok (.bipush 9, 2) := by decide +kernel
theorem dX8_minute_10 : decode cX8_minute 10 = .ok (.dup2, 1) := by decide +kernel
theorem dX8_minute_11 : decode cX8_minute 11 = .ok (.iaload, 1) := by decide +kernel
theorem dX8_minute_12 : decode cX8_minute 12 = .ok (.iconst 1, 1) := by decide +kernel
theorem dX8_minute_13 : decode cX8_minute 13 = .ok (.iadd, 1) := by decide +kernel
theorem dX8_minute_14 : decode cX8_minute 14 = .ok (.iastore, 1) := by decide +kernel
theorem dX8_minute_15 : decode cX8_minute 15 = .ok (.iconst 0, 1) := by decide +kernel
theorem dX8_minute_16 : decode cX8_minute 16 = .ok (.istore_n 1, 1) := by decide +kernel
theorem dX8_minute_17 : decode cX8_minute 17 = .ok (.iconst 0, 1) := by decide +kernel
theorem dX8_minute_18 : decode cX8_minute 18 = .ok (.istore_n 2, 1) := by decide +kernel
theorem dX8_minute_19 : decode cX8_minute 19 = .ok (.iload_n 2, 1) := by decide +kernel
theorem dX8_minute_20 : decode cX8_minute 20 = .ok (.aload_n 0, 1) := by decide +kernel
theorem dX8_minute_21 : decode cX8_minute 21 = .ok (.getfield 7, 3) := by decide +kernel
theorem dX8_minute_24 : decode cX8_minute 24 = .ok (.bipush 8, 2) := by decide +kernel
theorem dX8_minute_26 : decode cX8_minute 26 = .ok (.iaload, 1) := by decide +kernel
theorem dX8_minute_27 : decode cX8_minute 27 = .ok (.if_icmp .ge 66, 3) := by decide +kernel
theorem dX8_minute_30 : decode cX8_minute 30 = .ok (.aload_n 0, 1) := by decide +kernel
theorem dX8_minute_31 : decode cX8_minute 31 = .ok (.iload_n 2, 1) := by decide +kernel
theorem dX8_minute_32 : decode cX8_minute 32 = .ok (.invokevirtual 50, 3) := by decide +kernel
theorem dX8_minute_35 : decode cX8_minute 35 = .ok (.ifCond .eq 52, 3) := by decide +kernel
theorem dX8_minute_38 : decode cX8_minute 38 = .ok (.aload_n 0, 1) := by decide +kernel
theorem dX8_minute_39 : decode cX8_minute 39 = .ok (.iload_n 2, 1) := by decide +kernel
theorem dX8_minute_40 : decode cX8_minute 40 = .ok (.invokevirtual 46, 3) := by decide +kernel
theorem dX8_minute_43 : decode cX8_minute 43 = .ok (.aload_n 0, 1) := by decide +kernel
theorem dX8_minute_44 : decode cX8_minute 44 = .ok (.getfield 7, 3) := by decide +kernel
theorem dX8_minute_47 : decode cX8_minute 47 = .ok (.bipush 9, 2) := by decide +kernel
theorem dX8_minute_49 : decode cX8_minute 49 = .ok (.iaload, 1) := by decide +kernel
theorem dX8_minute_50 : decode cX8_minute 50 = .ok (.if_icmp .ne 37, 3) := by decide +kernel
theorem dX8_minute_53 : decode cX8_minute 53 = .ok (.aload_n 0, 1) := by decide +kernel
theorem dX8_minute_54 : decode cX8_minute 54 = .ok (.iload_n 2, 1) := by decide +kernel
theorem dX8_minute_55 : decode cX8_minute 55 = .ok (.iconst 5, 1) := by decide +kernel
theorem dX8_minute_56 : decode cX8_minute 56 = .ok (.invokevirtual 42, 3) := by decide +kernel
theorem dX8_minute_59 : decode cX8_minute 59 = .ok (.ifCond .le 23, 3) := by decide +kernel
theorem dX8_minute_62 : decode cX8_minute 62 = .ok (.aload_n 0, 1) := by decide +kernel
theorem dX8_minute_63 : decode cX8_minute 63 = .ok (.iload_n 2, 1) := by decide +kernel
theorem dX8_minute_64 : decode cX8_minute 64 = .ok (.iconst 2, 1) := by decide +kernel
theorem dX8_minute_65 : decode cX8_minute 65 = .ok (.invokevirtual 131, 3) := by decide +kernel
theorem dX8_minute_68 : decode cX8_minute 68 = .ok (.istore_n 3, 1) := by decide +kernel
theorem dX8_minute_69 : decode cX8_minute 69 = .ok (.aload_n 0, 1) := by decide +kernel
theorem dX8_minute_70 : decode cX8_minute 70 = .ok (.iload_n 2, 1) := by decide +kernel
theorem dX8_minute_71 : decode cX8_minute 71 = .ok (.iconst 4, 1) := by decide +kernel
theorem dX8_minute_72 : decode cX8_minute 72 = .ok (.iconst 1, 1) := by decide +kernel
theorem dX8_minute_73 : decode cX8_minute 73 = .ok (.invokevirtual 74, 3) := by decide +kernel
theorem dX8_minute_76 : decode cX8_minute 76 = .ok (.iinc 1 1, 3) := by decide +kernel
theorem dX8_minute_79 : decode cX8_minute 79 = .ok (.goto 8, 3) := by decide +kernel
theorem dX8_minute_82 : decode cX8_minute 82 = .ok (.aload_n 0, 1) := by decide +kernel
theorem dX8_minute_83 : decode cX8_minute 83 = .ok (.iload_n 2, 1) := by decide +kernel
theorem dX8_minute_84 : decode cX8_minute 84 = .ok (.invokevirtual 140, 3) := by decide +kernel
theorem dX8_minute_87 : decode cX8_minute 87 = .ok (.iinc 2 1, 3) := by decide +kernel
theorem dX8_minute_90 : decode cX8_minute 90 = .ok (.goto (-71), 3) := by decide +kernel
theorem dX8_minute_93 : decode cX8_minute 93 = .ok (.iconst 0, 1) := by decide +kernel
theorem dX8_minute_94 : decode cX8_minute 94 = .ok (.istore_n 2, 1) := by decide +kernel
theorem dX8_minute_95 : decode cX8_minute 95 = .ok (.iload_n 2, 1) := by decide +kernel
theorem dX8_minute_96 : decode cX8_minute 96 = .ok (.aload_n 0, 1) := by decide +kernel
theorem dX8_minute_97 : decode cX8_minute 97 = .ok (.getfield 7, 3) := by decide +kernel
theorem dX8_minute_100 : decode cX8_minute 100 = .ok (.bipush 8, 2) := by decide +kernel
theorem dX8_minute_102 : decode cX8_minute 102 = .ok (.iaload, 1) := by decide +kernel
theorem dX8_minute_103 : decode cX8_minute 103 = .ok (.if_icmp .ge 46, 3) := by decide +kernel
theorem dX8_minute_106 : decode cX8_minute 106 = .ok (.aload_n 0, 1) := by decide +kernel
theorem dX8_minute_107 : decode cX8_minute 107 = .ok (.iload_n 2, 1) := by decide +kernel
theorem dX8_minute_108 : decode cX8_minute 108 = .ok (.invokevirtual 50, 3) := by decide +kernel
theorem dX8_minute_111 : decode cX8_minute 111 = .ok (.ifCond .eq 32, 3) := by decide +kernel
theorem dX8_minute_114 : decode cX8_minute 114 = .ok (.aload_n 0, 1) := by decide +kernel
theorem dX8_minute_115 : decode cX8_minute 115 = .ok (.iload_n 2, 1) := by decide +kernel
theorem dX8_minute_116 : decode cX8_minute 116 = .ok (.iconst 2, 1) := by decide +kernel
theorem dX8_minute_117 : decode cX8_minute 117 = .ok (.invokevirtual 42, 3) := by decide +kernel
theorem dX8_minute_120 : decode cX8_minute 120 = .ok (.aload_n 0, 1) := by decide +kernel
theorem dX8_minute_121 : decode cX8_minute 121 = .ok (.getfield 7, 3) := by decide +kernel
theorem dX8_minute_124 : decode cX8_minute 124 = .ok (.bipush 9, 2) := by decide +kernel
theorem dX8_minute_126 : decode cX8_minute 126 = .ok (.iaload, 1) := by decide +kernel
theorem dX8_minute_127 : decode cX8_minute 127 = .ok (.if_icmp .ne 16, 3) := by decide +kernel
theorem dX8_minute_130 : decode cX8_minute 130 = .ok (.aload_n 0, 1) := by decide +kernel
theorem dX8_minute_131 : decode cX8_minute 131 = .ok (.iload_n 2, 1) := by decide +kernel
theorem dX8_minute_132 : decode cX8_minute 132 = .ok (.invokevirtual 143, 3) := by decide +kernel
theorem dX8_minute_135 : decode cX8_minute 135 = .ok (.ifCond .eq 8, 3) := by decide +kernel
theorem dX8_minute_138 : decode cX8_minute 138 = .ok (.aload_n 0, 1) := by decide +kernel
theorem dX8_minute_139 : decode cX8_minute 139 = .ok (.iload_n 2, 1) := by decide +kernel
theorem dX8_minute_140 : decode cX8_minute 140 = .ok (.invokevirtual 140, 3) := by decide +kernel
theorem dX8_minute_143 : decode cX8_minute 143 = .ok (.iinc 2 1, 3) := by decide +kernel
theorem dX8_minute_146 : decode cX8_minute 146 = .ok (.goto (-51), 3) := by decide +kernel
theorem dX8_minute_149 : decode cX8_minute 149 = .ok (.iload_n 1, 1) := by decide +kernel
theorem dX8_minute_150 : decode cX8_minute 150 = .ok (.ireturn, 1) := by decide +kernel
theorem dX8_go_0 : decode cX8_go 0 = .ok (.iconst 0, 1) := by decide +kernel
theorem dX8_go_1 : decode cX8_go 1 = .ok (.istore_n 2, 1) := by decide +kernel
theorem dX8_go_2 : decode cX8_go 2 = .ok (.iconst 0, 1) := by decide +kernel
theorem dX8_go_3 : decode cX8_go 3 = .ok (.istore_n 3, 1) := by decide +kernel
theorem dX8_go_4 : decode cX8_go 4 = .ok (.iload_n 3, 1) := by decide +kernel
theorem dX8_go_5 : decode cX8_go 5 = .ok (.iload_n 1, 1) := by decide +kernel
theorem dX8_go_6 : decode cX8_go 6 = .ok (.if_icmp .ge 20, 3) := by decide +kernel
theorem dX8_go_9 : decode cX8_go 9 = .ok (.aload_n 0, 1) := by decide +kernel
theorem dX8_go_10 : decode cX8_go 10 = .ok (.invokevirtual 146, 3) := by decide +kernel
theorem dX8_go_13 : decode cX8_go 13 = .ok (.istore 4, 2) := by decide +kernel
theorem dX8_go_15 : decode cX8_go 15 = .ok (.iload_n 2, 1) := by decide +kernel
theorem dX8_go_16 : decode cX8_go 16 = .ok (.iload 4, 2) := by decide +kernel
theorem dX8_go_18 : decode cX8_go 18 = .ok (.iadd, 1) := by decide +kernel
theorem dX8_go_19 : decode cX8_go 19 = .ok (.istore_n 2, 1) := by decide +kernel
theorem dX8_go_20 : decode cX8_go 20 = .ok (.iinc 3 1, 3) := by decide +kernel
theorem dX8_go_23 : decode cX8_go 23 = .ok (.goto (-19), 3) := by decide +kernel
theorem dX8_go_26 : decode cX8_go 26 = .ok (.iload_n 2, 1) := by decide +kernel
theorem dX8_go_27 : decode cX8_go 27 = .ok (.ireturn, 1) := by decide +kernel
theorem dX8_pass_0 : decode cX8_pass 0 = .ok (.aload_n 0, 1) := by decide +kernel
theorem dX8_pass_1 : decode cX8_pass 1 = .ok (.iload_n 1, 1) := by decide +kernel
theorem dX8_pass_2 : decode cX8_pass 2 = .ok (.iconst 1, 1) := by decide +kernel
theorem dX8_pass_3 : decode cX8_pass 3 = .ok (.sipush 500, 3) := by decide +kernel
theorem dX8_pass_6 : decode cX8_pass 6 = .ok (.invokestatic 38, 3) := by decide +kernel
theorem dX8_pass_9 : decode cX8_pass 9 = .ok (.ifCond .ne 7, 3) := by decide +kernel
theorem dX8_pass_12 : decode cX8_pass 12 = .ok (.iconst 1, 1) := by decide +kernel
theorem dX8_pass_13 : decode cX8_pass 13 = .ok (.goto 23, 3) := by decide +kernel
theorem dX8_pass_16 : decode cX8_pass 16 = .ok (.aload_n 0, 1) := by decide +kernel
theorem dX8_pass_17 : decode cX8_pass 17 = .ok (.getfield 7, 3) := by decide +kernel
theorem dX8_pass_20 : decode cX8_pass 20 = .ok (.bipush 9, 2) := by decide +kernel
theorem dX8_pass_22 : decode cX8_pass 22 = .ok (.iaload, 1) := by decide +kernel
theorem dX8_pass_23 : decode cX8_pass 23 = .ok (.iload_n 1, 1) := by decide +kernel
theorem dX8_pass_24 : decode cX8_pass 24 = .ok (.iadd, 1) := by decide +kernel
theorem dX8_pass_25 : decode cX8_pass 25 = .ok (.sipush 20000, 3) := by decide +kernel
theorem dX8_pass_28 : decode cX8_pass 28 = .ok (.if_icmp .le 7, 3) := by decide +kernel
theorem dX8_pass_31 : decode cX8_pass 31 = .ok (.iconst 2, 1) := by decide +kernel
theorem dX8_pass_32 : decode cX8_pass 32 = .ok (.goto 4, 3) := by decide +kernel
theorem dX8_pass_35 : decode cX8_pass 35 = .ok (.iconst 0, 1) := by decide +kernel
theorem dX8_pass_36 : decode cX8_pass 36 = .ok (.putfield 31, 3) := by decide +kernel
theorem dX8_pass_39 : decode cX8_pass 39 = .ok (.aload_n 0, 1) := by decide +kernel
theorem dX8_pass_40 : decode cX8_pass 40 = .ok (.getfield 31, 3) := by decide +kernel
theorem dX8_pass_43 : decode cX8_pass 43 = .ok (.ifCond .le 5, 3) := by decide +kernel
theorem dX8_pass_46 : decode cX8_pass 46 = .ok (.iconst 0, 1) := by decide +kernel
theorem dX8_pass_47 : decode cX8_pass 47 = .ok (.ireturn, 1) := by decide +kernel
theorem dX8_pass_48 : decode cX8_pass 48 = .ok (.aload_n 0, 1) := by decide +kernel
theorem dX8_pass_49 : decode cX8_pass 49 = .ok (.invokevirtual 71, 3) := by decide +kernel
theorem dX8_pass_52 : decode cX8_pass 52 = .ok (.aload_n 0, 1) := by decide +kernel
theorem dX8_pass_53 : decode cX8_pass 53 = .ok (.iload_n 1, 1) := by decide +kernel
theorem dX8_pass_54 : decode cX8_pass 54 = .ok (.invokevirtual 150, 3) := by decide +kernel
theorem dX8_pass_57 : decode cX8_pass 57 = .ok (.ireturn, 1) := by decide +kernel
theorem dX8_append_0 : decode cX8_append 0 = .ok (.aload_n 0, 1) := by decide +kernel
theorem dX8_append_1 : decode cX8_append 1 = .ok (.iload_n 1, 1) := by decide +kernel
theorem dX8_append_2 : decode cX8_append 2 = .ok (.bipush 33, 2) := by decide +kernel
theorem dX8_append_4 : decode cX8_append 4 = .ok (.bipush 126, 2) := by decide +kernel
theorem dX8_append_6 : decode cX8_append 6 = .ok (.invokestatic 38, 3) := by decide +kernel
theorem dX8_append_9 : decode cX8_append 9 = .ok (.ifCond .ne 7, 3) := by decide +kernel
theorem dX8_append_12 : decode cX8_append 12 = .ok (.iconst 1, 1) := by decide +kernel
theorem dX8_append_13 : decode cX8_append 13 = .ok (.goto 17, 3) := by decide +kernel
theorem dX8_append_16 : decode cX8_append 16 = .ok (.aload_n 0, 1) := by decide +kernel
theorem dX8_append_17 : decode cX8_append 17 = .ok (.getfield 153, 3) := by decide +kernel
theorem dX8_append_20 : decode cX8_append 20 = .ok (.bipush 60, 2) := by decide +kernel
theorem dX8_append_22 : decode cX8_append 22 = .ok (.if_icmp .ne 7, 3) := by decide +kernel
theorem dX8_append_25 : decode cX8_append 25 = .ok (.iconst 2, 1) := by decide +kernel
theorem dX8_append_26 : decode cX8_append 26 = .ok (.goto 4, 3) := by decide +kernel
theorem dX8_append_29 : decode cX8_append 29 = .ok (.iconst 0, 1) := by decide +kernel
theorem dX8_append_30 : decode cX8_append 30 = .ok (.putfield 31, 3) := by decide +kernel
theorem dX8_append_33 : decode cX8_append 33 = .ok (.aload_n 0, 1) := by decide +kernel
theorem dX8_append_34 : decode cX8_append 34 = .ok (.getfield 31, 3) := by decide +kernel
theorem dX8_append_37 : decode cX8_append 37 = .ok (.ifCond .le 5, 3) := by decide +kernel
theorem dX8_append_40 : decode cX8_append 40 = .ok (.iconst 0, 1) := by decide +kernel
theorem dX8_append_41 : decode cX8_append 41 = .ok (.ireturn, 1) := by decide +kernel
theorem dX8_append_42 : decode cX8_append 42 = .ok (.aload_n 0, 1) := by decide +kernel
theorem dX8_append_43 : decode cX8_append 43 = .ok (.getfield 16, 3) := by decide +kernel
theorem dX8_append_46 : decode cX8_append 46 = .ok (.aload_n 0, 1) := by decide +kernel
theorem dX8_append_47 : decode cX8_append 47 = .ok (.getfield 153, 3) := by decide +kernel
theorem dX8_append_50 : decode cX8_append 50 = .ok (.iload_n 1, 1) := by decide +kernel
theorem dX8_append_51 : decode cX8_append 51 = .ok (.iastore, 1) := by decide +kernel
theorem dX8_append_52 : decode cX8_append 52 = .ok (.aload_n 0, 1) := by decide +kernel
theorem dX8_append_53 : decode cX8_append 53 = .ok (.dup, 1) := by decide +kernel
theorem dX8_append_54 : decode cX8_append 54 = .ok (.getfield 153, 3) := by decide +kernel
theorem dX8_append_57 : decode cX8_append 57 = .ok (.iconst 1, 1) := by decide +kernel
theorem dX8_append_58 : decode cX8_append 58 = .ok (.iadd, 1) := by decide +kernel
theorem dX8_append_59 : decode cX8_append 59 = .ok (.putfield 153, 3) := by decide +kernel
theorem dX8_append_62 : decode cX8_append 62 = .ok (.aload_n 0, 1) := by decide +kernel
theorem dX8_append_63 : decode cX8_append 63 = .ok (.getfield 153, 3) := by decide +kernel
theorem dX8_append_66 : decode cX8_append 66 = .ok (.ireturn, 1) := by decide +kernel
theorem dX8_clearBuffer_0 : decode cX8_clearBuffer 0 = .ok (.aload_n 0, 1) := by decide +kernel
theorem dX8_clearBuffer_1 : decode cX8_clearBuffer 1 = .ok (.iconst 0, 1) := by decide +kernel
theorem dX8_clearBuffer_2 : decode cX8_clearBuffer 2 = .ok (.putfield 31, 3) := by decide +kernel
theorem dX8_clearBuffer_5 : decode cX8_clearBuffer 5 = .ok (.aload_n 0, 1) := by decide +kernel
theorem dX8_clearBuffer_6 : decode cX8_clearBuffer 6 = .ok (.getfield 153, 3) := by decide +kernel
theorem dX8_clearBuffer_9 : decode cX8_clearBuffer 9 = .ok (.istore_n 1, 1) := by decide +kernel
theorem dX8_clearBuffer_10 : decode cX8_clearBuffer 10 = .ok (.aload_n 0, 1) := by decide +kernel
theorem dX8_clearBuffer_11 : decode cX8_clearBuffer 11 = .ok (.iconst 0, 1) := by decide +kernel
theorem dX8_clearBuffer_12 : decode cX8_clearBuffer 12 = .ok (.putfield 153, 3) := by decide +kernel
theorem dX8_clearBuffer_15 : decode cX8_clearBuffer 15 = .ok (.iload_n 1, 1) := by decide +kernel
theorem dX8_clearBuffer_16 : decode cX8_clearBuffer 16 = .ok (.ireturn, 1) := by decide +kernel
theorem dX8_takesDigit_0 : decode cX8_takesDigit 0 = .ok (.aload_n 0, 1) := by decide +kernel
theorem dX8_takesDigit_1 : decode cX8_takesDigit 1 = .ok (.getfield 156, 3) := by decide +kernel
theorem dX8_takesDigit_4 : decode cX8_takesDigit 4 = .ok (.iconst (-1), 1) := by decide +kernel
theorem dX8_takesDigit_5 : decode cX8_takesDigit 5 = .ok (.if_icmp .ne 7, 3) := by decide +kernel
theorem dX8_takesDigit_8 : decode cX8_takesDigit 8 = .ok (.iload_n 1, 1) := by decide +kernel
theorem dX8_takesDigit_9 : decode cX8_takesDigit 9 = .ok (.goto 12, 3) := by decide +kernel
theorem dX8_takesDigit_12 : decode cX8_takesDigit 12 = .ok (.bipush 10, 2) := by decide +kernel
theorem dX8_takesDigit_14 : decode cX8_takesDigit 14 = .ok (.aload_n 0, 1) := by decide +kernel
theorem dX8_takesDigit_15 : decode cX8_takesDigit 15 = .ok (.getfield 156, 3) := by decide +kernel
theorem dX8_takesDigit_18 : decode cX8_takesDigit 18 = .ok (.imul, 1) := by decide +kernel
theorem dX8_takesDigit_19 : decode cX8_takesDigit 19 = .ok (.iload_n 1, 1) := by decide +kernel
theorem dX8_takesDigit_20 : decode cX8_takesDigit 20 = .ok (.iadd, 1) := by decide +kernel
theorem dX8_takesDigit_21 : decode cX8_takesDigit 21 = .ok (.istore_n 2, 1) := by decide +kernel
theorem dX8_takesDigit_22 : decode cX8_takesDigit 22 = .ok (.iload_n 1, 1) := by decide +kernel
theorem dX8_takesDigit_23 : decode cX8_takesDigit 23 = .ok (.iconst 0, 1) := by decide +kernel
theorem dX8_takesDigit_24 : decode cX8_takesDigit 24 = .ok (.bipush 9, 2) := by decide +kernel
theorem dX8_takesDigit_26 : decode cX8_takesDigit 26 = .ok (.invokestatic 38, 3) := by decide +kernel
theorem dX8_takesDigit_29 : decode cX8_takesDigit 29 = .ok (.ifCond .eq 32, 3) := by decide +kernel
theorem dX8_takesDigit_32 : decode cX8_takesDigit 32 = .ok (.iload_n 2, 1) := by decide +kernel
theorem dX8_takesDigit_33 : decode cX8_takesDigit 33 = .ok (.ifCond .le 28, 3) := by decide +kernel
theorem dX8_takesDigit_36 : decode cX8_takesDigit 36 = .ok (.iload_n 2, 1) := by decide +kernel
theorem dX8_takesDigit_37 : decode cX8_takesDigit 37 = .ok (.aload_n 0, 1) := by decide +kernel
theorem dX8_takesDigit_38 : decode cX8_takesDigit 38 = .ok (.getfield 159, 3) := by decide +kernel
theorem dX8_takesDigit_41 : decode cX8_takesDigit 41 = .ok (.iconst 3, 1) := by decide +kernel
theorem dX8_takesDigit_42 : decode cX8_takesDigit 42 = .ok (.if_icmp .ne 9, 3) := by decide +kernel
theorem dX8_takesDigit_45 : decode cX8_takesDigit 45 = .ok (.sipush 2000, 3) := by decide +kernel
theorem dX8_takesDigit_48 : decode cX8_takesDigit 48 = .ok (.goto 6, 3) := by decide +kernel
theorem dX8_takesDigit_51 : decode cX8_takesDigit 51 = .ok (.sipush 240, 3) := by decide +kernel
theorem dX8_takesDigit_54 : decode cX8_takesDigit 54 = .ok (.if_icmp .gt 7, 3) := by decide +kernel
theorem dX8_takesDigit_57 : decode cX8_takesDigit 57 = .ok (.iconst 1, 1) := by decide +kernel
theorem dX8_takesDigit_58 : decode cX8_takesDigit 58 = .ok (.goto 4, 3) := by decide +kernel
theorem dX8_takesDigit_61 : decode cX8_takesDigit 61 = .ok (.iconst 0, 1) := by decide +kernel
theorem dX8_takesDigit_62 : decode cX8_takesDigit 62 = .ok (.istore_n 3, 1) := by decide +kernel
theorem dX8_takesDigit_63 : decode cX8_takesDigit 63 = .ok (.aload_n 0, 1) := by decide +kernel
theorem dX8_takesDigit_64 : decode cX8_takesDigit 64 = .ok (.iload_n 3, 1) := by decide +kernel
theorem dX8_takesDigit_65 : decode cX8_takesDigit 65 = .ok (.ifCond .eq 7, 3) := by decide +kernel
theorem dX8_takesDigit_68 : decode cX8_takesDigit 68 = .ok (.iload_n 2, 1) := by decide +kernel
theorem dX8_takesDigit_69 : decode cX8_takesDigit 69 = .ok (.goto 7, 3) := by decide +kernel
theorem dX8_takesDigit_72 : decode cX8_takesDigit 72 = .ok (.aload_n 0, 1) := by decide +kernel
theorem dX8_takesDigit_73 : decode cX8_takesDigit 73 = .ok (.getfield 156, 3) := by decide +kernel
theorem dX8_takesDigit_76 : decode cX8_takesDigit 76 = .ok (.putfield 156, 3) := by decide +kernel
theorem dX8_takesDigit_79 : decode cX8_takesDigit 79 = .ok (.iload_n 3, 1) := by decide +kernel
theorem dX8_takesDigit_80 : decode cX8_takesDigit 80 = .ok (.ireturn, 1) := by decide +kernel
theorem dX8_takesKind_0 : decode cX8_takesKind 0 = .ok (.aload_n 0, 1) := by decide +kernel
theorem dX8_takesKind_1 : decode cX8_takesKind 1 = .ok (.getfield 22, 3) := by decide +kernel
theorem dX8_takesKind_4 : decode cX8_takesKind 4 = .ok (.iconst 4, 1) := by decide +kernel
theorem dX8_takesKind_5 : decode cX8_takesKind 5 = .ok (.aload_n 0, 1) := by decide +kernel
theorem dX8_takesKind_6 : decode cX8_takesKind 6 = .ok (.getfield 162, 3) := by decide +kernel
theorem dX8_takesKind_9 : decode cX8_takesKind 9 = .ok (.imul, 1) := by decide +kernel
theorem dX8_takesKind_10 : decode cX8_takesKind 10 = .ok (.iload_n 1, 1) := by decide +kernel
theorem dX8_takesKind_11 : decode cX8_takesKind 11 = .ok (.bipush 99, 2) := by decide +kernel
theorem dX8_takesKind_13 : decode cX8_takesKind 13 = .ok (.if_icmp .ne 7, 3) := by decide +kernel
theorem dX8_takesKind_16 : decode cX8_takesKind 16 = .ok (.iconst 0, 1) := by decide +kernel
theorem dX8_takesKind_17 : decode cX8_takesKind 17 = .ok (.goto 14, 3) := by decide +kernel
theorem dX8_takesKind_20 : decode cX8_takesKind 20 = .ok (.iload_n 1, 1) := by decide +kernel
theorem dX8_takesKind_21 : decode cX8_takesKind 21 = .ok (.bipush 114, 2) := by decide +kernel
theorem dX8_takesKind_23 : decode cX8_takesKind 23 = .ok (.if_icmp .ne 7, 3) := by decide +kernel
theorem dX8_takesKind_26 : decode cX8_takesKind 26 = .ok (.iconst 1, 1) := by decide +kernel
theorem dX8_takesKind_27 : decode cX8_takesKind 27 = .ok (.goto 4, 3) := by decide +kernel
theorem dX8_takesKind_30 : decode cX8_takesKind 30 = .ok (.iconst 2, 1) := by decide +kernel
theorem dX8_takesKind_31 : decode cX8_takesKind 31 = .ok (.iastore, 1) := by decide +kernel
theorem dX8_takesKind_32 : decode cX8_takesKind 32 = .ok (.aload_n 0, 1) := by decide +kernel
theorem dX8_takesKind_33 : decode cX8_takesKind 33 = .ok (.iconst 1, 1) := by decide +kernel
theorem dX8_takesKind_34 : decode cX8_takesKind 34 = .ok (.putfield 159, 3) := by decide +kernel
theorem dX8_takesKind_37 : decode cX8_takesKind 37 = .ok (.iload_n 1, 1) := by decide +kernel
theorem dX8_takesKind_38 : decode cX8_takesKind 38 = .ok (.bipush 99, 2) := by decide +kernel
theorem dX8_takesKind_40 : decode cX8_takesKind 40 = .ok (.if_icmp .eq 15, 3) := by decide +kernel
theorem dX8_takesKind_43 : decode cX8_takesKind 43 = .ok (.iload_n 1, 1) := by decide +kernel
theorem dX8_takesKind_44 : decode cX8_takesKind 44 = .ok (.bipush 114, 2) := by decide +kernel
theorem dX8_takesKind_46 : decode cX8_takesKind 46 = .ok (.if_icmp .eq 9, 3) := by decide +kernel
theorem dX8_takesKind_49 : decode cX8_takesKind 49 = .ok (.iload_n 1, 1) := by decide +kernel
theorem dX8_takesKind_50 : decode cX8_takesKind 50 = .ok (.bipush 97, 2) := by decide +kernel
theorem dX8_takesKind_52 : decode cX8_takesKind 52 = .ok (.if_icmp .ne 7, 3) := by decide +kernel
theorem dX8_takesKind_55 : decode cX8_takesKind 55 = .ok (.iconst 1, 1) := by decide +kernel
theorem dX8_takesKind_56 : decode cX8_takesKind 56 = .ok (.goto 4, 3) := by decide +kernel
theorem dX8_takesKind_59 : decode cX8_takesKind 59 = .ok (.iconst 0, 1) := by decide +kernel
theorem dX8_takesKind_60 : decode cX8_takesKind 60 = .ok (.ireturn, 1) := by decide +kernel
theorem dX8_takes_0 : decode cX8_takes 0 = .ok (.aload_n 0, 1) := by decide +kernel
theorem dX8_takes_1 : decode cX8_takes 1 = .ok (.getfield 159, 3) := by decide +kernel
theorem dX8_takes_4 : decode cX8_takes 4 = .ok (.tableswitch 82 0 2 #[28, 34, 65], 28) := by decide +kernel
theorem dX8_takes_32 : decode cX8_takes 32 = .ok (.aload_n 0, 1) := by decide +kernel
theorem dX8_takes_33 : decode cX8_takes 33 = .ok (.iload_n 1, 1) := by decide +kernel
theorem dX8_takes_34 : decode cX8_takes 34 = .ok (.invokevirtual 165, 3) := by decide +kernel
theorem dX8_takes_37 : decode cX8_takes 37 = .ok (.ireturn, 1) := by decide +kernel
theorem dX8_takes_38 : decode cX8_takes 38 = .ok (.aload_n 0, 1) := by decide +kernel
theorem dX8_takes_39 : decode cX8_takes 39 = .ok (.getfield 22, 3) := by decide +kernel
theorem dX8_takes_42 : decode cX8_takes 42 = .ok (.iconst 4, 1) := by decide +kernel
theorem dX8_takes_43 : decode cX8_takes 43 = .ok (.aload_n 0, 1) := by decide +kernel
theorem dX8_takes_44 : decode cX8_takes 44 = .ok (.getfield 162, 3) := by decide +kernel
theorem dX8_takes_47 : decode cX8_takes 47 = .ok (.imul, 1) := by decide +kernel
theorem dX8_takes_48 : decode cX8_takes 48 = .ok (.iconst 1, 1) := by decide +kernel
theorem dX8_takes_49 : decode cX8_takes 49 = .ok (.iadd, 1) := by decide +kernel
theorem dX8_takes_50 : decode cX8_takes 50 = .ok (.iload_n 1, 1) := by decide +kernel
theorem dX8_takes_51 : decode cX8_takes 51 = .ok (.bipush 48, 2) := by decide +kernel
theorem dX8_takes_53 : decode cX8_takes 53 = .ok (.isub, 1) := by decide +kernel
theorem dX8_takes_54 : decode cX8_takes 54 = .ok (.iastore, 1) := by decide +kernel
theorem dX8_takes_55 : decode cX8_takes 55 = .ok (.aload_n 0, 1) := by decide +kernel
theorem dX8_takes_56 : decode cX8_takes 56 = .ok (.iconst 2, 1) := by decide +kernel
theorem dX8_takes_57 : decode cX8_takes 57 = .ok (.putfield 159, 3) := by decide +kernel
theorem dX8_takes_60 : decode cX8_takes 60 = .ok (.iload_n 1, 1) := by decide +kernel
theorem dX8_takes_61 : decode cX8_takes 61 = .ok (.bipush 49, 2) := by decide +kernel
theorem dX8_takes_63 : decode cX8_takes 63 = .ok (.bipush 57, 2) := by decide +kernel
theorem dX8_takes_65 : decode cX8_takes 65 = .ok (.invokestatic 38, 3) := by decide +kernel
theorem dX8_takes_68 : decode cX8_takes 68 = .ok (.ireturn, 1) := by decide +kernel
theorem dX8_takes_69 : decode cX8_takes 69 = .ok (.aload_n 0, 1) := by decide +kernel
theorem dX8_takes_70 : decode cX8_takes 70 = .ok (.iconst 3, 1) := by decide +kernel
theorem dX8_takes_71 : decode cX8_takes 71 = .ok (.putfield 159, 3) := by decide +kernel
theorem dX8_takes_74 : decode cX8_takes 74 = .ok (.iload_n 1, 1) := by decide +kernel
theorem dX8_takes_75 : decode cX8_takes 75 = .ok (.bipush 64, 2) := by decide +kernel
theorem dX8_takes_77 : decode cX8_takes 77 = .ok (.if_icmp .ne 7, 3) := by decide +kernel
theorem dX8_takes_80 : decode cX8_takes 80 = .ok (.iconst 1, 1) := by decide +kernel
theorem dX8_takes_81 : decode cX8_takes 81 = .ok (.goto 4, 3) := by decide +kernel
theorem dX8_takes_84 : decode cX8_takes 84 = .ok (.iconst 0, 1) := by decide +kernel
theorem dX8_takes_85 : decode cX8_takes 85 = .ok (.ireturn, 1) := by decide +kernel
theorem dX8_takes_86 : decode cX8_takes 86 = .ok (.iload_n 1, 1) := by decide +kernel
theorem dX8_takes_87 : decode cX8_takes 87 = .ok (.bipush 43, 2) := by decide +kernel
theorem dX8_takes_89 : decode cX8_takes 89 = .ok (.if_icmp .ne 48, 3) := by decide +kernel
theorem dX8_takes_92 : decode cX8_takes 92 = .ok (.aload_n 0, 1) := by decide +kernel
theorem dX8_takes_93 : decode cX8_takes 93 = .ok (.getfield 159, 3) := by decide +kernel
theorem dX8_takes_96 : decode cX8_takes 96 = .ok (.iconst 3, 1) := by decide +kernel
theorem dX8_takes_97 : decode cX8_takes 97 = .ok (.if_icmp .ne 40, 3) := by decide +kernel
theorem dX8_takes_100 : decode cX8_takes 100 = .ok (.aload_n 0, 1) := by decide +kernel
theorem dX8_takes_101 : decode cX8_takes 101 = .ok (.getfield 156, 3) := by decide +kernel
theorem dX8_takes_104 : decode cX8_takes 104 = .ok (.iconst (-1), 1) := by decide +kernel
theorem dX8_takes_105 : decode cX8_takes 105 = .ok (.if_icmp .eq 32, 3) := by decide +kernel
theorem dX8_takes_108 : decode cX8_takes 108 = .ok (.aload_n 0, 1) := by decide +kernel
theorem dX8_takes_109 : decode cX8_takes 109 = .ok (.getfield 22, 3) := by decide +kernel
theorem dX8_takes_112 : decode cX8_takes 112 = .ok (.iconst 4, 1) := by decide +kernel
theorem dX8_takes_113 : decode cX8_takes 113 = .ok (.aload_n 0, 1) := by decide +kernel
theorem dX8_takes_114 : decode cX8_takes 114 = .ok (.getfield 162, 3) := by decide +kernel
theorem dX8_takes_117 : decode cX8_takes 117 = .ok (.imul, 1) := by decide +kernel
theorem dX8_takes_118 : decode cX8_takes 118 = .ok (.iconst 2, 1) := by decide +kernel
theorem dX8_takes_119 : decode cX8_takes 119 = .ok (.iadd, 1) := by decide +kernel
theorem dX8_takes_120 : decode cX8_takes 120 = .ok (.aload_n 0, 1) := by decide +kernel
theorem dX8_takes_121 : decode cX8_takes 121 = .ok (.getfield 156, 3) := by decide +kernel
theorem dX8_takes_124 : decode cX8_takes 124 = .ok (.iastore, 1) := by decide +kernel
theorem dX8_takes_125 : decode cX8_takes 125 = .ok (.aload_n 0, 1) := by decide +kernel
theorem dX8_takes_126 : decode cX8_takes 126 = .ok (.iconst (-1), 1) := by decide +kernel
theorem dX8_takes_127 : decode cX8_takes 127 = .ok (.putfield 156, 3) := by decide +kernel
theorem dX8_takes_130 : decode cX8_takes 130 = .ok (.aload_n 0, 1) := by decide +kernel
theorem dX8_takes_131 : decode cX8_takes 131 = .ok (.iconst 4, 1) := by decide +kernel
theorem dX8_takes_132 : decode cX8_takes 132 = .ok (.putfield 159, 3) := by decide +kernel
theorem dX8_takes_135 : decode cX8_takes 135 = .ok (.iconst 1, 1) := by decide +kernel
theorem dX8_takes_136 : decode cX8_takes 136 = .ok (.ireturn, 1) := by decide +kernel
theorem dX8_takes_137 : decode cX8_takes 137 = .ok (.iload_n 1, 1) := by decide +kernel
theorem dX8_takes_138 : decode cX8_takes 138 = .ok (.bipush 44, 2) := by decide +kernel
theorem dX8_takes_140 : decode cX8_takes 140 = .ok (.if_icmp .ne 31, 3) := by decide +kernel
theorem dX8_takes_143 : decode cX8_takes 143 = .ok (.aload_n 0, 1) := by decide +kernel
theorem dX8_takes_144 : decode cX8_takes 144 = .ok (.getfield 159, 3) := by decide +kernel
theorem dX8_takes_147 : decode cX8_takes 147 = .ok (.iconst 4, 1) := by decide +kernel
theorem dX8_takes_148 : decode cX8_takes 148 = .ok (.if_icmp .ne 23, 3) := by decide +kernel
theorem dX8_takes_151 : decode cX8_takes 151 = .ok (.aload_n 0, 1) := by decide +kernel
theorem dX8_takes_152 : decode cX8_takes 152 = .ok (.getfield 156, 3) := by decide +kernel
theorem dX8_takes_155 : decode cX8_takes 155 = .ok (.bipush 9, 2) := by decide +kernel
theorem dX8_takes_157 : decode cX8_takes 157 = .ok (.if_icmp .le 14, 3) := by decide +kernel
theorem dX8_takes_160 : decode cX8_takes 160 = .ok (.aload_n 0, 1) := by decide +kernel
theorem dX8_takes_161 : decode cX8_takes 161 = .ok (.invokevirtual 168, 3) := by decide +kernel
theorem dX8_takes_164 : decode cX8_takes 164 = .ok (.aload_n 0, 1) := by decide +kernel
theorem dX8_takes_165 : decode cX8_takes 165 = .ok (.iconst 0, 1) := by decide +kernel
theorem dX8_takes_166 : decode cX8_takes 166 = .ok (.putfield 159, 3) := by decide +kernel
theorem dX8_takes_169 : decode cX8_takes 169 = .ok (.iconst 1, 1) := by decide +kernel
theorem dX8_takes_170 : decode cX8_takes 170 = .ok (.ireturn, 1) := by decide +kernel
theorem dX8_takes_171 : decode cX8_takes 171 = .ok (.aload_n 0, 1) := by decide +kernel
theorem dX8_takes_172 : decode cX8_takes 172 = .ok (.iload_n 1, 1) := by decide +kernel
theorem dX8_takes_173 : decode cX8_takes 173 = .ok (.bipush 48, 2) := by decide +kernel
theorem dX8_takes_175 : decode cX8_takes 175 = .ok (.isub, 1) := by decide +kernel
theorem dX8_takes_176 : decode cX8_takes 176 = .ok (.invokevirtual 171, 3) := by decide +kernel
theorem dX8_takes_179 : decode cX8_takes 179 = .ok (.ireturn, 1) := by decide +kernel
theorem dX8_endHearing_0 : decode cX8_endHearing 0 = .ok (.aload_n 0, 1) := by decide +kernel
theorem dX8_endHearing_1 : decode cX8_endHearing 1 = .ok (.getfield 22, 3) := by decide +kernel
theorem dX8_endHearing_4 : decode cX8_endHearing 4 = .ok (.iconst 4, 1) := by decide +kernel
theorem dX8_endHearing_5 : decode cX8_endHearing 5 = .ok (.aload_n 0, 1) := by decide +kernel
theorem dX8_endHearing_6 : decode cX8_endHearing 6 = .ok (.getfield 162, 3) := by decide +kernel
theorem dX8_endHearing_9 : decode cX8_endHearing 9 = .ok (.imul, 1) := by decide +kernel
theorem dX8_endHearing_10 : decode cX8_endHearing 10 = .ok (.iconst 3, 1) := by decide +kernel
theorem dX8_endHearing_11 : decode cX8_endHearing 11 = .ok (.iadd, 1) := by decide +kernel
theorem dX8_endHearing_12 : decode cX8_endHearing 12 = .ok (.aload_n 0, 1) := by decide +kernel
theorem dX8_endHearing_13 : decode cX8_endHearing 13 = .ok (.getfield 156, 3) := by decide +kernel
theorem dX8_endHearing_16 : decode cX8_endHearing 16 = .ok (.iastore, 1) := by decide +kernel
theorem dX8_endHearing_17 : decode cX8_endHearing 17 = .ok (.aload_n 0, 1) := by decide +kernel
theorem dX8_endHearing_18 : decode cX8_endHearing 18 = .ok (.iconst (-1), 1) := by decide +kernel
theorem dX8_endHearing_19 : decode cX8_endHearing 19 = .ok (.putfield 156, 3) := by decide +kernel
theorem dX8_endHearing_22 : decode cX8_endHearing 22 = .ok (.aload_n 0, 1) := by decide +kernel
theorem dX8_endHearing_23 : decode cX8_endHearing 23 = .ok (.dup, 1) := by decide +kernel
theorem dX8_endHearing_24 : decode cX8_endHearing 24 = .ok (.getfield 162, 3) := by decide +kernel
theorem dX8_endHearing_27 : decode cX8_endHearing 27 = .ok (.iconst 1, 1) := by decide +kernel
theorem dX8_endHearing_28 : decode cX8_endHearing 28 = .ok (.iadd, 1) := by decide +kernel
theorem dX8_endHearing_29 : decode cX8_endHearing 29 = .ok (.putfield 162, 3) := by decide +kernel
theorem dX8_endHearing_32 : decode cX8_endHearing 32 = .ok (.return_, 1) := by decide +kernel
theorem dX8_rightUpTo_0 : decode cX8_rightUpTo 0 = .ok (.aload_n 0, 1) := by decide +kernel
theorem dX8_rightUpTo_1 : decode cX8_rightUpTo 1 = .ok (.iconst 0, 1) := by decide +kernel
end
section
theorem dX8_rightUpTo_2 : decode cX8_rightUpTo 2 = .ok (.putfield 162, 3) := by decide +kernel
theorem dX8_rightUpTo_5 : decode cX8_rightUpTo 5 = .ok (.aload_n 0, 1) := by decide +kernel
theorem dX8_rightUpTo_6 : decode cX8_rightUpTo 6 = .ok (.iconst (-1), 1) := by decide +kernel
theorem dX8_rightUpTo_7 : decode cX8_rightUpTo 7 = .ok (.putfield 156, 3) := by decide +kernel
theorem dX8_rightUpTo_10 : decode cX8_rightUpTo 10 = .ok (.aload_n 0, 1) := by decide +kernel
theorem dX8_rightUpTo_11 : decode cX8_rightUpTo 11 = .ok (.iconst 0, 1) := by decide +kernel
theorem dX8_rightUpTo_12 : decode cX8_rightUpTo 12 = .ok (.putfield 159, 3) := by decide +kernel
theorem dX8_rightUpTo_15 : decode cX8_rightUpTo 15 = .ok (.iconst 0, 1) := by decide +kernel
theorem dX8_rightUpTo_16 : decode cX8_rightUpTo 16 = .ok (.istore_n 1, 1) := by decide +kernel
theorem dX8_rightUpTo_17 : decode cX8_rightUpTo 17 = .ok (.iload_n 1, 1) := by decide +kernel
theorem dX8_rightUpTo_18 : decode cX8_rightUpTo 18 = .ok (.aload_n 0, 1) := by decide +kernel
theorem dX8_rightUpTo_19 : decode cX8_rightUpTo 19 = .ok (.getfield 153, 3) := by decide +kernel
theorem dX8_rightUpTo_22 : decode cX8_rightUpTo 22 = .ok (.if_icmp .ge 22, 3) := by decide +kernel
theorem dX8_rightUpTo_25 : decode cX8_rightUpTo 25 = .ok (.aload_n 0, 1) := by decide +kernel
theorem dX8_rightUpTo_26 : decode cX8_rightUpTo 26 = .ok (.aload_n 0, 1) := by decide +kernel
theorem dX8_rightUpTo_27 : decode cX8_rightUpTo 27 = .ok (.getfield 16, 3) := by decide +kernel
theorem dX8_rightUpTo_30 : decode cX8_rightUpTo 30 = .ok (.iload_n 1, 1) := by decide +kernel
theorem dX8_rightUpTo_31 : decode cX8_rightUpTo 31 = .ok (.iaload, 1) := by decide +kernel
theorem dX8_rightUpTo_32 : decode cX8_rightUpTo 32 = .ok (.invokevirtual 174, 3) := by decide +kernel
theorem dX8_rightUpTo_35 : decode cX8_rightUpTo 35 = .ok (.ifCond .eq 9, 3) := by decide +kernel
theorem dX8_rightUpTo_38 : decode cX8_rightUpTo 38 = .ok (.iinc 1 1, 3) := by decide +kernel
theorem dX8_rightUpTo_41 : decode cX8_rightUpTo 41 = .ok (.goto (-24), 3) := by decide +kernel
theorem dX8_rightUpTo_44 : decode cX8_rightUpTo 44 = .ok (.iload_n 1, 1) := by decide +kernel
theorem dX8_rightUpTo_45 : decode cX8_rightUpTo 45 = .ok (.ireturn, 1) := by decide +kernel
theorem dX8_firstError_0 : decode cX8_firstError 0 = .ok (.aload_n 0, 1) := by decide +kernel
theorem dX8_firstError_1 : decode cX8_firstError 1 = .ok (.iconst 0, 1) := by decide +kernel
theorem dX8_firstError_2 : decode cX8_firstError 2 = .ok (.putfield 31, 3) := by decide +kernel
theorem dX8_firstError_5 : decode cX8_firstError 5 = .ok (.aload_n 0, 1) := by decide +kernel
theorem dX8_firstError_6 : decode cX8_firstError 6 = .ok (.invokevirtual 177, 3) := by decide +kernel
theorem dX8_firstError_9 : decode cX8_firstError 9 = .ok (.ireturn, 1) := by decide +kernel
theorem dX8_addList_0 : decode cX8_addList 0 = .ok (.aload_n 0, 1) := by decide +kernel
theorem dX8_addList_1 : decode cX8_addList 1 = .ok (.invokevirtual 177, 3) := by decide +kernel
theorem dX8_addList_4 : decode cX8_addList 4 = .ok (.aload_n 0, 1) := by decide +kernel
theorem dX8_addList_5 : decode cX8_addList 5 = .ok (.getfield 153, 3) := by decide +kernel
theorem dX8_addList_8 : decode cX8_addList 8 = .ok (.if_icmp .ne 24, 3) := by decide +kernel
theorem dX8_addList_11 : decode cX8_addList 11 = .ok (.aload_n 0, 1) := by decide +kernel
theorem dX8_addList_12 : decode cX8_addList 12 = .ok (.getfield 159, 3) := by decide +kernel
theorem dX8_addList_15 : decode cX8_addList 15 = .ok (.iconst 4, 1) := by decide +kernel
theorem dX8_addList_16 : decode cX8_addList 16 = .ok (.if_icmp .ne 16, 3) := by decide +kernel
theorem dX8_addList_19 : decode cX8_addList 19 = .ok (.aload_n 0, 1) := by decide +kernel
theorem dX8_addList_20 : decode cX8_addList 20 = .ok (.getfield 156, 3) := by decide +kernel
theorem dX8_addList_23 : decode cX8_addList 23 = .ok (.bipush 9, 2) := by decide +kernel
theorem dX8_addList_25 : decode cX8_addList 25 = .ok (.if_icmp .le 7, 3) := by decide +kernel
theorem dX8_addList_28 : decode cX8_addList 28 = .ok (.iconst 1, 1) := by decide +kernel
theorem dX8_addList_29 : decode cX8_addList 29 = .ok (.goto 4, 3) := by decide +kernel
theorem dX8_addList_32 : decode cX8_addList 32 = .ok (.iconst 0, 1) := by decide +kernel
theorem dX8_addList_33 : decode cX8_addList 33 = .ok (.istore_n 1, 1) := by decide +kernel
theorem dX8_addList_34 : decode cX8_addList 34 = .ok (.aload_n 0, 1) := by decide +kernel
theorem dX8_addList_35 : decode cX8_addList 35 = .ok (.iload_n 1, 1) := by decide +kernel
theorem dX8_addList_36 : decode cX8_addList 36 = .ok (.ifCond .ne 7, 3) := by decide +kernel
theorem dX8_addList_39 : decode cX8_addList 39 = .ok (.iconst 1, 1) := by decide +kernel
theorem dX8_addList_40 : decode cX8_addList 40 = .ok (.goto 27, 3) := by decide +kernel
theorem dX8_addList_43 : decode cX8_addList 43 = .ok (.aload_n 0, 1) := by decide +kernel
theorem dX8_addList_44 : decode cX8_addList 44 = .ok (.getfield 7, 3) := by decide +kernel
theorem dX8_addList_47 : decode cX8_addList 47 = .ok (.bipush 8, 2) := by decide +kernel
theorem dX8_addList_49 : decode cX8_addList 49 = .ok (.iaload, 1) := by decide +kernel
theorem dX8_addList_50 : decode cX8_addList 50 = .ok (.aload_n 0, 1) := by decide +kernel
theorem dX8_addList_51 : decode cX8_addList 51 = .ok (.getfield 162, 3) := by decide +kernel
theorem dX8_addList_54 : decode cX8_addList 54 = .ok (.iadd, 1) := by decide +kernel
theorem dX8_addList_55 : decode cX8_addList 55 = .ok (.iconst 1, 1) := by decide +kernel
theorem dX8_addList_56 : decode cX8_addList 56 = .ok (.iadd, 1) := by decide +kernel
theorem dX8_addList_57 : decode cX8_addList 57 = .ok (.bipush 30, 2) := by decide +kernel
theorem dX8_addList_59 : decode cX8_addList 59 = .ok (.if_icmp .le 7, 3) := by decide +kernel
theorem dX8_addList_62 : decode cX8_addList 62 = .ok (.iconst 2, 1) := by decide +kernel
theorem dX8_addList_63 : decode cX8_addList 63 = .ok (.goto 4, 3) := by decide +kernel
theorem dX8_addList_66 : decode cX8_addList 66 = .ok (.iconst 0, 1) := by decide +kernel
theorem dX8_addList_67 : decode cX8_addList 67 = .ok (.putfield 31, 3) := by decide +kernel
theorem dX8_addList_70 : decode cX8_addList 70 = .ok (.aload_n 0, 1) := by decide +kernel
theorem dX8_addList_71 : decode cX8_addList 71 = .ok (.getfield 31, 3) := by decide +kernel
theorem dX8_addList_74 : decode cX8_addList 74 = .ok (.ifCond .le 5, 3) := by decide +kernel
theorem dX8_addList_77 : decode cX8_addList 77 = .ok (.iconst 0, 1) := by decide +kernel
theorem dX8_addList_78 : decode cX8_addList 78 = .ok (.ireturn, 1) := by decide +kernel
theorem dX8_addList_79 : decode cX8_addList 79 = .ok (.aload_n 0, 1) := by decide +kernel
theorem dX8_addList_80 : decode cX8_addList 80 = .ok (.invokevirtual 71, 3) := by decide +kernel
theorem dX8_addList_83 : decode cX8_addList 83 = .ok (.aload_n 0, 1) := by decide +kernel
theorem dX8_addList_84 : decode cX8_addList 84 = .ok (.invokevirtual 168, 3) := by decide +kernel
theorem dX8_addList_87 : decode cX8_addList 87 = .ok (.aload_n 0, 1) := by decide +kernel
theorem dX8_addList_88 : decode cX8_addList 88 = .ok (.iconst 0, 1) := by decide +kernel
theorem dX8_addList_89 : decode cX8_addList 89 = .ok (.putfield 153, 3) := by decide +kernel
theorem dX8_addList_92 : decode cX8_addList 92 = .ok (.iconst 0, 1) := by decide +kernel
theorem dX8_addList_93 : decode cX8_addList 93 = .ok (.istore_n 2, 1) := by decide +kernel
theorem dX8_addList_94 : decode cX8_addList 94 = .ok (.iload_n 2, 1) := by decide +kernel
theorem dX8_addList_95 : decode cX8_addList 95 = .ok (.iconst 4, 1) := by decide +kernel
theorem dX8_addList_96 : decode cX8_addList 96 = .ok (.aload_n 0, 1) := by decide +kernel
theorem dX8_addList_97 : decode cX8_addList 97 = .ok (.getfield 162, 3) := by decide +kernel
theorem dX8_addList_100 : decode cX8_addList 100 = .ok (.imul, 1) := by decide +kernel
theorem dX8_addList_101 : decode cX8_addList 101 = .ok (.if_icmp .ge 44, 3) := by decide +kernel
theorem dX8_addList_104 : decode cX8_addList 104 = .ok (.aload_n 0, 1) := by decide +kernel
theorem dX8_addList_105 : decode cX8_addList 105 = .ok (.aload_n 0, 1) := by decide +kernel
theorem dX8_addList_106 : decode cX8_addList 106 = .ok (.getfield 22, 3) := by decide +kernel
theorem dX8_addList_109 : decode cX8_addList 109 = .ok (.iload_n 2, 1) := by decide +kernel
theorem dX8_addList_110 : decode cX8_addList 110 = .ok (.iaload, 1) := by decide +kernel
theorem dX8_addList_111 : decode cX8_addList 111 = .ok (.aload_n 0, 1) := by decide +kernel
theorem dX8_addList_112 : decode cX8_addList 112 = .ok (.getfield 22, 3) := by decide +kernel
theorem dX8_addList_115 : decode cX8_addList 115 = .ok (.iload_n 2, 1) := by decide +kernel
theorem dX8_addList_116 : decode cX8_addList 116 = .ok (.iconst 1, 1) := by decide +kernel
theorem dX8_addList_117 : decode cX8_addList 117 = .ok (.iadd, 1) := by decide +kernel
theorem dX8_addList_118 : decode cX8_addList 118 = .ok (.iaload, 1) := by decide +kernel
theorem dX8_addList_119 : decode cX8_addList 119 = .ok (.aload_n 0, 1) := by decide +kernel
theorem dX8_addList_120 : decode cX8_addList 120 = .ok (.getfield 22, 3) := by decide +kernel
theorem dX8_addList_123 : decode cX8_addList 123 = .ok (.iload_n 2, 1) := by decide +kernel
theorem dX8_addList_124 : decode cX8_addList 124 = .ok (.iconst 2, 1) := by decide +kernel
theorem dX8_addList_125 : decode cX8_addList 125 = .ok (.iadd, 1) := by decide +kernel
theorem dX8_addList_126 : decode cX8_addList 126 = .ok (.iaload, 1) := by decide +kernel
theorem dX8_addList_127 : decode cX8_addList 127 = .ok (.aload_n 0, 1) := by decide +kernel
theorem dX8_addList_128 : decode cX8_addList 128 = .ok (.getfield 22, 3) := by decide +kernel
theorem dX8_addList_131 : decode cX8_addList 131 = .ok (.iload_n 2, 1) := by decide +kernel
theorem dX8_addList_132 : decode cX8_addList 132 = .ok (.iconst 3, 1) := by decide +kernel
theorem dX8_addList_133 : decode cX8_addList 133 = .ok (.iadd, 1) := by decide +kernel
theorem dX8_addList_134 : decode cX8_addList 134 = .ok (.iaload, 1) := by decide +kernel
theorem dX8_addList_135 : decode cX8_addList 135 = .ok (.invokevirtual 78, 3) := by decide +kernel
theorem dX8_addList_138 : decode cX8_addList 138 = .ok (.pop, 1) := by decide +kernel
theorem dX8_addList_139 : decode cX8_addList 139 = .ok (.iinc 2 4, 3) := by decide +kernel
theorem dX8_addList_142 : decode cX8_addList 142 = .ok (.goto (-48), 3) := by decide +kernel
theorem dX8_addList_145 : decode cX8_addList 145 = .ok (.aload_n 0, 1) := by decide +kernel
theorem dX8_addList_146 : decode cX8_addList 146 = .ok (.getfield 7, 3) := by decide +kernel
theorem dX8_addList_149 : decode cX8_addList 149 = .ok (.bipush 8, 2) := by decide +kernel
theorem dX8_addList_151 : decode cX8_addList 151 = .ok (.iaload, 1) := by decide +kernel
theorem dX8_addList_152 : decode cX8_addList 152 = .ok (.ireturn, 1) := by decide +kernel
theorem dX8_undo_0 : decode cX8_undo 0 = .ok (.aload_n 0, 1) := by decide +kernel
theorem dX8_undo_1 : decode cX8_undo 1 = .ok (.aload_n 0, 1) := by decide +kernel
theorem dX8_undo_2 : decode cX8_undo 2 = .ok (.getfield 35, 3) := by decide +kernel
theorem dX8_undo_5 : decode cX8_undo 5 = .ok (.ifCond .le 7, 3) := by decide +kernel
theorem dX8_undo_8 : decode cX8_undo 8 = .ok (.iconst 0, 1) := by decide +kernel
theorem dX8_undo_9 : decode cX8_undo 9 = .ok (.goto 4, 3) := by decide +kernel
theorem dX8_undo_12 : decode cX8_undo 12 = .ok (.iconst 1, 1) := by decide +kernel
theorem dX8_undo_13 : decode cX8_undo 13 = .ok (.putfield 31, 3) := by decide +kernel
theorem dX8_undo_16 : decode cX8_undo 16 = .ok (.aload_n 0, 1) := by decide +kernel
theorem dX8_undo_17 : decode cX8_undo 17 = .ok (.getfield 31, 3) := by decide +kernel
theorem dX8_undo_20 : decode cX8_undo 20 = .ok (.ifCond .le 5, 3) := by decide +kernel
theorem dX8_undo_23 : decode cX8_undo 23 = .ok (.iconst 0, 1) := by decide +kernel
theorem dX8_undo_24 : decode cX8_undo 24 = .ok (.ireturn, 1) := by decide +kernel
theorem dX8_undo_25 : decode cX8_undo 25 = .ok (.aload_n 0, 1) := by decide +kernel
theorem dX8_undo_26 : decode cX8_undo 26 = .ok (.dup, 1) := by decide +kernel
theorem dX8_undo_27 : decode cX8_undo 27 = .ok (.getfield 35, 3) := by decide +kernel
theorem dX8_undo_30 : decode cX8_undo 30 = .ok (.iconst 1, 1) := by decide +kernel
theorem dX8_undo_31 : decode cX8_undo 31 = .ok (.isub, 1) := by decide +kernel
theorem dX8_undo_32 : decode cX8_undo 32 = .ok (.putfield 35, 3) := by decide +kernel
theorem dX8_undo_35 : decode cX8_undo 35 = .ok (.iconst 0, 1) := by decide +kernel
theorem dX8_undo_36 : decode cX8_undo 36 = .ok (.istore_n 1, 1) := by decide +kernel
theorem dX8_undo_37 : decode cX8_undo 37 = .ok (.iload_n 1, 1) := by decide +kernel
theorem dX8_undo_38 : decode cX8_undo 38 = .ok (.sipush 373, 3) := by decide +kernel
theorem dX8_undo_41 : decode cX8_undo 41 = .ok (.if_icmp .ge 30, 3) := by decide +kernel
theorem dX8_undo_44 : decode cX8_undo 44 = .ok (.aload_n 0, 1) := by decide +kernel
theorem dX8_undo_45 : decode cX8_undo 45 = .ok (.getfield 7, 3) := by decide +kernel
theorem dX8_undo_48 : decode cX8_undo 48 = .ok (.iload_n 1, 1) := by decide +kernel
theorem dX8_undo_49 : decode cX8_undo 49 = .ok (.aload_n 0, 1) := by decide +kernel
theorem dX8_undo_50 : decode cX8_undo 50 = .ok (.getfield 13, 3) := by decide +kernel
theorem dX8_undo_53 : decode cX8_undo 53 = .ok (.sipush 373, 3) := by decide +kernel
theorem dX8_undo_56 : decode cX8_undo 56 = .ok (.aload_n 0, 1) := by decide +kernel
theorem dX8_undo_57 : decode cX8_undo 57 = .ok (.getfield 35, 3) := by decide +kernel
theorem dX8_undo_60 : decode cX8_undo 60 = .ok (.imul, 1) := by decide +kernel
theorem dX8_undo_61 : decode cX8_undo 61 = .ok (.iload_n 1, 1) := by decide +kernel
theorem dX8_undo_62 : decode cX8_undo 62 = .ok (.iadd, 1) := by decide +kernel
theorem dX8_undo_63 : decode cX8_undo 63 = .ok (.iaload, 1) := by decide +kernel
theorem dX8_undo_64 : decode cX8_undo 64 = .ok (.iastore, 1) := by decide +kernel
theorem dX8_undo_65 : decode cX8_undo 65 = .ok (.iinc 1 1, 3) := by decide +kernel
theorem dX8_undo_68 : decode cX8_undo 68 = .ok (.goto (-31), 3) := by decide +kernel
theorem dX8_undo_71 : decode cX8_undo 71 = .ok (.aload_n 0, 1) := by decide +kernel
theorem dX8_undo_72 : decode cX8_undo 72 = .ok (.getfield 35, 3) := by decide +kernel
theorem dX8_undo_75 : decode cX8_undo 75 = .ok (.ireturn, 1) := by decide +kernel
theorem dX8_listedWith_0 : decode cX8_listedWith 0 = .ok (.iconst 0, 1) := by decide +kernel
theorem dX8_listedWith_1 : decode cX8_listedWith 1 = .ok (.istore_n 2, 1) := by decide +kernel
theorem dX8_listedWith_2 : decode cX8_listedWith 2 = .ok (.iconst 0, 1) := by decide +kernel
theorem dX8_listedWith_3 : decode cX8_listedWith 3 = .ok (.istore_n 3, 1) := by decide +kernel
theorem dX8_listedWith_4 : decode cX8_listedWith 4 = .ok (.iload_n 3, 1) := by decide +kernel
theorem dX8_listedWith_5 : decode cX8_listedWith 5 = .ok (.aload_n 0, 1) := by decide +kernel
theorem dX8_listedWith_6 : decode cX8_listedWith 6 = .ok (.getfield 7, 3) := by decide +kernel
theorem dX8_listedWith_9 : decode cX8_listedWith 9 = .ok (.bipush 8, 2) := by decide +kernel
theorem dX8_listedWith_11 : decode cX8_listedWith 11 = .ok (.iaload, 1) := by decide +kernel
theorem dX8_listedWith_12 : decode cX8_listedWith 12 = .ok (.if_icmp .ge 34, 3) := by decide +kernel
theorem dX8_listedWith_15 : decode cX8_listedWith 15 = .ok (.iload_n 2, 1) := by decide +kernel
theorem dX8_listedWith_16 : decode cX8_listedWith 16 = .ok (.aload_n 0, 1) := by decide +kernel
theorem dX8_listedWith_17 : decode cX8_listedWith 17 = .ok (.iload_n 3, 1) := by decide +kernel
theorem dX8_listedWith_18 : decode cX8_listedWith 18 = .ok (.invokevirtual 50, 3) := by decide +kernel
theorem dX8_listedWith_21 : decode cX8_listedWith 21 = .ok (.ifCond .eq 16, 3) := by decide +kernel
theorem dX8_listedWith_24 : decode cX8_listedWith 24 = .ok (.aload_n 0, 1) := by decide +kernel
theorem dX8_listedWith_25 : decode cX8_listedWith 25 = .ok (.iload_n 1, 1) := by decide +kernel
theorem dX8_listedWith_26 : decode cX8_listedWith 26 = .ok (.iload_n 3, 1) := by decide +kernel
theorem dX8_listedWith_27 : decode cX8_listedWith 27 = .ok (.invokevirtual 54, 3) := by decide +kernel
theorem dX8_listedWith_30 : decode cX8_listedWith 30 = .ok (.ifCond .eq 7, 3) := by decide +kernel
theorem dX8_listedWith_33 : decode cX8_listedWith 33 = .ok (.iconst 1, 1) := by decide +kernel
theorem dX8_listedWith_34 : decode cX8_listedWith 34 = .ok (.goto 4, 3) := by decide +kernel
theorem dX8_listedWith_37 : decode cX8_listedWith 37 = .ok (.iconst 0, 1) := by decide +kernel
theorem dX8_listedWith_38 : decode cX8_listedWith 38 = .ok (.iadd, 1) := by decide +kernel
theorem dX8_listedWith_39 : decode cX8_listedWith 39 = .ok (.istore_n 2, 1) := by decide +kernel
theorem dX8_listedWith_40 : decode cX8_listedWith 40 = .ok (.iinc 3 1, 3) := by decide +kernel
theorem dX8_listedWith_43 : decode cX8_listedWith 43 = .ok (.goto (-39), 3) := by decide +kernel
theorem dX8_listedWith_46 : decode cX8_listedWith 46 = .ok (.iload_n 2, 1) := by decide +kernel
theorem dX8_listedWith_47 : decode cX8_listedWith 47 = .ok (.ireturn, 1) := by decide +kernel
theorem dX8_personNow_0 : decode cX8_personNow 0 = .ok (.iload_n 2, 1) := by decide +kernel
theorem dX8_personNow_1 : decode cX8_personNow 1 = .ok (.tableswitch 105 0 6 #[43, 53, 63, 73, 83, 93, 99], 43) := by decide +kernel
theorem dX8_personNow_44 : decode cX8_personNow 44 = .ok (.aload_n 0, 1) := by decide +kernel
theorem dX8_personNow_45 : decode cX8_personNow 45 = .ok (.getfield 7, 3) := by decide +kernel
theorem dX8_personNow_48 : decode cX8_personNow 48 = .ok (.bipush 13, 2) := by decide +kernel
theorem dX8_personNow_50 : decode cX8_personNow 50 = .ok (.iload_n 1, 1) := by decide +kernel
theorem dX8_personNow_51 : decode cX8_personNow 51 = .ok (.iadd, 1) := by decide +kernel
theorem dX8_personNow_52 : decode cX8_personNow 52 = .ok (.iaload, 1) := by decide +kernel
theorem dX8_personNow_53 : decode cX8_personNow 53 = .ok (.ireturn, 1) := by decide +kernel
theorem dX8_personNow_54 : decode cX8_personNow 54 = .ok (.aload_n 0, 1) := by decide +kernel
theorem dX8_personNow_55 : decode cX8_personNow 55 = .ok (.getfield 7, 3) := by decide +kernel
theorem dX8_personNow_58 : decode cX8_personNow 58 = .ok (.bipush 23, 2) := by decide +kernel
theorem dX8_personNow_60 : decode cX8_personNow 60 = .ok (.iload_n 1, 1) := by decide +kernel
theorem dX8_personNow_61 : decode cX8_personNow 61 = .ok (.iadd, 1) := by decide +kernel
theorem dX8_personNow_62 : decode cX8_personNow 62 = .ok (.iaload, 1) := by decide +kernel
theorem dX8_personNow_63 : decode cX8_personNow 63 = .ok (.ireturn, 1) := by decide +kernel
theorem dX8_personNow_64 : decode cX8_personNow 64 = .ok (.aload_n 0, 1) := by decide +kernel
theorem dX8_personNow_65 : decode cX8_personNow 65 = .ok (.getfield 7, 3) := by decide +kernel
theorem dX8_personNow_68 : decode cX8_personNow 68 = .ok (.bipush 33, 2) := by decide +kernel
theorem dX8_personNow_70 : decode cX8_personNow 70 = .ok (.iload_n 1, 1) := by decide +kernel
theorem dX8_personNow_71 : decode cX8_personNow 71 = .ok (.iadd, 1) := by decide +kernel
theorem dX8_personNow_72 : decode cX8_personNow 72 = .ok (.iaload, 1) := by decide +kernel
theorem dX8_personNow_73 : decode cX8_personNow 73 = .ok (.ireturn, 1) := by decide +kernel
theorem dX8_personNow_74 : decode cX8_personNow 74 = .ok (.aload_n 0, 1) := by decide +kernel
theorem dX8_personNow_75 : decode cX8_personNow 75 = .ok (.getfield 7, 3) := by decide +kernel
theorem dX8_personNow_78 : decode cX8_personNow 78 = .ok (.bipush 43, 2) := by decide +kernel
theorem dX8_personNow_80 : decode cX8_personNow 80 = .ok (.iload_n 1, 1) := by decide +kernel
theorem dX8_personNow_81 : decode cX8_personNow 81 = .ok (.iadd, 1) := by decide +kernel
theorem dX8_personNow_82 : decode cX8_personNow 82 = .ok (.iaload, 1) := by decide +kernel
theorem dX8_personNow_83 : decode cX8_personNow 83 = .ok (.ireturn, 1) := by decide +kernel
theorem dX8_personNow_84 : decode cX8_personNow 84 = .ok (.aload_n 0, 1) := by decide +kernel
theorem dX8_personNow_85 : decode cX8_personNow 85 = .ok (.getfield 7, 3) := by decide +kernel
theorem dX8_personNow_88 : decode cX8_personNow 88 = .ok (.bipush 53, 2) := by decide +kernel
theorem dX8_personNow_90 : decode cX8_personNow 90 = .ok (.iload_n 1, 1) := by decide +kernel
theorem dX8_personNow_91 : decode cX8_personNow 91 = .ok (.iadd, 1) := by decide +kernel
theorem dX8_personNow_92 : decode cX8_personNow 92 = .ok (.iaload, 1) := by decide +kernel
theorem dX8_personNow_93 : decode cX8_personNow 93 = .ok (.ireturn, 1) := by decide +kernel
theorem dX8_personNow_94 : decode cX8_personNow 94 = .ok (.aload_n 0, 1) := by decide +kernel
theorem dX8_personNow_95 : decode cX8_personNow 95 = .ok (.iload_n 1, 1) := by decide +kernel
theorem dX8_personNow_96 : decode cX8_personNow 96 = .ok (.invokevirtual 180, 3) := by decide +kernel
theorem dX8_personNow_99 : decode cX8_personNow 99 = .ok (.ireturn, 1) := by decide +kernel
theorem dX8_personNow_100 : decode cX8_personNow 100 = .ok (.aload_n 0, 1) := by decide +kernel
theorem dX8_personNow_101 : decode cX8_personNow 101 = .ok (.iload_n 1, 1) := by decide +kernel
theorem dX8_personNow_102 : decode cX8_personNow 102 = .ok (.invokevirtual 134, 3) := by decide +kernel
theorem dX8_personNow_105 : decode cX8_personNow 105 = .ok (.ireturn, 1) := by decide +kernel
theorem dX8_personNow_106 : decode cX8_personNow 106 = .ok (.aload_n 0, 1) := by decide +kernel
theorem dX8_personNow_107 : decode cX8_personNow 107 = .ok (.getfield 7, 3) := by decide +kernel
theorem dX8_personNow_110 : decode cX8_personNow 110 = .ok (.bipush 63, 2) := by decide +kernel
theorem dX8_personNow_112 : decode cX8_personNow 112 = .ok (.iload_n 1, 1) := by decide +kernel
theorem dX8_personNow_113 : decode cX8_personNow 113 = .ok (.iadd, 1) := by decide +kernel
theorem dX8_personNow_114 : decode cX8_personNow 114 = .ok (.iaload, 1) := by decide +kernel
theorem dX8_personNow_115 : decode cX8_personNow 115 = .ok (.ireturn, 1) := by decide +kernel
theorem dX8_interpreter_0 : decode cX8_interpreter 0 = .ok (.aload_n 0, 1) := by decide +kernel
theorem dX8_interpreter_1 : decode cX8_interpreter 1 = .ok (.aload_n 0, 1) := by decide +kernel
theorem dX8_interpreter_2 : decode cX8_interpreter 2 = .ok (.iload_n 1, 1) := by decide +kernel
theorem dX8_interpreter_3 : decode cX8_interpreter 3 = .ok (.invokevirtual 82, 3) := by decide +kernel
theorem dX8_interpreter_6 : decode cX8_interpreter 6 = .ok (.ifCond .ne 7, 3) := by decide +kernel
theorem dX8_interpreter_9 : decode cX8_interpreter 9 = .ok (.iconst 1, 1) := by decide +kernel
theorem dX8_interpreter_10 : decode cX8_interpreter 10 = .ok (.goto 18, 3) := by decide +kernel
theorem dX8_interpreter_13 : decode cX8_interpreter 13 = .ok (.iload_n 2, 1) := by decide +kernel
theorem dX8_interpreter_14 : decode cX8_interpreter 14 = .ok (.iconst 0, 1) := by decide +kernel
theorem dX8_interpreter_15 : decode cX8_interpreter 15 = .ok (.bipush 7, 2) := by decide +kernel
theorem dX8_interpreter_17 : decode cX8_interpreter 17 = .ok (.invokestatic 38, 3) := by decide +kernel
theorem dX8_interpreter_20 : decode cX8_interpreter 20 = .ok (.ifCond .eq 7, 3) := by decide +kernel
theorem dX8_interpreter_23 : decode cX8_interpreter 23 = .ok (.iconst 0, 1) := by decide +kernel
theorem dX8_interpreter_24 : decode cX8_interpreter 24 = .ok (.goto 4, 3) := by decide +kernel
theorem dX8_interpreter_27 : decode cX8_interpreter 27 = .ok (.iconst 2, 1) := by decide +kernel
theorem dX8_interpreter_28 : decode cX8_interpreter 28 = .ok (.putfield 31, 3) := by decide +kernel
theorem dX8_interpreter_31 : decode cX8_interpreter 31 = .ok (.aload_n 0, 1) := by decide +kernel
theorem dX8_interpreter_32 : decode cX8_interpreter 32 = .ok (.getfield 31, 3) := by decide +kernel
theorem dX8_interpreter_35 : decode cX8_interpreter 35 = .ok (.ifCond .le 7, 3) := by decide +kernel
theorem dX8_interpreter_38 : decode cX8_interpreter 38 = .ok (.iconst 0, 1) := by decide +kernel
theorem dX8_interpreter_39 : decode cX8_interpreter 39 = .ok (.goto 9, 3) := by decide +kernel
theorem dX8_interpreter_42 : decode cX8_interpreter 42 = .ok (.aload_n 0, 1) := by decide +kernel
theorem dX8_interpreter_43 : decode cX8_interpreter 43 = .ok (.iload_n 1, 1) := by decide +kernel
theorem dX8_interpreter_44 : decode cX8_interpreter 44 = .ok (.iload_n 2, 1) := by decide +kernel
theorem dX8_interpreter_45 : decode cX8_interpreter 45 = .ok (.invokevirtual 183, 3) := by decide +kernel
theorem dX8_interpreter_48 : decode cX8_interpreter 48 = .ok (.ireturn, 1) := by decide +kernel
theorem dX8_clashes_0 : decode cX8_clashes 0 = .ok (.iconst 0, 1) := by decide +kernel
theorem dX8_clashes_1 : decode cX8_clashes 1 = .ok (.istore_n 2, 1) := by decide +kernel
theorem dX8_clashes_2 : decode cX8_clashes 2 = .ok (.iconst 0, 1) := by decide +kernel
theorem dX8_clashes_3 : decode cX8_clashes 3 = .ok (.istore_n 3, 1) := by decide +kernel
theorem dX8_clashes_4 : decode cX8_clashes 4 = .ok (.iload_n 3, 1) := by decide +kernel
theorem dX8_clashes_5 : decode cX8_clashes 5 = .ok (.aload_n 0, 1) := by decide +kernel
theorem dX8_clashes_6 : decode cX8_clashes 6 = .ok (.getfield 7, 3) := by decide +kernel
theorem dX8_clashes_9 : decode cX8_clashes 9 = .ok (.bipush 8, 2) := by decide +kernel
theorem dX8_clashes_11 : decode cX8_clashes 11 = .ok (.iaload, 1) := by decide +kernel
theorem dX8_clashes_12 : decode cX8_clashes 12 = .ok (.if_icmp .ge 47, 3) := by decide +kernel
theorem dX8_clashes_15 : decode cX8_clashes 15 = .ok (.iload_n 2, 1) := by decide +kernel
theorem dX8_clashes_16 : decode cX8_clashes 16 = .ok (.iload_n 3, 1) := by decide +kernel
theorem dX8_clashes_17 : decode cX8_clashes 17 = .ok (.iload_n 1, 1) := by decide +kernel
theorem dX8_clashes_18 : decode cX8_clashes 18 = .ok (.if_icmp .eq 32, 3) := by decide +kernel
theorem dX8_clashes_21 : decode cX8_clashes 21 = .ok (.aload_n 0, 1) := by decide +kernel
theorem dX8_clashes_22 : decode cX8_clashes 22 = .ok (.iload_n 3, 1) := by decide +kernel
theorem dX8_clashes_23 : decode cX8_clashes 23 = .ok (.invokevirtual 50, 3) := by decide +kernel
theorem dX8_clashes_26 : decode cX8_clashes 26 = .ok (.ifCond .eq 24, 3) := by decide +kernel
theorem dX8_clashes_29 : decode cX8_clashes 29 = .ok (.aload_n 0, 1) := by decide +kernel
theorem dX8_clashes_30 : decode cX8_clashes 30 = .ok (.iload_n 1, 1) := by decide +kernel
theorem dX8_clashes_31 : decode cX8_clashes 31 = .ok (.invokevirtual 50, 3) := by decide +kernel
theorem dX8_clashes_34 : decode cX8_clashes 34 = .ok (.ifCond .eq 16, 3) := by decide +kernel
theorem dX8_clashes_37 : decode cX8_clashes 37 = .ok (.aload_n 0, 1) := by decide +kernel
theorem dX8_clashes_38 : decode cX8_clashes 38 = .ok (.iload_n 3, 1) := by decide +kernel
theorem dX8_clashes_39 : decode cX8_clashes 39 = .ok (.iload_n 1, 1) := by decide +kernel
theorem dX8_clashes_40 : decode cX8_clashes 40 = .ok (.invokevirtual 58, 3) := by decide +kernel
theorem dX8_clashes_43 : decode cX8_clashes 43 = .ok (.ifCond .eq 7, 3) := by decide +kernel
theorem dX8_clashes_46 : decode cX8_clashes 46 = .ok (.iconst 1, 1) := by decide +kernel
theorem dX8_clashes_47 : decode cX8_clashes 47 = .ok (.goto 4, 3) := by decide +kernel
theorem dX8_clashes_50 : decode cX8_clashes 50 = .ok (.iconst 0, 1) := by decide +kernel
theorem dX8_clashes_51 : decode cX8_clashes 51 = .ok (.iadd, 1) := by decide +kernel
theorem dX8_clashes_52 : decode cX8_clashes 52 = .ok (.istore_n 2, 1) := by decide +kernel
theorem dX8_clashes_53 : decode cX8_clashes 53 = .ok (.iinc 3 1, 3) := by decide +kernel
theorem dX8_clashes_56 : decode cX8_clashes 56 = .ok (.goto (-52), 3) := by decide +kernel
theorem dX8_clashes_59 : decode cX8_clashes 59 = .ok (.iload_n 2, 1) := by decide +kernel
theorem dX8_clashes_60 : decode cX8_clashes 60 = .ok (.ireturn, 1) := by decide +kernel
theorem dX8_hearingNow_0 : decode cX8_hearingNow 0 = .ok (.iload_n 2, 1) := by decide +kernel
theorem dX8_hearingNow_1 : decode cX8_hearingNow 1 = .ok (.tableswitch 48 9 11 #[27, 34, 42], 27) := by decide +kernel
theorem dX8_hearingNow_28 : decode cX8_hearingNow 28 = .ok (.aload_n 0, 1) := by decide +kernel
theorem dX8_hearingNow_29 : decode cX8_hearingNow 29 = .ok (.iload_n 1, 1) := by decide +kernel
theorem dX8_hearingNow_30 : decode cX8_hearingNow 30 = .ok (.iconst 2, 1) := by decide +kernel
theorem dX8_hearingNow_31 : decode cX8_hearingNow 31 = .ok (.invokevirtual 65, 3) := by decide +kernel
theorem dX8_hearingNow_34 : decode cX8_hearingNow 34 = .ok (.ireturn, 1) := by decide +kernel
theorem dX8_hearingNow_35 : decode cX8_hearingNow 35 = .ok (.aload_n 0, 1) := by decide +kernel
theorem dX8_hearingNow_36 : decode cX8_hearingNow 36 = .ok (.iload_n 1, 1) := by decide +kernel
theorem dX8_hearingNow_37 : decode cX8_hearingNow 37 = .ok (.bipush 9, 2) := by decide +kernel
theorem dX8_hearingNow_39 : decode cX8_hearingNow 39 = .ok (.invokevirtual 42, 3) := by decide +kernel
theorem dX8_hearingNow_42 : decode cX8_hearingNow 42 = .ok (.ireturn, 1) := by decide +kernel
theorem dX8_hearingNow_43 : decode cX8_hearingNow 43 = .ok (.aload_n 0, 1) := by decide +kernel
theorem dX8_hearingNow_44 : decode cX8_hearingNow 44 = .ok (.iload_n 1, 1) := by decide +kernel
theorem dX8_hearingNow_45 : decode cX8_hearingNow 45 = .ok (.invokevirtual 186, 3) := by decide +kernel
theorem dX8_hearingNow_48 : decode cX8_hearingNow 48 = .ok (.ireturn, 1) := by decide +kernel
theorem dX8_hearingNow_49 : decode cX8_hearingNow 49 = .ok (.aload_n 0, 1) := by decide +kernel
theorem dX8_hearingNow_50 : decode cX8_hearingNow 50 = .ok (.iload_n 1, 1) := by decide +kernel
theorem dX8_hearingNow_51 : decode cX8_hearingNow 51 = .ok (.iload_n 2, 1) := by decide +kernel
theorem dX8_hearingNow_52 : decode cX8_hearingNow 52 = .ok (.invokevirtual 42, 3) := by decide +kernel
theorem dX8_hearingNow_55 : decode cX8_hearingNow 55 = .ok (.ireturn, 1) := by decide +kernel
theorem dX8_hearing_0 : decode cX8_hearing 0 = .ok (.aload_n 0, 1) := by decide +kernel
theorem dX8_hearing_1 : decode cX8_hearing 1 = .ok (.aload_n 0, 1) := by decide +kernel
theorem dX8_hearing_2 : decode cX8_hearing 2 = .ok (.iload_n 1, 1) := by decide +kernel
theorem dX8_hearing_3 : decode cX8_hearing 3 = .ok (.invokevirtual 109, 3) := by decide +kernel
theorem dX8_hearing_6 : decode cX8_hearing 6 = .ok (.ifCond .ne 7, 3) := by decide +kernel
theorem dX8_hearing_9 : decode cX8_hearing 9 = .ok (.iconst 1, 1) := by decide +kernel
theorem dX8_hearing_10 : decode cX8_hearing 10 = .ok (.goto 18, 3) := by decide +kernel
theorem dX8_hearing_13 : decode cX8_hearing 13 = .ok (.iload_n 2, 1) := by decide +kernel
theorem dX8_hearing_14 : decode cX8_hearing 14 = .ok (.iconst 0, 1) := by decide +kernel
theorem dX8_hearing_15 : decode cX8_hearing 15 = .ok (.bipush 11, 2) := by decide +kernel
theorem dX8_hearing_17 : decode cX8_hearing 17 = .ok (.invokestatic 38, 3) := by decide +kernel
theorem dX8_hearing_20 : decode cX8_hearing 20 = .ok (.ifCond .eq 7, 3) := by decide +kernel
theorem dX8_hearing_23 : decode cX8_hearing 23 = .ok (.iconst 0, 1) := by decide +kernel
theorem dX8_hearing_24 : decode cX8_hearing 24 = .ok (.goto 4, 3) := by decide +kernel
theorem dX8_hearing_27 : decode cX8_hearing 27 = .ok (.iconst 2, 1) := by decide +kernel
theorem dX8_hearing_28 : decode cX8_hearing 28 = .ok (.putfield 31, 3) := by decide +kernel
theorem dX8_hearing_31 : decode cX8_hearing 31 = .ok (.aload_n 0, 1) := by decide +kernel
theorem dX8_hearing_32 : decode cX8_hearing 32 = .ok (.getfield 31, 3) := by decide +kernel
theorem dX8_hearing_35 : decode cX8_hearing 35 = .ok (.ifCond .le 7, 3) := by decide +kernel
theorem dX8_hearing_38 : decode cX8_hearing 38 = .ok (.iconst 0, 1) := by decide +kernel
theorem dX8_hearing_39 : decode cX8_hearing 39 = .ok (.goto 9, 3) := by decide +kernel
theorem dX8_hearing_42 : decode cX8_hearing 42 = .ok (.aload_n 0, 1) := by decide +kernel
theorem dX8_hearing_43 : decode cX8_hearing 43 = .ok (.iload_n 1, 1) := by decide +kernel
theorem dX8_hearing_44 : decode cX8_hearing 44 = .ok (.iload_n 2, 1) := by decide +kernel
theorem dX8_hearing_45 : decode cX8_hearing 45 = .ok (.invokevirtual 189, 3) := by decide +kernel
theorem dX8_hearing_48 : decode cX8_hearing 48 = .ok (.ireturn, 1) := by decide +kernel
theorem dX8_hearingsIn_0 : decode cX8_hearingsIn 0 = .ok (.iconst 0, 1) := by decide +kernel
theorem dX8_hearingsIn_1 : decode cX8_hearingsIn 1 = .ok (.istore_n 3, 1) := by decide +kernel
theorem dX8_hearingsIn_2 : decode cX8_hearingsIn 2 = .ok (.iconst 0, 1) := by decide +kernel
theorem dX8_hearingsIn_3 : decode cX8_hearingsIn 3 = .ok (.istore 4, 2) := by decide +kernel
theorem dX8_hearingsIn_5 : decode cX8_hearingsIn 5 = .ok (.iload 4, 2) := by decide +kernel
theorem dX8_hearingsIn_7 : decode cX8_hearingsIn 7 = .ok (.aload_n 0, 1) := by decide +kernel
theorem dX8_hearingsIn_8 : decode cX8_hearingsIn 8 = .ok (.getfield 7, 3) := by decide +kernel
theorem dX8_hearingsIn_11 : decode cX8_hearingsIn 11 = .ok (.bipush 8, 2) := by decide +kernel
theorem dX8_hearingsIn_13 : decode cX8_hearingsIn 13 = .ok (.iaload, 1) := by decide +kernel
theorem dX8_hearingsIn_14 : decode cX8_hearingsIn 14 = .ok (.if_icmp .ge 42, 3) := by decide +kernel
theorem dX8_hearingsIn_17 : decode cX8_hearingsIn 17 = .ok (.iload_n 3, 1) := by decide +kernel
theorem dX8_hearingsIn_18 : decode cX8_hearingsIn 18 = .ok (.aload_n 0, 1) := by decide +kernel
theorem dX8_hearingsIn_19 : decode cX8_hearingsIn 19 = .ok (.iload 4, 2) := by decide +kernel
theorem dX8_hearingsIn_21 : decode cX8_hearingsIn 21 = .ok (.iconst 4, 1) := by decide +kernel
theorem dX8_hearingsIn_22 : decode cX8_hearingsIn 22 = .ok (.invokevirtual 42, 3) := by decide +kernel
theorem dX8_hearingsIn_25 : decode cX8_hearingsIn 25 = .ok (.iload_n 1, 1) := by decide +kernel
theorem dX8_hearingsIn_26 : decode cX8_hearingsIn 26 = .ok (.if_icmp .ne 21, 3) := by decide +kernel
theorem dX8_hearingsIn_29 : decode cX8_hearingsIn 29 = .ok (.iload_n 2, 1) := by decide +kernel
theorem dX8_hearingsIn_30 : decode cX8_hearingsIn 30 = .ok (.ifCond .eq 13, 3) := by decide +kernel
theorem dX8_hearingsIn_33 : decode cX8_hearingsIn 33 = .ok (.aload_n 0, 1) := by decide +kernel
theorem dX8_hearingsIn_34 : decode cX8_hearingsIn 34 = .ok (.iload 4, 2) := by decide +kernel
theorem dX8_hearingsIn_36 : decode cX8_hearingsIn 36 = .ok (.iconst 5, 1) := by decide +kernel
theorem dX8_hearingsIn_37 : decode cX8_hearingsIn 37 = .ok (.invokevirtual 42, 3) := by decide +kernel
theorem dX8_hearingsIn_40 : decode cX8_hearingsIn 40 = .ok (.ifCond .le 7, 3) := by decide +kernel
theorem dX8_hearingsIn_43 : decode cX8_hearingsIn 43 = .ok (.iconst 1, 1) := by decide +kernel
theorem dX8_hearingsIn_44 : decode cX8_hearingsIn 44 = .ok (.goto 4, 3) := by decide +kernel
theorem dX8_hearingsIn_47 : decode cX8_hearingsIn 47 = .ok (.iconst 0, 1) := by decide +kernel
theorem dX8_hearingsIn_48 : decode cX8_hearingsIn 48 = .ok (.iadd, 1) := by decide +kernel
theorem dX8_hearingsIn_49 : decode cX8_hearingsIn 49 = .ok (.istore_n 3, 1) := by decide +kernel
theorem dX8_hearingsIn_50 : decode cX8_hearingsIn 50 = .ok (.iinc 4 1, 3) := by decide +kernel
theorem dX8_hearingsIn_53 : decode cX8_hearingsIn 53 = .ok (.goto (-48), 3) := by decide +kernel
theorem dX8_hearingsIn_56 : decode cX8_hearingsIn 56 = .ok (.iload_n 3, 1) := by decide +kernel
theorem dX8_hearingsIn_57 : decode cX8_hearingsIn 57 = .ok (.ireturn, 1) := by decide +kernel
theorem dX8_working_0 : decode cX8_working 0 = .ok (.iconst 0, 1) := by decide +kernel
theorem dX8_working_1 : decode cX8_working 1 = .ok (.istore_n 1, 1) := by decide +kernel
theorem dX8_working_2 : decode cX8_working 2 = .ok (.iconst 0, 1) := by decide +kernel
theorem dX8_working_3 : decode cX8_working 3 = .ok (.istore_n 2, 1) := by decide +kernel
theorem dX8_working_4 : decode cX8_working 4 = .ok (.iload_n 2, 1) := by decide +kernel
theorem dX8_working_5 : decode cX8_working 5 = .ok (.aload_n 0, 1) := by decide +kernel
theorem dX8_working_6 : decode cX8_working 6 = .ok (.getfield 7, 3) := by decide +kernel
theorem dX8_working_9 : decode cX8_working 9 = .ok (.bipush 7, 2) := by decide +kernel
theorem dX8_working_11 : decode cX8_working 11 = .ok (.iaload, 1) := by decide +kernel
theorem dX8_working_12 : decode cX8_working 12 = .ok (.if_icmp .ge 26, 3) := by decide +kernel
theorem dX8_working_15 : decode cX8_working 15 = .ok (.iload_n 1, 1) := by decide +kernel
theorem dX8_working_16 : decode cX8_working 16 = .ok (.aload_n 0, 1) := by decide +kernel
theorem dX8_working_17 : decode cX8_working 17 = .ok (.iload_n 2, 1) := by decide +kernel
theorem dX8_working_18 : decode cX8_working 18 = .ok (.invokevirtual 134, 3) := by decide +kernel
theorem dX8_working_21 : decode cX8_working 21 = .ok (.iconst (-1), 1) := by decide +kernel
theorem dX8_working_22 : decode cX8_working 22 = .ok (.if_icmp .ne 7, 3) := by decide +kernel
theorem dX8_working_25 : decode cX8_working 25 = .ok (.iconst 0, 1) := by decide +kernel
theorem dX8_working_26 : decode cX8_working 26 = .ok (.goto 4, 3) := by decide +kernel
theorem dX8_working_29 : decode cX8_working 29 = .ok (.iconst 1, 1) := by decide +kernel
theorem dX8_working_30 : decode cX8_working 30 = .ok (.iadd, 1) := by decide +kernel
theorem dX8_working_31 : decode cX8_working 31 = .ok (.istore_n 1, 1) := by decide +kernel
theorem dX8_working_32 : decode cX8_working 32 = .ok (.iinc 2 1, 3) := by decide +kernel
theorem dX8_working_35 : decode cX8_working 35 = .ok (.goto (-31), 3) := by decide +kernel
theorem dX8_working_38 : decode cX8_working 38 = .ok (.iload_n 1, 1) := by decide +kernel
theorem dX8_working_39 : decode cX8_working 39 = .ok (.ireturn, 1) := by decide +kernel
theorem dX8_counted_0 : decode cX8_counted 0 = .ok (.iload_n 1, 1) := by decide +kernel
theorem dX8_counted_1 : decode cX8_counted 1 = .ok (.tableswitch 114 0 11 #[63, 63, 63, 73, 80, 87, 87, 87, 96, 96, 96, 109], 63) := by decide +kernel
theorem dX8_counted_64 : decode cX8_counted 64 = .ok (.aload_n 0, 1) := by decide +kernel
theorem dX8_counted_65 : decode cX8_counted 65 = .ok (.getfield 7, 3) := by decide +kernel
theorem dX8_counted_68 : decode cX8_counted 68 = .ok (.bipush 7, 2) := by decide +kernel
theorem dX8_counted_70 : decode cX8_counted 70 = .ok (.iload_n 1, 1) := by decide +kernel
theorem dX8_counted_71 : decode cX8_counted 71 = .ok (.iadd, 1) := by decide +kernel
theorem dX8_counted_72 : decode cX8_counted 72 = .ok (.iaload, 1) := by decide +kernel
theorem dX8_counted_73 : decode cX8_counted 73 = .ok (.ireturn, 1) := by decide +kernel
theorem dX8_counted_74 : decode cX8_counted 74 = .ok (.aload_n 0, 1) := by decide +kernel
theorem dX8_counted_75 : decode cX8_counted 75 = .ok (.iconst 0, 1) := by decide +kernel
theorem dX8_counted_76 : decode cX8_counted 76 = .ok (.iconst 0, 1) := by decide +kernel
theorem dX8_counted_77 : decode cX8_counted 77 = .ok (.invokevirtual 192, 3) := by decide +kernel
theorem dX8_counted_80 : decode cX8_counted 80 = .ok (.ireturn, 1) := by decide +kernel
theorem dX8_counted_81 : decode cX8_counted 81 = .ok (.aload_n 0, 1) := by decide +kernel
theorem dX8_counted_82 : decode cX8_counted 82 = .ok (.iconst 0, 1) := by decide +kernel
theorem dX8_counted_83 : decode cX8_counted 83 = .ok (.iconst 1, 1) := by decide +kernel
theorem dX8_counted_84 : decode cX8_counted 84 = .ok (.invokevirtual 192, 3) := by decide +kernel
theorem dX8_counted_87 : decode cX8_counted 87 = .ok (.ireturn, 1) := by decide +kernel
theorem dX8_counted_88 : decode cX8_counted 88 = .ok (.aload_n 0, 1) := by decide +kernel
theorem dX8_counted_89 : decode cX8_counted 89 = .ok (.iload_n 1, 1) := by decide +kernel
theorem dX8_counted_90 : decode cX8_counted 90 = .ok (.iconst 4, 1) := by decide +kernel
theorem dX8_counted_91 : decode cX8_counted 91 = .ok (.isub, 1) := by decide +kernel
theorem dX8_counted_92 : decode cX8_counted 92 = .ok (.iconst 0, 1) := by decide +kernel
theorem dX8_counted_93 : decode cX8_counted 93 = .ok (.invokevirtual 192, 3) := by decide +kernel
theorem dX8_counted_96 : decode cX8_counted 96 = .ok (.ireturn, 1) := by decide +kernel
theorem dX8_counted_97 : decode cX8_counted 97 = .ok (.aload_n 0, 1) := by decide +kernel
theorem dX8_counted_98 : decode cX8_counted 98 = .ok (.getfield 7, 3) := by decide +kernel
theorem dX8_counted_101 : decode cX8_counted 101 = .ok (.bipush 10, 2) := by decide +kernel
theorem dX8_counted_103 : decode cX8_counted 103 = .ok (.iload_n 1, 1) := by decide +kernel
theorem dX8_counted_104 : decode cX8_counted 104 = .ok (.iadd, 1) := by decide +kernel
theorem dX8_counted_105 : decode cX8_counted 105 = .ok (.bipush 8, 2) := by decide +kernel
theorem dX8_counted_107 : decode cX8_counted 107 = .ok (.isub, 1) := by decide +kernel
theorem dX8_counted_108 : decode cX8_counted 108 = .ok (.iaload, 1) := by decide +kernel
theorem dX8_counted_109 : decode cX8_counted 109 = .ok (.ireturn, 1) := by decide +kernel
theorem dX8_counted_110 : decode cX8_counted 110 = .ok (.aload_n 0, 1) := by decide +kernel
theorem dX8_counted_111 : decode cX8_counted 111 = .ok (.invokevirtual 196, 3) := by decide +kernel
theorem dX8_counted_114 : decode cX8_counted 114 = .ok (.ireturn, 1) := by decide +kernel
theorem dX8_counted_115 : decode cX8_counted 115 = .ok (.aload_n 0, 1) := by decide +kernel
theorem dX8_counted_116 : decode cX8_counted 116 = .ok (.getfield 35, 3) := by decide +kernel
theorem dX8_counted_119 : decode cX8_counted 119 = .ok (.ireturn, 1) := by decide +kernel
theorem dX8_count_0 : decode cX8_count 0 = .ok (.aload_n 0, 1) := by decide +kernel
theorem dX8_count_1 : decode cX8_count 1 = .ok (.iload_n 1, 1) := by decide +kernel
theorem dX8_count_2 : decode cX8_count 2 = .ok (.iconst 0, 1) := by decide +kernel
theorem dX8_count_3 : decode cX8_count 3 = .ok (.bipush 12, 2) := by decide +kernel
theorem dX8_count_5 : decode cX8_count 5 = .ok (.invokestatic 38, 3) := by decide +kernel
theorem dX8_count_8 : decode cX8_count 8 = .ok (.ifCond .eq 7, 3) := by decide +kernel
theorem dX8_count_11 : decode cX8_count 11 = .ok (.iconst 0, 1) := by decide +kernel
theorem dX8_count_12 : decode cX8_count 12 = .ok (.goto 4, 3) := by decide +kernel
theorem dX8_count_15 : decode cX8_count 15 = .ok (.iconst 1, 1) := by decide +kernel
theorem dX8_count_16 : decode cX8_count 16 = .ok (.putfield 31, 3) := by decide +kernel
theorem dX8_count_19 : decode cX8_count 19 = .ok (.aload_n 0, 1) := by decide +kernel
theorem dX8_count_20 : decode cX8_count 20 = .ok (.getfield 31, 3) := by decide +kernel
theorem dX8_count_23 : decode cX8_count 23 = .ok (.ifCond .le 7, 3) := by decide +kernel
theorem dX8_count_26 : decode cX8_count 26 = .ok (.iconst 0, 1) := by decide +kernel
theorem dX8_count_27 : decode cX8_count 27 = .ok (.goto 8, 3) := by decide +kernel
theorem dX8_count_30 : decode cX8_count 30 = .ok (.aload_n 0, 1) := by decide +kernel
theorem dX8_count_31 : decode cX8_count 31 = .ok (.iload_n 1, 1) := by decide +kernel
theorem dX8_count_32 : decode cX8_count 32 = .ok (.invokevirtual 199, 3) := by decide +kernel
theorem dX8_count_35 : decode cX8_count 35 = .ok (.ireturn, 1) := by decide +kernel
theorem dX8_setting_0 : decode cX8_setting 0 = .ok (.aload_n 0, 1) := by decide +kernel
theorem dX8_setting_1 : decode cX8_setting 1 = .ok (.iload_n 1, 1) := by decide +kernel
theorem dX8_setting_2 : decode cX8_setting 2 = .ok (.invokestatic 85, 3) := by decide +kernel
theorem dX8_setting_5 : decode cX8_setting 5 = .ok (.ifCond .eq 7, 3) := by decide +kernel
theorem dX8_setting_8 : decode cX8_setting 8 = .ok (.iconst 0, 1) := by decide +kernel
theorem dX8_setting_9 : decode cX8_setting 9 = .ok (.goto 4, 3) := by decide +kernel
theorem dX8_setting_12 : decode cX8_setting 12 = .ok (.iconst 1, 1) := by decide +kernel
theorem dX8_setting_13 : decode cX8_setting 13 = .ok (.putfield 31, 3) := by decide +kernel
theorem dX8_setting_16 : decode cX8_setting 16 = .ok (.aload_n 0, 1) := by decide +kernel
theorem dX8_setting_17 : decode cX8_setting 17 = .ok (.getfield 31, 3) := by decide +kernel
theorem dX8_setting_20 : decode cX8_setting 20 = .ok (.ifCond .le 7, 3) := by decide +kernel
theorem dX8_setting_23 : decode cX8_setting 23 = .ok (.iconst 0, 1) := by decide +kernel
theorem dX8_setting_24 : decode cX8_setting 24 = .ok (.goto 11, 3) := by decide +kernel
theorem dX8_setting_27 : decode cX8_setting 27 = .ok (.aload_n 0, 1) := by decide +kernel
theorem dX8_setting_28 : decode cX8_setting 28 = .ok (.getfield 7, 3) := by decide +kernel
theorem dX8_setting_31 : decode cX8_setting 31 = .ok (.iconst 0, 1) := by decide +kernel
theorem dX8_setting_32 : decode cX8_setting 32 = .ok (.iload_n 1, 1) := by decide +kernel
theorem dX8_setting_33 : decode cX8_setting 33 = .ok (.iadd, 1) := by decide +kernel
theorem dX8_setting_34 : decode cX8_setting 34 = .ok (.iaload, 1) := by decide +kernel
theorem dX8_setting_35 : decode cX8_setting 35 = .ok (.ireturn, 1) := by decide +kernel
theorem dX8_whyNot_0 : decode cX8_whyNot 0 = .ok (.aload_n 0, 1) := by decide +kernel
theorem dX8_whyNot_1 : decode cX8_whyNot 1 = .ok (.aload_n 0, 1) := by decide +kernel
theorem dX8_whyNot_2 : decode cX8_whyNot 2 = .ok (.iload_n 1, 1) := by decide +kernel
theorem dX8_whyNot_3 : decode cX8_whyNot 3 = .ok (.iload_n 2, 1) := by decide +kernel
theorem dX8_whyNot_4 : decode cX8_whyNot 4 = .ok (.iload_n 3, 1) := by decide +kernel
theorem dX8_whyNot_5 : decode cX8_whyNot 5 = .ok (.iload 4, 2) := by decide +kernel
theorem dX8_whyNot_7 : decode cX8_whyNot 7 = .ok (.invokevirtual 115, 3) := by decide +kernel
theorem dX8_whyNot_10 : decode cX8_whyNot 10 = .ok (.putfield 31, 3) := by decide +kernel
theorem dX8_whyNot_13 : decode cX8_whyNot 13 = .ok (.aload_n 0, 1) := by decide +kernel
theorem dX8_whyNot_14 : decode cX8_whyNot 14 = .ok (.getfield 31, 3) := by decide +kernel
theorem dX8_whyNot_17 : decode cX8_whyNot 17 = .ok (.ifCond .le 7, 3) := by decide +kernel
theorem dX8_whyNot_20 : decode cX8_whyNot 20 = .ok (.iconst 0, 1) := by decide +kernel
theorem dX8_whyNot_21 : decode cX8_whyNot 21 = .ok (.goto 8, 3) := by decide +kernel
theorem dX8_whyNot_24 : decode cX8_whyNot 24 = .ok (.aload_n 0, 1) := by decide +kernel
theorem dX8_whyNot_25 : decode cX8_whyNot 25 = .ok (.iload_n 1, 1) := by decide +kernel
theorem dX8_whyNot_26 : decode cX8_whyNot 26 = .ok (.invokevirtual 118, 3) := by decide +kernel
theorem dX8_whyNot_29 : decode cX8_whyNot 29 = .ok (.ireturn, 1) := by decide +kernel
theorem dX8_tryChain_0 : decode cX8_tryChain 0 = .ok (.iconst 0, 1) := by decide +kernel
theorem dX8_tryChain_1 : decode cX8_tryChain 1 = .ok (.istore_n 2, 1) := by decide +kernel
theorem dX8_tryChain_2 : decode cX8_tryChain 2 = .ok (.iconst 0, 1) := by decide +kernel
theorem dX8_tryChain_3 : decode cX8_tryChain 3 = .ok (.istore_n 3, 1) := by decide +kernel
theorem dX8_tryChain_4 : decode cX8_tryChain 4 = .ok (.iload_n 3, 1) := by decide +kernel
theorem dX8_tryChain_5 : decode cX8_tryChain 5 = .ok (.aload_n 0, 1) := by decide +kernel
theorem dX8_tryChain_6 : decode cX8_tryChain 6 = .ok (.getfield 91, 3) := by decide +kernel
theorem dX8_tryChain_9 : decode cX8_tryChain 9 = .ok (.if_icmp .ge 27, 3) := by decide +kernel
theorem dX8_tryChain_12 : decode cX8_tryChain 12 = .ok (.iload_n 2, 1) := by decide +kernel
theorem dX8_tryChain_13 : decode cX8_tryChain 13 = .ok (.aload_n 0, 1) := by decide +kernel
theorem dX8_tryChain_14 : decode cX8_tryChain 14 = .ok (.aload_n 0, 1) := by decide +kernel
theorem dX8_tryChain_15 : decode cX8_tryChain 15 = .ok (.getfield 19, 3) := by decide +kernel
theorem dX8_tryChain_18 : decode cX8_tryChain 18 = .ok (.iload_n 3, 1) := by decide +kernel
theorem dX8_tryChain_19 : decode cX8_tryChain 19 = .ok (.iaload, 1) := by decide +kernel
theorem dX8_tryChain_20 : decode cX8_tryChain 20 = .ok (.iload_n 1, 1) := by decide +kernel
theorem dX8_tryChain_21 : decode cX8_tryChain 21 = .ok (.aload_n 0, 1) := by decide +kernel
theorem dX8_tryChain_22 : decode cX8_tryChain 22 = .ok (.getfield 91, 3) := by decide +kernel
theorem dX8_tryChain_25 : decode cX8_tryChain 25 = .ok (.invokevirtual 61, 3) := by decide +kernel
theorem dX8_tryChain_28 : decode cX8_tryChain 28 = .ok (.iadd, 1) := by decide +kernel
theorem dX8_tryChain_29 : decode cX8_tryChain 29 = .ok (.istore_n 2, 1) := by decide +kernel
theorem dX8_tryChain_30 : decode cX8_tryChain 30 = .ok (.iinc 3 1, 3) := by decide +kernel
theorem dX8_tryChain_33 : decode cX8_tryChain 33 = .ok (.goto (-29), 3) := by decide +kernel
theorem dX8_tryChain_36 : decode cX8_tryChain 36 = .ok (.iload_n 2, 1) := by decide +kernel
theorem dX8_tryChain_37 : decode cX8_tryChain 37 = .ok (.aload_n 0, 1) := by decide +kernel
theorem dX8_tryChain_38 : decode cX8_tryChain 38 = .ok (.getfield 202, 3) := by decide +kernel
theorem dX8_tryChain_41 : decode cX8_tryChain 41 = .ok (.if_icmp .ge 49, 3) := by decide +kernel
theorem dX8_tryChain_44 : decode cX8_tryChain 44 = .ok (.aload_n 0, 1) := by decide +kernel
theorem dX8_tryChain_45 : decode cX8_tryChain 45 = .ok (.iload_n 1, 1) := by decide +kernel
theorem dX8_tryChain_46 : decode cX8_tryChain 46 = .ok (.invokevirtual 118, 3) := by decide +kernel
theorem dX8_tryChain_49 : decode cX8_tryChain 49 = .ok (.ifCond .ne 41, 3) := by decide +kernel
theorem dX8_tryChain_52 : decode cX8_tryChain 52 = .ok (.aload_n 0, 1) := by decide +kernel
theorem dX8_tryChain_53 : decode cX8_tryChain 53 = .ok (.iload_n 2, 1) := by decide +kernel
theorem dX8_tryChain_54 : decode cX8_tryChain 54 = .ok (.putfield 202, 3) := by decide +kernel
theorem dX8_tryChain_57 : decode cX8_tryChain 57 = .ok (.aload_n 0, 1) := by decide +kernel
theorem dX8_tryChain_58 : decode cX8_tryChain 58 = .ok (.aload_n 0, 1) := by decide +kernel
theorem dX8_tryChain_59 : decode cX8_tryChain 59 = .ok (.getfield 91, 3) := by decide +kernel
theorem dX8_tryChain_62 : decode cX8_tryChain 62 = .ok (.putfield 205, 3) := by decide +kernel
theorem dX8_tryChain_65 : decode cX8_tryChain 65 = .ok (.iconst 0, 1) := by decide +kernel
theorem dX8_tryChain_66 : decode cX8_tryChain 66 = .ok (.istore_n 3, 1) := by decide +kernel
theorem dX8_tryChain_67 : decode cX8_tryChain 67 = .ok (.iload_n 3, 1) := by decide +kernel
theorem dX8_tryChain_68 : decode cX8_tryChain 68 = .ok (.iconst 3, 1) := by decide +kernel
theorem dX8_tryChain_69 : decode cX8_tryChain 69 = .ok (.if_icmp .ge 21, 3) := by decide +kernel
theorem dX8_tryChain_72 : decode cX8_tryChain 72 = .ok (.aload_n 0, 1) := by decide +kernel
theorem dX8_tryChain_73 : decode cX8_tryChain 73 = .ok (.getfield 25, 3) := by decide +kernel
theorem dX8_tryChain_76 : decode cX8_tryChain 76 = .ok (.iload_n 3, 1) := by decide +kernel
theorem dX8_tryChain_77 : decode cX8_tryChain 77 = .ok (.aload_n 0, 1) := by decide +kernel
theorem dX8_tryChain_78 : decode cX8_tryChain 78 = .ok (.getfield 19, 3) := by decide +kernel
theorem dX8_tryChain_81 : decode cX8_tryChain 81 = .ok (.iload_n 3, 1) := by decide +kernel
theorem dX8_tryChain_82 : decode cX8_tryChain 82 = .ok (.iaload, 1) := by decide +kernel
theorem dX8_tryChain_83 : decode cX8_tryChain 83 = .ok (.iastore, 1) := by decide +kernel
theorem dX8_tryChain_84 : decode cX8_tryChain 84 = .ok (.iinc 3 1, 3) := by decide +kernel
theorem dX8_tryChain_87 : decode cX8_tryChain 87 = .ok (.goto (-20), 3) := by decide +kernel
theorem dX8_tryChain_90 : decode cX8_tryChain 90 = .ok (.return_, 1) := by decide +kernel
theorem dX8_layCheapest_0 : decode cX8_layCheapest 0 = .ok (.aload_n 0, 1) := by decide +kernel
theorem dX8_layCheapest_1 : decode cX8_layCheapest 1 = .ok (.ldc 208, 2) := by decide +kernel
theorem dX8_layCheapest_3 : decode cX8_layCheapest 3 = .ok (.putfield 202, 3) := by decide +kernel
theorem dX8_layCheapest_6 : decode cX8_layCheapest 6 = .ok (.iconst 1, 1) := by decide +kernel
theorem dX8_layCheapest_7 : decode cX8_layCheapest 7 = .ok (.istore_n 2, 1) := by decide +kernel
theorem dX8_layCheapest_8 : decode cX8_layCheapest 8 = .ok (.iload_n 2, 1) := by decide +kernel
theorem dX8_layCheapest_9 : decode cX8_layCheapest 9 = .ok (.iconst 3, 1) := by decide +kernel
theorem dX8_layCheapest_10 : decode cX8_layCheapest 10 = .ok (.if_icmp .gt 184, 3) := by decide +kernel
theorem dX8_layCheapest_13 : decode cX8_layCheapest 13 = .ok (.iload_n 2, 1) := by decide +kernel
theorem dX8_layCheapest_14 : decode cX8_layCheapest 14 = .ok (.iconst 1, 1) := by decide +kernel
theorem dX8_layCheapest_15 : decode cX8_layCheapest 15 = .ok (.if_icmp .ne 7, 3) := by decide +kernel
theorem dX8_layCheapest_18 : decode cX8_layCheapest 18 = .ok (.iconst 1, 1) := by decide +kernel
theorem dX8_layCheapest_19 : decode cX8_layCheapest 19 = .ok (.goto 15, 3) := by decide +kernel
theorem dX8_layCheapest_22 : decode cX8_layCheapest 22 = .ok (.iload_n 2, 1) := by decide +kernel
theorem dX8_layCheapest_23 : decode cX8_layCheapest 23 = .ok (.iconst 2, 1) := by decide +kernel
theorem dX8_layCheapest_24 : decode cX8_layCheapest 24 = .ok (.if_icmp .ne 8, 3) := by decide +kernel
theorem dX8_layCheapest_27 : decode cX8_layCheapest 27 = .ok (.bipush 10, 2) := by decide +kernel
theorem dX8_layCheapest_29 : decode cX8_layCheapest 29 = .ok (.goto 5, 3) := by decide +kernel
theorem dX8_layCheapest_32 : decode cX8_layCheapest 32 = .ok (.bipush 100, 2) := by decide +kernel
theorem dX8_layCheapest_34 : decode cX8_layCheapest 34 = .ok (.istore_n 3, 1) := by decide +kernel
theorem dX8_layCheapest_35 : decode cX8_layCheapest 35 = .ok (.iconst 0, 1) := by decide +kernel
theorem dX8_layCheapest_36 : decode cX8_layCheapest 36 = .ok (.istore 4, 2) := by decide +kernel
theorem dX8_layCheapest_38 : decode cX8_layCheapest 38 = .ok (.iload 4, 2) := by decide +kernel
theorem dX8_layCheapest_40 : decode cX8_layCheapest 40 = .ok (.iload_n 3, 1) := by decide +kernel
theorem dX8_layCheapest_41 : decode cX8_layCheapest 41 = .ok (.aload_n 0, 1) := by decide +kernel
theorem dX8_layCheapest_42 : decode cX8_layCheapest 42 = .ok (.getfield 7, 3) := by decide +kernel
theorem dX8_layCheapest_45 : decode cX8_layCheapest 45 = .ok (.bipush 7, 2) := by decide +kernel
theorem dX8_layCheapest_47 : decode cX8_layCheapest 47 = .ok (.iaload, 1) := by decide +kernel
theorem dX8_layCheapest_48 : decode cX8_layCheapest 48 = .ok (.imul, 1) := by decide +kernel
theorem dX8_layCheapest_49 : decode cX8_layCheapest 49 = .ok (.if_icmp .ge 139, 3) := by decide +kernel
theorem dX8_layCheapest_52 : decode cX8_layCheapest 52 = .ok (.iload 4, 2) := by decide +kernel
theorem dX8_layCheapest_54 : decode cX8_layCheapest 54 = .ok (.iload_n 3, 1) := by decide +kernel
theorem dX8_layCheapest_55 : decode cX8_layCheapest 55 = .ok (.idiv, 1) := by decide +kernel
theorem dX8_layCheapest_56 : decode cX8_layCheapest 56 = .ok (.istore 5, 2) := by decide +kernel
theorem dX8_layCheapest_58 : decode cX8_layCheapest 58 = .ok (.iload_n 2, 1) := by decide +kernel
theorem dX8_layCheapest_59 : decode cX8_layCheapest 59 = .ok (.iconst 1, 1) := by decide +kernel
theorem dX8_layCheapest_60 : decode cX8_layCheapest 60 = .ok (.if_icmp .ne 7, 3) := by decide +kernel
theorem dX8_layCheapest_63 : decode cX8_layCheapest 63 = .ok (.iconst (-1), 1) := by decide +kernel
theorem dX8_layCheapest_64 : decode cX8_layCheapest 64 = .ok (.goto 24, 3) := by decide +kernel
theorem dX8_layCheapest_67 : decode cX8_layCheapest 67 = .ok (.iload_n 2, 1) := by decide +kernel
theorem dX8_layCheapest_68 : decode cX8_layCheapest 68 = .ok (.iconst 2, 1) := by decide +kernel
theorem dX8_layCheapest_69 : decode cX8_layCheapest 69 = .ok (.if_icmp .ne 11, 3) := by decide +kernel
theorem dX8_layCheapest_72 : decode cX8_layCheapest 72 = .ok (.iload 4, 2) := by decide +kernel
theorem dX8_layCheapest_74 : decode cX8_layCheapest 74 = .ok (.bipush 10, 2) := by decide +kernel
theorem dX8_layCheapest_76 : decode cX8_layCheapest 76 = .ok (.irem, 1) := by decide +kernel
theorem dX8_layCheapest_77 : decode cX8_layCheapest 77 = .ok (.goto 11, 3) := by decide +kernel
theorem dX8_layCheapest_80 : decode cX8_layCheapest 80 = .ok (.iload 4, 2) := by decide +kernel
theorem dX8_layCheapest_82 : decode cX8_layCheapest 82 = .ok (.bipush 10, 2) := by decide +kernel
theorem dX8_layCheapest_84 : decode cX8_layCheapest 84 = .ok (.idiv, 1) := by decide +kernel
theorem dX8_layCheapest_85 : decode cX8_layCheapest 85 = .ok (.bipush 10, 2) := by decide +kernel
theorem dX8_layCheapest_87 : decode cX8_layCheapest 87 = .ok (.irem, 1) := by decide +kernel
theorem dX8_layCheapest_88 : decode cX8_layCheapest 88 = .ok (.istore 6, 2) := by decide +kernel
theorem dX8_layCheapest_90 : decode cX8_layCheapest 90 = .ok (.iload_n 2, 1) := by decide +kernel
theorem dX8_layCheapest_91 : decode cX8_layCheapest 91 = .ok (.iconst 3, 1) := by decide +kernel
theorem dX8_layCheapest_92 : decode cX8_layCheapest 92 = .ok (.if_icmp .ge 7, 3) := by decide +kernel
theorem dX8_layCheapest_95 : decode cX8_layCheapest 95 = .ok (.iconst (-1), 1) := by decide +kernel
theorem dX8_layCheapest_96 : decode cX8_layCheapest 96 = .ok (.goto 8, 3) := by decide +kernel
theorem dX8_layCheapest_99 : decode cX8_layCheapest 99 = .ok (.iload 4, 2) := by decide +kernel
theorem dX8_layCheapest_101 : decode cX8_layCheapest 101 = .ok (.bipush 10, 2) := by decide +kernel
theorem dX8_layCheapest_103 : decode cX8_layCheapest 103 = .ok (.irem, 1) := by decide +kernel
theorem dX8_layCheapest_104 : decode cX8_layCheapest 104 = .ok (.istore 7, 2) := by decide +kernel
theorem dX8_layCheapest_106 : decode cX8_layCheapest 106 = .ok (.iload_n 2, 1) := by decide +kernel
theorem dX8_layCheapest_107 : decode cX8_layCheapest 107 = .ok (.iconst 2, 1) := by decide +kernel
theorem dX8_layCheapest_108 : decode cX8_layCheapest 108 = .ok (.if_icmp .lt 19, 3) := by decide +kernel
theorem dX8_layCheapest_111 : decode cX8_layCheapest 111 = .ok (.aload_n 0, 1) := by decide +kernel
theorem dX8_layCheapest_112 : decode cX8_layCheapest 112 = .ok (.iload 6, 2) := by decide +kernel
theorem dX8_layCheapest_114 : decode cX8_layCheapest 114 = .ok (.invokevirtual 82, 3) := by decide +kernel
theorem dX8_layCheapest_117 : decode cX8_layCheapest 117 = .ok (.ifCond .eq 42, 3) := by decide +kernel
theorem dX8_layCheapest_120 : decode cX8_layCheapest 120 = .ok (.iload 6, 2) := by decide +kernel
theorem dX8_layCheapest_122 : decode cX8_layCheapest 122 = .ok (.iload 5, 2) := by decide +kernel
theorem dX8_layCheapest_124 : decode cX8_layCheapest 124 = .ok (.if_icmp .eq 35, 3) := by decide +kernel
theorem dX8_layCheapest_127 : decode cX8_layCheapest 127 = .ok (.iload_n 2, 1) := by decide +kernel
theorem dX8_layCheapest_128 : decode cX8_layCheapest 128 = .ok (.iconst 3, 1) := by decide +kernel
theorem dX8_layCheapest_129 : decode cX8_layCheapest 129 = .ok (.if_icmp .lt 26, 3) := by decide +kernel
theorem dX8_layCheapest_132 : decode cX8_layCheapest 132 = .ok (.aload_n 0, 1) := by decide +kernel
theorem dX8_layCheapest_133 : decode cX8_layCheapest 133 = .ok (.iload 7, 2) := by decide +kernel
theorem dX8_layCheapest_135 : decode cX8_layCheapest 135 = .ok (.invokevirtual 82, 3) := by decide +kernel
theorem dX8_layCheapest_138 : decode cX8_layCheapest 138 = .ok (.ifCond .eq 21, 3) := by decide +kernel
theorem dX8_layCheapest_141 : decode cX8_layCheapest 141 = .ok (.iload 7, 2) := by decide +kernel
theorem dX8_layCheapest_143 : decode cX8_layCheapest 143 = .ok (.iload 5, 2) := by decide +kernel
theorem dX8_layCheapest_145 : decode cX8_layCheapest 145 = .ok (.if_icmp .eq 14, 3) := by decide +kernel
theorem dX8_layCheapest_148 : decode cX8_layCheapest 148 = .ok (.iload 7, 2) := by decide +kernel
theorem dX8_layCheapest_150 : decode cX8_layCheapest 150 = .ok (.iload 6, 2) := by decide +kernel
theorem dX8_layCheapest_152 : decode cX8_layCheapest 152 = .ok (.if_icmp .eq 7, 3) := by decide +kernel
theorem dX8_layCheapest_155 : decode cX8_layCheapest 155 = .ok (.iconst 1, 1) := by decide +kernel
theorem dX8_layCheapest_156 : decode cX8_layCheapest 156 = .ok (.goto 4, 3) := by decide +kernel
theorem dX8_layCheapest_159 : decode cX8_layCheapest 159 = .ok (.iconst 0, 1) := by decide +kernel
theorem dX8_layCheapest_160 : decode cX8_layCheapest 160 = .ok (.istore 8, 2) := by decide +kernel
theorem dX8_layCheapest_162 : decode cX8_layCheapest 162 = .ok (.iload 8, 2) := by decide +kernel
theorem dX8_layCheapest_164 : decode cX8_layCheapest 164 = .ok (.ifCond .eq 18, 3) := by decide +kernel
theorem dX8_layCheapest_167 : decode cX8_layCheapest 167 = .ok (.aload_n 0, 1) := by decide +kernel
theorem dX8_layCheapest_168 : decode cX8_layCheapest 168 = .ok (.iload 5, 2) := by decide +kernel
theorem dX8_layCheapest_170 : decode cX8_layCheapest 170 = .ok (.iload 6, 2) := by decide +kernel
theorem dX8_layCheapest_172 : decode cX8_layCheapest 172 = .ok (.iload 7, 2) := by decide +kernel
theorem dX8_layCheapest_174 : decode cX8_layCheapest 174 = .ok (.invokevirtual 112, 3) := by decide +kernel
theorem dX8_layCheapest_177 : decode cX8_layCheapest 177 = .ok (.aload_n 0, 1) := by decide +kernel
theorem dX8_layCheapest_178 : decode cX8_layCheapest 178 = .ok (.iload_n 1, 1) := by decide +kernel
theorem dX8_layCheapest_179 : decode cX8_layCheapest 179 = .ok (.invokevirtual 209, 3) := by decide +kernel
theorem dX8_layCheapest_182 : decode cX8_layCheapest 182 = .ok (.iinc 4 1, 3) := by decide +kernel
theorem dX8_layCheapest_185 : decode cX8_layCheapest 185 = .ok (.goto (-147), 3) := by decide +kernel
theorem dX8_layCheapest_188 : decode cX8_layCheapest 188 = .ok (.iinc 2 1, 3) := by decide +kernel
theorem dX8_layCheapest_191 : decode cX8_layCheapest 191 = .ok (.goto (-183), 3) := by decide +kernel
theorem dX8_layCheapest_194 : decode cX8_layCheapest 194 = .ok (.aload_n 0, 1) := by decide +kernel
theorem dX8_layCheapest_195 : decode cX8_layCheapest 195 = .ok (.getfield 202, 3) := by decide +kernel
theorem dX8_layCheapest_198 : decode cX8_layCheapest 198 = .ok (.ldc 208, 2) := by decide +kernel
theorem dX8_layCheapest_200 : decode cX8_layCheapest 200 = .ok (.if_icmp .ge 7, 3) := by decide +kernel
theorem dX8_layCheapest_203 : decode cX8_layCheapest 203 = .ok (.iconst 1, 1) := by decide +kernel
theorem dX8_layCheapest_204 : decode cX8_layCheapest 204 = .ok (.goto 4, 3) := by decide +kernel
theorem dX8_layCheapest_207 : decode cX8_layCheapest 207 = .ok (.iconst 0, 1) := by decide +kernel
theorem dX8_layCheapest_208 : decode cX8_layCheapest 208 = .ok (.ireturn, 1) := by decide +kernel
theorem dX8_cheapestNow_0 : decode cX8_cheapestNow 0 = .ok (.aload_n 0, 1) := by decide +kernel
theorem dX8_cheapestNow_1 : decode cX8_cheapestNow 1 = .ok (.iload_n 1, 1) := by decide +kernel
theorem dX8_cheapestNow_2 : decode cX8_cheapestNow 2 = .ok (.invokevirtual 125, 3) := by decide +kernel
theorem dX8_cheapestNow_5 : decode cX8_cheapestNow 5 = .ok (.ifCond .eq 11, 3) := by decide +kernel
theorem dX8_cheapestNow_8 : decode cX8_cheapestNow 8 = .ok (.aload_n 0, 1) := by decide +kernel
theorem dX8_cheapestNow_9 : decode cX8_cheapestNow 9 = .ok (.iload_n 1, 1) := by decide +kernel
theorem dX8_cheapestNow_10 : decode cX8_cheapestNow 10 = .ok (.invokevirtual 212, 3) := by decide +kernel
theorem dX8_cheapestNow_13 : decode cX8_cheapestNow 13 = .ok (.ifCond .ne 5, 3) := by decide +kernel
theorem dX8_cheapestNow_16 : decode cX8_cheapestNow 16 = .ok (.iconst (-1), 1) := by decide +kernel
theorem dX8_cheapestNow_17 : decode cX8_cheapestNow 17 = .ok (.ireturn, 1) := by decide +kernel
theorem dX8_cheapestNow_18 : decode cX8_cheapestNow 18 = .ok (.iload_n 2, 1) := by decide +kernel
theorem dX8_cheapestNow_19 : decode cX8_cheapestNow 19 = .ok (.ifCond .ne 10, 3) := by decide +kernel
theorem dX8_cheapestNow_22 : decode cX8_cheapestNow 22 = .ok (.aload_n 0, 1) := by decide +kernel
theorem dX8_cheapestNow_23 : decode cX8_cheapestNow 23 = .ok (.getfield 202, 3) := by decide +kernel
theorem dX8_cheapestNow_26 : decode cX8_cheapestNow 26 = .ok (.goto 23, 3) := by decide +kernel
theorem dX8_cheapestNow_29 : decode cX8_cheapestNow 29 = .ok (.iload_n 2, 1) := by decide +kernel
theorem dX8_cheapestNow_30 : decode cX8_cheapestNow 30 = .ok (.iconst 1, 1) := by decide +kernel
theorem dX8_cheapestNow_31 : decode cX8_cheapestNow 31 = .ok (.if_icmp .ne 10, 3) := by decide +kernel
theorem dX8_cheapestNow_34 : decode cX8_cheapestNow 34 = .ok (.aload_n 0, 1) := by decide +kernel
theorem dX8_cheapestNow_35 : decode cX8_cheapestNow 35 = .ok (.getfield 205, 3) := by decide +kernel
theorem dX8_cheapestNow_38 : decode cX8_cheapestNow 38 = .ok (.goto 11, 3) := by decide +kernel
theorem dX8_cheapestNow_41 : decode cX8_cheapestNow 41 = .ok (.aload_n 0, 1) := by decide +kernel
theorem dX8_cheapestNow_42 : decode cX8_cheapestNow 42 = .ok (.getfield 25, 3) := by decide +kernel
theorem dX8_cheapestNow_45 : decode cX8_cheapestNow 45 = .ok (.iload_n 2, 1) := by decide +kernel
theorem dX8_cheapestNow_46 : decode cX8_cheapestNow 46 = .ok (.iconst 2, 1) := by decide +kernel
theorem dX8_cheapestNow_47 : decode cX8_cheapestNow 47 = .ok (.isub, 1) := by decide +kernel
theorem dX8_cheapestNow_48 : decode cX8_cheapestNow 48 = .ok (.iaload, 1) := by decide +kernel
theorem dX8_cheapestNow_49 : decode cX8_cheapestNow 49 = .ok (.ireturn, 1) := by decide +kernel
theorem dX8_cheapest_0 : decode cX8_cheapest 0 = .ok (.aload_n 0, 1) := by decide +kernel
theorem dX8_cheapest_1 : decode cX8_cheapest 1 = .ok (.aload_n 0, 1) := by decide +kernel
theorem dX8_cheapest_2 : decode cX8_cheapest 2 = .ok (.iload_n 1, 1) := by decide +kernel
theorem dX8_cheapest_3 : decode cX8_cheapest 3 = .ok (.invokevirtual 109, 3) := by decide +kernel
theorem dX8_cheapest_6 : decode cX8_cheapest 6 = .ok (.ifCond .ne 7, 3) := by decide +kernel
theorem dX8_cheapest_9 : decode cX8_cheapest 9 = .ok (.iconst 1, 1) := by decide +kernel
theorem dX8_cheapest_10 : decode cX8_cheapest 10 = .ok (.goto 17, 3) := by decide +kernel
theorem dX8_cheapest_13 : decode cX8_cheapest 13 = .ok (.iload_n 2, 1) := by decide +kernel
theorem dX8_cheapest_14 : decode cX8_cheapest 14 = .ok (.iconst 0, 1) := by decide +kernel
theorem dX8_cheapest_15 : decode cX8_cheapest 15 = .ok (.iconst 4, 1) := by decide +kernel
theorem dX8_cheapest_16 : decode cX8_cheapest 16 = .ok (.invokestatic 38, 3) := by decide +kernel
theorem dX8_cheapest_19 : decode cX8_cheapest 19 = .ok (.ifCond .eq 7, 3) := by decide +kernel
theorem dX8_cheapest_22 : decode cX8_cheapest 22 = .ok (.iconst 0, 1) := by decide +kernel
theorem dX8_cheapest_23 : decode cX8_cheapest 23 = .ok (.goto 4, 3) := by decide +kernel
theorem dX8_cheapest_26 : decode cX8_cheapest 26 = .ok (.iconst 2, 1) := by decide +kernel
theorem dX8_cheapest_27 : decode cX8_cheapest 27 = .ok (.putfield 31, 3) := by decide +kernel
theorem dX8_cheapest_30 : decode cX8_cheapest 30 = .ok (.aload_n 0, 1) := by decide +kernel
theorem dX8_cheapest_31 : decode cX8_cheapest 31 = .ok (.getfield 31, 3) := by decide +kernel
theorem dX8_cheapest_34 : decode cX8_cheapest 34 = .ok (.ifCond .le 7, 3) := by decide +kernel
theorem dX8_cheapest_37 : decode cX8_cheapest 37 = .ok (.iconst 0, 1) := by decide +kernel
theorem dX8_cheapest_38 : decode cX8_cheapest 38 = .ok (.goto 9, 3) := by decide +kernel
theorem dX8_cheapest_41 : decode cX8_cheapest 41 = .ok (.aload_n 0, 1) := by decide +kernel
theorem dX8_cheapest_42 : decode cX8_cheapest 42 = .ok (.iload_n 1, 1) := by decide +kernel
theorem dX8_cheapest_43 : decode cX8_cheapest 43 = .ok (.iload_n 2, 1) := by decide +kernel
theorem dX8_cheapest_44 : decode cX8_cheapest 44 = .ok (.invokevirtual 215, 3) := by decide +kernel
theorem dX8_cheapest_47 : decode cX8_cheapest 47 = .ok (.ireturn, 1) := by decide +kernel
theorem dX8_keep_0 : decode cX8_keep 0 = .ok (.iconst 0, 1) := by decide +kernel
theorem dX8_keep_1 : decode cX8_keep 1 = .ok (.istore_n 1, 1) := by decide +kernel
theorem dX8_keep_2 : decode cX8_keep 2 = .ok (.iload_n 1, 1) := by decide +kernel
theorem dX8_keep_3 : decode cX8_keep 3 = .ok (.sipush 373, 3) := by decide +kernel
theorem dX8_keep_6 : decode cX8_keep 6 = .ok (.if_icmp .ge 21, 3) := by decide +kernel
theorem dX8_keep_9 : decode cX8_keep 9 = .ok (.aload_n 0, 1) := by decide +kernel
theorem dX8_keep_10 : decode cX8_keep 10 = .ok (.getfield 28, 3) := by decide +kernel
theorem dX8_keep_13 : decode cX8_keep 13 = .ok (.iload_n 1, 1) := by decide +kernel
theorem dX8_keep_14 : decode cX8_keep 14 = .ok (.aload_n 0, 1) := by decide +kernel
theorem dX8_keep_15 : decode cX8_keep 15 = .ok (.getfield 7, 3) := by decide +kernel
theorem dX8_keep_18 : decode cX8_keep 18 = .ok (.iload_n 1, 1) := by decide +kernel
theorem dX8_keep_19 : decode cX8_keep 19 = .ok (.iaload, 1) := by decide +kernel
theorem dX8_keep_20 : decode cX8_keep 20 = .ok (.iastore, 1) := by decide +kernel
theorem dX8_keep_21 : decode cX8_keep 21 = .ok (.iinc 1 1, 3) := by decide +kernel
theorem dX8_keep_24 : decode cX8_keep 24 = .ok (.goto (-22), 3) := by decide +kernel
theorem dX8_keep_27 : decode cX8_keep 27 = .ok (.return_, 1) := by decide +kernel
theorem dX8_layBack_0 : decode cX8_layBack 0 = .ok (.iconst 0, 1) := by decide +kernel
theorem dX8_layBack_1 : decode cX8_layBack 1 = .ok (.istore_n 1, 1) := by decide +kernel
theorem dX8_layBack_2 : decode cX8_layBack 2 = .ok (.iload_n 1, 1) := by decide +kernel
theorem dX8_layBack_3 : decode cX8_layBack 3 = .ok (.sipush 373, 3) := by decide +kernel
theorem dX8_layBack_6 : decode cX8_layBack 6 = .ok (.if_icmp .ge 21, 3) := by decide +kernel
theorem dX8_layBack_9 : decode cX8_layBack 9 = .ok (.aload_n 0, 1) := by decide +kernel
theorem dX8_layBack_10 : decode cX8_layBack 10 = .ok (.getfield 7, 3) := by decide +kernel
theorem dX8_layBack_13 : decode cX8_layBack 13 = .ok (.iload_n 1, 1) := by decide +kernel
theorem dX8_layBack_14 : decode cX8_layBack 14 = .ok (.aload_n 0, 1) := by decide +kernel
theorem dX8_layBack_15 : decode cX8_layBack 15 = .ok (.getfield 28, 3) := by decide +kernel
theorem dX8_layBack_18 : decode cX8_layBack 18 = .ok (.iload_n 1, 1) := by decide +kernel
theorem dX8_layBack_19 : decode cX8_layBack 19 = .ok (.iaload, 1) := by decide +kernel
theorem dX8_layBack_20 : decode cX8_layBack 20 = .ok (.iastore, 1) := by decide +kernel
theorem dX8_layBack_21 : decode cX8_layBack 21 = .ok (.iinc 1 1, 3) := by decide +kernel
theorem dX8_layBack_24 : decode cX8_layBack 24 = .ok (.goto (-22), 3) := by decide +kernel
theorem dX8_layBack_27 : decode cX8_layBack 27 = .ok (.return_, 1) := by decide +kernel
theorem dX8_tiredThen_0 : decode cX8_tiredThen 0 = .ok (.aload_n 0, 1) := by decide +kernel
theorem dX8_tiredThen_1 : decode cX8_tiredThen 1 = .ok (.invokevirtual 218, 3) := by decide +kernel
theorem dX8_tiredThen_4 : decode cX8_tiredThen 4 = .ok (.aload_n 0, 1) := by decide +kernel
theorem dX8_tiredThen_5 : decode cX8_tiredThen 5 = .ok (.iload_n 2, 1) := by decide +kernel
theorem dX8_tiredThen_6 : decode cX8_tiredThen 6 = .ok (.invokevirtual 150, 3) := by decide +kernel
theorem dX8_tiredThen_9 : decode cX8_tiredThen 9 = .ok (.istore_n 3, 1) := by decide +kernel
theorem dX8_tiredThen_10 : decode cX8_tiredThen 10 = .ok (.aload_n 0, 1) := by decide +kernel
theorem dX8_tiredThen_11 : decode cX8_tiredThen 11 = .ok (.getfield 7, 3) := by decide +kernel
theorem dX8_tiredThen_14 : decode cX8_tiredThen 14 = .ok (.bipush 43, 2) := by decide +kernel
theorem dX8_tiredThen_16 : decode cX8_tiredThen 16 = .ok (.iload_n 1, 1) := by decide +kernel
theorem dX8_tiredThen_17 : decode cX8_tiredThen 17 = .ok (.iadd, 1) := by decide +kernel
theorem dX8_tiredThen_18 : decode cX8_tiredThen 18 = .ok (.iaload, 1) := by decide +kernel
theorem dX8_tiredThen_19 : decode cX8_tiredThen 19 = .ok (.istore 4, 2) := by decide +kernel
theorem dX8_tiredThen_21 : decode cX8_tiredThen 21 = .ok (.aload_n 0, 1) := by decide +kernel
theorem dX8_tiredThen_22 : decode cX8_tiredThen 22 = .ok (.invokevirtual 221, 3) := by decide +kernel
theorem dX8_tiredThen_25 : decode cX8_tiredThen 25 = .ok (.iload 4, 2) := by decide +kernel
theorem dX8_tiredThen_27 : decode cX8_tiredThen 27 = .ok (.ireturn, 1) := by decide +kernel
theorem dX8_tiredIn_0 : decode cX8_tiredIn 0 = .ok (.aload_n 0, 1) := by decide +kernel
theorem dX8_tiredIn_1 : decode cX8_tiredIn 1 = .ok (.aload_n 0, 1) := by decide +kernel
theorem dX8_tiredIn_2 : decode cX8_tiredIn 2 = .ok (.iload_n 1, 1) := by decide +kernel
theorem dX8_tiredIn_3 : decode cX8_tiredIn 3 = .ok (.invokevirtual 82, 3) := by decide +kernel
theorem dX8_tiredIn_6 : decode cX8_tiredIn 6 = .ok (.ifCond .ne 7, 3) := by decide +kernel
theorem dX8_tiredIn_9 : decode cX8_tiredIn 9 = .ok (.iconst 1, 1) := by decide +kernel
theorem dX8_tiredIn_10 : decode cX8_tiredIn 10 = .ok (.goto 19, 3) := by decide +kernel
theorem dX8_tiredIn_13 : decode cX8_tiredIn 13 = .ok (.iload_n 2, 1) := by decide +kernel
theorem dX8_tiredIn_14 : decode cX8_tiredIn 14 = .ok (.iconst 0, 1) := by decide +kernel
theorem dX8_tiredIn_15 : decode cX8_tiredIn 15 = .ok (.sipush 500, 3) := by decide +kernel
theorem dX8_tiredIn_18 : decode cX8_tiredIn 18 = .ok (.invokestatic 38, 3) := by decide +kernel
theorem dX8_tiredIn_21 : decode cX8_tiredIn 21 = .ok (.ifCond .eq 7, 3) := by decide +kernel
theorem dX8_tiredIn_24 : decode cX8_tiredIn 24 = .ok (.iconst 0, 1) := by decide +kernel
theorem dX8_tiredIn_25 : decode cX8_tiredIn 25 = .ok (.goto 4, 3) := by decide +kernel
theorem dX8_tiredIn_28 : decode cX8_tiredIn 28 = .ok (.iconst 2, 1) := by decide +kernel
theorem dX8_tiredIn_29 : decode cX8_tiredIn 29 = .ok (.putfield 31, 3) := by decide +kernel
theorem dX8_tiredIn_32 : decode cX8_tiredIn 32 = .ok (.aload_n 0, 1) := by decide +kernel
theorem dX8_tiredIn_33 : decode cX8_tiredIn 33 = .ok (.getfield 31, 3) := by decide +kernel
theorem dX8_tiredIn_36 : decode cX8_tiredIn 36 = .ok (.ifCond .le 7, 3) := by decide +kernel
theorem dX8_tiredIn_39 : decode cX8_tiredIn 39 = .ok (.iconst 0, 1) := by decide +kernel
theorem dX8_tiredIn_40 : decode cX8_tiredIn 40 = .ok (.goto 9, 3) := by decide +kernel
theorem dX8_tiredIn_43 : decode cX8_tiredIn 43 = .ok (.aload_n 0, 1) := by decide +kernel
theorem dX8_tiredIn_44 : decode cX8_tiredIn 44 = .ok (.iload_n 1, 1) := by decide +kernel
theorem dX8_tiredIn_45 : decode cX8_tiredIn 45 = .ok (.iload_n 2, 1) := by decide +kernel
theorem dX8_tiredIn_46 : decode cX8_tiredIn 46 = .ok (.invokevirtual 224, 3) := by decide +kernel
theorem dX8_tiredIn_49 : decode cX8_tiredIn 49 = .ok (.ireturn, 1) := by decide +kernel
theorem dX8_vacatedThen_0 : decode cX8_vacatedThen 0 = .ok (.aload_n 0, 1) := by decide +kernel
theorem dX8_vacatedThen_1 : decode cX8_vacatedThen 1 = .ok (.iload_n 1, 1) := by decide +kernel
theorem dX8_vacatedThen_2 : decode cX8_vacatedThen 2 = .ok (.iconst 2, 1) := by decide +kernel
theorem dX8_vacatedThen_3 : decode cX8_vacatedThen 3 = .ok (.invokevirtual 42, 3) := by decide +kernel
theorem dX8_vacatedThen_6 : decode cX8_vacatedThen 6 = .ok (.aload_n 0, 1) := by decide +kernel
theorem dX8_vacatedThen_7 : decode cX8_vacatedThen 7 = .ok (.getfield 7, 3) := by decide +kernel
theorem dX8_vacatedThen_10 : decode cX8_vacatedThen 10 = .ok (.bipush 9, 2) := by decide +kernel
theorem dX8_vacatedThen_12 : decode cX8_vacatedThen 12 = .ok (.iaload, 1) := by decide +kernel
theorem dX8_vacatedThen_13 : decode cX8_vacatedThen 13 = .ok (.isub, 1) := by decide +kernel
theorem dX8_vacatedThen_14 : decode cX8_vacatedThen 14 = .ok (.iload_n 2, 1) := by decide +kernel
theorem dX8_vacatedThen_15 : decode cX8_vacatedThen 15 = .ok (.isub, 1) := by decide +kernel
theorem dX8_vacatedThen_16 : decode cX8_vacatedThen 16 = .ok (.istore_n 3, 1) := by decide +kernel
theorem dX8_vacatedThen_17 : decode cX8_vacatedThen 17 = .ok (.aload_n 0, 1) := by decide +kernel
theorem dX8_vacatedThen_18 : decode cX8_vacatedThen 18 = .ok (.iload_n 1, 1) := by decide +kernel
theorem dX8_vacatedThen_19 : decode cX8_vacatedThen 19 = .ok (.invokevirtual 50, 3) := by decide +kernel
theorem dX8_vacatedThen_22 : decode cX8_vacatedThen 22 = .ok (.ifCond .eq 7, 3) := by decide +kernel
theorem dX8_vacatedThen_25 : decode cX8_vacatedThen 25 = .ok (.iload_n 3, 1) := by decide +kernel
theorem dX8_vacatedThen_26 : decode cX8_vacatedThen 26 = .ok (.ifCond .gt 7, 3) := by decide +kernel
theorem dX8_vacatedThen_29 : decode cX8_vacatedThen 29 = .ok (.iconst (-1), 1) := by decide +kernel
theorem dX8_vacatedThen_30 : decode cX8_vacatedThen 30 = .ok (.goto 13, 3) := by decide +kernel
theorem dX8_vacatedThen_33 : decode cX8_vacatedThen 33 = .ok (.aload_n 0, 1) := by decide +kernel
theorem dX8_vacatedThen_34 : decode cX8_vacatedThen 34 = .ok (.iload_n 1, 1) := by decide +kernel
theorem dX8_vacatedThen_35 : decode cX8_vacatedThen 35 = .ok (.aload_n 0, 1) := by decide +kernel
theorem dX8_vacatedThen_36 : decode cX8_vacatedThen 36 = .ok (.iload_n 3, 1) := by decide +kernel
theorem dX8_vacatedThen_37 : decode cX8_vacatedThen 37 = .ok (.invokevirtual 128, 3) := by decide +kernel
theorem dX8_vacatedThen_40 : decode cX8_vacatedThen 40 = .ok (.invokevirtual 65, 3) := by decide +kernel
theorem dX8_vacatedThen_43 : decode cX8_vacatedThen 43 = .ok (.ireturn, 1) := by decide +kernel
theorem dX8_ifVacated_0 : decode cX8_ifVacated 0 = .ok (.aload_n 0, 1) := by decide +kernel
theorem dX8_ifVacated_1 : decode cX8_ifVacated 1 = .ok (.aload_n 0, 1) := by decide +kernel
theorem dX8_ifVacated_2 : decode cX8_ifVacated 2 = .ok (.iload_n 1, 1) := by decide +kernel
theorem dX8_ifVacated_3 : decode cX8_ifVacated 3 = .ok (.invokevirtual 109, 3) := by decide +kernel
theorem dX8_ifVacated_6 : decode cX8_ifVacated 6 = .ok (.ifCond .ne 7, 3) := by decide +kernel
theorem dX8_ifVacated_9 : decode cX8_ifVacated 9 = .ok (.iconst 1, 1) := by decide +kernel
theorem dX8_ifVacated_10 : decode cX8_ifVacated 10 = .ok (.goto 19, 3) := by decide +kernel
theorem dX8_ifVacated_13 : decode cX8_ifVacated 13 = .ok (.iload_n 2, 1) := by decide +kernel
theorem dX8_ifVacated_14 : decode cX8_ifVacated 14 = .ok (.iconst 0, 1) := by decide +kernel
theorem dX8_ifVacated_15 : decode cX8_ifVacated 15 = .ok (.sipush 2000, 3) := by decide +kernel
theorem dX8_ifVacated_18 : decode cX8_ifVacated 18 = .ok (.invokestatic 38, 3) := by decide +kernel
theorem dX8_ifVacated_21 : decode cX8_ifVacated 21 = .ok (.ifCond .eq 7, 3) := by decide +kernel
theorem dX8_ifVacated_24 : decode cX8_ifVacated 24 = .ok (.iconst 0, 1) := by decide +kernel
theorem dX8_ifVacated_25 : decode cX8_ifVacated 25 = .ok (.goto 4, 3) := by decide +kernel
theorem dX8_ifVacated_28 : decode cX8_ifVacated 28 = .ok (.iconst 2, 1) := by decide +kernel
theorem dX8_ifVacated_29 : decode cX8_ifVacated 29 = .ok (.putfield 31, 3) := by decide +kernel
theorem dX8_ifVacated_32 : decode cX8_ifVacated 32 = .ok (.aload_n 0, 1) := by decide +kernel
theorem dX8_ifVacated_33 : decode cX8_ifVacated 33 = .ok (.getfield 31, 3) := by decide +kernel
theorem dX8_ifVacated_36 : decode cX8_ifVacated 36 = .ok (.ifCond .le 7, 3) := by decide +kernel
theorem dX8_ifVacated_39 : decode cX8_ifVacated 39 = .ok (.iconst 0, 1) := by decide +kernel
theorem dX8_ifVacated_40 : decode cX8_ifVacated 40 = .ok (.goto 9, 3) := by decide +kernel
theorem dX8_ifVacated_43 : decode cX8_ifVacated 43 = .ok (.aload_n 0, 1) := by decide +kernel
theorem dX8_ifVacated_44 : decode cX8_ifVacated 44 = .ok (.iload_n 1, 1) := by decide +kernel
theorem dX8_ifVacated_45 : decode cX8_ifVacated 45 = .ok (.iload_n 2, 1) := by decide +kernel
theorem dX8_ifVacated_46 : decode cX8_ifVacated 46 = .ok (.invokevirtual 227, 3) := by decide +kernel
theorem dX8_ifVacated_49 : decode cX8_ifVacated 49 = .ok (.ireturn, 1) := by decide +kernel
theorem dX8_mannableNow_0 : decode cX8_mannableNow 0 = .ok (.aload_n 0, 1) := by decide +kernel
theorem dX8_mannableNow_1 : decode cX8_mannableNow 1 = .ok (.invokevirtual 218, 3) := by decide +kernel
theorem dX8_mannableNow_4 : decode cX8_mannableNow 4 = .ok (.iconst 0, 1) := by decide +kernel
theorem dX8_mannableNow_5 : decode cX8_mannableNow 5 = .ok (.istore_n 1, 1) := by decide +kernel
theorem dX8_mannableNow_6 : decode cX8_mannableNow 6 = .ok (.iconst 0, 1) := by decide +kernel
theorem dX8_mannableNow_7 : decode cX8_mannableNow 7 = .ok (.istore_n 2, 1) := by decide +kernel
theorem dX8_mannableNow_8 : decode cX8_mannableNow 8 = .ok (.iload_n 2, 1) := by decide +kernel
theorem dX8_mannableNow_9 : decode cX8_mannableNow 9 = .ok (.aload_n 0, 1) := by decide +kernel
theorem dX8_mannableNow_10 : decode cX8_mannableNow 10 = .ok (.getfield 7, 3) := by decide +kernel
theorem dX8_mannableNow_13 : decode cX8_mannableNow 13 = .ok (.bipush 8, 2) := by decide +kernel
theorem dX8_mannableNow_15 : decode cX8_mannableNow 15 = .ok (.iaload, 1) := by decide +kernel
theorem dX8_mannableNow_16 : decode cX8_mannableNow 16 = .ok (.if_icmp .ge 64, 3) := by decide +kernel
theorem dX8_mannableNow_19 : decode cX8_mannableNow 19 = .ok (.aload_n 0, 1) := by decide +kernel
theorem dX8_mannableNow_20 : decode cX8_mannableNow 20 = .ok (.iload_n 2, 1) := by decide +kernel
theorem dX8_mannableNow_21 : decode cX8_mannableNow 21 = .ok (.invokevirtual 125, 3) := by decide +kernel
theorem dX8_mannableNow_24 : decode cX8_mannableNow 24 = .ok (.ifCond .eq 50, 3) := by decide +kernel
theorem dX8_mannableNow_27 : decode cX8_mannableNow 27 = .ok (.aload_n 0, 1) := by decide +kernel
theorem dX8_mannableNow_28 : decode cX8_mannableNow 28 = .ok (.iload_n 2, 1) := by decide +kernel
theorem dX8_mannableNow_29 : decode cX8_mannableNow 29 = .ok (.iconst 5, 1) := by decide +kernel
theorem dX8_mannableNow_30 : decode cX8_mannableNow 30 = .ok (.invokevirtual 42, 3) := by decide +kernel
theorem dX8_mannableNow_33 : decode cX8_mannableNow 33 = .ok (.ifCond .ne 41, 3) := by decide +kernel
theorem dX8_mannableNow_36 : decode cX8_mannableNow 36 = .ok (.aload_n 0, 1) := by decide +kernel
theorem dX8_mannableNow_37 : decode cX8_mannableNow 37 = .ok (.iload_n 2, 1) := by decide +kernel
theorem dX8_mannableNow_38 : decode cX8_mannableNow 38 = .ok (.invokevirtual 212, 3) := by decide +kernel
theorem dX8_mannableNow_41 : decode cX8_mannableNow 41 = .ok (.ifCond .eq 33, 3) := by decide +kernel
theorem dX8_mannableNow_44 : decode cX8_mannableNow 44 = .ok (.aload_n 0, 1) := by decide +kernel
theorem dX8_mannableNow_45 : decode cX8_mannableNow 45 = .ok (.aload_n 0, 1) := by decide +kernel
theorem dX8_mannableNow_46 : decode cX8_mannableNow 46 = .ok (.getfield 25, 3) := by decide +kernel
theorem dX8_mannableNow_49 : decode cX8_mannableNow 49 = .ok (.iconst 0, 1) := by decide +kernel
theorem dX8_mannableNow_50 : decode cX8_mannableNow 50 = .ok (.iaload, 1) := by decide +kernel
theorem dX8_mannableNow_51 : decode cX8_mannableNow 51 = .ok (.aload_n 0, 1) := by decide +kernel
theorem dX8_mannableNow_52 : decode cX8_mannableNow 52 = .ok (.getfield 25, 3) := by decide +kernel
theorem dX8_mannableNow_55 : decode cX8_mannableNow 55 = .ok (.iconst 1, 1) := by decide +kernel
theorem dX8_mannableNow_56 : decode cX8_mannableNow 56 = .ok (.iaload, 1) := by decide +kernel
theorem dX8_mannableNow_57 : decode cX8_mannableNow 57 = .ok (.aload_n 0, 1) := by decide +kernel
theorem dX8_mannableNow_58 : decode cX8_mannableNow 58 = .ok (.getfield 25, 3) := by decide +kernel
theorem dX8_mannableNow_61 : decode cX8_mannableNow 61 = .ok (.iconst 2, 1) := by decide +kernel
theorem dX8_mannableNow_62 : decode cX8_mannableNow 62 = .ok (.iaload, 1) := by decide +kernel
theorem dX8_mannableNow_63 : decode cX8_mannableNow 63 = .ok (.invokevirtual 112, 3) := by decide +kernel
theorem dX8_mannableNow_66 : decode cX8_mannableNow 66 = .ok (.aload_n 0, 1) := by decide +kernel
theorem dX8_mannableNow_67 : decode cX8_mannableNow 67 = .ok (.iload_n 2, 1) := by decide +kernel
theorem dX8_mannableNow_68 : decode cX8_mannableNow 68 = .ok (.invokevirtual 121, 3) := by decide +kernel
theorem dX8_mannableNow_71 : decode cX8_mannableNow 71 = .ok (.iinc 1 1, 3) := by decide +kernel
theorem dX8_mannableNow_74 : decode cX8_mannableNow 74 = .ok (.iinc 2 1, 3) := by decide +kernel
theorem dX8_mannableNow_77 : decode cX8_mannableNow 77 = .ok (.goto (-69), 3) := by decide +kernel
theorem dX8_mannableNow_80 : decode cX8_mannableNow 80 = .ok (.aload_n 0, 1) := by decide +kernel
theorem dX8_mannableNow_81 : decode cX8_mannableNow 81 = .ok (.invokevirtual 221, 3) := by decide +kernel
theorem dX8_mannableNow_84 : decode cX8_mannableNow 84 = .ok (.iload_n 1, 1) := by decide +kernel
theorem dX8_mannableNow_85 : decode cX8_mannableNow 85 = .ok (.ireturn, 1) := by decide +kernel
theorem dX8_mannable_0 : decode cX8_mannable 0 = .ok (.aload_n 0, 1) := by decide +kernel
theorem dX8_mannable_1 : decode cX8_mannable 1 = .ok (.iconst 0, 1) := by decide +kernel
theorem dX8_mannable_2 : decode cX8_mannable 2 = .ok (.putfield 31, 3) := by decide +kernel
theorem dX8_mannable_5 : decode cX8_mannable 5 = .ok (.aload_n 0, 1) := by decide +kernel
theorem dX8_mannable_6 : decode cX8_mannable 6 = .ok (.invokevirtual 230, 3) := by decide +kernel
theorem dX8_mannable_9 : decode cX8_mannable 9 = .ok (.ireturn, 1) := by decide +kernel
theorem dX8_missingNow_0 : decode cX8_missingNow 0 = .ok (.iconst 0, 1) := by decide +kernel
theorem dX8_missingNow_1 : decode cX8_missingNow 1 = .ok (.istore_n 2, 1) := by decide +kernel
theorem dX8_missingNow_2 : decode cX8_missingNow 2 = .ok (.iconst 0, 1) := by decide +kernel
theorem dX8_missingNow_3 : decode cX8_missingNow 3 = .ok (.istore_n 3, 1) := by decide +kernel
theorem dX8_missingNow_4 : decode cX8_missingNow 4 = .ok (.iload_n 3, 1) := by decide +kernel
theorem dX8_missingNow_5 : decode cX8_missingNow 5 = .ok (.aload_n 0, 1) := by decide +kernel
theorem dX8_missingNow_6 : decode cX8_missingNow 6 = .ok (.getfield 7, 3) := by decide +kernel
theorem dX8_missingNow_9 : decode cX8_missingNow 9 = .ok (.bipush 7, 2) := by decide +kernel
theorem dX8_missingNow_11 : decode cX8_missingNow 11 = .ok (.iaload, 1) := by decide +kernel
theorem dX8_missingNow_12 : decode cX8_missingNow 12 = .ok (.if_icmp .ge 282, 3) := by decide +kernel
theorem dX8_missingNow_15 : decode cX8_missingNow 15 = .ok (.aload_n 0, 1) := by decide +kernel
theorem dX8_missingNow_16 : decode cX8_missingNow 16 = .ok (.getfield 7, 3) := by decide +kernel
theorem dX8_missingNow_19 : decode cX8_missingNow 19 = .ok (.bipush 23, 2) := by decide +kernel
theorem dX8_missingNow_21 : decode cX8_missingNow 21 = .ok (.iload_n 3, 1) := by decide +kernel
theorem dX8_missingNow_22 : decode cX8_missingNow 22 = .ok (.iadd, 1) := by decide +kernel
theorem dX8_missingNow_23 : decode cX8_missingNow 23 = .ok (.iaload, 1) := by decide +kernel
theorem dX8_missingNow_24 : decode cX8_missingNow 24 = .ok (.iload_n 1, 1) := by decide +kernel
theorem dX8_missingNow_25 : decode cX8_missingNow 25 = .ok (.ishr, 1) := by decide +kernel
theorem dX8_missingNow_26 : decode cX8_missingNow 26 = .ok (.iconst 1, 1) := by decide +kernel
theorem dX8_missingNow_27 : decode cX8_missingNow 27 = .ok (.iand, 1) := by decide +kernel
theorem dX8_missingNow_28 : decode cX8_missingNow 28 = .ok (.iconst 1, 1) := by decide +kernel
theorem dX8_missingNow_29 : decode cX8_missingNow 29 = .ok (.if_icmp .ne 259, 3) := by decide +kernel
theorem dX8_missingNow_32 : decode cX8_missingNow 32 = .ok (.aload_n 0, 1) := by decide +kernel
theorem dX8_missingNow_33 : decode cX8_missingNow 33 = .ok (.getfield 7, 3) := by decide +kernel
theorem dX8_missingNow_36 : decode cX8_missingNow 36 = .ok (.bipush 13, 2) := by decide +kernel
theorem dX8_missingNow_38 : decode cX8_missingNow 38 = .ok (.iload_n 3, 1) := by decide +kernel
theorem dX8_missingNow_39 : decode cX8_missingNow 39 = .ok (.iadd, 1) := by decide +kernel
theorem dX8_missingNow_40 : decode cX8_missingNow 40 = .ok (.iaload, 1) := by decide +kernel
theorem dX8_missingNow_41 : decode cX8_missingNow 41 = .ok (.istore 4, 2) := by decide +kernel
theorem dX8_missingNow_43 : decode cX8_missingNow 43 = .ok (.iload 4, 2) := by decide +kernel
theorem dX8_missingNow_45 : decode cX8_missingNow 45 = .ok (.iconst 1, 1) := by decide +kernel
theorem dX8_missingNow_46 : decode cX8_missingNow 46 = .ok (.iand, 1) := by decide +kernel
theorem dX8_missingNow_47 : decode cX8_missingNow 47 = .ok (.iconst 1, 1) := by decide +kernel
theorem dX8_missingNow_48 : decode cX8_missingNow 48 = .ok (.if_icmp .ne 7, 3) := by decide +kernel
theorem dX8_missingNow_51 : decode cX8_missingNow 51 = .ok (.iconst 1, 1) := by decide +kernel
theorem dX8_missingNow_52 : decode cX8_missingNow 52 = .ok (.goto 4, 3) := by decide +kernel
theorem dX8_missingNow_55 : decode cX8_missingNow 55 = .ok (.iconst 0, 1) := by decide +kernel
theorem dX8_missingNow_56 : decode cX8_missingNow 56 = .ok (.istore 5, 2) := by decide +kernel
theorem dX8_missingNow_58 : decode cX8_missingNow 58 = .ok (.iconst 0, 1) := by decide +kernel
theorem dX8_missingNow_59 : decode cX8_missingNow 59 = .ok (.istore 6, 2) := by decide +kernel
theorem dX8_missingNow_61 : decode cX8_missingNow 61 = .ok (.iload 6, 2) := by decide +kernel
theorem dX8_missingNow_63 : decode cX8_missingNow 63 = .ok (.bipush 100, 2) := by decide +kernel
theorem dX8_missingNow_65 : decode cX8_missingNow 65 = .ok (.if_icmp .ge 209, 3) := by decide +kernel
theorem dX8_missingNow_68 : decode cX8_missingNow 68 = .ok (.iload 6, 2) := by decide +kernel
theorem dX8_missingNow_70 : decode cX8_missingNow 70 = .ok (.bipush 10, 2) := by decide +kernel
theorem dX8_missingNow_72 : decode cX8_missingNow 72 = .ok (.idiv, 1) := by decide +kernel
theorem dX8_missingNow_73 : decode cX8_missingNow 73 = .ok (.istore 7, 2) := by decide +kernel
theorem dX8_missingNow_75 : decode cX8_missingNow 75 = .ok (.iload 6, 2) := by decide +kernel
theorem dX8_missingNow_77 : decode cX8_missingNow 77 = .ok (.bipush 10, 2) := by decide +kernel
theorem dX8_missingNow_79 : decode cX8_missingNow 79 = .ok (.irem, 1) := by decide +kernel
theorem dX8_missingNow_80 : decode cX8_missingNow 80 = .ok (.istore 8, 2) := by decide +kernel
theorem dX8_missingNow_82 : decode cX8_missingNow 82 = .ok (.aload_n 0, 1) := by decide +kernel
theorem dX8_missingNow_83 : decode cX8_missingNow 83 = .ok (.iload 7, 2) := by decide +kernel
theorem dX8_missingNow_85 : decode cX8_missingNow 85 = .ok (.invokevirtual 82, 3) := by decide +kernel
theorem dX8_missingNow_88 : decode cX8_missingNow 88 = .ok (.ifCond .eq 47, 3) := by decide +kernel
theorem dX8_missingNow_91 : decode cX8_missingNow 91 = .ok (.iload 7, 2) := by decide +kernel
theorem dX8_missingNow_93 : decode cX8_missingNow 93 = .ok (.iload_n 3, 1) := by decide +kernel
theorem dX8_missingNow_94 : decode cX8_missingNow 94 = .ok (.if_icmp .eq 41, 3) := by decide +kernel
theorem dX8_missingNow_97 : decode cX8_missingNow 97 = .ok (.aload_n 0, 1) := by decide +kernel
theorem dX8_missingNow_98 : decode cX8_missingNow 98 = .ok (.getfield 7, 3) := by decide +kernel
theorem dX8_missingNow_101 : decode cX8_missingNow 101 = .ok (.bipush 23, 2) := by decide +kernel
theorem dX8_missingNow_103 : decode cX8_missingNow 103 = .ok (.iload 7, 2) := by decide +kernel
theorem dX8_missingNow_105 : decode cX8_missingNow 105 = .ok (.iadd, 1) := by decide +kernel
theorem dX8_missingNow_106 : decode cX8_missingNow 106 = .ok (.iaload, 1) := by decide +kernel
theorem dX8_missingNow_107 : decode cX8_missingNow 107 = .ok (.iload_n 1, 1) := by decide +kernel
theorem dX8_missingNow_108 : decode cX8_missingNow 108 = .ok (.ishr, 1) := by decide +kernel
theorem dX8_missingNow_109 : decode cX8_missingNow 109 = .ok (.iconst 1, 1) := by decide +kernel
theorem dX8_missingNow_110 : decode cX8_missingNow 110 = .ok (.iand, 1) := by decide +kernel
theorem dX8_missingNow_111 : decode cX8_missingNow 111 = .ok (.iconst 1, 1) := by decide +kernel
theorem dX8_missingNow_112 : decode cX8_missingNow 112 = .ok (.if_icmp .ne 23, 3) := by decide +kernel
theorem dX8_missingNow_115 : decode cX8_missingNow 115 = .ok (.aload_n 0, 1) := by decide +kernel
theorem dX8_missingNow_116 : decode cX8_missingNow 116 = .ok (.getfield 7, 3) := by decide +kernel
theorem dX8_missingNow_119 : decode cX8_missingNow 119 = .ok (.bipush 13, 2) := by decide +kernel
theorem dX8_missingNow_121 : decode cX8_missingNow 121 = .ok (.iload 7, 2) := by decide +kernel
theorem dX8_missingNow_123 : decode cX8_missingNow 123 = .ok (.iadd, 1) := by decide +kernel
theorem dX8_missingNow_124 : decode cX8_missingNow 124 = .ok (.iaload, 1) := by decide +kernel
theorem dX8_missingNow_125 : decode cX8_missingNow 125 = .ok (.iload 4, 2) := by decide +kernel
theorem dX8_missingNow_127 : decode cX8_missingNow 127 = .ok (.iand, 1) := by decide +kernel
theorem dX8_missingNow_128 : decode cX8_missingNow 128 = .ok (.ifCond .eq 7, 3) := by decide +kernel
theorem dX8_missingNow_131 : decode cX8_missingNow 131 = .ok (.iconst 1, 1) := by decide +kernel
theorem dX8_missingNow_132 : decode cX8_missingNow 132 = .ok (.goto 4, 3) := by decide +kernel
theorem dX8_missingNow_135 : decode cX8_missingNow 135 = .ok (.iconst 0, 1) := by decide +kernel
theorem dX8_missingNow_136 : decode cX8_missingNow 136 = .ok (.istore 9, 2) := by decide +kernel
theorem dX8_missingNow_138 : decode cX8_missingNow 138 = .ok (.iload 9, 2) := by decide +kernel
theorem dX8_missingNow_140 : decode cX8_missingNow 140 = .ok (.ifCond .eq 71, 3) := by decide +kernel
theorem dX8_missingNow_143 : decode cX8_missingNow 143 = .ok (.aload_n 0, 1) := by decide +kernel
theorem dX8_missingNow_144 : decode cX8_missingNow 144 = .ok (.iload 8, 2) := by decide +kernel
theorem dX8_missingNow_146 : decode cX8_missingNow 146 = .ok (.invokevirtual 82, 3) := by decide +kernel
theorem dX8_missingNow_149 : decode cX8_missingNow 149 = .ok (.ifCond .eq 62, 3) := by decide +kernel
theorem dX8_missingNow_152 : decode cX8_missingNow 152 = .ok (.iload 8, 2) := by decide +kernel
theorem dX8_missingNow_154 : decode cX8_missingNow 154 = .ok (.iload_n 3, 1) := by decide +kernel
theorem dX8_missingNow_155 : decode cX8_missingNow 155 = .ok (.if_icmp .eq 56, 3) := by decide +kernel
theorem dX8_missingNow_158 : decode cX8_missingNow 158 = .ok (.iload 8, 2) := by decide +kernel
theorem dX8_missingNow_160 : decode cX8_missingNow 160 = .ok (.iload 7, 2) := by decide +kernel
theorem dX8_missingNow_162 : decode cX8_missingNow 162 = .ok (.if_icmp .eq 49, 3) := by decide +kernel
theorem dX8_missingNow_165 : decode cX8_missingNow 165 = .ok (.aload_n 0, 1) := by decide +kernel
theorem dX8_missingNow_166 : decode cX8_missingNow 166 = .ok (.getfield 7, 3) := by decide +kernel
theorem dX8_missingNow_169 : decode cX8_missingNow 169 = .ok (.bipush 23, 2) := by decide +kernel
theorem dX8_missingNow_171 : decode cX8_missingNow 171 = .ok (.iload 8, 2) := by decide +kernel
theorem dX8_missingNow_173 : decode cX8_missingNow 173 = .ok (.iadd, 1) := by decide +kernel
theorem dX8_missingNow_174 : decode cX8_missingNow 174 = .ok (.iaload, 1) := by decide +kernel
theorem dX8_missingNow_175 : decode cX8_missingNow 175 = .ok (.iload_n 1, 1) := by decide +kernel
theorem dX8_missingNow_176 : decode cX8_missingNow 176 = .ok (.ishr, 1) := by decide +kernel
theorem dX8_missingNow_177 : decode cX8_missingNow 177 = .ok (.iconst 1, 1) := by decide +kernel
theorem dX8_missingNow_178 : decode cX8_missingNow 178 = .ok (.iand, 1) := by decide +kernel
theorem dX8_missingNow_179 : decode cX8_missingNow 179 = .ok (.iconst 1, 1) := by decide +kernel
theorem dX8_missingNow_180 : decode cX8_missingNow 180 = .ok (.if_icmp .ne 31, 3) := by decide +kernel
theorem dX8_missingNow_183 : decode cX8_missingNow 183 = .ok (.aload_n 0, 1) := by decide +kernel
theorem dX8_missingNow_184 : decode cX8_missingNow 184 = .ok (.getfield 7, 3) := by decide +kernel
theorem dX8_missingNow_187 : decode cX8_missingNow 187 = .ok (.bipush 13, 2) := by decide +kernel
theorem dX8_missingNow_189 : decode cX8_missingNow 189 = .ok (.iload 8, 2) := by decide +kernel
theorem dX8_missingNow_191 : decode cX8_missingNow 191 = .ok (.iadd, 1) := by decide +kernel
theorem dX8_missingNow_192 : decode cX8_missingNow 192 = .ok (.iaload, 1) := by decide +kernel
theorem dX8_missingNow_193 : decode cX8_missingNow 193 = .ok (.aload_n 0, 1) := by decide +kernel
theorem dX8_missingNow_194 : decode cX8_missingNow 194 = .ok (.getfield 7, 3) := by decide +kernel
theorem dX8_missingNow_197 : decode cX8_missingNow 197 = .ok (.bipush 13, 2) := by decide +kernel
theorem dX8_missingNow_199 : decode cX8_missingNow 199 = .ok (.iload 7, 2) := by decide +kernel
theorem dX8_missingNow_201 : decode cX8_missingNow 201 = .ok (.iadd, 1) := by decide +kernel
theorem dX8_missingNow_202 : decode cX8_missingNow 202 = .ok (.iaload, 1) := by decide +kernel
theorem dX8_missingNow_203 : decode cX8_missingNow 203 = .ok (.iand, 1) := by decide +kernel
theorem dX8_missingNow_204 : decode cX8_missingNow 204 = .ok (.ifCond .eq 7, 3) := by decide +kernel
theorem dX8_missingNow_207 : decode cX8_missingNow 207 = .ok (.iconst 1, 1) := by decide +kernel
theorem dX8_missingNow_208 : decode cX8_missingNow 208 = .ok (.goto 4, 3) := by decide +kernel
theorem dX8_missingNow_211 : decode cX8_missingNow 211 = .ok (.iconst 0, 1) := by decide +kernel
theorem dX8_missingNow_212 : decode cX8_missingNow 212 = .ok (.istore 10, 2) := by decide +kernel
theorem dX8_missingNow_214 : decode cX8_missingNow 214 = .ok (.iload 5, 2) := by decide +kernel
theorem dX8_missingNow_216 : decode cX8_missingNow 216 = .ok (.ifCond .ne 45, 3) := by decide +kernel
theorem dX8_missingNow_219 : decode cX8_missingNow 219 = .ok (.iload 9, 2) := by decide +kernel
theorem dX8_missingNow_221 : decode cX8_missingNow 221 = .ok (.ifCond .eq 19, 3) := by decide +kernel
theorem dX8_missingNow_224 : decode cX8_missingNow 224 = .ok (.aload_n 0, 1) := by decide +kernel
theorem dX8_missingNow_225 : decode cX8_missingNow 225 = .ok (.getfield 7, 3) := by decide +kernel
theorem dX8_missingNow_228 : decode cX8_missingNow 228 = .ok (.bipush 13, 2) := by decide +kernel
theorem dX8_missingNow_230 : decode cX8_missingNow 230 = .ok (.iload 7, 2) := by decide +kernel
theorem dX8_missingNow_232 : decode cX8_missingNow 232 = .ok (.iadd, 1) := by decide +kernel
theorem dX8_missingNow_233 : decode cX8_missingNow 233 = .ok (.iaload, 1) := by decide +kernel
theorem dX8_missingNow_234 : decode cX8_missingNow 234 = .ok (.iconst 1, 1) := by decide +kernel
theorem dX8_missingNow_235 : decode cX8_missingNow 235 = .ok (.iand, 1) := by decide +kernel
theorem dX8_missingNow_236 : decode cX8_missingNow 236 = .ok (.iconst 1, 1) := by decide +kernel
theorem dX8_missingNow_237 : decode cX8_missingNow 237 = .ok (.if_icmp .eq 24, 3) := by decide +kernel
theorem dX8_missingNow_240 : decode cX8_missingNow 240 = .ok (.iload 10, 2) := by decide +kernel
theorem dX8_missingNow_242 : decode cX8_missingNow 242 = .ok (.ifCond .eq 23, 3) := by decide +kernel
theorem dX8_missingNow_245 : decode cX8_missingNow 245 = .ok (.aload_n 0, 1) := by decide +kernel
theorem dX8_missingNow_246 : decode cX8_missingNow 246 = .ok (.getfield 7, 3) := by decide +kernel
theorem dX8_missingNow_249 : decode cX8_missingNow 249 = .ok (.bipush 13, 2) := by decide +kernel
theorem dX8_missingNow_251 : decode cX8_missingNow 251 = .ok (.iload 8, 2) := by decide +kernel
theorem dX8_missingNow_253 : decode cX8_missingNow 253 = .ok (.iadd, 1) := by decide +kernel
theorem dX8_missingNow_254 : decode cX8_missingNow 254 = .ok (.iaload, 1) := by decide +kernel
theorem dX8_missingNow_255 : decode cX8_missingNow 255 = .ok (.iconst 1, 1) := by decide +kernel
theorem dX8_missingNow_256 : decode cX8_missingNow 256 = .ok (.iand, 1) := by decide +kernel
theorem dX8_missingNow_257 : decode cX8_missingNow 257 = .ok (.iconst 1, 1) := by decide +kernel
theorem dX8_missingNow_258 : decode cX8_missingNow 258 = .ok (.if_icmp .ne 7, 3) := by decide +kernel
theorem dX8_missingNow_261 : decode cX8_missingNow 261 = .ok (.iconst 1, 1) := by decide +kernel
theorem dX8_missingNow_262 : decode cX8_missingNow 262 = .ok (.goto 4, 3) := by decide +kernel
theorem dX8_missingNow_265 : decode cX8_missingNow 265 = .ok (.iconst 0, 1) := by decide +kernel
theorem dX8_missingNow_266 : decode cX8_missingNow 266 = .ok (.istore 5, 2) := by decide +kernel
theorem dX8_missingNow_268 : decode cX8_missingNow 268 = .ok (.iinc 6 1, 3) := by decide +kernel
theorem dX8_missingNow_271 : decode cX8_missingNow 271 = .ok (.goto (-210), 3) := by decide +kernel
theorem dX8_missingNow_274 : decode cX8_missingNow 274 = .ok (.iload_n 2, 1) := by decide +kernel
theorem dX8_missingNow_275 : decode cX8_missingNow 275 = .ok (.iload 5, 2) := by decide +kernel
theorem dX8_missingNow_277 : decode cX8_missingNow 277 = .ok (.ifCond .eq 8, 3) := by decide +kernel
theorem dX8_missingNow_280 : decode cX8_missingNow 280 = .ok (.iload 4, 2) := by decide +kernel
theorem dX8_missingNow_282 : decode cX8_missingNow 282 = .ok (.goto 4, 3) := by decide +kernel
theorem dX8_missingNow_285 : decode cX8_missingNow 285 = .ok (.iconst 0, 1) := by decide +kernel
theorem dX8_missingNow_286 : decode cX8_missingNow 286 = .ok (.ior, 1) := by decide +kernel
theorem dX8_missingNow_287 : decode cX8_missingNow 287 = .ok (.istore_n 2, 1) := by decide +kernel
theorem dX8_missingNow_288 : decode cX8_missingNow 288 = .ok (.iinc 3 1, 3) := by decide +kernel
theorem dX8_missingNow_291 : decode cX8_missingNow 291 = .ok (.goto (-287), 3) := by decide +kernel
theorem dX8_missingNow_294 : decode cX8_missingNow 294 = .ok (.sipush 1022, 3) := by decide +kernel
theorem dX8_missingNow_297 : decode cX8_missingNow 297 = .ok (.iload_n 2, 1) := by decide +kernel
theorem dX8_missingNow_298 : decode cX8_missingNow 298 = .ok (.iconst (-1), 1) := by decide +kernel
theorem dX8_missingNow_299 : decode cX8_missingNow 299 = .ok (.ixor, 1) := by decide +kernel
theorem dX8_missingNow_300 : decode cX8_missingNow 300 = .ok (.iand, 1) := by decide +kernel
theorem dX8_missingNow_301 : decode cX8_missingNow 301 = .ok (.ireturn, 1) := by decide +kernel
theorem dX8_missing_0 : decode cX8_missing 0 = .ok (.aload_n 0, 1) := by decide +kernel
theorem dX8_missing_1 : decode cX8_missing 1 = .ok (.iload_n 1, 1) := by decide +kernel
theorem dX8_missing_2 : decode cX8_missing 2 = .ok (.iconst 0, 1) := by decide +kernel
theorem dX8_missing_3 : decode cX8_missing 3 = .ok (.iconst 2, 1) := by decide +kernel
theorem dX8_missing_4 : decode cX8_missing 4 = .ok (.invokestatic 38, 3) := by decide +kernel
theorem dX8_missing_7 : decode cX8_missing 7 = .ok (.ifCond .eq 7, 3) := by decide +kernel
theorem dX8_missing_10 : decode cX8_missing 10 = .ok (.iconst 0, 1) := by decide +kernel
theorem dX8_missing_11 : decode cX8_missing 11 = .ok (.goto 4, 3) := by decide +kernel
theorem dX8_missing_14 : decode cX8_missing 14 = .ok (.iconst 1, 1) := by decide +kernel
theorem dX8_missing_15 : decode cX8_missing 15 = .ok (.putfield 31, 3) := by decide +kernel
theorem dX8_missing_18 : decode cX8_missing 18 = .ok (.aload_n 0, 1) := by decide +kernel
theorem dX8_missing_19 : decode cX8_missing 19 = .ok (.getfield 31, 3) := by decide +kernel
theorem dX8_missing_22 : decode cX8_missing 22 = .ok (.ifCond .le 7, 3) := by decide +kernel
theorem dX8_missing_25 : decode cX8_missing 25 = .ok (.iconst 0, 1) := by decide +kernel
theorem dX8_missing_26 : decode cX8_missing 26 = .ok (.goto 8, 3) := by decide +kernel
theorem dX8_missing_29 : decode cX8_missing 29 = .ok (.aload_n 0, 1) := by decide +kernel
theorem dX8_missing_30 : decode cX8_missing 30 = .ok (.iload_n 1, 1) := by decide +kernel
theorem dX8_missing_31 : decode cX8_missing 31 = .ok (.invokevirtual 233, 3) := by decide +kernel
theorem dX8_missing_34 : decode cX8_missing 34 = .ok (.ireturn, 1) := by decide +kernel
theorem dX8_share_0 : decode cX8_share 0 = .ok (.aload_n 0, 1) := by decide +kernel
theorem dX8_share_1 : decode cX8_share 1 = .ok (.getfield 7, 3) := by decide +kernel
theorem dX8_share_4 : decode cX8_share 4 = .ok (.bipush 10, 2) := by decide +kernel
theorem dX8_share_6 : decode cX8_share 6 = .ok (.iaload, 1) := by decide +kernel
theorem dX8_share_7 : decode cX8_share 7 = .ok (.ifCond .ne 7, 3) := by decide +kernel
theorem dX8_share_10 : decode cX8_share 10 = .ok (.dconst 0, 1) := by decide +kernel
theorem dX8_share_11 : decode cX8_share 11 = .ok (.goto 36, 3) := by decide +kernel
theorem dX8_share_14 : decode cX8_share 14 = .ok (.aload_n 0, 1) := by decide +kernel
theorem dX8_share_15 : decode cX8_share 15 = .ok (.getfield 7, 3) := by decide +kernel
theorem dX8_share_18 : decode cX8_share 18 = .ok (.bipush 10, 2) := by decide +kernel
theorem dX8_share_20 : decode cX8_share 20 = .ok (.iaload, 1) := by decide +kernel
theorem dX8_share_21 : decode cX8_share 21 = .ok (.aload_n 0, 1) := by decide +kernel
theorem dX8_share_22 : decode cX8_share 22 = .ok (.getfield 7, 3) := by decide +kernel
theorem dX8_share_25 : decode cX8_share 25 = .ok (.bipush 11, 2) := by decide +kernel
theorem dX8_share_27 : decode cX8_share 27 = .ok (.iaload, 1) := by decide +kernel
theorem dX8_share_28 : decode cX8_share 28 = .ok (.isub, 1) := by decide +kernel
theorem dX8_share_29 : decode cX8_share 29 = .ok (.aload_n 0, 1) := by decide +kernel
theorem dX8_share_30 : decode cX8_share 30 = .ok (.getfield 7, 3) := by decide +kernel
theorem dX8_share_33 : decode cX8_share 33 = .ok (.bipush 12, 2) := by decide +kernel
theorem dX8_share_35 : decode cX8_share 35 = .ok (.iaload, 1) := by decide +kernel
theorem dX8_share_36 : decode cX8_share 36 = .ok (.isub, 1) := by decide +kernel
theorem dX8_share_37 : decode cX8_share 37 = .ok (.i2d, 1) := by decide +kernel
theorem dX8_share_38 : decode cX8_share 38 = .ok (.aload_n 0, 1) := by decide +kernel
theorem dX8_share_39 : decode cX8_share 39 = .ok (.getfield 7, 3) := by decide +kernel
theorem dX8_share_42 : decode cX8_share 42 = .ok (.bipush 10, 2) := by decide +kernel
theorem dX8_share_44 : decode cX8_share 44 = .ok (.iaload, 1) := by decide +kernel
theorem dX8_share_45 : decode cX8_share 45 = .ok (.i2d, 1) := by decide +kernel
theorem dX8_share_46 : decode cX8_share 46 = .ok (.ddiv, 1) := by decide +kernel
theorem dX8_share_47 : decode cX8_share 47 = .ok (.dreturn, 1) := by decide +kernel
theorem dX8_doneShare_0 : decode cX8_doneShare 0 = .ok (.aload_n 0, 1) := by decide +kernel
theorem dX8_doneShare_1 : decode cX8_doneShare 1 = .ok (.iconst 0, 1) := by decide +kernel
theorem dX8_doneShare_2 : decode cX8_doneShare 2 = .ok (.putfield 31, 3) := by decide +kernel
theorem dX8_doneShare_5 : decode cX8_doneShare 5 = .ok (.aload_n 0, 1) := by decide +kernel
theorem dX8_doneShare_6 : decode cX8_doneShare 6 = .ok (.invokevirtual 236, 3) := by decide +kernel
theorem dX8_doneShare_9 : decode cX8_doneShare 9 = .ok (.dreturn, 1) := by decide +kernel
theorem dX8_mix_0 : decode cX8_mix 0 = .ok (.aload_n 0, 1) := by decide +kernel
theorem dX8_mix_1 : decode cX8_mix 1 = .ok (.ldc2_w 240, 3) := by decide +kernel
theorem dX8_mix_4 : decode cX8_mix 4 = .ok (.aload_n 0, 1) := by decide +kernel
theorem dX8_mix_5 : decode cX8_mix 5 = .ok (.getfield 242, 3) := by decide +kernel
theorem dX8_mix_8 : decode cX8_mix 8 = .ok (.lmul, 1) := by decide +kernel
theorem dX8_mix_9 : decode cX8_mix 9 = .ok (.lload_n 1, 1) := by decide +kernel
theorem dX8_mix_10 : decode cX8_mix 10 = .ok (.ladd, 1) := by decide +kernel
theorem dX8_mix_11 : decode cX8_mix 11 = .ok (.putfield 242, 3) := by decide +kernel
theorem dX8_mix_14 : decode cX8_mix 14 = .ok (.return_, 1) := by decide +kernel
theorem dX8_mixHearing_0 : decode cX8_mixHearing 0 = .ok (.iconst 0, 1) := by decide +kernel
theorem dX8_mixHearing_1 : decode cX8_mixHearing 1 = .ok (.istore_n 2, 1) := by decide +kernel
theorem dX8_mixHearing_2 : decode cX8_mixHearing 2 = .ok (.iload_n 2, 1) := by decide +kernel
theorem dX8_mixHearing_3 : decode cX8_mixHearing 3 = .ok (.bipush 12, 2) := by decide +kernel
theorem dX8_mixHearing_5 : decode cX8_mixHearing 5 = .ok (.if_icmp .ge 20, 3) := by decide +kernel
theorem dX8_mixHearing_8 : decode cX8_mixHearing 8 = .ok (.aload_n 0, 1) := by decide +kernel
theorem dX8_mixHearing_9 : decode cX8_mixHearing 9 = .ok (.aload_n 0, 1) := by decide +kernel
theorem dX8_mixHearing_10 : decode cX8_mixHearing 10 = .ok (.iload_n 1, 1) := by decide +kernel
theorem dX8_mixHearing_11 : decode cX8_mixHearing 11 = .ok (.iload_n 2, 1) := by decide +kernel
theorem dX8_mixHearing_12 : decode cX8_mixHearing 12 = .ok (.invokevirtual 189, 3) := by decide +kernel
theorem dX8_mixHearing_15 : decode cX8_mixHearing 15 = .ok (.i2l, 1) := by decide +kernel
theorem dX8_mixHearing_16 : decode cX8_mixHearing 16 = .ok (.invokevirtual 246, 3) := by decide +kernel
theorem dX8_mixHearing_19 : decode cX8_mixHearing 19 = .ok (.iinc 2 1, 3) := by decide +kernel
theorem dX8_mixHearing_22 : decode cX8_mixHearing 22 = .ok (.goto (-20), 3) := by decide +kernel
theorem dX8_mixHearing_25 : decode cX8_mixHearing 25 = .ok (.iconst 0, 1) := by decide +kernel
theorem dX8_mixHearing_26 : decode cX8_mixHearing 26 = .ok (.istore_n 2, 1) := by decide +kernel
theorem dX8_mixHearing_27 : decode cX8_mixHearing 27 = .ok (.iload_n 2, 1) := by decide +kernel
theorem dX8_mixHearing_28 : decode cX8_mixHearing 28 = .ok (.iconst 5, 1) := by decide +kernel
theorem dX8_mixHearing_29 : decode cX8_mixHearing 29 = .ok (.if_icmp .ge 20, 3) := by decide +kernel
theorem dX8_mixHearing_32 : decode cX8_mixHearing 32 = .ok (.aload_n 0, 1) := by decide +kernel
theorem dX8_mixHearing_33 : decode cX8_mixHearing 33 = .ok (.aload_n 0, 1) := by decide +kernel
theorem dX8_mixHearing_34 : decode cX8_mixHearing 34 = .ok (.iload_n 1, 1) := by decide +kernel
theorem dX8_mixHearing_35 : decode cX8_mixHearing 35 = .ok (.iload_n 2, 1) := by decide +kernel
theorem dX8_mixHearing_36 : decode cX8_mixHearing 36 = .ok (.invokevirtual 215, 3) := by decide +kernel
theorem dX8_mixHearing_39 : decode cX8_mixHearing 39 = .ok (.i2l, 1) := by decide +kernel
theorem dX8_mixHearing_40 : decode cX8_mixHearing 40 = .ok (.invokevirtual 246, 3) := by decide +kernel
theorem dX8_mixHearing_43 : decode cX8_mixHearing 43 = .ok (.iinc 2 1, 3) := by decide +kernel
theorem dX8_mixHearing_46 : decode cX8_mixHearing 46 = .ok (.goto (-19), 3) := by decide +kernel
theorem dX8_mixHearing_49 : decode cX8_mixHearing 49 = .ok (.aload_n 0, 1) := by decide +kernel
theorem dX8_mixHearing_50 : decode cX8_mixHearing 50 = .ok (.aload_n 0, 1) := by decide +kernel
theorem dX8_mixHearing_51 : decode cX8_mixHearing 51 = .ok (.iload_n 1, 1) := by decide +kernel
theorem dX8_mixHearing_52 : decode cX8_mixHearing 52 = .ok (.iconst 0, 1) := by decide +kernel
theorem dX8_mixHearing_53 : decode cX8_mixHearing 53 = .ok (.invokevirtual 227, 3) := by decide +kernel
theorem dX8_mixHearing_56 : decode cX8_mixHearing 56 = .ok (.i2l, 1) := by decide +kernel
theorem dX8_mixHearing_57 : decode cX8_mixHearing 57 = .ok (.invokevirtual 246, 3) := by decide +kernel
theorem dX8_mixHearing_60 : decode cX8_mixHearing 60 = .ok (.return_, 1) := by decide +kernel
theorem dX8_digest_0 : decode cX8_digest 0 = .ok (.aload_n 0, 1) := by decide +kernel
theorem dX8_digest_1 : decode cX8_digest 1 = .ok (.iconst 0, 1) := by decide +kernel
theorem dX8_digest_2 : decode cX8_digest 2 = .ok (.putfield 31, 3) := by decide +kernel
theorem dX8_digest_5 : decode cX8_digest 5 = .ok (.aload_n 0, 1) := by decide +kernel
theorem dX8_digest_6 : decode cX8_digest 6 = .ok (.ldc2_w 250, 3) := by decide +kernel
theorem dX8_digest_9 : decode cX8_digest 9 = .ok (.putfield 242, 3) := by decide +kernel
theorem dX8_digest_12 : decode cX8_digest 12 = .ok (.iconst 0, 1) := by decide +kernel
theorem dX8_digest_13 : decode cX8_digest 13 = .ok (.istore_n 1, 1) := by decide +kernel
theorem dX8_digest_14 : decode cX8_digest 14 = .ok (.iload_n 1, 1) := by decide +kernel
theorem dX8_digest_15 : decode cX8_digest 15 = .ok (.bipush 13, 2) := by decide +kernel
theorem dX8_digest_17 : decode cX8_digest 17 = .ok (.if_icmp .ge 19, 3) := by decide +kernel
theorem dX8_digest_20 : decode cX8_digest 20 = .ok (.aload_n 0, 1) := by decide +kernel
theorem dX8_digest_21 : decode cX8_digest 21 = .ok (.aload_n 0, 1) := by decide +kernel
theorem dX8_digest_22 : decode cX8_digest 22 = .ok (.iload_n 1, 1) := by decide +kernel
theorem dX8_digest_23 : decode cX8_digest 23 = .ok (.invokevirtual 199, 3) := by decide +kernel
theorem dX8_digest_26 : decode cX8_digest 26 = .ok (.i2l, 1) := by decide +kernel
theorem dX8_digest_27 : decode cX8_digest 27 = .ok (.invokevirtual 246, 3) := by decide +kernel
theorem dX8_digest_30 : decode cX8_digest 30 = .ok (.iinc 1 1, 3) := by decide +kernel
theorem dX8_digest_33 : decode cX8_digest 33 = .ok (.goto (-19), 3) := by decide +kernel
theorem dX8_digest_36 : decode cX8_digest 36 = .ok (.iconst 0, 1) := by decide +kernel
theorem dX8_digest_37 : decode cX8_digest 37 = .ok (.istore_n 1, 1) := by decide +kernel
theorem dX8_digest_38 : decode cX8_digest 38 = .ok (.iload_n 1, 1) := by decide +kernel
theorem dX8_digest_39 : decode cX8_digest 39 = .ok (.bipush 7, 2) := by decide +kernel
theorem dX8_digest_41 : decode cX8_digest 41 = .ok (.if_icmp .ge 22, 3) := by decide +kernel
theorem dX8_digest_44 : decode cX8_digest 44 = .ok (.aload_n 0, 1) := by decide +kernel
theorem dX8_digest_45 : decode cX8_digest 45 = .ok (.aload_n 0, 1) := by decide +kernel
theorem dX8_digest_46 : decode cX8_digest 46 = .ok (.getfield 7, 3) := by decide +kernel
theorem dX8_digest_49 : decode cX8_digest 49 = .ok (.iconst 0, 1) := by decide +kernel
theorem dX8_digest_50 : decode cX8_digest 50 = .ok (.iload_n 1, 1) := by decide +kernel
theorem dX8_digest_51 : decode cX8_digest 51 = .ok (.iadd, 1) := by decide +kernel
theorem dX8_digest_52 : decode cX8_digest 52 = .ok (.iaload, 1) := by decide +kernel
theorem dX8_digest_53 : decode cX8_digest 53 = .ok (.i2l, 1) := by decide +kernel
theorem dX8_digest_54 : decode cX8_digest 54 = .ok (.invokevirtual 246, 3) := by decide +kernel
theorem dX8_digest_57 : decode cX8_digest 57 = .ok (.iinc 1 1, 3) := by decide +kernel
theorem dX8_digest_60 : decode cX8_digest 60 = .ok (.goto (-22), 3) := by decide +kernel
theorem dX8_digest_63 : decode cX8_digest 63 = .ok (.iconst 0, 1) := by decide +kernel
theorem dX8_digest_64 : decode cX8_digest 64 = .ok (.istore_n 1, 1) := by decide +kernel
theorem dX8_digest_65 : decode cX8_digest 65 = .ok (.iload_n 1, 1) := by decide +kernel
theorem dX8_digest_66 : decode cX8_digest 66 = .ok (.aload_n 0, 1) := by decide +kernel
theorem dX8_digest_67 : decode cX8_digest 67 = .ok (.getfield 7, 3) := by decide +kernel
theorem dX8_digest_70 : decode cX8_digest 70 = .ok (.bipush 7, 2) := by decide +kernel
theorem dX8_digest_72 : decode cX8_digest 72 = .ok (.iaload, 1) := by decide +kernel
theorem dX8_digest_73 : decode cX8_digest 73 = .ok (.if_icmp .ge 46, 3) := by decide +kernel
theorem dX8_digest_76 : decode cX8_digest 76 = .ok (.iconst 0, 1) := by decide +kernel
theorem dX8_digest_77 : decode cX8_digest 77 = .ok (.istore_n 2, 1) := by decide +kernel
theorem dX8_digest_78 : decode cX8_digest 78 = .ok (.iload_n 2, 1) := by decide +kernel
theorem dX8_digest_79 : decode cX8_digest 79 = .ok (.bipush 8, 2) := by decide +kernel
theorem dX8_digest_81 : decode cX8_digest 81 = .ok (.if_icmp .ge 20, 3) := by decide +kernel
theorem dX8_digest_84 : decode cX8_digest 84 = .ok (.aload_n 0, 1) := by decide +kernel
theorem dX8_digest_85 : decode cX8_digest 85 = .ok (.aload_n 0, 1) := by decide +kernel
theorem dX8_digest_86 : decode cX8_digest 86 = .ok (.iload_n 1, 1) := by decide +kernel
theorem dX8_digest_87 : decode cX8_digest 87 = .ok (.iload_n 2, 1) := by decide +kernel
theorem dX8_digest_88 : decode cX8_digest 88 = .ok (.invokevirtual 183, 3) := by decide +kernel
theorem dX8_digest_91 : decode cX8_digest 91 = .ok (.i2l, 1) := by decide +kernel
theorem dX8_digest_92 : decode cX8_digest 92 = .ok (.invokevirtual 246, 3) := by decide +kernel
theorem dX8_digest_95 : decode cX8_digest 95 = .ok (.iinc 2 1, 3) := by decide +kernel
theorem dX8_digest_98 : decode cX8_digest 98 = .ok (.goto (-20), 3) := by decide +kernel
theorem dX8_digest_101 : decode cX8_digest 101 = .ok (.aload_n 0, 1) := by decide +kernel
theorem dX8_digest_102 : decode cX8_digest 102 = .ok (.aload_n 0, 1) := by decide +kernel
theorem dX8_digest_103 : decode cX8_digest 103 = .ok (.iload_n 1, 1) := by decide +kernel
theorem dX8_digest_104 : decode cX8_digest 104 = .ok (.bipush 60, 2) := by decide +kernel
theorem dX8_digest_106 : decode cX8_digest 106 = .ok (.invokevirtual 224, 3) := by decide +kernel
theorem dX8_digest_109 : decode cX8_digest 109 = .ok (.i2l, 1) := by decide +kernel
theorem dX8_digest_110 : decode cX8_digest 110 = .ok (.invokevirtual 246, 3) := by decide +kernel
theorem dX8_digest_113 : decode cX8_digest 113 = .ok (.iinc 1 1, 3) := by decide +kernel
theorem dX8_digest_116 : decode cX8_digest 116 = .ok (.goto (-51), 3) := by decide +kernel
theorem dX8_digest_119 : decode cX8_digest 119 = .ok (.iconst 0, 1) := by decide +kernel
theorem dX8_digest_120 : decode cX8_digest 120 = .ok (.istore_n 1, 1) := by decide +kernel
theorem dX8_digest_121 : decode cX8_digest 121 = .ok (.iload_n 1, 1) := by decide +kernel
theorem dX8_digest_122 : decode cX8_digest 122 = .ok (.aload_n 0, 1) := by decide +kernel
theorem dX8_digest_123 : decode cX8_digest 123 = .ok (.getfield 7, 3) := by decide +kernel
theorem dX8_digest_126 : decode cX8_digest 126 = .ok (.bipush 8, 2) := by decide +kernel
theorem dX8_digest_128 : decode cX8_digest 128 = .ok (.iaload, 1) := by decide +kernel
theorem dX8_digest_129 : decode cX8_digest 129 = .ok (.if_icmp .ge 14, 3) := by decide +kernel
theorem dX8_digest_132 : decode cX8_digest 132 = .ok (.aload_n 0, 1) := by decide +kernel
theorem dX8_digest_133 : decode cX8_digest 133 = .ok (.iload_n 1, 1) := by decide +kernel
theorem dX8_digest_134 : decode cX8_digest 134 = .ok (.invokevirtual 252, 3) := by decide +kernel
theorem dX8_digest_137 : decode cX8_digest 137 = .ok (.iinc 1 1, 3) := by decide +kernel
theorem dX8_digest_140 : decode cX8_digest 140 = .ok (.goto (-19), 3) := by decide +kernel
theorem dX8_digest_143 : decode cX8_digest 143 = .ok (.aload_n 0, 1) := by decide +kernel
theorem dX8_digest_144 : decode cX8_digest 144 = .ok (.aload_n 0, 1) := by decide +kernel
theorem dX8_digest_145 : decode cX8_digest 145 = .ok (.invokevirtual 230, 3) := by decide +kernel
theorem dX8_digest_148 : decode cX8_digest 148 = .ok (.i2l, 1) := by decide +kernel
theorem dX8_digest_149 : decode cX8_digest 149 = .ok (.invokevirtual 246, 3) := by decide +kernel
theorem dX8_digest_152 : decode cX8_digest 152 = .ok (.iconst 0, 1) := by decide +kernel
theorem dX8_digest_153 : decode cX8_digest 153 = .ok (.istore_n 1, 1) := by decide +kernel
theorem dX8_digest_154 : decode cX8_digest 154 = .ok (.iload_n 1, 1) := by decide +kernel
theorem dX8_digest_155 : decode cX8_digest 155 = .ok (.iconst 3, 1) := by decide +kernel
theorem dX8_digest_156 : decode cX8_digest 156 = .ok (.if_icmp .ge 19, 3) := by decide +kernel
theorem dX8_digest_159 : decode cX8_digest 159 = .ok (.aload_n 0, 1) := by decide +kernel
theorem dX8_digest_160 : decode cX8_digest 160 = .ok (.aload_n 0, 1) := by decide +kernel
theorem dX8_digest_161 : decode cX8_digest 161 = .ok (.iload_n 1, 1) := by decide +kernel
theorem dX8_digest_162 : decode cX8_digest 162 = .ok (.invokevirtual 233, 3) := by decide +kernel
theorem dX8_digest_165 : decode cX8_digest 165 = .ok (.i2l, 1) := by decide +kernel
theorem dX8_digest_166 : decode cX8_digest 166 = .ok (.invokevirtual 246, 3) := by decide +kernel
theorem dX8_digest_169 : decode cX8_digest 169 = .ok (.iinc 1 1, 3) := by decide +kernel
theorem dX8_digest_172 : decode cX8_digest 172 = .ok (.goto (-18), 3) := by decide +kernel
theorem dX8_digest_175 : decode cX8_digest 175 = .ok (.aload_n 0, 1) := by decide +kernel
theorem dX8_digest_176 : decode cX8_digest 176 = .ok (.aload_n 0, 1) := by decide +kernel
theorem dX8_digest_177 : decode cX8_digest 177 = .ok (.invokevirtual 236, 3) := by decide +kernel
theorem dX8_digest_180 : decode cX8_digest 180 = .ok (.invokestatic 255, 3) := by decide +kernel
theorem dX8_digest_183 : decode cX8_digest 183 = .ok (.invokevirtual 246, 3) := by decide +kernel
theorem dX8_digest_186 : decode cX8_digest 186 = .ok (.aload_n 0, 1) := by decide +kernel
theorem dX8_digest_187 : decode cX8_digest 187 = .ok (.aload_n 0, 1) := by decide +kernel
theorem dX8_digest_188 : decode cX8_digest 188 = .ok (.getfield 153, 3) := by decide +kernel
theorem dX8_digest_191 : decode cX8_digest 191 = .ok (.i2l, 1) := by decide +kernel
theorem dX8_digest_192 : decode cX8_digest 192 = .ok (.invokevirtual 246, 3) := by decide +kernel
theorem dX8_digest_195 : decode cX8_digest 195 = .ok (.iconst 0, 1) := by decide +kernel
theorem dX8_digest_196 : decode cX8_digest 196 = .ok (.istore_n 1, 1) := by decide +kernel
theorem dX8_digest_197 : decode cX8_digest 197 = .ok (.iload_n 1, 1) := by decide +kernel
theorem dX8_digest_198 : decode cX8_digest 198 = .ok (.aload_n 0, 1) := by decide +kernel
theorem dX8_digest_199 : decode cX8_digest 199 = .ok (.getfield 153, 3) := by decide +kernel
theorem dX8_digest_202 : decode cX8_digest 202 = .ok (.if_icmp .ge 20, 3) := by decide +kernel
theorem dX8_digest_205 : decode cX8_digest 205 = .ok (.aload_n 0, 1) := by decide +kernel
theorem dX8_digest_206 : decode cX8_digest 206 = .ok (.aload_n 0, 1) := by decide +kernel
theorem dX8_digest_207 : decode cX8_digest 207 = .ok (.getfield 16, 3) := by decide +kernel
theorem dX8_digest_210 : decode cX8_digest 210 = .ok (.iload_n 1, 1) := by decide +kernel
theorem dX8_digest_211 : decode cX8_digest 211 = .ok (.iaload, 1) := by decide +kernel
theorem dX8_digest_212 : decode cX8_digest 212 = .ok (.i2l, 1) := by decide +kernel
theorem dX8_digest_213 : decode cX8_digest 213 = .ok (.invokevirtual 246, 3) := by decide +kernel
theorem dX8_digest_216 : decode cX8_digest 216 = .ok (.iinc 1 1, 3) := by decide +kernel
theorem dX8_digest_219 : decode cX8_digest 219 = .ok (.goto (-22), 3) := by decide +kernel
theorem dX8_digest_222 : decode cX8_digest 222 = .ok (.aload_n 0, 1) := by decide +kernel
theorem dX8_digest_223 : decode cX8_digest 223 = .ok (.getfield 242, 3) := by decide +kernel
theorem dX8_digest_226 : decode cX8_digest 226 = .ok (.lreturn, 1) := by decide +kernel
theorem dJxe99ae_isNaN_b9ae7_0 : decode cJxe99ae_isNaN_b9ae7 0 = .ok (.dload_n 0, 1) := by decide +kernel
theorem dJxe99ae_isNaN_b9ae7_1 : decode cJxe99ae_isNaN_b9ae7 1 = .ok (.dload_n 0, 1) := by decide +kernel
theorem dJxe99ae_isNaN_b9ae7_2 : decode cJxe99ae_isNaN_b9ae7 2 = .ok (.dcmp .l, 1) := by decide +kernel
theorem dJxe99ae_isNaN_b9ae7_3 : decode cJxe99ae_isNaN_b9ae7 3 = .ok (.ifCond .eq 7, 3) := by decide +kernel
theorem dJxe99ae_isNaN_b9ae7_6 : decode cJxe99ae_isNaN_b9ae7 6 = .ok (.iconst 1, 1) := by decide +kernel
theorem dJxe99ae_isNaN_b9ae7_7 : decode cJxe99ae_isNaN_b9ae7 7 = .ok (.goto 4, 3) := by decide +kernel
theorem dJxe99ae_isNaN_b9ae7_10 : decode cJxe99ae_isNaN_b9ae7 10 = .ok (.iconst 0, 1) := by decide +kernel
theorem dJxe99ae_isNaN_b9ae7_11 : decode cJxe99ae_isNaN_b9ae7 11 = .ok (.ireturn, 1) := by decide +kernel
theorem dJxe99ae_doubleToLongBits_ccdee_0 : decode cJxe99ae_doubleToLongBits_ccdee 0 = .ok (.dload_n 0, 1) := by decide +kernel
theorem dJxe99ae_doubleToLongBits_ccdee_1 : decode cJxe99ae_doubleToLongBits_ccdee 1 = .ok (.invokestatic 122, 3) := by decide +kernel
theorem dJxe99ae_doubleToLongBits_ccdee_4 : decode cJxe99ae_doubleToLongBits_ccdee 4 = .ok (.ifCond .ne 8, 3) := by decide +kernel
theorem dJxe99ae_doubleToLongBits_ccdee_7 : decode cJxe99ae_doubleToLongBits_ccdee 7 = .ok (.dload_n 0, 1) := by decide +kernel
theorem dJxe99ae_doubleToLongBits_ccdee_8 : decode cJxe99ae_doubleToLongBits_ccdee 8 = .ok (.invokestatic 134, 3) := by decide +kernel
theorem dJxe99ae_doubleToLongBits_ccdee_11 : decode cJxe99ae_doubleToLongBits_ccdee 11 = .ok (.lreturn, 1) := by decide +kernel
theorem dJxe99ae_doubleToLongBits_ccdee_12 : decode cJxe99ae_doubleToLongBits_ccdee 12 = .ok (.ldc2_w 137, 3) := by decide +kernel
theorem dJxe99ae_doubleToLongBits_ccdee_15 : decode cJxe99ae_doubleToLongBits_ccdee 15 = .ok (.lreturn, 1) := by decide +kernel
theorem dJ6_bitCount_0f7a4_0 : decode cJ6_bitCount_0f7a4 0 = .ok (.iload_n 0, 1) := by decide +kernel
theorem dJ6_bitCount_0f7a4_1 : decode cJ6_bitCount_0f7a4 1 = .ok (.iload_n 0, 1) := by decide +kernel
theorem dJ6_bitCount_0f7a4_2 : decode cJ6_bitCount_0f7a4 2 = .ok (.iconst 1, 1) := by decide +kernel
theorem dJ6_bitCount_0f7a4_3 : decode cJ6_bitCount_0f7a4 3 = .ok (.iushr, 1) := by decide +kernel
theorem dJ6_bitCount_0f7a4_4 : decode cJ6_bitCount_0f7a4 4 = .ok (.ldc_w 265, 3) := by decide +kernel
theorem dJ6_bitCount_0f7a4_7 : decode cJ6_bitCount_0f7a4 7 = .ok (.iand, 1) := by decide +kernel
theorem dJ6_bitCount_0f7a4_8 : decode cJ6_bitCount_0f7a4 8 = .ok (.isub, 1) := by decide +kernel
theorem dJ6_bitCount_0f7a4_9 : decode cJ6_bitCount_0f7a4 9 = .ok (.istore_n 0, 1) := by decide +kernel
theorem dJ6_bitCount_0f7a4_10 : decode cJ6_bitCount_0f7a4 10 = .ok (.iload_n 0, 1) := by decide +kernel
theorem dJ6_bitCount_0f7a4_11 : decode cJ6_bitCount_0f7a4 11 = .ok (.ldc_w 266, 3) := by decide +kernel
theorem dJ6_bitCount_0f7a4_14 : decode cJ6_bitCount_0f7a4 14 = .ok (.iand, 1) := by decide +kernel
theorem dJ6_bitCount_0f7a4_15 : decode cJ6_bitCount_0f7a4 15 = .ok (.iload_n 0, 1) := by decide +kernel
theorem dJ6_bitCount_0f7a4_16 : decode cJ6_bitCount_0f7a4 16 = .ok (.iconst 2, 1) := by decide +kernel
theorem dJ6_bitCount_0f7a4_17 : decode cJ6_bitCount_0f7a4 17 = .ok (.iushr, 1) := by decide +kernel
theorem dJ6_bitCount_0f7a4_18 : decode cJ6_bitCount_0f7a4 18 = .ok (.ldc_w 266, 3) := by decide +kernel
theorem dJ6_bitCount_0f7a4_21 : decode cJ6_bitCount_0f7a4 21 = .ok (.iand, 1) := by decide +kernel
theorem dJ6_bitCount_0f7a4_22 : decode cJ6_bitCount_0f7a4 22 = .ok (.iadd, 1) := by decide +kernel
theorem dJ6_bitCount_0f7a4_23 : decode cJ6_bitCount_0f7a4 23 = .ok (.istore_n 0, 1) := by decide +kernel
theorem dJ6_bitCount_0f7a4_24 : decode cJ6_bitCount_0f7a4 24 = .ok (.iload_n 0, 1) := by decide +kernel
theorem dJ6_bitCount_0f7a4_25 : decode cJ6_bitCount_0f7a4 25 = .ok (.iload_n 0, 1) := by decide +kernel
theorem dJ6_bitCount_0f7a4_26 : decode cJ6_bitCount_0f7a4 26 = .ok (.iconst 4, 1) := by decide +kernel
theorem dJ6_bitCount_0f7a4_27 : decode cJ6_bitCount_0f7a4 27 = .ok (.iushr, 1) := by decide +kernel
theorem dJ6_bitCount_0f7a4_28 : decode cJ6_bitCount_0f7a4 28 = .ok (.iadd, 1) := by decide +kernel
theorem dJ6_bitCount_0f7a4_29 : decode cJ6_bitCount_0f7a4 29 = .ok (.ldc_w 267, 3) := by decide +kernel
theorem dJ6_bitCount_0f7a4_32 : decode cJ6_bitCount_0f7a4 32 = .ok (.iand, 1) := by decide +kernel
theorem dJ6_bitCount_0f7a4_33 : decode cJ6_bitCount_0f7a4 33 = .ok (.istore_n 0, 1) := by decide +kernel
theorem dJ6_bitCount_0f7a4_34 : decode cJ6_bitCount_0f7a4 34 = .ok (.iload_n 0, 1) := by decide +kernel
theorem dJ6_bitCount_0f7a4_35 : decode cJ6_bitCount_0f7a4 35 = .ok (.iload_n 0, 1) := by decide +kernel
theorem dJ6_bitCount_0f7a4_36 : decode cJ6_bitCount_0f7a4 36 = .ok (.bipush 8, 2) := by decide +kernel
theorem dJ6_bitCount_0f7a4_38 : decode cJ6_bitCount_0f7a4 38 = .ok (.iushr, 1) := by decide +kernel
theorem dJ6_bitCount_0f7a4_39 : decode cJ6_bitCount_0f7a4 39 = .ok (.iadd, 1) := by decide +kernel
theorem dJ6_bitCount_0f7a4_40 : decode cJ6_bitCount_0f7a4 40 = .ok (.istore_n 0, 1) := by decide +kernel
theorem dJ6_bitCount_0f7a4_41 : decode cJ6_bitCount_0f7a4 41 = .ok (.iload_n 0, 1) := by decide +kernel
theorem dJ6_bitCount_0f7a4_42 : decode cJ6_bitCount_0f7a4 42 = .ok (.iload_n 0, 1) := by decide +kernel
theorem dJ6_bitCount_0f7a4_43 : decode cJ6_bitCount_0f7a4 43 = .ok (.bipush 16, 2) := by decide +kernel
theorem dJ6_bitCount_0f7a4_45 : decode cJ6_bitCount_0f7a4 45 = .ok (.iushr, 1) := by decide +kernel
theorem dJ6_bitCount_0f7a4_46 : decode cJ6_bitCount_0f7a4 46 = .ok (.iadd, 1) := by decide +kernel
theorem dJ6_bitCount_0f7a4_47 : decode cJ6_bitCount_0f7a4 47 = .ok (.istore_n 0, 1) := by decide +kernel
theorem dJ6_bitCount_0f7a4_48 : decode cJ6_bitCount_0f7a4 48 = .ok (.iload_n 0, 1) := by decide +kernel
theorem dJ6_bitCount_0f7a4_49 : decode cJ6_bitCount_0f7a4 49 = .ok (.bipush 63, 2) := by decide +kernel
theorem dJ6_bitCount_0f7a4_51 : decode cJ6_bitCount_0f7a4 51 = .ok (.iand, 1) := by decide +kernel
theorem dJ6_bitCount_0f7a4_52 : decode cJ6_bitCount_0f7a4 52 = .ok (.ireturn, 1) := by decide +kernel
theorem dJ9_max_7cf53_0 : decode cJ9_max_7cf53 0 = .ok (.iload_n 0, 1) := by decide +kernel
theorem dJ9_max_7cf53_1 : decode cJ9_max_7cf53 1 = .ok (.iload_n 1, 1) := by decide +kernel
theorem dJ9_max_7cf53_2 : decode cJ9_max_7cf53 2 = .ok (.if_icmp .lt 7, 3) := by decide +kernel
theorem dJ9_max_7cf53_5 : decode cJ9_max_7cf53 5 = .ok (.iload_n 0, 1) := by decide +kernel
theorem dJ9_max_7cf53_6 : decode cJ9_max_7cf53 6 = .ok (.goto 4, 3) := by decide +kernel
theorem dJ9_max_7cf53_9 : decode cJ9_max_7cf53 9 = .ok (.iload_n 1, 1) := by decide +kernel
theorem dJ9_max_7cf53_10 : decode cJ9_max_7cf53 10 = .ok (.ireturn, 1) := by decide +kernel
theorem dJ9_min_7cf53_0 : decode cJ9_min_7cf53 0 = .ok (.iload_n 0, 1) := by decide +kernel
theorem dJ9_min_7cf53_1 : decode cJ9_min_7cf53 1 = .ok (.iload_n 1, 1) := by decide +kernel
theorem dJ9_min_7cf53_2 : decode cJ9_min_7cf53 2 = .ok (.if_icmp .gt 7, 3) := by decide +kernel
theorem dJ9_min_7cf53_5 : decode cJ9_min_7cf53 5 = .ok (.iload_n 0, 1) := by decide +kernel
theorem dJ9_min_7cf53_6 : decode cJ9_min_7cf53 6 = .ok (.goto 4, 3) := by decide +kernel
theorem dJ9_min_7cf53_9 : decode cJ9_min_7cf53 9 = .ok (.iload_n 1, 1) := by decide +kernel
theorem dJ9_min_7cf53_10 : decode cJ9_min_7cf53 10 = .ok (.ireturn, 1) := by decide +kernel
theorem dL_addInterpreter_0 : decode cL_addInterpreter 0 = .ok (.aload 4, 2) := by decide +kernel
theorem dL_addInterpreter_2 : decode cL_addInterpreter 2 = .ok (.iconst 0, 1) := by decide +kernel
theorem dL_addInterpreter_3 : decode cL_addInterpreter 3 = .ok (.aload_n 0, 1) := by decide +kernel
theorem dL_addInterpreter_4 : decode cL_addInterpreter 4 = .ok (.iload_n 1, 1) := by decide +kernel
theorem dL_addInterpreter_5 : decode cL_addInterpreter 5 = .ok (.iload_n 2, 1) := by decide +kernel
theorem dL_addInterpreter_6 : decode cL_addInterpreter 6 = .ok (.iload_n 3, 1) := by decide +kernel
theorem dL_addInterpreter_7 : decode cL_addInterpreter 7 = .ok (.invokevirtual 7, 3) := by decide +kernel
theorem dL_addInterpreter_10 : decode cL_addInterpreter 10 = .ok (.i2l, 1) := by decide +kernel
theorem dL_addInterpreter_11 : decode cL_addInterpreter 11 = .ok (.lastore, 1) := by decide +kernel
theorem dL_addInterpreter_12 : decode cL_addInterpreter 12 = .ok (.goto 11, 3) := by decide +kernel
theorem dL_addInterpreter_15 : decode cL_addInterpreter 15 = .ok (.astore 5, 2) := by decide +kernel
theorem dL_addInterpreter_17 : decode cL_addInterpreter 17 = .ok (.iconst 1, 1) := by decide +kernel
theorem dL_addInterpreter_18 : decode cL_addInterpreter 18 = .ok (.ireturn, 1) := by decide +kernel
theorem dL_addInterpreter_19 : decode cL_addInterpreter 19 = .ok (.astore 5, 2) := by decide +kernel
theorem dL_addInterpreter_21 : decode cL_addInterpreter 21 = .ok (.iconst 2, 1) := by decide +kernel
theorem dL_addInterpreter_22 : decode cL_addInterpreter 22 = .ok (.ireturn, 1) := by decide +kernel
theorem dL_addInterpreter_23 : decode cL_addInterpreter 23 = .ok (.iconst 0, 1) := by decide +kernel
theorem dL_addInterpreter_24 : decode cL_addInterpreter 24 = .ok (.ireturn, 1) := by decide +kernel
theorem dL_addHearing_0 : decode cL_addHearing 0 = .ok (.aload 5, 2) := by decide +kernel
theorem dL_addHearing_2 : decode cL_addHearing 2 = .ok (.iconst 0, 1) := by decide +kernel
theorem dL_addHearing_3 : decode cL_addHearing 3 = .ok (.aload_n 0, 1) := by decide +kernel
theorem dL_addHearing_4 : decode cL_addHearing 4 = .ok (.iload_n 1, 1) := by decide +kernel
theorem dL_addHearing_5 : decode cL_addHearing 5 = .ok (.iload_n 2, 1) := by decide +kernel
theorem dL_addHearing_6 : decode cL_addHearing 6 = .ok (.iload_n 3, 1) := by decide +kernel
theorem dL_addHearing_7 : decode cL_addHearing 7 = .ok (.iload 4, 2) := by decide +kernel
theorem dL_addHearing_9 : decode cL_addHearing 9 = .ok (.invokevirtual 17, 3) := by decide +kernel
theorem dL_addHearing_12 : decode cL_addHearing 12 = .ok (.i2l, 1) := by decide +kernel
theorem dL_addHearing_13 : decode cL_addHearing 13 = .ok (.lastore, 1) := by decide +kernel
theorem dL_addHearing_14 : decode cL_addHearing 14 = .ok (.goto 11, 3) := by decide +kernel
theorem dL_addHearing_17 : decode cL_addHearing 17 = .ok (.astore 6, 2) := by decide +kernel
theorem dL_addHearing_19 : decode cL_addHearing 19 = .ok (.iconst 1, 1) := by decide +kernel
theorem dL_addHearing_20 : decode cL_addHearing 20 = .ok (.ireturn, 1) := by decide +kernel
theorem dL_addHearing_21 : decode cL_addHearing 21 = .ok (.astore 6, 2) := by decide +kernel
theorem dL_addHearing_23 : decode cL_addHearing 23 = .ok (.iconst 2, 1) := by decide +kernel
theorem dL_addHearing_24 : decode cL_addHearing 24 = .ok (.ireturn, 1) := by decide +kernel
theorem dL_addHearing_25 : decode cL_addHearing 25 = .ok (.iconst 0, 1) := by decide +kernel
theorem dL_addHearing_26 : decode cL_addHearing 26 = .ok (.ireturn, 1) := by decide +kernel
theorem dL_certify_0 : decode cL_certify 0 = .ok (.aload_n 3, 1) := by decide +kernel
theorem dL_certify_1 : decode cL_certify 1 = .ok (.iconst 0, 1) := by decide +kernel
theorem dL_certify_2 : decode cL_certify 2 = .ok (.aload_n 0, 1) := by decide +kernel
theorem dL_certify_3 : decode cL_certify 3 = .ok (.iload_n 1, 1) := by decide +kernel
theorem dL_certify_4 : decode cL_certify 4 = .ok (.iload_n 2, 1) := by decide +kernel
theorem dL_certify_5 : decode cL_certify 5 = .ok (.invokevirtual 21, 3) := by decide +kernel
theorem dL_certify_8 : decode cL_certify 8 = .ok (.i2l, 1) := by decide +kernel
theorem dL_certify_9 : decode cL_certify 9 = .ok (.lastore, 1) := by decide +kernel
theorem dL_certify_10 : decode cL_certify 10 = .ok (.goto 11, 3) := by decide +kernel
theorem dL_certify_13 : decode cL_certify 13 = .ok (.astore 4, 2) := by decide +kernel
theorem dL_certify_15 : decode cL_certify 15 = .ok (.iconst 1, 1) := by decide +kernel
theorem dL_certify_16 : decode cL_certify 16 = .ok (.ireturn, 1) := by decide +kernel
theorem dL_certify_17 : decode cL_certify 17 = .ok (.astore 4, 2) := by decide +kernel
theorem dL_certify_19 : decode cL_certify 19 = .ok (.iconst 2, 1) := by decide +kernel
theorem dL_certify_20 : decode cL_certify 20 = .ok (.ireturn, 1) := by decide +kernel
theorem dL_certify_21 : decode cL_certify 21 = .ok (.iconst 0, 1) := by decide +kernel
theorem dL_certify_22 : decode cL_certify 22 = .ok (.ireturn, 1) := by decide +kernel
theorem dL_set_0 : decode cL_set 0 = .ok (.aload_n 3, 1) := by decide +kernel
theorem dL_set_1 : decode cL_set 1 = .ok (.iconst 0, 1) := by decide +kernel
theorem dL_set_2 : decode cL_set 2 = .ok (.aload_n 0, 1) := by decide +kernel
theorem dL_set_3 : decode cL_set 3 = .ok (.iload_n 1, 1) := by decide +kernel
theorem dL_set_4 : decode cL_set 4 = .ok (.iload_n 2, 1) := by decide +kernel
theorem dL_set_5 : decode cL_set 5 = .ok (.invokevirtual 27, 3) := by decide +kernel
theorem dL_set_8 : decode cL_set 8 = .ok (.i2l, 1) := by decide +kernel
theorem dL_set_9 : decode cL_set 9 = .ok (.lastore, 1) := by decide +kernel
theorem dL_set_10 : decode cL_set 10 = .ok (.goto 11, 3) := by decide +kernel
theorem dL_set_13 : decode cL_set 13 = .ok (.astore 4, 2) := by decide +kernel
theorem dL_set_15 : decode cL_set 15 = .ok (.iconst 1, 1) := by decide +kernel
theorem dL_set_16 : decode cL_set 16 = .ok (.ireturn, 1) := by decide +kernel
theorem dL_set_17 : decode cL_set 17 = .ok (.astore 4, 2) := by decide +kernel
theorem dL_set_19 : decode cL_set 19 = .ok (.iconst 2, 1) := by decide +kernel
theorem dL_set_20 : decode cL_set 20 = .ok (.ireturn, 1) := by decide +kernel
theorem dL_set_21 : decode cL_set 21 = .ok (.iconst 0, 1) := by decide +kernel
theorem dL_set_22 : decode cL_set 22 = .ok (.ireturn, 1) := by decide +kernel
theorem dL_assign_0 : decode cL_assign 0 = .ok (.aload 5, 2) := by decide +kernel
theorem dL_assign_2 : decode cL_assign 2 = .ok (.iconst 0, 1) := by decide +kernel
theorem dL_assign_3 : decode cL_assign 3 = .ok (.aload_n 0, 1) := by decide +kernel
theorem dL_assign_4 : decode cL_assign 4 = .ok (.iload_n 1, 1) := by decide +kernel
theorem dL_assign_5 : decode cL_assign 5 = .ok (.iload_n 2, 1) := by decide +kernel
theorem dL_assign_6 : decode cL_assign 6 = .ok (.iload_n 3, 1) := by decide +kernel
theorem dL_assign_7 : decode cL_assign 7 = .ok (.iload 4, 2) := by decide +kernel
theorem dL_assign_9 : decode cL_assign 9 = .ok (.invokevirtual 30, 3) := by decide +kernel
theorem dL_assign_12 : decode cL_assign 12 = .ok (.i2l, 1) := by decide +kernel
theorem dL_assign_13 : decode cL_assign 13 = .ok (.lastore, 1) := by decide +kernel
theorem dL_assign_14 : decode cL_assign 14 = .ok (.goto 15, 3) := by decide +kernel
theorem dL_assign_17 : decode cL_assign 17 = .ok (.astore 6, 2) := by decide +kernel
theorem dL_assign_19 : decode cL_assign 19 = .ok (.iconst 1, 1) := by decide +kernel
theorem dL_assign_20 : decode cL_assign 20 = .ok (.ireturn, 1) := by decide +kernel
theorem dL_assign_21 : decode cL_assign 21 = .ok (.astore 6, 2) := by decide +kernel
theorem dL_assign_23 : decode cL_assign 23 = .ok (.iconst 2, 1) := by decide +kernel
theorem dL_assign_24 : decode cL_assign 24 = .ok (.ireturn, 1) := by decide +kernel
theorem dL_assign_25 : decode cL_assign 25 = .ok (.astore 6, 2) := by decide +kernel
theorem dL_assign_27 : decode cL_assign 27 = .ok (.iconst 3, 1) := by decide +kernel
theorem dL_assign_28 : decode cL_assign 28 = .ok (.ireturn, 1) := by decide +kernel
theorem dL_assign_29 : decode cL_assign 29 = .ok (.iconst 0, 1) := by decide +kernel
theorem dL_assign_30 : decode cL_assign 30 = .ok (.ireturn, 1) := by decide +kernel
theorem dL_release_0 : decode cL_release 0 = .ok (.aload_n 2, 1) := by decide +kernel
theorem dL_release_1 : decode cL_release 1 = .ok (.iconst 0, 1) := by decide +kernel
theorem dL_release_2 : decode cL_release 2 = .ok (.aload_n 0, 1) := by decide +kernel
theorem dL_release_3 : decode cL_release 3 = .ok (.iload_n 1, 1) := by decide +kernel
theorem dL_release_4 : decode cL_release 4 = .ok (.invokevirtual 33, 3) := by decide +kernel
theorem dL_release_7 : decode cL_release 7 = .ok (.i2l, 1) := by decide +kernel
theorem dL_release_8 : decode cL_release 8 = .ok (.lastore, 1) := by decide +kernel
theorem dL_release_9 : decode cL_release 9 = .ok (.goto 9, 3) := by decide +kernel
theorem dL_release_12 : decode cL_release 12 = .ok (.astore_n 3, 1) := by decide +kernel
theorem dL_release_13 : decode cL_release 13 = .ok (.iconst 1, 1) := by decide +kernel
theorem dL_release_14 : decode cL_release 14 = .ok (.ireturn, 1) := by decide +kernel
theorem dL_release_15 : decode cL_release 15 = .ok (.astore_n 3, 1) := by decide +kernel
theorem dL_release_16 : decode cL_release 16 = .ok (.iconst 2, 1) := by decide +kernel
theorem dL_release_17 : decode cL_release 17 = .ok (.ireturn, 1) := by decide +kernel
theorem dL_release_18 : decode cL_release 18 = .ok (.iconst 0, 1) := by decide +kernel
theorem dL_release_19 : decode cL_release 19 = .ok (.ireturn, 1) := by decide +kernel
theorem dL_swap_0 : decode cL_swap 0 = .ok (.aload 4, 2) := by decide +kernel
theorem dL_swap_2 : decode cL_swap 2 = .ok (.iconst 0, 1) := by decide +kernel
theorem dL_swap_3 : decode cL_swap 3 = .ok (.aload_n 0, 1) := by decide +kernel
theorem dL_swap_4 : decode cL_swap 4 = .ok (.iload_n 1, 1) := by decide +kernel
theorem dL_swap_5 : decode cL_swap 5 = .ok (.iload_n 2, 1) := by decide +kernel
theorem dL_swap_6 : decode cL_swap 6 = .ok (.iload_n 3, 1) := by decide +kernel
theorem dL_swap_7 : decode cL_swap 7 = .ok (.invokevirtual 37, 3) := by decide +kernel
theorem dL_swap_10 : decode cL_swap 10 = .ok (.i2l, 1) := by decide +kernel
theorem dL_swap_11 : decode cL_swap 11 = .ok (.lastore, 1) := by decide +kernel
theorem dL_swap_12 : decode cL_swap 12 = .ok (.goto 15, 3) := by decide +kernel
theorem dL_swap_15 : decode cL_swap 15 = .ok (.astore 5, 2) := by decide +kernel
theorem dL_swap_17 : decode cL_swap 17 = .ok (.iconst 1, 1) := by decide +kernel
theorem dL_swap_18 : decode cL_swap 18 = .ok (.ireturn, 1) := by decide +kernel
theorem dL_swap_19 : decode cL_swap 19 = .ok (.astore 5, 2) := by decide +kernel
theorem dL_swap_21 : decode cL_swap 21 = .ok (.iconst 2, 1) := by decide +kernel
theorem dL_swap_22 : decode cL_swap 22 = .ok (.ireturn, 1) := by decide +kernel
theorem dL_swap_23 : decode cL_swap 23 = .ok (.astore 5, 2) := by decide +kernel
theorem dL_swap_25 : decode cL_swap 25 = .ok (.iconst 3, 1) := by decide +kernel
theorem dL_swap_26 : decode cL_swap 26 = .ok (.ireturn, 1) := by decide +kernel
theorem dL_swap_27 : decode cL_swap 27 = .ok (.iconst 0, 1) := by decide +kernel
theorem dL_swap_28 : decode cL_swap 28 = .ok (.ireturn, 1) := by decide +kernel
theorem dL_vacate_0 : decode cL_vacate 0 = .ok (.aload_n 2, 1) := by decide +kernel
theorem dL_vacate_1 : decode cL_vacate 1 = .ok (.iconst 0, 1) := by decide +kernel
theorem dL_vacate_2 : decode cL_vacate 2 = .ok (.aload_n 0, 1) := by decide +kernel
theorem dL_vacate_3 : decode cL_vacate 3 = .ok (.iload_n 1, 1) := by decide +kernel
theorem dL_vacate_4 : decode cL_vacate 4 = .ok (.invokevirtual 40, 3) := by decide +kernel
theorem dL_vacate_7 : decode cL_vacate 7 = .ok (.i2l, 1) := by decide +kernel
theorem dL_vacate_8 : decode cL_vacate 8 = .ok (.lastore, 1) := by decide +kernel
theorem dL_vacate_9 : decode cL_vacate 9 = .ok (.goto 9, 3) := by decide +kernel
theorem dL_vacate_12 : decode cL_vacate 12 = .ok (.astore_n 3, 1) := by decide +kernel
theorem dL_vacate_13 : decode cL_vacate 13 = .ok (.iconst 1, 1) := by decide +kernel
theorem dL_vacate_14 : decode cL_vacate 14 = .ok (.ireturn, 1) := by decide +kernel
theorem dL_vacate_15 : decode cL_vacate 15 = .ok (.astore_n 3, 1) := by decide +kernel
theorem dL_vacate_16 : decode cL_vacate 16 = .ok (.iconst 2, 1) := by decide +kernel
theorem dL_vacate_17 : decode cL_vacate 17 = .ok (.ireturn, 1) := by decide +kernel
theorem dL_vacate_18 : decode cL_vacate 18 = .ok (.iconst 0, 1) := by decide +kernel
theorem dL_vacate_19 : decode cL_vacate 19 = .ok (.ireturn, 1) := by decide +kernel
theorem dL_pass_0 : decode cL_pass 0 = .ok (.aload_n 2, 1) := by decide +kernel
theorem dL_pass_1 : decode cL_pass 1 = .ok (.iconst 0, 1) := by decide +kernel
theorem dL_pass_2 : decode cL_pass 2 = .ok (.aload_n 0, 1) := by decide +kernel
theorem dL_pass_3 : decode cL_pass 3 = .ok (.iload_n 1, 1) := by decide +kernel
theorem dL_pass_4 : decode cL_pass 4 = .ok (.invokevirtual 43, 3) := by decide +kernel
theorem dL_pass_7 : decode cL_pass 7 = .ok (.i2l, 1) := by decide +kernel
theorem dL_pass_8 : decode cL_pass 8 = .ok (.lastore, 1) := by decide +kernel
theorem dL_pass_9 : decode cL_pass 9 = .ok (.goto 9, 3) := by decide +kernel
theorem dL_pass_12 : decode cL_pass 12 = .ok (.astore_n 3, 1) := by decide +kernel
theorem dL_pass_13 : decode cL_pass 13 = .ok (.iconst 1, 1) := by decide +kernel
theorem dL_pass_14 : decode cL_pass 14 = .ok (.ireturn, 1) := by decide +kernel
theorem dL_pass_15 : decode cL_pass 15 = .ok (.astore_n 3, 1) := by decide +kernel
theorem dL_pass_16 : decode cL_pass 16 = .ok (.iconst 2, 1) := by decide +kernel
theorem dL_pass_17 : decode cL_pass 17 = .ok (.ireturn, 1) := by decide +kernel
theorem dL_pass_18 : decode cL_pass 18 = .ok (.iconst 0, 1) := by decide +kernel
theorem dL_pass_19 : decode cL_pass 19 = .ok (.ireturn, 1) := by decide +kernel
theorem dL_append_0 : decode cL_append 0 = .ok (.aload_n 2, 1) := by decide +kernel
theorem dL_append_1 : decode cL_append 1 = .ok (.iconst 0, 1) := by decide +kernel
theorem dL_append_2 : decode cL_append 2 = .ok (.aload_n 0, 1) := by decide +kernel
theorem dL_append_3 : decode cL_append 3 = .ok (.iload_n 1, 1) := by decide +kernel
theorem dL_append_4 : decode cL_append 4 = .ok (.invokevirtual 46, 3) := by decide +kernel
theorem dL_append_7 : decode cL_append 7 = .ok (.i2l, 1) := by decide +kernel
theorem dL_append_8 : decode cL_append 8 = .ok (.lastore, 1) := by decide +kernel
theorem dL_append_9 : decode cL_append 9 = .ok (.goto 9, 3) := by decide +kernel
theorem dL_append_12 : decode cL_append 12 = .ok (.astore_n 3, 1) := by decide +kernel
theorem dL_append_13 : decode cL_append 13 = .ok (.iconst 1, 1) := by decide +kernel
theorem dL_append_14 : decode cL_append 14 = .ok (.ireturn, 1) := by decide +kernel
theorem dL_append_15 : decode cL_append 15 = .ok (.astore_n 3, 1) := by decide +kernel
theorem dL_append_16 : decode cL_append 16 = .ok (.iconst 2, 1) := by decide +kernel
theorem dL_append_17 : decode cL_append 17 = .ok (.ireturn, 1) := by decide +kernel
theorem dL_append_18 : decode cL_append 18 = .ok (.iconst 0, 1) := by decide +kernel
theorem dL_append_19 : decode cL_append 19 = .ok (.ireturn, 1) := by decide +kernel
theorem dL_addList_0 : decode cL_addList 0 = .ok (.aload_n 1, 1) := by decide +kernel
theorem dL_addList_1 : decode cL_addList 1 = .ok (.iconst 0, 1) := by decide +kernel
theorem dL_addList_2 : decode cL_addList 2 = .ok (.aload_n 0, 1) := by decide +kernel
theorem dL_addList_3 : decode cL_addList 3 = .ok (.invokevirtual 49, 3) := by decide +kernel
theorem dL_addList_6 : decode cL_addList 6 = .ok (.i2l, 1) := by decide +kernel
theorem dL_addList_7 : decode cL_addList 7 = .ok (.lastore, 1) := by decide +kernel
theorem dL_addList_8 : decode cL_addList 8 = .ok (.goto 9, 3) := by decide +kernel
theorem dL_addList_11 : decode cL_addList 11 = .ok (.astore_n 2, 1) := by decide +kernel
theorem dL_addList_12 : decode cL_addList 12 = .ok (.iconst 1, 1) := by decide +kernel
theorem dL_addList_13 : decode cL_addList 13 = .ok (.ireturn, 1) := by decide +kernel
theorem dL_addList_14 : decode cL_addList 14 = .ok (.astore_n 2, 1) := by decide +kernel
theorem dL_addList_15 : decode cL_addList 15 = .ok (.iconst 2, 1) := by decide +kernel
theorem dL_addList_16 : decode cL_addList 16 = .ok (.ireturn, 1) := by decide +kernel
theorem dL_addList_17 : decode cL_addList 17 = .ok (.iconst 0, 1) := by decide +kernel
theorem dL_addList_18 : decode cL_addList 18 = .ok (.ireturn, 1) := by decide +kernel
theorem dL_undo_0 : decode cL_undo 0 = .ok (.aload_n 1, 1) := by decide +kernel
theorem dL_undo_1 : decode cL_undo 1 = .ok (.iconst 0, 1) := by decide +kernel
theorem dL_undo_2 : decode cL_undo 2 = .ok (.aload_n 0, 1) := by decide +kernel
theorem dL_undo_3 : decode cL_undo 3 = .ok (.invokevirtual 53, 3) := by decide +kernel
theorem dL_undo_6 : decode cL_undo 6 = .ok (.i2l, 1) := by decide +kernel
theorem dL_undo_7 : decode cL_undo 7 = .ok (.lastore, 1) := by decide +kernel
theorem dL_undo_8 : decode cL_undo 8 = .ok (.goto 6, 3) := by decide +kernel
theorem dL_undo_11 : decode cL_undo 11 = .ok (.astore_n 2, 1) := by decide +kernel
theorem dL_undo_12 : decode cL_undo 12 = .ok (.iconst 1, 1) := by decide +kernel
theorem dL_undo_13 : decode cL_undo 13 = .ok (.ireturn, 1) := by decide +kernel
theorem dL_undo_14 : decode cL_undo 14 = .ok (.iconst 0, 1) := by decide +kernel
theorem dL_undo_15 : decode cL_undo 15 = .ok (.ireturn, 1) := by decide +kernel
theorem dL_interpreter_0 : decode cL_interpreter 0 = .ok (.aload_n 3, 1) := by decide +kernel
theorem dL_interpreter_1 : decode cL_interpreter 1 = .ok (.iconst 0, 1) := by decide +kernel
theorem dL_interpreter_2 : decode cL_interpreter 2 = .ok (.aload_n 0, 1) := by decide +kernel
theorem dL_interpreter_3 : decode cL_interpreter 3 = .ok (.iload_n 1, 1) := by decide +kernel
theorem dL_interpreter_4 : decode cL_interpreter 4 = .ok (.iload_n 2, 1) := by decide +kernel
theorem dL_interpreter_5 : decode cL_interpreter 5 = .ok (.invokevirtual 56, 3) := by decide +kernel
theorem dL_interpreter_8 : decode cL_interpreter 8 = .ok (.i2l, 1) := by decide +kernel
theorem dL_interpreter_9 : decode cL_interpreter 9 = .ok (.lastore, 1) := by decide +kernel
theorem dL_interpreter_10 : decode cL_interpreter 10 = .ok (.goto 11, 3) := by decide +kernel
theorem dL_interpreter_13 : decode cL_interpreter 13 = .ok (.astore 4, 2) := by decide +kernel
theorem dL_interpreter_15 : decode cL_interpreter 15 = .ok (.iconst 1, 1) := by decide +kernel
theorem dL_interpreter_16 : decode cL_interpreter 16 = .ok (.ireturn, 1) := by decide +kernel
theorem dL_interpreter_17 : decode cL_interpreter 17 = .ok (.astore 4, 2) := by decide +kernel
theorem dL_interpreter_19 : decode cL_interpreter 19 = .ok (.iconst 2, 1) := by decide +kernel
theorem dL_interpreter_20 : decode cL_interpreter 20 = .ok (.ireturn, 1) := by decide +kernel
theorem dL_interpreter_21 : decode cL_interpreter 21 = .ok (.iconst 0, 1) := by decide +kernel
theorem dL_interpreter_22 : decode cL_interpreter 22 = .ok (.ireturn, 1) := by decide +kernel
theorem dL_hearing_0 : decode cL_hearing 0 = .ok (.aload_n 3, 1) := by decide +kernel
theorem dL_hearing_1 : decode cL_hearing 1 = .ok (.iconst 0, 1) := by decide +kernel
theorem dL_hearing_2 : decode cL_hearing 2 = .ok (.aload_n 0, 1) := by decide +kernel
theorem dL_hearing_3 : decode cL_hearing 3 = .ok (.iload_n 1, 1) := by decide +kernel
theorem dL_hearing_4 : decode cL_hearing 4 = .ok (.iload_n 2, 1) := by decide +kernel
theorem dL_hearing_5 : decode cL_hearing 5 = .ok (.invokevirtual 59, 3) := by decide +kernel
theorem dL_hearing_8 : decode cL_hearing 8 = .ok (.i2l, 1) := by decide +kernel
theorem dL_hearing_9 : decode cL_hearing 9 = .ok (.lastore, 1) := by decide +kernel
theorem dL_hearing_10 : decode cL_hearing 10 = .ok (.goto 11, 3) := by decide +kernel
theorem dL_hearing_13 : decode cL_hearing 13 = .ok (.astore 4, 2) := by decide +kernel
theorem dL_hearing_15 : decode cL_hearing 15 = .ok (.iconst 1, 1) := by decide +kernel
theorem dL_hearing_16 : decode cL_hearing 16 = .ok (.ireturn, 1) := by decide +kernel
theorem dL_hearing_17 : decode cL_hearing 17 = .ok (.astore 4, 2) := by decide +kernel
theorem dL_hearing_19 : decode cL_hearing 19 = .ok (.iconst 2, 1) := by decide +kernel
theorem dL_hearing_20 : decode cL_hearing 20 = .ok (.ireturn, 1) := by decide +kernel
theorem dL_hearing_21 : decode cL_hearing 21 = .ok (.iconst 0, 1) := by decide +kernel
theorem dL_hearing_22 : decode cL_hearing 22 = .ok (.ireturn, 1) := by decide +kernel
theorem dL_count_0 : decode cL_count 0 = .ok (.aload_n 2, 1) := by decide +kernel
theorem dL_count_1 : decode cL_count 1 = .ok (.iconst 0, 1) := by decide +kernel
theorem dL_count_2 : decode cL_count 2 = .ok (.aload_n 0, 1) := by decide +kernel
theorem dL_count_3 : decode cL_count 3 = .ok (.iload_n 1, 1) := by decide +kernel
theorem dL_count_4 : decode cL_count 4 = .ok (.invokevirtual 62, 3) := by decide +kernel
theorem dL_count_7 : decode cL_count 7 = .ok (.i2l, 1) := by decide +kernel
theorem dL_count_8 : decode cL_count 8 = .ok (.lastore, 1) := by decide +kernel
theorem dL_count_9 : decode cL_count 9 = .ok (.goto 6, 3) := by decide +kernel
theorem dL_count_12 : decode cL_count 12 = .ok (.astore_n 3, 1) := by decide +kernel
theorem dL_count_13 : decode cL_count 13 = .ok (.iconst 1, 1) := by decide +kernel
theorem dL_count_14 : decode cL_count 14 = .ok (.ireturn, 1) := by decide +kernel
theorem dL_count_15 : decode cL_count 15 = .ok (.iconst 0, 1) := by decide +kernel
theorem dL_count_16 : decode cL_count 16 = .ok (.ireturn, 1) := by decide +kernel
theorem dL_setting_0 : decode cL_setting 0 = .ok (.aload_n 2, 1) := by decide +kernel
theorem dL_setting_1 : decode cL_setting 1 = .ok (.iconst 0, 1) := by decide +kernel
theorem dL_setting_2 : decode cL_setting 2 = .ok (.aload_n 0, 1) := by decide +kernel
theorem dL_setting_3 : decode cL_setting 3 = .ok (.iload_n 1, 1) := by decide +kernel
theorem dL_setting_4 : decode cL_setting 4 = .ok (.invokevirtual 65, 3) := by decide +kernel
theorem dL_setting_7 : decode cL_setting 7 = .ok (.i2l, 1) := by decide +kernel
theorem dL_setting_8 : decode cL_setting 8 = .ok (.lastore, 1) := by decide +kernel
theorem dL_setting_9 : decode cL_setting 9 = .ok (.goto 6, 3) := by decide +kernel
theorem dL_setting_12 : decode cL_setting 12 = .ok (.astore_n 3, 1) := by decide +kernel
theorem dL_setting_13 : decode cL_setting 13 = .ok (.iconst 1, 1) := by decide +kernel
theorem dL_setting_14 : decode cL_setting 14 = .ok (.ireturn, 1) := by decide +kernel
theorem dL_setting_15 : decode cL_setting 15 = .ok (.iconst 0, 1) := by decide +kernel
theorem dL_setting_16 : decode cL_setting 16 = .ok (.ireturn, 1) := by decide +kernel
theorem dL_whyNot_0 : decode cL_whyNot 0 = .ok (.aload 5, 2) := by decide +kernel
theorem dL_whyNot_2 : decode cL_whyNot 2 = .ok (.iconst 0, 1) := by decide +kernel
theorem dL_whyNot_3 : decode cL_whyNot 3 = .ok (.aload_n 0, 1) := by decide +kernel
theorem dL_whyNot_4 : decode cL_whyNot 4 = .ok (.iload_n 1, 1) := by decide +kernel
theorem dL_whyNot_5 : decode cL_whyNot 5 = .ok (.iload_n 2, 1) := by decide +kernel
theorem dL_whyNot_6 : decode cL_whyNot 6 = .ok (.iload_n 3, 1) := by decide +kernel
theorem dL_whyNot_7 : decode cL_whyNot 7 = .ok (.iload 4, 2) := by decide +kernel
theorem dL_whyNot_9 : decode cL_whyNot 9 = .ok (.invokevirtual 68, 3) := by decide +kernel
theorem dL_whyNot_12 : decode cL_whyNot 12 = .ok (.i2l, 1) := by decide +kernel
theorem dL_whyNot_13 : decode cL_whyNot 13 = .ok (.lastore, 1) := by decide +kernel
theorem dL_whyNot_14 : decode cL_whyNot 14 = .ok (.goto 11, 3) := by decide +kernel
theorem dL_whyNot_17 : decode cL_whyNot 17 = .ok (.astore 6, 2) := by decide +kernel
theorem dL_whyNot_19 : decode cL_whyNot 19 = .ok (.iconst 1, 1) := by decide +kernel
theorem dL_whyNot_20 : decode cL_whyNot 20 = .ok (.ireturn, 1) := by decide +kernel
theorem dL_whyNot_21 : decode cL_whyNot 21 = .ok (.astore 6, 2) := by decide +kernel
theorem dL_whyNot_23 : decode cL_whyNot 23 = .ok (.iconst 2, 1) := by decide +kernel
theorem dL_whyNot_24 : decode cL_whyNot 24 = .ok (.ireturn, 1) := by decide +kernel
theorem dL_whyNot_25 : decode cL_whyNot 25 = .ok (.iconst 0, 1) := by decide +kernel
theorem dL_whyNot_26 : decode cL_whyNot 26 = .ok (.ireturn, 1) := by decide +kernel
theorem dL_cheapest_0 : decode cL_cheapest 0 = .ok (.aload_n 3, 1) := by decide +kernel
theorem dL_cheapest_1 : decode cL_cheapest 1 = .ok (.iconst 0, 1) := by decide +kernel
theorem dL_cheapest_2 : decode cL_cheapest 2 = .ok (.aload_n 0, 1) := by decide +kernel
theorem dL_cheapest_3 : decode cL_cheapest 3 = .ok (.iload_n 1, 1) := by decide +kernel
theorem dL_cheapest_4 : decode cL_cheapest 4 = .ok (.iload_n 2, 1) := by decide +kernel
theorem dL_cheapest_5 : decode cL_cheapest 5 = .ok (.invokevirtual 71, 3) := by decide +kernel
theorem dL_cheapest_8 : decode cL_cheapest 8 = .ok (.i2l, 1) := by decide +kernel
theorem dL_cheapest_9 : decode cL_cheapest 9 = .ok (.lastore, 1) := by decide +kernel
theorem dL_cheapest_10 : decode cL_cheapest 10 = .ok (.goto 11, 3) := by decide +kernel
theorem dL_cheapest_13 : decode cL_cheapest 13 = .ok (.astore 4, 2) := by decide +kernel
theorem dL_cheapest_15 : decode cL_cheapest 15 = .ok (.iconst 1, 1) := by decide +kernel
theorem dL_cheapest_16 : decode cL_cheapest 16 = .ok (.ireturn, 1) := by decide +kernel
theorem dL_cheapest_17 : decode cL_cheapest 17 = .ok (.astore 4, 2) := by decide +kernel
theorem dL_cheapest_19 : decode cL_cheapest 19 = .ok (.iconst 2, 1) := by decide +kernel
theorem dL_cheapest_20 : decode cL_cheapest 20 = .ok (.ireturn, 1) := by decide +kernel
theorem dL_cheapest_21 : decode cL_cheapest 21 = .ok (.iconst 0, 1) := by decide +kernel
theorem dL_cheapest_22 : decode cL_cheapest 22 = .ok (.ireturn, 1) := by decide +kernel
theorem dL_tiredIn_0 : decode cL_tiredIn 0 = .ok (.aload_n 3, 1) := by decide +kernel
theorem dL_tiredIn_1 : decode cL_tiredIn 1 = .ok (.iconst 0, 1) := by decide +kernel
theorem dL_tiredIn_2 : decode cL_tiredIn 2 = .ok (.aload_n 0, 1) := by decide +kernel
theorem dL_tiredIn_3 : decode cL_tiredIn 3 = .ok (.iload_n 1, 1) := by decide +kernel
theorem dL_tiredIn_4 : decode cL_tiredIn 4 = .ok (.iload_n 2, 1) := by decide +kernel
theorem dL_tiredIn_5 : decode cL_tiredIn 5 = .ok (.invokevirtual 74, 3) := by decide +kernel
theorem dL_tiredIn_8 : decode cL_tiredIn 8 = .ok (.i2l, 1) := by decide +kernel
theorem dL_tiredIn_9 : decode cL_tiredIn 9 = .ok (.lastore, 1) := by decide +kernel
theorem dL_tiredIn_10 : decode cL_tiredIn 10 = .ok (.goto 11, 3) := by decide +kernel
theorem dL_tiredIn_13 : decode cL_tiredIn 13 = .ok (.astore 4, 2) := by decide +kernel
theorem dL_tiredIn_15 : decode cL_tiredIn 15 = .ok (.iconst 1, 1) := by decide +kernel
theorem dL_tiredIn_16 : decode cL_tiredIn 16 = .ok (.ireturn, 1) := by decide +kernel
theorem dL_tiredIn_17 : decode cL_tiredIn 17 = .ok (.astore 4, 2) := by decide +kernel
theorem dL_tiredIn_19 : decode cL_tiredIn 19 = .ok (.iconst 2, 1) := by decide +kernel
theorem dL_tiredIn_20 : decode cL_tiredIn 20 = .ok (.ireturn, 1) := by decide +kernel
theorem dL_tiredIn_21 : decode cL_tiredIn 21 = .ok (.iconst 0, 1) := by decide +kernel
theorem dL_tiredIn_22 : decode cL_tiredIn 22 = .ok (.ireturn, 1) := by decide +kernel
theorem dL_ifVacated_0 : decode cL_ifVacated 0 = .ok (.aload_n 3, 1) := by decide +kernel
theorem dL_ifVacated_1 : decode cL_ifVacated 1 = .ok (.iconst 0, 1) := by decide +kernel
theorem dL_ifVacated_2 : decode cL_ifVacated 2 = .ok (.aload_n 0, 1) := by decide +kernel
theorem dL_ifVacated_3 : decode cL_ifVacated 3 = .ok (.iload_n 1, 1) := by decide +kernel
theorem dL_ifVacated_4 : decode cL_ifVacated 4 = .ok (.iload_n 2, 1) := by decide +kernel
theorem dL_ifVacated_5 : decode cL_ifVacated 5 = .ok (.invokevirtual 77, 3) := by decide +kernel
theorem dL_ifVacated_8 : decode cL_ifVacated 8 = .ok (.i2l, 1) := by decide +kernel
theorem dL_ifVacated_9 : decode cL_ifVacated 9 = .ok (.lastore, 1) := by decide +kernel
theorem dL_ifVacated_10 : decode cL_ifVacated 10 = .ok (.goto 11, 3) := by decide +kernel
theorem dL_ifVacated_13 : decode cL_ifVacated 13 = .ok (.astore 4, 2) := by decide +kernel
theorem dL_ifVacated_15 : decode cL_ifVacated 15 = .ok (.iconst 1, 1) := by decide +kernel
theorem dL_ifVacated_16 : decode cL_ifVacated 16 = .ok (.ireturn, 1) := by decide +kernel
theorem dL_ifVacated_17 : decode cL_ifVacated 17 = .ok (.astore 4, 2) := by decide +kernel
theorem dL_ifVacated_19 : decode cL_ifVacated 19 = .ok (.iconst 2, 1) := by decide +kernel
theorem dL_ifVacated_20 : decode cL_ifVacated 20 = .ok (.ireturn, 1) := by decide +kernel
theorem dL_ifVacated_21 : decode cL_ifVacated 21 = .ok (.iconst 0, 1) := by decide +kernel
theorem dL_ifVacated_22 : decode cL_ifVacated 22 = .ok (.ireturn, 1) := by decide +kernel
theorem dL_missing_0 : decode cL_missing 0 = .ok (.aload_n 2, 1) := by decide +kernel
theorem dL_missing_1 : decode cL_missing 1 = .ok (.iconst 0, 1) := by decide +kernel
theorem dL_missing_2 : decode cL_missing 2 = .ok (.aload_n 0, 1) := by decide +kernel
theorem dL_missing_3 : decode cL_missing 3 = .ok (.iload_n 1, 1) := by decide +kernel
theorem dL_missing_4 : decode cL_missing 4 = .ok (.invokevirtual 80, 3) := by decide +kernel
theorem dL_missing_7 : decode cL_missing 7 = .ok (.i2l, 1) := by decide +kernel
theorem dL_missing_8 : decode cL_missing 8 = .ok (.lastore, 1) := by decide +kernel
theorem dL_missing_9 : decode cL_missing 9 = .ok (.goto 6, 3) := by decide +kernel
theorem dL_missing_12 : decode cL_missing 12 = .ok (.astore_n 3, 1) := by decide +kernel
theorem dL_missing_13 : decode cL_missing 13 = .ok (.iconst 1, 1) := by decide +kernel
theorem dL_missing_14 : decode cL_missing 14 = .ok (.ireturn, 1) := by decide +kernel
theorem dL_missing_15 : decode cL_missing 15 = .ok (.iconst 0, 1) := by decide +kernel
theorem dL_missing_16 : decode cL_missing 16 = .ok (.ireturn, 1) := by decide +kernel
theorem dL_law_0 : decode cL_law 0 = .ok (.new 8, 3) := by decide +kernel
theorem dL_law_3 : decode cL_law 3 = .ok (.dup, 1) := by decide +kernel
theorem dL_law_4 : decode cL_law 4 = .ok (.invokespecial 83, 3) := by decide +kernel
theorem dL_law_7 : decode cL_law 7 = .ok (.astore_n 1, 1) := by decide +kernel
theorem dL_law_8 : decode cL_law 8 = .ok (.new 84, 3) := by decide +kernel
theorem dL_law_11 : decode cL_law 11 = .ok (.dup, 1) := by decide +kernel
theorem dL_law_12 : decode cL_law 12 = .ok (.invokespecial 86, 3) := by decide +kernel
theorem dL_law_15 : decode cL_law 15 = .ok (.astore_n 2, 1) := by decide +kernel
theorem dL_law_16 : decode cL_law 16 = .ok (.iconst 1, 1) := by decide +kernel
theorem dL_law_17 : decode cL_law 17 = .ok (.newarray .long, 2) := by decide +kernel
theorem dL_law_19 : decode cL_law 19 = .ok (.astore_n 3, 1) := by decide +kernel
theorem dL_law_20 : decode cL_law 20 = .ok (.iconst 0, 1) := by decide +kernel
theorem dL_law_21 : decode cL_law 21 = .ok (.istore 4, 2) := by decide +kernel
theorem dL_law_23 : decode cL_law 23 = .ok (.iload 4, 2) := by decide +kernel
theorem dL_law_25 : decode cL_law 25 = .ok (.aload_n 0, 1) := by decide +kernel
theorem dL_law_26 : decode cL_law 26 = .ok (.arraylength, 1) := by decide +kernel
theorem dL_law_27 : decode cL_law 27 = .ok (.iconst 5, 1) := by decide +kernel
theorem dL_law_28 : decode cL_law 28 = .ok (.isub, 1) := by decide +kernel
theorem dL_law_29 : decode cL_law 29 = .ok (.if_icmp .gt 1619, 3) := by decide +kernel
theorem dL_law_32 : decode cL_law 32 = .ok (.aload_n 0, 1) := by decide +kernel
theorem dL_law_33 : decode cL_law 33 = .ok (.iload 4, 2) := by decide +kernel
theorem dL_law_35 : decode cL_law 35 = .ok (.iaload, 1) := by decide +kernel
theorem dL_law_36 : decode cL_law 36 = .ok (.bipush 31, 2) := by decide +kernel
theorem dL_law_38 : decode cL_law 38 = .ok (.iand, 1) := by decide +kernel
theorem dL_law_39 : decode cL_law 39 = .ok (.tableswitch 1603 0 25 #[117, 197, 289, 357, 425, 517, 573, 653, 709, 765, 821, 834, 847, 891, 935, 1003, 1071, 1127, 1183, 1275, 1343, 1411, 1479, 1492, 1548, 1589], 117) := by decide +kernel
theorem dL_law_156 : decode cL_law 156 = .ok (.aload_n 1, 1) := by decide +kernel
theorem dL_law_157 : decode cL_law 157 = .ok (.aload_n 0, 1) := by decide +kernel
theorem dL_law_158 : decode cL_law 158 = .ok (.iload 4, 2) := by decide +kernel
theorem dL_law_160 : decode cL_law 160 = .ok (.iconst 1, 1) := by decide +kernel
theorem dL_law_161 : decode cL_law 161 = .ok (.iadd, 1) := by decide +kernel
theorem dL_law_162 : decode cL_law 162 = .ok (.iaload, 1) := by decide +kernel
theorem dL_law_163 : decode cL_law 163 = .ok (.aload_n 0, 1) := by decide +kernel
theorem dL_law_164 : decode cL_law 164 = .ok (.iload 4, 2) := by decide +kernel
theorem dL_law_166 : decode cL_law 166 = .ok (.iconst 2, 1) := by decide +kernel
theorem dL_law_167 : decode cL_law 167 = .ok (.iadd, 1) := by decide +kernel
theorem dL_law_168 : decode cL_law 168 = .ok (.iaload, 1) := by decide +kernel
theorem dL_law_169 : decode cL_law 169 = .ok (.aload_n 0, 1) := by decide +kernel
theorem dL_law_170 : decode cL_law 170 = .ok (.iload 4, 2) := by decide +kernel
theorem dL_law_172 : decode cL_law 172 = .ok (.iconst 3, 1) := by decide +kernel
theorem dL_law_173 : decode cL_law 173 = .ok (.iadd, 1) := by decide +kernel
theorem dL_law_174 : decode cL_law 174 = .ok (.iaload, 1) := by decide +kernel
theorem dL_law_175 : decode cL_law 175 = .ok (.aload_n 3, 1) := by decide +kernel
theorem dL_law_176 : decode cL_law 176 = .ok (.invokestatic 87, 3) := by decide +kernel
theorem dL_law_179 : decode cL_law 179 = .ok (.istore 5, 2) := by decide +kernel
theorem dL_law_181 : decode cL_law 181 = .ok (.aload_n 2, 1) := by decide +kernel
theorem dL_law_182 : decode cL_law 182 = .ok (.aload_n 0, 1) := by decide +kernel
theorem dL_law_183 : decode cL_law 183 = .ok (.iload 4, 2) := by decide +kernel
theorem dL_law_185 : decode cL_law 185 = .ok (.iconst 1, 1) := by decide +kernel
theorem dL_law_186 : decode cL_law 186 = .ok (.iadd, 1) := by decide +kernel
theorem dL_law_187 : decode cL_law 187 = .ok (.iaload, 1) := by decide +kernel
theorem dL_law_188 : decode cL_law 188 = .ok (.aload_n 0, 1) := by decide +kernel
theorem dL_law_189 : decode cL_law 189 = .ok (.iload 4, 2) := by decide +kernel
theorem dL_law_191 : decode cL_law 191 = .ok (.iconst 2, 1) := by decide +kernel
theorem dL_law_192 : decode cL_law 192 = .ok (.iadd, 1) := by decide +kernel
theorem dL_law_193 : decode cL_law 193 = .ok (.iaload, 1) := by decide +kernel
theorem dL_law_194 : decode cL_law 194 = .ok (.aload_n 0, 1) := by decide +kernel
theorem dL_law_195 : decode cL_law 195 = .ok (.iload 4, 2) := by decide +kernel
theorem dL_law_197 : decode cL_law 197 = .ok (.iconst 3, 1) := by decide +kernel
theorem dL_law_198 : decode cL_law 198 = .ok (.iadd, 1) := by decide +kernel
theorem dL_law_199 : decode cL_law 199 = .ok (.iaload, 1) := by decide +kernel
theorem dL_law_200 : decode cL_law 200 = .ok (.invokevirtual 92, 3) := by decide +kernel
theorem dL_law_203 : decode cL_law 203 = .ok (.istore 6, 2) := by decide +kernel
theorem dL_law_205 : decode cL_law 205 = .ok (.aload_n 2, 1) := by decide +kernel
theorem dL_law_206 : decode cL_law 206 = .ok (.invokevirtual 93, 3) := by decide +kernel
theorem dL_law_209 : decode cL_law 209 = .ok (.iload 5, 2) := by decide +kernel
theorem dL_law_211 : decode cL_law 211 = .ok (.if_icmp .eq 5, 3) := by decide +kernel
theorem dL_law_214 : decode cL_law 214 = .ok (.iconst 0, 1) := by decide +kernel
theorem dL_law_215 : decode cL_law 215 = .ok (.ireturn, 1) := by decide +kernel
theorem dL_law_216 : decode cL_law 216 = .ok (.iload 5, 2) := by decide +kernel
theorem dL_law_218 : decode cL_law 218 = .ok (.ifCond .ne 15, 3) := by decide +kernel
theorem dL_law_221 : decode cL_law 221 = .ok (.aload_n 3, 1) := by decide +kernel
theorem dL_law_222 : decode cL_law 222 = .ok (.iconst 0, 1) := by decide +kernel
theorem dL_law_223 : decode cL_law 223 = .ok (.laload, 1) := by decide +kernel
theorem dL_law_224 : decode cL_law 224 = .ok (.iload 6, 2) := by decide +kernel
theorem dL_law_226 : decode cL_law 226 = .ok (.i2l, 1) := by decide +kernel
theorem dL_law_227 : decode cL_law 227 = .ok (.lcmp, 1) := by decide +kernel
theorem dL_law_228 : decode cL_law 228 = .ok (.ifCond .eq 5, 3) := by decide +kernel
theorem dL_law_231 : decode cL_law 231 = .ok (.iconst 0, 1) := by decide +kernel
theorem dL_law_232 : decode cL_law 232 = .ok (.ireturn, 1) := by decide +kernel
theorem dL_law_233 : decode cL_law 233 = .ok (.goto 1409, 3) := by decide +kernel
theorem dL_law_236 : decode cL_law 236 = .ok (.aload_n 1, 1) := by decide +kernel
theorem dL_law_237 : decode cL_law 237 = .ok (.aload_n 0, 1) := by decide +kernel
theorem dL_law_238 : decode cL_law 238 = .ok (.iload 4, 2) := by decide +kernel
theorem dL_law_240 : decode cL_law 240 = .ok (.iconst 1, 1) := by decide +kernel
theorem dL_law_241 : decode cL_law 241 = .ok (.iadd, 1) := by decide +kernel
theorem dL_law_242 : decode cL_law 242 = .ok (.iaload, 1) := by decide +kernel
theorem dL_law_243 : decode cL_law 243 = .ok (.aload_n 0, 1) := by decide +kernel
theorem dL_law_244 : decode cL_law 244 = .ok (.iload 4, 2) := by decide +kernel
theorem dL_law_246 : decode cL_law 246 = .ok (.iconst 2, 1) := by decide +kernel
theorem dL_law_247 : decode cL_law 247 = .ok (.iadd, 1) := by decide +kernel
theorem dL_law_248 : decode cL_law 248 = .ok (.iaload, 1) := by decide +kernel
theorem dL_law_249 : decode cL_law 249 = .ok (.aload_n 0, 1) := by decide +kernel
theorem dL_law_250 : decode cL_law 250 = .ok (.iload 4, 2) := by decide +kernel
theorem dL_law_252 : decode cL_law 252 = .ok (.iconst 3, 1) := by decide +kernel
theorem dL_law_253 : decode cL_law 253 = .ok (.iadd, 1) := by decide +kernel
theorem dL_law_254 : decode cL_law 254 = .ok (.iaload, 1) := by decide +kernel
theorem dL_law_255 : decode cL_law 255 = .ok (.aload_n 0, 1) := by decide +kernel
theorem dL_law_256 : decode cL_law 256 = .ok (.iload 4, 2) := by decide +kernel
theorem dL_law_258 : decode cL_law 258 = .ok (.iconst 4, 1) := by decide +kernel
theorem dL_law_259 : decode cL_law 259 = .ok (.iadd, 1) := by decide +kernel
theorem dL_law_260 : decode cL_law 260 = .ok (.iaload, 1) := by decide +kernel
theorem dL_law_261 : decode cL_law 261 = .ok (.aload_n 3, 1) := by decide +kernel
theorem dL_law_262 : decode cL_law 262 = .ok (.invokestatic 96, 3) := by decide +kernel
theorem dL_law_265 : decode cL_law 265 = .ok (.istore 5, 2) := by decide +kernel
theorem dL_law_267 : decode cL_law 267 = .ok (.aload_n 2, 1) := by decide +kernel
theorem dL_law_268 : decode cL_law 268 = .ok (.aload_n 0, 1) := by decide +kernel
theorem dL_law_269 : decode cL_law 269 = .ok (.iload 4, 2) := by decide +kernel
theorem dL_law_271 : decode cL_law 271 = .ok (.iconst 1, 1) := by decide +kernel
theorem dL_law_272 : decode cL_law 272 = .ok (.iadd, 1) := by decide +kernel
theorem dL_law_273 : decode cL_law 273 = .ok (.iaload, 1) := by decide +kernel
theorem dL_law_274 : decode cL_law 274 = .ok (.aload_n 0, 1) := by decide +kernel
theorem dL_law_275 : decode cL_law 275 = .ok (.iload 4, 2) := by decide +kernel
theorem dL_law_277 : decode cL_law 277 = .ok (.iconst 2, 1) := by decide +kernel
theorem dL_law_278 : decode cL_law 278 = .ok (.iadd, 1) := by decide +kernel
theorem dL_law_279 : decode cL_law 279 = .ok (.iaload, 1) := by decide +kernel
theorem dL_law_280 : decode cL_law 280 = .ok (.aload_n 0, 1) := by decide +kernel
theorem dL_law_281 : decode cL_law 281 = .ok (.iload 4, 2) := by decide +kernel
theorem dL_law_283 : decode cL_law 283 = .ok (.iconst 3, 1) := by decide +kernel
theorem dL_law_284 : decode cL_law 284 = .ok (.iadd, 1) := by decide +kernel
theorem dL_law_285 : decode cL_law 285 = .ok (.iaload, 1) := by decide +kernel
theorem dL_law_286 : decode cL_law 286 = .ok (.aload_n 0, 1) := by decide +kernel
theorem dL_law_287 : decode cL_law 287 = .ok (.iload 4, 2) := by decide +kernel
theorem dL_law_289 : decode cL_law 289 = .ok (.iconst 4, 1) := by decide +kernel
theorem dL_law_290 : decode cL_law 290 = .ok (.iadd, 1) := by decide +kernel
theorem dL_law_291 : decode cL_law 291 = .ok (.iaload, 1) := by decide +kernel
theorem dL_law_292 : decode cL_law 292 = .ok (.invokevirtual 99, 3) := by decide +kernel
theorem dL_law_295 : decode cL_law 295 = .ok (.istore 6, 2) := by decide +kernel
theorem dL_law_297 : decode cL_law 297 = .ok (.aload_n 2, 1) := by decide +kernel
theorem dL_law_298 : decode cL_law 298 = .ok (.invokevirtual 93, 3) := by decide +kernel
theorem dL_law_301 : decode cL_law 301 = .ok (.iload 5, 2) := by decide +kernel
theorem dL_law_303 : decode cL_law 303 = .ok (.if_icmp .eq 5, 3) := by decide +kernel
theorem dL_law_306 : decode cL_law 306 = .ok (.iconst 0, 1) := by decide +kernel
theorem dL_law_307 : decode cL_law 307 = .ok (.ireturn, 1) := by decide +kernel
theorem dL_law_308 : decode cL_law 308 = .ok (.iload 5, 2) := by decide +kernel
theorem dL_law_310 : decode cL_law 310 = .ok (.ifCond .ne 15, 3) := by decide +kernel
theorem dL_law_313 : decode cL_law 313 = .ok (.aload_n 3, 1) := by decide +kernel
theorem dL_law_314 : decode cL_law 314 = .ok (.iconst 0, 1) := by decide +kernel
theorem dL_law_315 : decode cL_law 315 = .ok (.laload, 1) := by decide +kernel
theorem dL_law_316 : decode cL_law 316 = .ok (.iload 6, 2) := by decide +kernel
theorem dL_law_318 : decode cL_law 318 = .ok (.i2l, 1) := by decide +kernel
theorem dL_law_319 : decode cL_law 319 = .ok (.lcmp, 1) := by decide +kernel
theorem dL_law_320 : decode cL_law 320 = .ok (.ifCond .eq 5, 3) := by decide +kernel
theorem dL_law_323 : decode cL_law 323 = .ok (.iconst 0, 1) := by decide +kernel
theorem dL_law_324 : decode cL_law 324 = .ok (.ireturn, 1) := by decide +kernel
theorem dL_law_325 : decode cL_law 325 = .ok (.goto 1317, 3) := by decide +kernel
theorem dL_law_328 : decode cL_law 328 = .ok (.aload_n 1, 1) := by decide +kernel
theorem dL_law_329 : decode cL_law 329 = .ok (.aload_n 0, 1) := by decide +kernel
theorem dL_law_330 : decode cL_law 330 = .ok (.iload 4, 2) := by decide +kernel
theorem dL_law_332 : decode cL_law 332 = .ok (.iconst 1, 1) := by decide +kernel
theorem dL_law_333 : decode cL_law 333 = .ok (.iadd, 1) := by decide +kernel
theorem dL_law_334 : decode cL_law 334 = .ok (.iaload, 1) := by decide +kernel
theorem dL_law_335 : decode cL_law 335 = .ok (.aload_n 0, 1) := by decide +kernel
theorem dL_law_336 : decode cL_law 336 = .ok (.iload 4, 2) := by decide +kernel
theorem dL_law_338 : decode cL_law 338 = .ok (.iconst 2, 1) := by decide +kernel
theorem dL_law_339 : decode cL_law 339 = .ok (.iadd, 1) := by decide +kernel
theorem dL_law_340 : decode cL_law 340 = .ok (.iaload, 1) := by decide +kernel
theorem dL_law_341 : decode cL_law 341 = .ok (.aload_n 3, 1) := by decide +kernel
theorem dL_law_342 : decode cL_law 342 = .ok (.invokestatic 100, 3) := by decide +kernel
theorem dL_law_345 : decode cL_law 345 = .ok (.istore 5, 2) := by decide +kernel
theorem dL_law_347 : decode cL_law 347 = .ok (.aload_n 2, 1) := by decide +kernel
theorem dL_law_348 : decode cL_law 348 = .ok (.aload_n 0, 1) := by decide +kernel
theorem dL_law_349 : decode cL_law 349 = .ok (.iload 4, 2) := by decide +kernel
theorem dL_law_351 : decode cL_law 351 = .ok (.iconst 1, 1) := by decide +kernel
theorem dL_law_352 : decode cL_law 352 = .ok (.iadd, 1) := by decide +kernel
theorem dL_law_353 : decode cL_law 353 = .ok (.iaload, 1) := by decide +kernel
theorem dL_law_354 : decode cL_law 354 = .ok (.aload_n 0, 1) := by decide +kernel
theorem dL_law_355 : decode cL_law 355 = .ok (.iload 4, 2) := by decide +kernel
theorem dL_law_357 : decode cL_law 357 = .ok (.iconst 2, 1) := by decide +kernel
theorem dL_law_358 : decode cL_law 358 = .ok (.iadd, 1) := by decide +kernel
theorem dL_law_359 : decode cL_law 359 = .ok (.iaload, 1) := by decide +kernel
theorem dL_law_360 : decode cL_law 360 = .ok (.invokevirtual 103, 3) := by decide +kernel
theorem dL_law_363 : decode cL_law 363 = .ok (.istore 6, 2) := by decide +kernel
theorem dL_law_365 : decode cL_law 365 = .ok (.aload_n 2, 1) := by decide +kernel
theorem dL_law_366 : decode cL_law 366 = .ok (.invokevirtual 93, 3) := by decide +kernel
theorem dL_law_369 : decode cL_law 369 = .ok (.iload 5, 2) := by decide +kernel
theorem dL_law_371 : decode cL_law 371 = .ok (.if_icmp .eq 5, 3) := by decide +kernel
theorem dL_law_374 : decode cL_law 374 = .ok (.iconst 0, 1) := by decide +kernel
theorem dL_law_375 : decode cL_law 375 = .ok (.ireturn, 1) := by decide +kernel
theorem dL_law_376 : decode cL_law 376 = .ok (.iload 5, 2) := by decide +kernel
theorem dL_law_378 : decode cL_law 378 = .ok (.ifCond .ne 15, 3) := by decide +kernel
theorem dL_law_381 : decode cL_law 381 = .ok (.aload_n 3, 1) := by decide +kernel
theorem dL_law_382 : decode cL_law 382 = .ok (.iconst 0, 1) := by decide +kernel
theorem dL_law_383 : decode cL_law 383 = .ok (.laload, 1) := by decide +kernel
theorem dL_law_384 : decode cL_law 384 = .ok (.iload 6, 2) := by decide +kernel
theorem dL_law_386 : decode cL_law 386 = .ok (.i2l, 1) := by decide +kernel
theorem dL_law_387 : decode cL_law 387 = .ok (.lcmp, 1) := by decide +kernel
theorem dL_law_388 : decode cL_law 388 = .ok (.ifCond .eq 5, 3) := by decide +kernel
theorem dL_law_391 : decode cL_law 391 = .ok (.iconst 0, 1) := by decide +kernel
theorem dL_law_392 : decode cL_law 392 = .ok (.ireturn, 1) := by decide +kernel
theorem dL_law_393 : decode cL_law 393 = .ok (.goto 1249, 3) := by decide +kernel
theorem dL_law_396 : decode cL_law 396 = .ok (.aload_n 1, 1) := by decide +kernel
theorem dL_law_397 : decode cL_law 397 = .ok (.aload_n 0, 1) := by decide +kernel
theorem dL_law_398 : decode cL_law 398 = .ok (.iload 4, 2) := by decide +kernel
theorem dL_law_400 : decode cL_law 400 = .ok (.iconst 1, 1) := by decide +kernel
theorem dL_law_401 : decode cL_law 401 = .ok (.iadd, 1) := by decide +kernel
theorem dL_law_402 : decode cL_law 402 = .ok (.iaload, 1) := by decide +kernel
theorem dL_law_403 : decode cL_law 403 = .ok (.aload_n 0, 1) := by decide +kernel
theorem dL_law_404 : decode cL_law 404 = .ok (.iload 4, 2) := by decide +kernel
theorem dL_law_406 : decode cL_law 406 = .ok (.iconst 2, 1) := by decide +kernel
theorem dL_law_407 : decode cL_law 407 = .ok (.iadd, 1) := by decide +kernel
theorem dL_law_408 : decode cL_law 408 = .ok (.iaload, 1) := by decide +kernel
theorem dL_law_409 : decode cL_law 409 = .ok (.aload_n 3, 1) := by decide +kernel
theorem dL_law_410 : decode cL_law 410 = .ok (.invokestatic 104, 3) := by decide +kernel
theorem dL_law_413 : decode cL_law 413 = .ok (.istore 5, 2) := by decide +kernel
theorem dL_law_415 : decode cL_law 415 = .ok (.aload_n 2, 1) := by decide +kernel
theorem dL_law_416 : decode cL_law 416 = .ok (.aload_n 0, 1) := by decide +kernel
theorem dL_law_417 : decode cL_law 417 = .ok (.iload 4, 2) := by decide +kernel
theorem dL_law_419 : decode cL_law 419 = .ok (.iconst 1, 1) := by decide +kernel
theorem dL_law_420 : decode cL_law 420 = .ok (.iadd, 1) := by decide +kernel
theorem dL_law_421 : decode cL_law 421 = .ok (.iaload, 1) := by decide +kernel
theorem dL_law_422 : decode cL_law 422 = .ok (.aload_n 0, 1) := by decide +kernel
theorem dL_law_423 : decode cL_law 423 = .ok (.iload 4, 2) := by decide +kernel
theorem dL_law_425 : decode cL_law 425 = .ok (.iconst 2, 1) := by decide +kernel
theorem dL_law_426 : decode cL_law 426 = .ok (.iadd, 1) := by decide +kernel
theorem dL_law_427 : decode cL_law 427 = .ok (.iaload, 1) := by decide +kernel
theorem dL_law_428 : decode cL_law 428 = .ok (.invokevirtual 106, 3) := by decide +kernel
theorem dL_law_431 : decode cL_law 431 = .ok (.istore 6, 2) := by decide +kernel
theorem dL_law_433 : decode cL_law 433 = .ok (.aload_n 2, 1) := by decide +kernel
theorem dL_law_434 : decode cL_law 434 = .ok (.invokevirtual 93, 3) := by decide +kernel
theorem dL_law_437 : decode cL_law 437 = .ok (.iload 5, 2) := by decide +kernel
theorem dL_law_439 : decode cL_law 439 = .ok (.if_icmp .eq 5, 3) := by decide +kernel
theorem dL_law_442 : decode cL_law 442 = .ok (.iconst 0, 1) := by decide +kernel
theorem dL_law_443 : decode cL_law 443 = .ok (.ireturn, 1) := by decide +kernel
theorem dL_law_444 : decode cL_law 444 = .ok (.iload 5, 2) := by decide +kernel
theorem dL_law_446 : decode cL_law 446 = .ok (.ifCond .ne 15, 3) := by decide +kernel
theorem dL_law_449 : decode cL_law 449 = .ok (.aload_n 3, 1) := by decide +kernel
theorem dL_law_450 : decode cL_law 450 = .ok (.iconst 0, 1) := by decide +kernel
theorem dL_law_451 : decode cL_law 451 = .ok (.laload, 1) := by decide +kernel
theorem dL_law_452 : decode cL_law 452 = .ok (.iload 6, 2) := by decide +kernel
theorem dL_law_454 : decode cL_law 454 = .ok (.i2l, 1) := by decide +kernel
theorem dL_law_455 : decode cL_law 455 = .ok (.lcmp, 1) := by decide +kernel
theorem dL_law_456 : decode cL_law 456 = .ok (.ifCond .eq 5, 3) := by decide +kernel
theorem dL_law_459 : decode cL_law 459 = .ok (.iconst 0, 1) := by decide +kernel
theorem dL_law_460 : decode cL_law 460 = .ok (.ireturn, 1) := by decide +kernel
theorem dL_law_461 : decode cL_law 461 = .ok (.goto 1181, 3) := by decide +kernel
theorem dL_law_464 : decode cL_law 464 = .ok (.aload_n 1, 1) := by decide +kernel
theorem dL_law_465 : decode cL_law 465 = .ok (.aload_n 0, 1) := by decide +kernel
theorem dL_law_466 : decode cL_law 466 = .ok (.iload 4, 2) := by decide +kernel
theorem dL_law_468 : decode cL_law 468 = .ok (.iconst 1, 1) := by decide +kernel
theorem dL_law_469 : decode cL_law 469 = .ok (.iadd, 1) := by decide +kernel
theorem dL_law_470 : decode cL_law 470 = .ok (.iaload, 1) := by decide +kernel
theorem dL_law_471 : decode cL_law 471 = .ok (.aload_n 0, 1) := by decide +kernel
theorem dL_law_472 : decode cL_law 472 = .ok (.iload 4, 2) := by decide +kernel
theorem dL_law_474 : decode cL_law 474 = .ok (.iconst 2, 1) := by decide +kernel
theorem dL_law_475 : decode cL_law 475 = .ok (.iadd, 1) := by decide +kernel
theorem dL_law_476 : decode cL_law 476 = .ok (.iaload, 1) := by decide +kernel
theorem dL_law_477 : decode cL_law 477 = .ok (.aload_n 0, 1) := by decide +kernel
theorem dL_law_478 : decode cL_law 478 = .ok (.iload 4, 2) := by decide +kernel
theorem dL_law_480 : decode cL_law 480 = .ok (.iconst 3, 1) := by decide +kernel
theorem dL_law_481 : decode cL_law 481 = .ok (.iadd, 1) := by decide +kernel
theorem dL_law_482 : decode cL_law 482 = .ok (.iaload, 1) := by decide +kernel
theorem dL_law_483 : decode cL_law 483 = .ok (.aload_n 0, 1) := by decide +kernel
theorem dL_law_484 : decode cL_law 484 = .ok (.iload 4, 2) := by decide +kernel
theorem dL_law_486 : decode cL_law 486 = .ok (.iconst 4, 1) := by decide +kernel
theorem dL_law_487 : decode cL_law 487 = .ok (.iadd, 1) := by decide +kernel
theorem dL_law_488 : decode cL_law 488 = .ok (.iaload, 1) := by decide +kernel
theorem dL_law_489 : decode cL_law 489 = .ok (.aload_n 3, 1) := by decide +kernel
theorem dL_law_490 : decode cL_law 490 = .ok (.invokestatic 107, 3) := by decide +kernel
theorem dL_law_493 : decode cL_law 493 = .ok (.istore 5, 2) := by decide +kernel
theorem dL_law_495 : decode cL_law 495 = .ok (.aload_n 2, 1) := by decide +kernel
theorem dL_law_496 : decode cL_law 496 = .ok (.aload_n 0, 1) := by decide +kernel
theorem dL_law_497 : decode cL_law 497 = .ok (.iload 4, 2) := by decide +kernel
theorem dL_law_499 : decode cL_law 499 = .ok (.iconst 1, 1) := by decide +kernel
theorem dL_law_500 : decode cL_law 500 = .ok (.iadd, 1) := by decide +kernel
theorem dL_law_501 : decode cL_law 501 = .ok (.iaload, 1) := by decide +kernel
theorem dL_law_502 : decode cL_law 502 = .ok (.aload_n 0, 1) := by decide +kernel
theorem dL_law_503 : decode cL_law 503 = .ok (.iload 4, 2) := by decide +kernel
theorem dL_law_505 : decode cL_law 505 = .ok (.iconst 2, 1) := by decide +kernel
theorem dL_law_506 : decode cL_law 506 = .ok (.iadd, 1) := by decide +kernel
theorem dL_law_507 : decode cL_law 507 = .ok (.iaload, 1) := by decide +kernel
theorem dL_law_508 : decode cL_law 508 = .ok (.aload_n 0, 1) := by decide +kernel
theorem dL_law_509 : decode cL_law 509 = .ok (.iload 4, 2) := by decide +kernel
theorem dL_law_511 : decode cL_law 511 = .ok (.iconst 3, 1) := by decide +kernel
theorem dL_law_512 : decode cL_law 512 = .ok (.iadd, 1) := by decide +kernel
theorem dL_law_513 : decode cL_law 513 = .ok (.iaload, 1) := by decide +kernel
theorem dL_law_514 : decode cL_law 514 = .ok (.aload_n 0, 1) := by decide +kernel
theorem dL_law_515 : decode cL_law 515 = .ok (.iload 4, 2) := by decide +kernel
theorem dL_law_517 : decode cL_law 517 = .ok (.iconst 4, 1) := by decide +kernel
theorem dL_law_518 : decode cL_law 518 = .ok (.iadd, 1) := by decide +kernel
theorem dL_law_519 : decode cL_law 519 = .ok (.iaload, 1) := by decide +kernel
theorem dL_law_520 : decode cL_law 520 = .ok (.invokevirtual 109, 3) := by decide +kernel
theorem dL_law_523 : decode cL_law 523 = .ok (.istore 6, 2) := by decide +kernel
theorem dL_law_525 : decode cL_law 525 = .ok (.aload_n 2, 1) := by decide +kernel
theorem dL_law_526 : decode cL_law 526 = .ok (.invokevirtual 93, 3) := by decide +kernel
theorem dL_law_529 : decode cL_law 529 = .ok (.iload 5, 2) := by decide +kernel
theorem dL_law_531 : decode cL_law 531 = .ok (.if_icmp .eq 5, 3) := by decide +kernel
theorem dL_law_534 : decode cL_law 534 = .ok (.iconst 0, 1) := by decide +kernel
theorem dL_law_535 : decode cL_law 535 = .ok (.ireturn, 1) := by decide +kernel
theorem dL_law_536 : decode cL_law 536 = .ok (.iload 5, 2) := by decide +kernel
theorem dL_law_538 : decode cL_law 538 = .ok (.ifCond .ne 15, 3) := by decide +kernel
theorem dL_law_541 : decode cL_law 541 = .ok (.aload_n 3, 1) := by decide +kernel
theorem dL_law_542 : decode cL_law 542 = .ok (.iconst 0, 1) := by decide +kernel
theorem dL_law_543 : decode cL_law 543 = .ok (.laload, 1) := by decide +kernel
theorem dL_law_544 : decode cL_law 544 = .ok (.iload 6, 2) := by decide +kernel
theorem dL_law_546 : decode cL_law 546 = .ok (.i2l, 1) := by decide +kernel
theorem dL_law_547 : decode cL_law 547 = .ok (.lcmp, 1) := by decide +kernel
theorem dL_law_548 : decode cL_law 548 = .ok (.ifCond .eq 5, 3) := by decide +kernel
theorem dL_law_551 : decode cL_law 551 = .ok (.iconst 0, 1) := by decide +kernel
theorem dL_law_552 : decode cL_law 552 = .ok (.ireturn, 1) := by decide +kernel
theorem dL_law_553 : decode cL_law 553 = .ok (.goto 1089, 3) := by decide +kernel
theorem dL_law_556 : decode cL_law 556 = .ok (.aload_n 1, 1) := by decide +kernel
theorem dL_law_557 : decode cL_law 557 = .ok (.aload_n 0, 1) := by decide +kernel
theorem dL_law_558 : decode cL_law 558 = .ok (.iload 4, 2) := by decide +kernel
theorem dL_law_560 : decode cL_law 560 = .ok (.iconst 1, 1) := by decide +kernel
theorem dL_law_561 : decode cL_law 561 = .ok (.iadd, 1) := by decide +kernel
theorem dL_law_562 : decode cL_law 562 = .ok (.iaload, 1) := by decide +kernel
theorem dL_law_563 : decode cL_law 563 = .ok (.aload_n 3, 1) := by decide +kernel
theorem dL_law_564 : decode cL_law 564 = .ok (.invokestatic 110, 3) := by decide +kernel
theorem dL_law_567 : decode cL_law 567 = .ok (.istore 5, 2) := by decide +kernel
theorem dL_law_569 : decode cL_law 569 = .ok (.aload_n 2, 1) := by decide +kernel
theorem dL_law_570 : decode cL_law 570 = .ok (.aload_n 0, 1) := by decide +kernel
theorem dL_law_571 : decode cL_law 571 = .ok (.iload 4, 2) := by decide +kernel
theorem dL_law_573 : decode cL_law 573 = .ok (.iconst 1, 1) := by decide +kernel
theorem dL_law_574 : decode cL_law 574 = .ok (.iadd, 1) := by decide +kernel
theorem dL_law_575 : decode cL_law 575 = .ok (.iaload, 1) := by decide +kernel
theorem dL_law_576 : decode cL_law 576 = .ok (.invokevirtual 113, 3) := by decide +kernel
theorem dL_law_579 : decode cL_law 579 = .ok (.istore 6, 2) := by decide +kernel
theorem dL_law_581 : decode cL_law 581 = .ok (.aload_n 2, 1) := by decide +kernel
theorem dL_law_582 : decode cL_law 582 = .ok (.invokevirtual 93, 3) := by decide +kernel
theorem dL_law_585 : decode cL_law 585 = .ok (.iload 5, 2) := by decide +kernel
theorem dL_law_587 : decode cL_law 587 = .ok (.if_icmp .eq 5, 3) := by decide +kernel
theorem dL_law_590 : decode cL_law 590 = .ok (.iconst 0, 1) := by decide +kernel
theorem dL_law_591 : decode cL_law 591 = .ok (.ireturn, 1) := by decide +kernel
theorem dL_law_592 : decode cL_law 592 = .ok (.iload 5, 2) := by decide +kernel
theorem dL_law_594 : decode cL_law 594 = .ok (.ifCond .ne 15, 3) := by decide +kernel
theorem dL_law_597 : decode cL_law 597 = .ok (.aload_n 3, 1) := by decide +kernel
theorem dL_law_598 : decode cL_law 598 = .ok (.iconst 0, 1) := by decide +kernel
theorem dL_law_599 : decode cL_law 599 = .ok (.laload, 1) := by decide +kernel
theorem dL_law_600 : decode cL_law 600 = .ok (.iload 6, 2) := by decide +kernel
theorem dL_law_602 : decode cL_law 602 = .ok (.i2l, 1) := by decide +kernel
theorem dL_law_603 : decode cL_law 603 = .ok (.lcmp, 1) := by decide +kernel
theorem dL_law_604 : decode cL_law 604 = .ok (.ifCond .eq 5, 3) := by decide +kernel
theorem dL_law_607 : decode cL_law 607 = .ok (.iconst 0, 1) := by decide +kernel
theorem dL_law_608 : decode cL_law 608 = .ok (.ireturn, 1) := by decide +kernel
theorem dL_law_609 : decode cL_law 609 = .ok (.goto 1033, 3) := by decide +kernel
theorem dL_law_612 : decode cL_law 612 = .ok (.aload_n 1, 1) := by decide +kernel
theorem dL_law_613 : decode cL_law 613 = .ok (.aload_n 0, 1) := by decide +kernel
theorem dL_law_614 : decode cL_law 614 = .ok (.iload 4, 2) := by decide +kernel
theorem dL_law_616 : decode cL_law 616 = .ok (.iconst 1, 1) := by decide +kernel
theorem dL_law_617 : decode cL_law 617 = .ok (.iadd, 1) := by decide +kernel
theorem dL_law_618 : decode cL_law 618 = .ok (.iaload, 1) := by decide +kernel
theorem dL_law_619 : decode cL_law 619 = .ok (.aload_n 0, 1) := by decide +kernel
theorem dL_law_620 : decode cL_law 620 = .ok (.iload 4, 2) := by decide +kernel
theorem dL_law_622 : decode cL_law 622 = .ok (.iconst 2, 1) := by decide +kernel
theorem dL_law_623 : decode cL_law 623 = .ok (.iadd, 1) := by decide +kernel
theorem dL_law_624 : decode cL_law 624 = .ok (.iaload, 1) := by decide +kernel
theorem dL_law_625 : decode cL_law 625 = .ok (.aload_n 0, 1) := by decide +kernel
theorem dL_law_626 : decode cL_law 626 = .ok (.iload 4, 2) := by decide +kernel
theorem dL_law_628 : decode cL_law 628 = .ok (.iconst 3, 1) := by decide +kernel
theorem dL_law_629 : decode cL_law 629 = .ok (.iadd, 1) := by decide +kernel
theorem dL_law_630 : decode cL_law 630 = .ok (.iaload, 1) := by decide +kernel
theorem dL_law_631 : decode cL_law 631 = .ok (.aload_n 3, 1) := by decide +kernel
theorem dL_law_632 : decode cL_law 632 = .ok (.invokestatic 114, 3) := by decide +kernel
theorem dL_law_635 : decode cL_law 635 = .ok (.istore 5, 2) := by decide +kernel
theorem dL_law_637 : decode cL_law 637 = .ok (.aload_n 2, 1) := by decide +kernel
theorem dL_law_638 : decode cL_law 638 = .ok (.aload_n 0, 1) := by decide +kernel
theorem dL_law_639 : decode cL_law 639 = .ok (.iload 4, 2) := by decide +kernel
theorem dL_law_641 : decode cL_law 641 = .ok (.iconst 1, 1) := by decide +kernel
theorem dL_law_642 : decode cL_law 642 = .ok (.iadd, 1) := by decide +kernel
theorem dL_law_643 : decode cL_law 643 = .ok (.iaload, 1) := by decide +kernel
theorem dL_law_644 : decode cL_law 644 = .ok (.aload_n 0, 1) := by decide +kernel
theorem dL_law_645 : decode cL_law 645 = .ok (.iload 4, 2) := by decide +kernel
theorem dL_law_647 : decode cL_law 647 = .ok (.iconst 2, 1) := by decide +kernel
theorem dL_law_648 : decode cL_law 648 = .ok (.iadd, 1) := by decide +kernel
theorem dL_law_649 : decode cL_law 649 = .ok (.iaload, 1) := by decide +kernel
theorem dL_law_650 : decode cL_law 650 = .ok (.aload_n 0, 1) := by decide +kernel
theorem dL_law_651 : decode cL_law 651 = .ok (.iload 4, 2) := by decide +kernel
theorem dL_law_653 : decode cL_law 653 = .ok (.iconst 3, 1) := by decide +kernel
theorem dL_law_654 : decode cL_law 654 = .ok (.iadd, 1) := by decide +kernel
theorem dL_law_655 : decode cL_law 655 = .ok (.iaload, 1) := by decide +kernel
theorem dL_law_656 : decode cL_law 656 = .ok (.invokevirtual 116, 3) := by decide +kernel
theorem dL_law_659 : decode cL_law 659 = .ok (.istore 6, 2) := by decide +kernel
theorem dL_law_661 : decode cL_law 661 = .ok (.aload_n 2, 1) := by decide +kernel
theorem dL_law_662 : decode cL_law 662 = .ok (.invokevirtual 93, 3) := by decide +kernel
theorem dL_law_665 : decode cL_law 665 = .ok (.iload 5, 2) := by decide +kernel
theorem dL_law_667 : decode cL_law 667 = .ok (.if_icmp .eq 5, 3) := by decide +kernel
theorem dL_law_670 : decode cL_law 670 = .ok (.iconst 0, 1) := by decide +kernel
theorem dL_law_671 : decode cL_law 671 = .ok (.ireturn, 1) := by decide +kernel
theorem dL_law_672 : decode cL_law 672 = .ok (.iload 5, 2) := by decide +kernel
theorem dL_law_674 : decode cL_law 674 = .ok (.ifCond .ne 15, 3) := by decide +kernel
theorem dL_law_677 : decode cL_law 677 = .ok (.aload_n 3, 1) := by decide +kernel
theorem dL_law_678 : decode cL_law 678 = .ok (.iconst 0, 1) := by decide +kernel
theorem dL_law_679 : decode cL_law 679 = .ok (.laload, 1) := by decide +kernel
theorem dL_law_680 : decode cL_law 680 = .ok (.iload 6, 2) := by decide +kernel
theorem dL_law_682 : decode cL_law 682 = .ok (.i2l, 1) := by decide +kernel
theorem dL_law_683 : decode cL_law 683 = .ok (.lcmp, 1) := by decide +kernel
theorem dL_law_684 : decode cL_law 684 = .ok (.ifCond .eq 5, 3) := by decide +kernel
theorem dL_law_687 : decode cL_law 687 = .ok (.iconst 0, 1) := by decide +kernel
theorem dL_law_688 : decode cL_law 688 = .ok (.ireturn, 1) := by decide +kernel
theorem dL_law_689 : decode cL_law 689 = .ok (.goto 953, 3) := by decide +kernel
theorem dL_law_692 : decode cL_law 692 = .ok (.aload_n 1, 1) := by decide +kernel
theorem dL_law_693 : decode cL_law 693 = .ok (.aload_n 0, 1) := by decide +kernel
theorem dL_law_694 : decode cL_law 694 = .ok (.iload 4, 2) := by decide +kernel
theorem dL_law_696 : decode cL_law 696 = .ok (.iconst 1, 1) := by decide +kernel
theorem dL_law_697 : decode cL_law 697 = .ok (.iadd, 1) := by decide +kernel
theorem dL_law_698 : decode cL_law 698 = .ok (.iaload, 1) := by decide +kernel
theorem dL_law_699 : decode cL_law 699 = .ok (.aload_n 3, 1) := by decide +kernel
theorem dL_law_700 : decode cL_law 700 = .ok (.invokestatic 117, 3) := by decide +kernel
theorem dL_law_703 : decode cL_law 703 = .ok (.istore 5, 2) := by decide +kernel
theorem dL_law_705 : decode cL_law 705 = .ok (.aload_n 2, 1) := by decide +kernel
theorem dL_law_706 : decode cL_law 706 = .ok (.aload_n 0, 1) := by decide +kernel
theorem dL_law_707 : decode cL_law 707 = .ok (.iload 4, 2) := by decide +kernel
theorem dL_law_709 : decode cL_law 709 = .ok (.iconst 1, 1) := by decide +kernel
theorem dL_law_710 : decode cL_law 710 = .ok (.iadd, 1) := by decide +kernel
theorem dL_law_711 : decode cL_law 711 = .ok (.iaload, 1) := by decide +kernel
theorem dL_law_712 : decode cL_law 712 = .ok (.invokevirtual 119, 3) := by decide +kernel
theorem dL_law_715 : decode cL_law 715 = .ok (.istore 6, 2) := by decide +kernel
theorem dL_law_717 : decode cL_law 717 = .ok (.aload_n 2, 1) := by decide +kernel
theorem dL_law_718 : decode cL_law 718 = .ok (.invokevirtual 93, 3) := by decide +kernel
theorem dL_law_721 : decode cL_law 721 = .ok (.iload 5, 2) := by decide +kernel
theorem dL_law_723 : decode cL_law 723 = .ok (.if_icmp .eq 5, 3) := by decide +kernel
theorem dL_law_726 : decode cL_law 726 = .ok (.iconst 0, 1) := by decide +kernel
theorem dL_law_727 : decode cL_law 727 = .ok (.ireturn, 1) := by decide +kernel
theorem dL_law_728 : decode cL_law 728 = .ok (.iload 5, 2) := by decide +kernel
theorem dL_law_730 : decode cL_law 730 = .ok (.ifCond .ne 15, 3) := by decide +kernel
theorem dL_law_733 : decode cL_law 733 = .ok (.aload_n 3, 1) := by decide +kernel
theorem dL_law_734 : decode cL_law 734 = .ok (.iconst 0, 1) := by decide +kernel
theorem dL_law_735 : decode cL_law 735 = .ok (.laload, 1) := by decide +kernel
theorem dL_law_736 : decode cL_law 736 = .ok (.iload 6, 2) := by decide +kernel
theorem dL_law_738 : decode cL_law 738 = .ok (.i2l, 1) := by decide +kernel
theorem dL_law_739 : decode cL_law 739 = .ok (.lcmp, 1) := by decide +kernel
theorem dL_law_740 : decode cL_law 740 = .ok (.ifCond .eq 5, 3) := by decide +kernel
theorem dL_law_743 : decode cL_law 743 = .ok (.iconst 0, 1) := by decide +kernel
theorem dL_law_744 : decode cL_law 744 = .ok (.ireturn, 1) := by decide +kernel
theorem dL_law_745 : decode cL_law 745 = .ok (.goto 897, 3) := by decide +kernel
theorem dL_law_748 : decode cL_law 748 = .ok (.aload_n 1, 1) := by decide +kernel
theorem dL_law_749 : decode cL_law 749 = .ok (.aload_n 0, 1) := by decide +kernel
theorem dL_law_750 : decode cL_law 750 = .ok (.iload 4, 2) := by decide +kernel
theorem dL_law_752 : decode cL_law 752 = .ok (.iconst 1, 1) := by decide +kernel
theorem dL_law_753 : decode cL_law 753 = .ok (.iadd, 1) := by decide +kernel
theorem dL_law_754 : decode cL_law 754 = .ok (.iaload, 1) := by decide +kernel
theorem dL_law_755 : decode cL_law 755 = .ok (.aload_n 3, 1) := by decide +kernel
theorem dL_law_756 : decode cL_law 756 = .ok (.invokestatic 120, 3) := by decide +kernel
theorem dL_law_759 : decode cL_law 759 = .ok (.istore 5, 2) := by decide +kernel
theorem dL_law_761 : decode cL_law 761 = .ok (.aload_n 2, 1) := by decide +kernel
theorem dL_law_762 : decode cL_law 762 = .ok (.aload_n 0, 1) := by decide +kernel
theorem dL_law_763 : decode cL_law 763 = .ok (.iload 4, 2) := by decide +kernel
theorem dL_law_765 : decode cL_law 765 = .ok (.iconst 1, 1) := by decide +kernel
theorem dL_law_766 : decode cL_law 766 = .ok (.iadd, 1) := by decide +kernel
theorem dL_law_767 : decode cL_law 767 = .ok (.iaload, 1) := by decide +kernel
theorem dL_law_768 : decode cL_law 768 = .ok (.invokevirtual 122, 3) := by decide +kernel
theorem dL_law_771 : decode cL_law 771 = .ok (.istore 6, 2) := by decide +kernel
theorem dL_law_773 : decode cL_law 773 = .ok (.aload_n 2, 1) := by decide +kernel
theorem dL_law_774 : decode cL_law 774 = .ok (.invokevirtual 93, 3) := by decide +kernel
theorem dL_law_777 : decode cL_law 777 = .ok (.iload 5, 2) := by decide +kernel
theorem dL_law_779 : decode cL_law 779 = .ok (.if_icmp .eq 5, 3) := by decide +kernel
theorem dL_law_782 : decode cL_law 782 = .ok (.iconst 0, 1) := by decide +kernel
theorem dL_law_783 : decode cL_law 783 = .ok (.ireturn, 1) := by decide +kernel
theorem dL_law_784 : decode cL_law 784 = .ok (.iload 5, 2) := by decide +kernel
theorem dL_law_786 : decode cL_law 786 = .ok (.ifCond .ne 15, 3) := by decide +kernel
theorem dL_law_789 : decode cL_law 789 = .ok (.aload_n 3, 1) := by decide +kernel
theorem dL_law_790 : decode cL_law 790 = .ok (.iconst 0, 1) := by decide +kernel
theorem dL_law_791 : decode cL_law 791 = .ok (.laload, 1) := by decide +kernel
theorem dL_law_792 : decode cL_law 792 = .ok (.iload 6, 2) := by decide +kernel
theorem dL_law_794 : decode cL_law 794 = .ok (.i2l, 1) := by decide +kernel
theorem dL_law_795 : decode cL_law 795 = .ok (.lcmp, 1) := by decide +kernel
theorem dL_law_796 : decode cL_law 796 = .ok (.ifCond .eq 5, 3) := by decide +kernel
theorem dL_law_799 : decode cL_law 799 = .ok (.iconst 0, 1) := by decide +kernel
theorem dL_law_800 : decode cL_law 800 = .ok (.ireturn, 1) := by decide +kernel
theorem dL_law_801 : decode cL_law 801 = .ok (.goto 841, 3) := by decide +kernel
theorem dL_law_804 : decode cL_law 804 = .ok (.aload_n 1, 1) := by decide +kernel
theorem dL_law_805 : decode cL_law 805 = .ok (.aload_n 0, 1) := by decide +kernel
theorem dL_law_806 : decode cL_law 806 = .ok (.iload 4, 2) := by decide +kernel
theorem dL_law_808 : decode cL_law 808 = .ok (.iconst 1, 1) := by decide +kernel
theorem dL_law_809 : decode cL_law 809 = .ok (.iadd, 1) := by decide +kernel
theorem dL_law_810 : decode cL_law 810 = .ok (.iaload, 1) := by decide +kernel
theorem dL_law_811 : decode cL_law 811 = .ok (.aload_n 3, 1) := by decide +kernel
theorem dL_law_812 : decode cL_law 812 = .ok (.invokestatic 123, 3) := by decide +kernel
theorem dL_law_815 : decode cL_law 815 = .ok (.istore 5, 2) := by decide +kernel
theorem dL_law_817 : decode cL_law 817 = .ok (.aload_n 2, 1) := by decide +kernel
theorem dL_law_818 : decode cL_law 818 = .ok (.aload_n 0, 1) := by decide +kernel
theorem dL_law_819 : decode cL_law 819 = .ok (.iload 4, 2) := by decide +kernel
theorem dL_law_821 : decode cL_law 821 = .ok (.iconst 1, 1) := by decide +kernel
theorem dL_law_822 : decode cL_law 822 = .ok (.iadd, 1) := by decide +kernel
theorem dL_law_823 : decode cL_law 823 = .ok (.iaload, 1) := by decide +kernel
theorem dL_law_824 : decode cL_law 824 = .ok (.invokevirtual 125, 3) := by decide +kernel
theorem dL_law_827 : decode cL_law 827 = .ok (.istore 6, 2) := by decide +kernel
theorem dL_law_829 : decode cL_law 829 = .ok (.aload_n 2, 1) := by decide +kernel
theorem dL_law_830 : decode cL_law 830 = .ok (.invokevirtual 93, 3) := by decide +kernel
theorem dL_law_833 : decode cL_law 833 = .ok (.iload 5, 2) := by decide +kernel
theorem dL_law_835 : decode cL_law 835 = .ok (.if_icmp .eq 5, 3) := by decide +kernel
theorem dL_law_838 : decode cL_law 838 = .ok (.iconst 0, 1) := by decide +kernel
theorem dL_law_839 : decode cL_law 839 = .ok (.ireturn, 1) := by decide +kernel
theorem dL_law_840 : decode cL_law 840 = .ok (.iload 5, 2) := by decide +kernel
theorem dL_law_842 : decode cL_law 842 = .ok (.ifCond .ne 15, 3) := by decide +kernel
theorem dL_law_845 : decode cL_law 845 = .ok (.aload_n 3, 1) := by decide +kernel
theorem dL_law_846 : decode cL_law 846 = .ok (.iconst 0, 1) := by decide +kernel
theorem dL_law_847 : decode cL_law 847 = .ok (.laload, 1) := by decide +kernel
theorem dL_law_848 : decode cL_law 848 = .ok (.iload 6, 2) := by decide +kernel
theorem dL_law_850 : decode cL_law 850 = .ok (.i2l, 1) := by decide +kernel
theorem dL_law_851 : decode cL_law 851 = .ok (.lcmp, 1) := by decide +kernel
theorem dL_law_852 : decode cL_law 852 = .ok (.ifCond .eq 5, 3) := by decide +kernel
theorem dL_law_855 : decode cL_law 855 = .ok (.iconst 0, 1) := by decide +kernel
theorem dL_law_856 : decode cL_law 856 = .ok (.ireturn, 1) := by decide +kernel
theorem dL_law_857 : decode cL_law 857 = .ok (.goto 785, 3) := by decide +kernel
theorem dL_law_860 : decode cL_law 860 = .ok (.aload_n 1, 1) := by decide +kernel
theorem dL_law_861 : decode cL_law 861 = .ok (.invokevirtual 126, 3) := by decide +kernel
theorem dL_law_864 : decode cL_law 864 = .ok (.aload_n 2, 1) := by decide +kernel
theorem dL_law_865 : decode cL_law 865 = .ok (.invokevirtual 129, 3) := by decide +kernel
theorem dL_law_868 : decode cL_law 868 = .ok (.if_icmp .eq 774, 3) := by decide +kernel
theorem dL_law_871 : decode cL_law 871 = .ok (.iconst 0, 1) := by decide +kernel
theorem dL_law_872 : decode cL_law 872 = .ok (.ireturn, 1) := by decide +kernel
theorem dL_law_873 : decode cL_law 873 = .ok (.aload_n 1, 1) := by decide +kernel
theorem dL_law_874 : decode cL_law 874 = .ok (.invokevirtual 130, 3) := by decide +kernel
theorem dL_law_877 : decode cL_law 877 = .ok (.aload_n 2, 1) := by decide +kernel
theorem dL_law_878 : decode cL_law 878 = .ok (.invokevirtual 133, 3) := by decide +kernel
theorem dL_law_881 : decode cL_law 881 = .ok (.if_icmp .eq 761, 3) := by decide +kernel
theorem dL_law_884 : decode cL_law 884 = .ok (.iconst 0, 1) := by decide +kernel
theorem dL_law_885 : decode cL_law 885 = .ok (.ireturn, 1) := by decide +kernel
theorem dL_law_886 : decode cL_law 886 = .ok (.aload_n 1, 1) := by decide +kernel
theorem dL_law_887 : decode cL_law 887 = .ok (.aload_n 3, 1) := by decide +kernel
theorem dL_law_888 : decode cL_law 888 = .ok (.invokestatic 134, 3) := by decide +kernel
theorem dL_law_891 : decode cL_law 891 = .ok (.istore 5, 2) := by decide +kernel
theorem dL_law_893 : decode cL_law 893 = .ok (.aload_n 2, 1) := by decide +kernel
theorem dL_law_894 : decode cL_law 894 = .ok (.invokevirtual 137, 3) := by decide +kernel
theorem dL_law_897 : decode cL_law 897 = .ok (.istore 6, 2) := by decide +kernel
theorem dL_law_899 : decode cL_law 899 = .ok (.aload_n 2, 1) := by decide +kernel
theorem dL_law_900 : decode cL_law 900 = .ok (.invokevirtual 93, 3) := by decide +kernel
theorem dL_law_903 : decode cL_law 903 = .ok (.iload 5, 2) := by decide +kernel
theorem dL_law_905 : decode cL_law 905 = .ok (.if_icmp .eq 5, 3) := by decide +kernel
theorem dL_law_908 : decode cL_law 908 = .ok (.iconst 0, 1) := by decide +kernel
theorem dL_law_909 : decode cL_law 909 = .ok (.ireturn, 1) := by decide +kernel
theorem dL_law_910 : decode cL_law 910 = .ok (.iload 5, 2) := by decide +kernel
theorem dL_law_912 : decode cL_law 912 = .ok (.ifCond .ne 15, 3) := by decide +kernel
theorem dL_law_915 : decode cL_law 915 = .ok (.aload_n 3, 1) := by decide +kernel
theorem dL_law_916 : decode cL_law 916 = .ok (.iconst 0, 1) := by decide +kernel
theorem dL_law_917 : decode cL_law 917 = .ok (.laload, 1) := by decide +kernel
theorem dL_law_918 : decode cL_law 918 = .ok (.iload 6, 2) := by decide +kernel
theorem dL_law_920 : decode cL_law 920 = .ok (.i2l, 1) := by decide +kernel
theorem dL_law_921 : decode cL_law 921 = .ok (.lcmp, 1) := by decide +kernel
theorem dL_law_922 : decode cL_law 922 = .ok (.ifCond .eq 5, 3) := by decide +kernel
theorem dL_law_925 : decode cL_law 925 = .ok (.iconst 0, 1) := by decide +kernel
theorem dL_law_926 : decode cL_law 926 = .ok (.ireturn, 1) := by decide +kernel
theorem dL_law_927 : decode cL_law 927 = .ok (.goto 715, 3) := by decide +kernel
theorem dL_law_930 : decode cL_law 930 = .ok (.aload_n 1, 1) := by decide +kernel
theorem dL_law_931 : decode cL_law 931 = .ok (.aload_n 3, 1) := by decide +kernel
theorem dL_law_932 : decode cL_law 932 = .ok (.invokestatic 138, 3) := by decide +kernel
theorem dL_law_935 : decode cL_law 935 = .ok (.istore 5, 2) := by decide +kernel
theorem dL_law_937 : decode cL_law 937 = .ok (.aload_n 2, 1) := by decide +kernel
theorem dL_law_938 : decode cL_law 938 = .ok (.invokevirtual 140, 3) := by decide +kernel
theorem dL_law_941 : decode cL_law 941 = .ok (.istore 6, 2) := by decide +kernel
theorem dL_law_943 : decode cL_law 943 = .ok (.aload_n 2, 1) := by decide +kernel
theorem dL_law_944 : decode cL_law 944 = .ok (.invokevirtual 93, 3) := by decide +kernel
theorem dL_law_947 : decode cL_law 947 = .ok (.iload 5, 2) := by decide +kernel
theorem dL_law_949 : decode cL_law 949 = .ok (.if_icmp .eq 5, 3) := by decide +kernel
theorem dL_law_952 : decode cL_law 952 = .ok (.iconst 0, 1) := by decide +kernel
theorem dL_law_953 : decode cL_law 953 = .ok (.ireturn, 1) := by decide +kernel
theorem dL_law_954 : decode cL_law 954 = .ok (.iload 5, 2) := by decide +kernel
theorem dL_law_956 : decode cL_law 956 = .ok (.ifCond .ne 15, 3) := by decide +kernel
theorem dL_law_959 : decode cL_law 959 = .ok (.aload_n 3, 1) := by decide +kernel
theorem dL_law_960 : decode cL_law 960 = .ok (.iconst 0, 1) := by decide +kernel
theorem dL_law_961 : decode cL_law 961 = .ok (.laload, 1) := by decide +kernel
theorem dL_law_962 : decode cL_law 962 = .ok (.iload 6, 2) := by decide +kernel
theorem dL_law_964 : decode cL_law 964 = .ok (.i2l, 1) := by decide +kernel
theorem dL_law_965 : decode cL_law 965 = .ok (.lcmp, 1) := by decide +kernel
theorem dL_law_966 : decode cL_law 966 = .ok (.ifCond .eq 5, 3) := by decide +kernel
theorem dL_law_969 : decode cL_law 969 = .ok (.iconst 0, 1) := by decide +kernel
theorem dL_law_970 : decode cL_law 970 = .ok (.ireturn, 1) := by decide +kernel
theorem dL_law_971 : decode cL_law 971 = .ok (.goto 671, 3) := by decide +kernel
theorem dL_law_974 : decode cL_law 974 = .ok (.aload_n 1, 1) := by decide +kernel
theorem dL_law_975 : decode cL_law 975 = .ok (.aload_n 0, 1) := by decide +kernel
theorem dL_law_976 : decode cL_law 976 = .ok (.iload 4, 2) := by decide +kernel
theorem dL_law_978 : decode cL_law 978 = .ok (.iconst 1, 1) := by decide +kernel
theorem dL_law_979 : decode cL_law 979 = .ok (.iadd, 1) := by decide +kernel
theorem dL_law_980 : decode cL_law 980 = .ok (.iaload, 1) := by decide +kernel
theorem dL_law_981 : decode cL_law 981 = .ok (.aload_n 0, 1) := by decide +kernel
theorem dL_law_982 : decode cL_law 982 = .ok (.iload 4, 2) := by decide +kernel
theorem dL_law_984 : decode cL_law 984 = .ok (.iconst 2, 1) := by decide +kernel
theorem dL_law_985 : decode cL_law 985 = .ok (.iadd, 1) := by decide +kernel
theorem dL_law_986 : decode cL_law 986 = .ok (.iaload, 1) := by decide +kernel
theorem dL_law_987 : decode cL_law 987 = .ok (.aload_n 3, 1) := by decide +kernel
theorem dL_law_988 : decode cL_law 988 = .ok (.invokestatic 141, 3) := by decide +kernel
theorem dL_law_991 : decode cL_law 991 = .ok (.istore 5, 2) := by decide +kernel
theorem dL_law_993 : decode cL_law 993 = .ok (.aload_n 2, 1) := by decide +kernel
theorem dL_law_994 : decode cL_law 994 = .ok (.aload_n 0, 1) := by decide +kernel
theorem dL_law_995 : decode cL_law 995 = .ok (.iload 4, 2) := by decide +kernel
theorem dL_law_997 : decode cL_law 997 = .ok (.iconst 1, 1) := by decide +kernel
theorem dL_law_998 : decode cL_law 998 = .ok (.iadd, 1) := by decide +kernel
theorem dL_law_999 : decode cL_law 999 = .ok (.iaload, 1) := by decide +kernel
theorem dL_law_1000 : decode cL_law 1000 = .ok (.aload_n 0, 1) := by decide +kernel
theorem dL_law_1001 : decode cL_law 1001 = .ok (.iload 4, 2) := by decide +kernel
theorem dL_law_1003 : decode cL_law 1003 = .ok (.iconst 2, 1) := by decide +kernel
theorem dL_law_1004 : decode cL_law 1004 = .ok (.iadd, 1) := by decide +kernel
theorem dL_law_1005 : decode cL_law 1005 = .ok (.iaload, 1) := by decide +kernel
theorem dL_law_1006 : decode cL_law 1006 = .ok (.invokevirtual 143, 3) := by decide +kernel
theorem dL_law_1009 : decode cL_law 1009 = .ok (.istore 6, 2) := by decide +kernel
theorem dL_law_1011 : decode cL_law 1011 = .ok (.aload_n 2, 1) := by decide +kernel
theorem dL_law_1012 : decode cL_law 1012 = .ok (.invokevirtual 93, 3) := by decide +kernel
theorem dL_law_1015 : decode cL_law 1015 = .ok (.iload 5, 2) := by decide +kernel
theorem dL_law_1017 : decode cL_law 1017 = .ok (.if_icmp .eq 5, 3) := by decide +kernel
theorem dL_law_1020 : decode cL_law 1020 = .ok (.iconst 0, 1) := by decide +kernel
theorem dL_law_1021 : decode cL_law 1021 = .ok (.ireturn, 1) := by decide +kernel
theorem dL_law_1022 : decode cL_law 1022 = .ok (.iload 5, 2) := by decide +kernel
theorem dL_law_1024 : decode cL_law 1024 = .ok (.ifCond .ne 15, 3) := by decide +kernel
theorem dL_law_1027 : decode cL_law 1027 = .ok (.aload_n 3, 1) := by decide +kernel
theorem dL_law_1028 : decode cL_law 1028 = .ok (.iconst 0, 1) := by decide +kernel
theorem dL_law_1029 : decode cL_law 1029 = .ok (.laload, 1) := by decide +kernel
theorem dL_law_1030 : decode cL_law 1030 = .ok (.iload 6, 2) := by decide +kernel
theorem dL_law_1032 : decode cL_law 1032 = .ok (.i2l, 1) := by decide +kernel
theorem dL_law_1033 : decode cL_law 1033 = .ok (.lcmp, 1) := by decide +kernel
theorem dL_law_1034 : decode cL_law 1034 = .ok (.ifCond .eq 5, 3) := by decide +kernel
theorem dL_law_1037 : decode cL_law 1037 = .ok (.iconst 0, 1) := by decide +kernel
theorem dL_law_1038 : decode cL_law 1038 = .ok (.ireturn, 1) := by decide +kernel
theorem dL_law_1039 : decode cL_law 1039 = .ok (.goto 603, 3) := by decide +kernel
theorem dL_law_1042 : decode cL_law 1042 = .ok (.aload_n 1, 1) := by decide +kernel
theorem dL_law_1043 : decode cL_law 1043 = .ok (.aload_n 0, 1) := by decide +kernel
theorem dL_law_1044 : decode cL_law 1044 = .ok (.iload 4, 2) := by decide +kernel
theorem dL_law_1046 : decode cL_law 1046 = .ok (.iconst 1, 1) := by decide +kernel
theorem dL_law_1047 : decode cL_law 1047 = .ok (.iadd, 1) := by decide +kernel
theorem dL_law_1048 : decode cL_law 1048 = .ok (.iaload, 1) := by decide +kernel
theorem dL_law_1049 : decode cL_law 1049 = .ok (.aload_n 0, 1) := by decide +kernel
theorem dL_law_1050 : decode cL_law 1050 = .ok (.iload 4, 2) := by decide +kernel
theorem dL_law_1052 : decode cL_law 1052 = .ok (.iconst 2, 1) := by decide +kernel
theorem dL_law_1053 : decode cL_law 1053 = .ok (.iadd, 1) := by decide +kernel
theorem dL_law_1054 : decode cL_law 1054 = .ok (.iaload, 1) := by decide +kernel
theorem dL_law_1055 : decode cL_law 1055 = .ok (.aload_n 3, 1) := by decide +kernel
theorem dL_law_1056 : decode cL_law 1056 = .ok (.invokestatic 144, 3) := by decide +kernel
theorem dL_law_1059 : decode cL_law 1059 = .ok (.istore 5, 2) := by decide +kernel
theorem dL_law_1061 : decode cL_law 1061 = .ok (.aload_n 2, 1) := by decide +kernel
theorem dL_law_1062 : decode cL_law 1062 = .ok (.aload_n 0, 1) := by decide +kernel
theorem dL_law_1063 : decode cL_law 1063 = .ok (.iload 4, 2) := by decide +kernel
theorem dL_law_1065 : decode cL_law 1065 = .ok (.iconst 1, 1) := by decide +kernel
theorem dL_law_1066 : decode cL_law 1066 = .ok (.iadd, 1) := by decide +kernel
theorem dL_law_1067 : decode cL_law 1067 = .ok (.iaload, 1) := by decide +kernel
theorem dL_law_1068 : decode cL_law 1068 = .ok (.aload_n 0, 1) := by decide +kernel
theorem dL_law_1069 : decode cL_law 1069 = .ok (.iload 4, 2) := by decide +kernel
theorem dL_law_1071 : decode cL_law 1071 = .ok (.iconst 2, 1) := by decide +kernel
theorem dL_law_1072 : decode cL_law 1072 = .ok (.iadd, 1) := by decide +kernel
theorem dL_law_1073 : decode cL_law 1073 = .ok (.iaload, 1) := by decide +kernel
theorem dL_law_1074 : decode cL_law 1074 = .ok (.invokevirtual 146, 3) := by decide +kernel
theorem dL_law_1077 : decode cL_law 1077 = .ok (.istore 6, 2) := by decide +kernel
theorem dL_law_1079 : decode cL_law 1079 = .ok (.aload_n 2, 1) := by decide +kernel
theorem dL_law_1080 : decode cL_law 1080 = .ok (.invokevirtual 93, 3) := by decide +kernel
theorem dL_law_1083 : decode cL_law 1083 = .ok (.iload 5, 2) := by decide +kernel
theorem dL_law_1085 : decode cL_law 1085 = .ok (.if_icmp .eq 5, 3) := by decide +kernel
theorem dL_law_1088 : decode cL_law 1088 = .ok (.iconst 0, 1) := by decide +kernel
theorem dL_law_1089 : decode cL_law 1089 = .ok (.ireturn, 1) := by decide +kernel
theorem dL_law_1090 : decode cL_law 1090 = .ok (.iload 5, 2) := by decide +kernel
theorem dL_law_1092 : decode cL_law 1092 = .ok (.ifCond .ne 15, 3) := by decide +kernel
theorem dL_law_1095 : decode cL_law 1095 = .ok (.aload_n 3, 1) := by decide +kernel
theorem dL_law_1096 : decode cL_law 1096 = .ok (.iconst 0, 1) := by decide +kernel
theorem dL_law_1097 : decode cL_law 1097 = .ok (.laload, 1) := by decide +kernel
theorem dL_law_1098 : decode cL_law 1098 = .ok (.iload 6, 2) := by decide +kernel
theorem dL_law_1100 : decode cL_law 1100 = .ok (.i2l, 1) := by decide +kernel
theorem dL_law_1101 : decode cL_law 1101 = .ok (.lcmp, 1) := by decide +kernel
theorem dL_law_1102 : decode cL_law 1102 = .ok (.ifCond .eq 5, 3) := by decide +kernel
theorem dL_law_1105 : decode cL_law 1105 = .ok (.iconst 0, 1) := by decide +kernel
theorem dL_law_1106 : decode cL_law 1106 = .ok (.ireturn, 1) := by decide +kernel
theorem dL_law_1107 : decode cL_law 1107 = .ok (.goto 535, 3) := by decide +kernel
theorem dL_law_1110 : decode cL_law 1110 = .ok (.aload_n 1, 1) := by decide +kernel
theorem dL_law_1111 : decode cL_law 1111 = .ok (.aload_n 0, 1) := by decide +kernel
theorem dL_law_1112 : decode cL_law 1112 = .ok (.iload 4, 2) := by decide +kernel
theorem dL_law_1114 : decode cL_law 1114 = .ok (.iconst 1, 1) := by decide +kernel
theorem dL_law_1115 : decode cL_law 1115 = .ok (.iadd, 1) := by decide +kernel
theorem dL_law_1116 : decode cL_law 1116 = .ok (.iaload, 1) := by decide +kernel
theorem dL_law_1117 : decode cL_law 1117 = .ok (.aload_n 3, 1) := by decide +kernel
theorem dL_law_1118 : decode cL_law 1118 = .ok (.invokestatic 147, 3) := by decide +kernel
theorem dL_law_1121 : decode cL_law 1121 = .ok (.istore 5, 2) := by decide +kernel
theorem dL_law_1123 : decode cL_law 1123 = .ok (.aload_n 2, 1) := by decide +kernel
theorem dL_law_1124 : decode cL_law 1124 = .ok (.aload_n 0, 1) := by decide +kernel
theorem dL_law_1125 : decode cL_law 1125 = .ok (.iload 4, 2) := by decide +kernel
theorem dL_law_1127 : decode cL_law 1127 = .ok (.iconst 1, 1) := by decide +kernel
theorem dL_law_1128 : decode cL_law 1128 = .ok (.iadd, 1) := by decide +kernel
theorem dL_law_1129 : decode cL_law 1129 = .ok (.iaload, 1) := by decide +kernel
theorem dL_law_1130 : decode cL_law 1130 = .ok (.invokevirtual 149, 3) := by decide +kernel
theorem dL_law_1133 : decode cL_law 1133 = .ok (.istore 6, 2) := by decide +kernel
theorem dL_law_1135 : decode cL_law 1135 = .ok (.aload_n 2, 1) := by decide +kernel
theorem dL_law_1136 : decode cL_law 1136 = .ok (.invokevirtual 93, 3) := by decide +kernel
theorem dL_law_1139 : decode cL_law 1139 = .ok (.iload 5, 2) := by decide +kernel
theorem dL_law_1141 : decode cL_law 1141 = .ok (.if_icmp .eq 5, 3) := by decide +kernel
theorem dL_law_1144 : decode cL_law 1144 = .ok (.iconst 0, 1) := by decide +kernel
theorem dL_law_1145 : decode cL_law 1145 = .ok (.ireturn, 1) := by decide +kernel
theorem dL_law_1146 : decode cL_law 1146 = .ok (.iload 5, 2) := by decide +kernel
theorem dL_law_1148 : decode cL_law 1148 = .ok (.ifCond .ne 15, 3) := by decide +kernel
theorem dL_law_1151 : decode cL_law 1151 = .ok (.aload_n 3, 1) := by decide +kernel
theorem dL_law_1152 : decode cL_law 1152 = .ok (.iconst 0, 1) := by decide +kernel
theorem dL_law_1153 : decode cL_law 1153 = .ok (.laload, 1) := by decide +kernel
theorem dL_law_1154 : decode cL_law 1154 = .ok (.iload 6, 2) := by decide +kernel
theorem dL_law_1156 : decode cL_law 1156 = .ok (.i2l, 1) := by decide +kernel
theorem dL_law_1157 : decode cL_law 1157 = .ok (.lcmp, 1) := by decide +kernel
theorem dL_law_1158 : decode cL_law 1158 = .ok (.ifCond .eq 5, 3) := by decide +kernel
theorem dL_law_1161 : decode cL_law 1161 = .ok (.iconst 0, 1) := by decide +kernel
theorem dL_law_1162 : decode cL_law 1162 = .ok (.ireturn, 1) := by decide +kernel
theorem dL_law_1163 : decode cL_law 1163 = .ok (.goto 479, 3) := by decide +kernel
theorem dL_law_1166 : decode cL_law 1166 = .ok (.aload_n 1, 1) := by decide +kernel
theorem dL_law_1167 : decode cL_law 1167 = .ok (.aload_n 0, 1) := by decide +kernel
theorem dL_law_1168 : decode cL_law 1168 = .ok (.iload 4, 2) := by decide +kernel
theorem dL_law_1170 : decode cL_law 1170 = .ok (.iconst 1, 1) := by decide +kernel
theorem dL_law_1171 : decode cL_law 1171 = .ok (.iadd, 1) := by decide +kernel
theorem dL_law_1172 : decode cL_law 1172 = .ok (.iaload, 1) := by decide +kernel
theorem dL_law_1173 : decode cL_law 1173 = .ok (.aload_n 3, 1) := by decide +kernel
theorem dL_law_1174 : decode cL_law 1174 = .ok (.invokestatic 150, 3) := by decide +kernel
theorem dL_law_1177 : decode cL_law 1177 = .ok (.istore 5, 2) := by decide +kernel
theorem dL_law_1179 : decode cL_law 1179 = .ok (.aload_n 2, 1) := by decide +kernel
theorem dL_law_1180 : decode cL_law 1180 = .ok (.aload_n 0, 1) := by decide +kernel
theorem dL_law_1181 : decode cL_law 1181 = .ok (.iload 4, 2) := by decide +kernel
theorem dL_law_1183 : decode cL_law 1183 = .ok (.iconst 1, 1) := by decide +kernel
theorem dL_law_1184 : decode cL_law 1184 = .ok (.iadd, 1) := by decide +kernel
theorem dL_law_1185 : decode cL_law 1185 = .ok (.iaload, 1) := by decide +kernel
theorem dL_law_1186 : decode cL_law 1186 = .ok (.invokevirtual 152, 3) := by decide +kernel
theorem dL_law_1189 : decode cL_law 1189 = .ok (.istore 6, 2) := by decide +kernel
theorem dL_law_1191 : decode cL_law 1191 = .ok (.aload_n 2, 1) := by decide +kernel
theorem dL_law_1192 : decode cL_law 1192 = .ok (.invokevirtual 93, 3) := by decide +kernel
theorem dL_law_1195 : decode cL_law 1195 = .ok (.iload 5, 2) := by decide +kernel
theorem dL_law_1197 : decode cL_law 1197 = .ok (.if_icmp .eq 5, 3) := by decide +kernel
theorem dL_law_1200 : decode cL_law 1200 = .ok (.iconst 0, 1) := by decide +kernel
theorem dL_law_1201 : decode cL_law 1201 = .ok (.ireturn, 1) := by decide +kernel
theorem dL_law_1202 : decode cL_law 1202 = .ok (.iload 5, 2) := by decide +kernel
theorem dL_law_1204 : decode cL_law 1204 = .ok (.ifCond .ne 15, 3) := by decide +kernel
theorem dL_law_1207 : decode cL_law 1207 = .ok (.aload_n 3, 1) := by decide +kernel
theorem dL_law_1208 : decode cL_law 1208 = .ok (.iconst 0, 1) := by decide +kernel
theorem dL_law_1209 : decode cL_law 1209 = .ok (.laload, 1) := by decide +kernel
theorem dL_law_1210 : decode cL_law 1210 = .ok (.iload 6, 2) := by decide +kernel
theorem dL_law_1212 : decode cL_law 1212 = .ok (.i2l, 1) := by decide +kernel
theorem dL_law_1213 : decode cL_law 1213 = .ok (.lcmp, 1) := by decide +kernel
theorem dL_law_1214 : decode cL_law 1214 = .ok (.ifCond .eq 5, 3) := by decide +kernel
theorem dL_law_1217 : decode cL_law 1217 = .ok (.iconst 0, 1) := by decide +kernel
theorem dL_law_1218 : decode cL_law 1218 = .ok (.ireturn, 1) := by decide +kernel
theorem dL_law_1219 : decode cL_law 1219 = .ok (.goto 423, 3) := by decide +kernel
theorem dL_law_1222 : decode cL_law 1222 = .ok (.aload_n 1, 1) := by decide +kernel
theorem dL_law_1223 : decode cL_law 1223 = .ok (.aload_n 0, 1) := by decide +kernel
theorem dL_law_1224 : decode cL_law 1224 = .ok (.iload 4, 2) := by decide +kernel
theorem dL_law_1226 : decode cL_law 1226 = .ok (.iconst 1, 1) := by decide +kernel
theorem dL_law_1227 : decode cL_law 1227 = .ok (.iadd, 1) := by decide +kernel
theorem dL_law_1228 : decode cL_law 1228 = .ok (.iaload, 1) := by decide +kernel
theorem dL_law_1229 : decode cL_law 1229 = .ok (.aload_n 0, 1) := by decide +kernel
theorem dL_law_1230 : decode cL_law 1230 = .ok (.iload 4, 2) := by decide +kernel
theorem dL_law_1232 : decode cL_law 1232 = .ok (.iconst 2, 1) := by decide +kernel
theorem dL_law_1233 : decode cL_law 1233 = .ok (.iadd, 1) := by decide +kernel
theorem dL_law_1234 : decode cL_law 1234 = .ok (.iaload, 1) := by decide +kernel
theorem dL_law_1235 : decode cL_law 1235 = .ok (.aload_n 0, 1) := by decide +kernel
theorem dL_law_1236 : decode cL_law 1236 = .ok (.iload 4, 2) := by decide +kernel
theorem dL_law_1238 : decode cL_law 1238 = .ok (.iconst 3, 1) := by decide +kernel
theorem dL_law_1239 : decode cL_law 1239 = .ok (.iadd, 1) := by decide +kernel
theorem dL_law_1240 : decode cL_law 1240 = .ok (.iaload, 1) := by decide +kernel
theorem dL_law_1241 : decode cL_law 1241 = .ok (.aload_n 0, 1) := by decide +kernel
theorem dL_law_1242 : decode cL_law 1242 = .ok (.iload 4, 2) := by decide +kernel
theorem dL_law_1244 : decode cL_law 1244 = .ok (.iconst 4, 1) := by decide +kernel
theorem dL_law_1245 : decode cL_law 1245 = .ok (.iadd, 1) := by decide +kernel
theorem dL_law_1246 : decode cL_law 1246 = .ok (.iaload, 1) := by decide +kernel
theorem dL_law_1247 : decode cL_law 1247 = .ok (.aload_n 3, 1) := by decide +kernel
theorem dL_law_1248 : decode cL_law 1248 = .ok (.invokestatic 153, 3) := by decide +kernel
theorem dL_law_1251 : decode cL_law 1251 = .ok (.istore 5, 2) := by decide +kernel
theorem dL_law_1253 : decode cL_law 1253 = .ok (.aload_n 2, 1) := by decide +kernel
theorem dL_law_1254 : decode cL_law 1254 = .ok (.aload_n 0, 1) := by decide +kernel
theorem dL_law_1255 : decode cL_law 1255 = .ok (.iload 4, 2) := by decide +kernel
theorem dL_law_1257 : decode cL_law 1257 = .ok (.iconst 1, 1) := by decide +kernel
theorem dL_law_1258 : decode cL_law 1258 = .ok (.iadd, 1) := by decide +kernel
theorem dL_law_1259 : decode cL_law 1259 = .ok (.iaload, 1) := by decide +kernel
theorem dL_law_1260 : decode cL_law 1260 = .ok (.aload_n 0, 1) := by decide +kernel
theorem dL_law_1261 : decode cL_law 1261 = .ok (.iload 4, 2) := by decide +kernel
theorem dL_law_1263 : decode cL_law 1263 = .ok (.iconst 2, 1) := by decide +kernel
theorem dL_law_1264 : decode cL_law 1264 = .ok (.iadd, 1) := by decide +kernel
theorem dL_law_1265 : decode cL_law 1265 = .ok (.iaload, 1) := by decide +kernel
theorem dL_law_1266 : decode cL_law 1266 = .ok (.aload_n 0, 1) := by decide +kernel
theorem dL_law_1267 : decode cL_law 1267 = .ok (.iload 4, 2) := by decide +kernel
theorem dL_law_1269 : decode cL_law 1269 = .ok (.iconst 3, 1) := by decide +kernel
theorem dL_law_1270 : decode cL_law 1270 = .ok (.iadd, 1) := by decide +kernel
theorem dL_law_1271 : decode cL_law 1271 = .ok (.iaload, 1) := by decide +kernel
theorem dL_law_1272 : decode cL_law 1272 = .ok (.aload_n 0, 1) := by decide +kernel
theorem dL_law_1273 : decode cL_law 1273 = .ok (.iload 4, 2) := by decide +kernel
theorem dL_law_1275 : decode cL_law 1275 = .ok (.iconst 4, 1) := by decide +kernel
theorem dL_law_1276 : decode cL_law 1276 = .ok (.iadd, 1) := by decide +kernel
theorem dL_law_1277 : decode cL_law 1277 = .ok (.iaload, 1) := by decide +kernel
theorem dL_law_1278 : decode cL_law 1278 = .ok (.invokevirtual 155, 3) := by decide +kernel
theorem dL_law_1281 : decode cL_law 1281 = .ok (.istore 6, 2) := by decide +kernel
theorem dL_law_1283 : decode cL_law 1283 = .ok (.aload_n 2, 1) := by decide +kernel
theorem dL_law_1284 : decode cL_law 1284 = .ok (.invokevirtual 93, 3) := by decide +kernel
theorem dL_law_1287 : decode cL_law 1287 = .ok (.iload 5, 2) := by decide +kernel
theorem dL_law_1289 : decode cL_law 1289 = .ok (.if_icmp .eq 5, 3) := by decide +kernel
theorem dL_law_1292 : decode cL_law 1292 = .ok (.iconst 0, 1) := by decide +kernel
theorem dL_law_1293 : decode cL_law 1293 = .ok (.ireturn, 1) := by decide +kernel
theorem dL_law_1294 : decode cL_law 1294 = .ok (.iload 5, 2) := by decide +kernel
theorem dL_law_1296 : decode cL_law 1296 = .ok (.ifCond .ne 15, 3) := by decide +kernel
theorem dL_law_1299 : decode cL_law 1299 = .ok (.aload_n 3, 1) := by decide +kernel
theorem dL_law_1300 : decode cL_law 1300 = .ok (.iconst 0, 1) := by decide +kernel
theorem dL_law_1301 : decode cL_law 1301 = .ok (.laload, 1) := by decide +kernel
theorem dL_law_1302 : decode cL_law 1302 = .ok (.iload 6, 2) := by decide +kernel
theorem dL_law_1304 : decode cL_law 1304 = .ok (.i2l, 1) := by decide +kernel
theorem dL_law_1305 : decode cL_law 1305 = .ok (.lcmp, 1) := by decide +kernel
theorem dL_law_1306 : decode cL_law 1306 = .ok (.ifCond .eq 5, 3) := by decide +kernel
theorem dL_law_1309 : decode cL_law 1309 = .ok (.iconst 0, 1) := by decide +kernel
theorem dL_law_1310 : decode cL_law 1310 = .ok (.ireturn, 1) := by decide +kernel
theorem dL_law_1311 : decode cL_law 1311 = .ok (.goto 331, 3) := by decide +kernel
theorem dL_law_1314 : decode cL_law 1314 = .ok (.aload_n 1, 1) := by decide +kernel
theorem dL_law_1315 : decode cL_law 1315 = .ok (.aload_n 0, 1) := by decide +kernel
theorem dL_law_1316 : decode cL_law 1316 = .ok (.iload 4, 2) := by decide +kernel
theorem dL_law_1318 : decode cL_law 1318 = .ok (.iconst 1, 1) := by decide +kernel
theorem dL_law_1319 : decode cL_law 1319 = .ok (.iadd, 1) := by decide +kernel
theorem dL_law_1320 : decode cL_law 1320 = .ok (.iaload, 1) := by decide +kernel
theorem dL_law_1321 : decode cL_law 1321 = .ok (.aload_n 0, 1) := by decide +kernel
theorem dL_law_1322 : decode cL_law 1322 = .ok (.iload 4, 2) := by decide +kernel
theorem dL_law_1324 : decode cL_law 1324 = .ok (.iconst 2, 1) := by decide +kernel
theorem dL_law_1325 : decode cL_law 1325 = .ok (.iadd, 1) := by decide +kernel
theorem dL_law_1326 : decode cL_law 1326 = .ok (.iaload, 1) := by decide +kernel
theorem dL_law_1327 : decode cL_law 1327 = .ok (.aload_n 3, 1) := by decide +kernel
theorem dL_law_1328 : decode cL_law 1328 = .ok (.invokestatic 156, 3) := by decide +kernel
theorem dL_law_1331 : decode cL_law 1331 = .ok (.istore 5, 2) := by decide +kernel
theorem dL_law_1333 : decode cL_law 1333 = .ok (.aload_n 2, 1) := by decide +kernel
theorem dL_law_1334 : decode cL_law 1334 = .ok (.aload_n 0, 1) := by decide +kernel
theorem dL_law_1335 : decode cL_law 1335 = .ok (.iload 4, 2) := by decide +kernel
theorem dL_law_1337 : decode cL_law 1337 = .ok (.iconst 1, 1) := by decide +kernel
theorem dL_law_1338 : decode cL_law 1338 = .ok (.iadd, 1) := by decide +kernel
theorem dL_law_1339 : decode cL_law 1339 = .ok (.iaload, 1) := by decide +kernel
theorem dL_law_1340 : decode cL_law 1340 = .ok (.aload_n 0, 1) := by decide +kernel
theorem dL_law_1341 : decode cL_law 1341 = .ok (.iload 4, 2) := by decide +kernel
theorem dL_law_1343 : decode cL_law 1343 = .ok (.iconst 2, 1) := by decide +kernel
theorem dL_law_1344 : decode cL_law 1344 = .ok (.iadd, 1) := by decide +kernel
theorem dL_law_1345 : decode cL_law 1345 = .ok (.iaload, 1) := by decide +kernel
theorem dL_law_1346 : decode cL_law 1346 = .ok (.invokevirtual 158, 3) := by decide +kernel
theorem dL_law_1349 : decode cL_law 1349 = .ok (.istore 6, 2) := by decide +kernel
theorem dL_law_1351 : decode cL_law 1351 = .ok (.aload_n 2, 1) := by decide +kernel
theorem dL_law_1352 : decode cL_law 1352 = .ok (.invokevirtual 93, 3) := by decide +kernel
theorem dL_law_1355 : decode cL_law 1355 = .ok (.iload 5, 2) := by decide +kernel
theorem dL_law_1357 : decode cL_law 1357 = .ok (.if_icmp .eq 5, 3) := by decide +kernel
theorem dL_law_1360 : decode cL_law 1360 = .ok (.iconst 0, 1) := by decide +kernel
theorem dL_law_1361 : decode cL_law 1361 = .ok (.ireturn, 1) := by decide +kernel
theorem dL_law_1362 : decode cL_law 1362 = .ok (.iload 5, 2) := by decide +kernel
theorem dL_law_1364 : decode cL_law 1364 = .ok (.ifCond .ne 15, 3) := by decide +kernel
theorem dL_law_1367 : decode cL_law 1367 = .ok (.aload_n 3, 1) := by decide +kernel
theorem dL_law_1368 : decode cL_law 1368 = .ok (.iconst 0, 1) := by decide +kernel
theorem dL_law_1369 : decode cL_law 1369 = .ok (.laload, 1) := by decide +kernel
theorem dL_law_1370 : decode cL_law 1370 = .ok (.iload 6, 2) := by decide +kernel
theorem dL_law_1372 : decode cL_law 1372 = .ok (.i2l, 1) := by decide +kernel
theorem dL_law_1373 : decode cL_law 1373 = .ok (.lcmp, 1) := by decide +kernel
theorem dL_law_1374 : decode cL_law 1374 = .ok (.ifCond .eq 5, 3) := by decide +kernel
theorem dL_law_1377 : decode cL_law 1377 = .ok (.iconst 0, 1) := by decide +kernel
theorem dL_law_1378 : decode cL_law 1378 = .ok (.ireturn, 1) := by decide +kernel
theorem dL_law_1379 : decode cL_law 1379 = .ok (.goto 263, 3) := by decide +kernel
theorem dL_law_1382 : decode cL_law 1382 = .ok (.aload_n 1, 1) := by decide +kernel
theorem dL_law_1383 : decode cL_law 1383 = .ok (.aload_n 0, 1) := by decide +kernel
theorem dL_law_1384 : decode cL_law 1384 = .ok (.iload 4, 2) := by decide +kernel
theorem dL_law_1386 : decode cL_law 1386 = .ok (.iconst 1, 1) := by decide +kernel
theorem dL_law_1387 : decode cL_law 1387 = .ok (.iadd, 1) := by decide +kernel
theorem dL_law_1388 : decode cL_law 1388 = .ok (.iaload, 1) := by decide +kernel
theorem dL_law_1389 : decode cL_law 1389 = .ok (.aload_n 0, 1) := by decide +kernel
theorem dL_law_1390 : decode cL_law 1390 = .ok (.iload 4, 2) := by decide +kernel
theorem dL_law_1392 : decode cL_law 1392 = .ok (.iconst 2, 1) := by decide +kernel
theorem dL_law_1393 : decode cL_law 1393 = .ok (.iadd, 1) := by decide +kernel
theorem dL_law_1394 : decode cL_law 1394 = .ok (.iaload, 1) := by decide +kernel
theorem dL_law_1395 : decode cL_law 1395 = .ok (.aload_n 3, 1) := by decide +kernel
theorem dL_law_1396 : decode cL_law 1396 = .ok (.invokestatic 159, 3) := by decide +kernel
theorem dL_law_1399 : decode cL_law 1399 = .ok (.istore 5, 2) := by decide +kernel
theorem dL_law_1401 : decode cL_law 1401 = .ok (.aload_n 2, 1) := by decide +kernel
theorem dL_law_1402 : decode cL_law 1402 = .ok (.aload_n 0, 1) := by decide +kernel
theorem dL_law_1403 : decode cL_law 1403 = .ok (.iload 4, 2) := by decide +kernel
theorem dL_law_1405 : decode cL_law 1405 = .ok (.iconst 1, 1) := by decide +kernel
theorem dL_law_1406 : decode cL_law 1406 = .ok (.iadd, 1) := by decide +kernel
theorem dL_law_1407 : decode cL_law 1407 = .ok (.iaload, 1) := by decide +kernel
theorem dL_law_1408 : decode cL_law 1408 = .ok (.aload_n 0, 1) := by decide +kernel
theorem dL_law_1409 : decode cL_law 1409 = .ok (.iload 4, 2) := by decide +kernel
theorem dL_law_1411 : decode cL_law 1411 = .ok (.iconst 2, 1) := by decide +kernel
theorem dL_law_1412 : decode cL_law 1412 = .ok (.iadd, 1) := by decide +kernel
theorem dL_law_1413 : decode cL_law 1413 = .ok (.iaload, 1) := by decide +kernel
theorem dL_law_1414 : decode cL_law 1414 = .ok (.invokevirtual 161, 3) := by decide +kernel
theorem dL_law_1417 : decode cL_law 1417 = .ok (.istore 6, 2) := by decide +kernel
theorem dL_law_1419 : decode cL_law 1419 = .ok (.aload_n 2, 1) := by decide +kernel
theorem dL_law_1420 : decode cL_law 1420 = .ok (.invokevirtual 93, 3) := by decide +kernel
theorem dL_law_1423 : decode cL_law 1423 = .ok (.iload 5, 2) := by decide +kernel
theorem dL_law_1425 : decode cL_law 1425 = .ok (.if_icmp .eq 5, 3) := by decide +kernel
theorem dL_law_1428 : decode cL_law 1428 = .ok (.iconst 0, 1) := by decide +kernel
theorem dL_law_1429 : decode cL_law 1429 = .ok (.ireturn, 1) := by decide +kernel
theorem dL_law_1430 : decode cL_law 1430 = .ok (.iload 5, 2) := by decide +kernel
theorem dL_law_1432 : decode cL_law 1432 = .ok (.ifCond .ne 15, 3) := by decide +kernel
theorem dL_law_1435 : decode cL_law 1435 = .ok (.aload_n 3, 1) := by decide +kernel
theorem dL_law_1436 : decode cL_law 1436 = .ok (.iconst 0, 1) := by decide +kernel
theorem dL_law_1437 : decode cL_law 1437 = .ok (.laload, 1) := by decide +kernel
theorem dL_law_1438 : decode cL_law 1438 = .ok (.iload 6, 2) := by decide +kernel
theorem dL_law_1440 : decode cL_law 1440 = .ok (.i2l, 1) := by decide +kernel
theorem dL_law_1441 : decode cL_law 1441 = .ok (.lcmp, 1) := by decide +kernel
theorem dL_law_1442 : decode cL_law 1442 = .ok (.ifCond .eq 5, 3) := by decide +kernel
theorem dL_law_1445 : decode cL_law 1445 = .ok (.iconst 0, 1) := by decide +kernel
theorem dL_law_1446 : decode cL_law 1446 = .ok (.ireturn, 1) := by decide +kernel
theorem dL_law_1447 : decode cL_law 1447 = .ok (.goto 195, 3) := by decide +kernel
theorem dL_law_1450 : decode cL_law 1450 = .ok (.aload_n 1, 1) := by decide +kernel
theorem dL_law_1451 : decode cL_law 1451 = .ok (.aload_n 0, 1) := by decide +kernel
theorem dL_law_1452 : decode cL_law 1452 = .ok (.iload 4, 2) := by decide +kernel
theorem dL_law_1454 : decode cL_law 1454 = .ok (.iconst 1, 1) := by decide +kernel
theorem dL_law_1455 : decode cL_law 1455 = .ok (.iadd, 1) := by decide +kernel
theorem dL_law_1456 : decode cL_law 1456 = .ok (.iaload, 1) := by decide +kernel
theorem dL_law_1457 : decode cL_law 1457 = .ok (.aload_n 0, 1) := by decide +kernel
theorem dL_law_1458 : decode cL_law 1458 = .ok (.iload 4, 2) := by decide +kernel
theorem dL_law_1460 : decode cL_law 1460 = .ok (.iconst 2, 1) := by decide +kernel
theorem dL_law_1461 : decode cL_law 1461 = .ok (.iadd, 1) := by decide +kernel
theorem dL_law_1462 : decode cL_law 1462 = .ok (.iaload, 1) := by decide +kernel
theorem dL_law_1463 : decode cL_law 1463 = .ok (.aload_n 3, 1) := by decide +kernel
theorem dL_law_1464 : decode cL_law 1464 = .ok (.invokestatic 162, 3) := by decide +kernel
theorem dL_law_1467 : decode cL_law 1467 = .ok (.istore 5, 2) := by decide +kernel
theorem dL_law_1469 : decode cL_law 1469 = .ok (.aload_n 2, 1) := by decide +kernel
theorem dL_law_1470 : decode cL_law 1470 = .ok (.aload_n 0, 1) := by decide +kernel
theorem dL_law_1471 : decode cL_law 1471 = .ok (.iload 4, 2) := by decide +kernel
theorem dL_law_1473 : decode cL_law 1473 = .ok (.iconst 1, 1) := by decide +kernel
theorem dL_law_1474 : decode cL_law 1474 = .ok (.iadd, 1) := by decide +kernel
theorem dL_law_1475 : decode cL_law 1475 = .ok (.iaload, 1) := by decide +kernel
theorem dL_law_1476 : decode cL_law 1476 = .ok (.aload_n 0, 1) := by decide +kernel
theorem dL_law_1477 : decode cL_law 1477 = .ok (.iload 4, 2) := by decide +kernel
theorem dL_law_1479 : decode cL_law 1479 = .ok (.iconst 2, 1) := by decide +kernel
theorem dL_law_1480 : decode cL_law 1480 = .ok (.iadd, 1) := by decide +kernel
theorem dL_law_1481 : decode cL_law 1481 = .ok (.iaload, 1) := by decide +kernel
theorem dL_law_1482 : decode cL_law 1482 = .ok (.invokevirtual 164, 3) := by decide +kernel
theorem dL_law_1485 : decode cL_law 1485 = .ok (.istore 6, 2) := by decide +kernel
theorem dL_law_1487 : decode cL_law 1487 = .ok (.aload_n 2, 1) := by decide +kernel
theorem dL_law_1488 : decode cL_law 1488 = .ok (.invokevirtual 93, 3) := by decide +kernel
theorem dL_law_1491 : decode cL_law 1491 = .ok (.iload 5, 2) := by decide +kernel
theorem dL_law_1493 : decode cL_law 1493 = .ok (.if_icmp .eq 5, 3) := by decide +kernel
theorem dL_law_1496 : decode cL_law 1496 = .ok (.iconst 0, 1) := by decide +kernel
theorem dL_law_1497 : decode cL_law 1497 = .ok (.ireturn, 1) := by decide +kernel
theorem dL_law_1498 : decode cL_law 1498 = .ok (.iload 5, 2) := by decide +kernel
theorem dL_law_1500 : decode cL_law 1500 = .ok (.ifCond .ne 15, 3) := by decide +kernel
theorem dL_law_1503 : decode cL_law 1503 = .ok (.aload_n 3, 1) := by decide +kernel
theorem dL_law_1504 : decode cL_law 1504 = .ok (.iconst 0, 1) := by decide +kernel
theorem dL_law_1505 : decode cL_law 1505 = .ok (.laload, 1) := by decide +kernel
theorem dL_law_1506 : decode cL_law 1506 = .ok (.iload 6, 2) := by decide +kernel
theorem dL_law_1508 : decode cL_law 1508 = .ok (.i2l, 1) := by decide +kernel
theorem dL_law_1509 : decode cL_law 1509 = .ok (.lcmp, 1) := by decide +kernel
theorem dL_law_1510 : decode cL_law 1510 = .ok (.ifCond .eq 5, 3) := by decide +kernel
theorem dL_law_1513 : decode cL_law 1513 = .ok (.iconst 0, 1) := by decide +kernel
theorem dL_law_1514 : decode cL_law 1514 = .ok (.ireturn, 1) := by decide +kernel
theorem dL_law_1515 : decode cL_law 1515 = .ok (.goto 127, 3) := by decide +kernel
theorem dL_law_1518 : decode cL_law 1518 = .ok (.aload_n 1, 1) := by decide +kernel
theorem dL_law_1519 : decode cL_law 1519 = .ok (.invokevirtual 165, 3) := by decide +kernel
theorem dL_law_1522 : decode cL_law 1522 = .ok (.aload_n 2, 1) := by decide +kernel
theorem dL_law_1523 : decode cL_law 1523 = .ok (.invokevirtual 168, 3) := by decide +kernel
theorem dL_law_1526 : decode cL_law 1526 = .ok (.if_icmp .eq 116, 3) := by decide +kernel
theorem dL_law_1529 : decode cL_law 1529 = .ok (.iconst 0, 1) := by decide +kernel
theorem dL_law_1530 : decode cL_law 1530 = .ok (.ireturn, 1) := by decide +kernel
theorem dL_law_1531 : decode cL_law 1531 = .ok (.aload_n 1, 1) := by decide +kernel
theorem dL_law_1532 : decode cL_law 1532 = .ok (.aload_n 0, 1) := by decide +kernel
theorem dL_law_1533 : decode cL_law 1533 = .ok (.iload 4, 2) := by decide +kernel
theorem dL_law_1535 : decode cL_law 1535 = .ok (.iconst 1, 1) := by decide +kernel
theorem dL_law_1536 : decode cL_law 1536 = .ok (.iadd, 1) := by decide +kernel
theorem dL_law_1537 : decode cL_law 1537 = .ok (.iaload, 1) := by decide +kernel
theorem dL_law_1538 : decode cL_law 1538 = .ok (.aload_n 3, 1) := by decide +kernel
theorem dL_law_1539 : decode cL_law 1539 = .ok (.invokestatic 169, 3) := by decide +kernel
theorem dL_law_1542 : decode cL_law 1542 = .ok (.istore 5, 2) := by decide +kernel
theorem dL_law_1544 : decode cL_law 1544 = .ok (.aload_n 2, 1) := by decide +kernel
theorem dL_law_1545 : decode cL_law 1545 = .ok (.aload_n 0, 1) := by decide +kernel
theorem dL_law_1546 : decode cL_law 1546 = .ok (.iload 4, 2) := by decide +kernel
theorem dL_law_1548 : decode cL_law 1548 = .ok (.iconst 1, 1) := by decide +kernel
theorem dL_law_1549 : decode cL_law 1549 = .ok (.iadd, 1) := by decide +kernel
theorem dL_law_1550 : decode cL_law 1550 = .ok (.iaload, 1) := by decide +kernel
theorem dL_law_1551 : decode cL_law 1551 = .ok (.invokevirtual 171, 3) := by decide +kernel
theorem dL_law_1554 : decode cL_law 1554 = .ok (.istore 6, 2) := by decide +kernel
theorem dL_law_1556 : decode cL_law 1556 = .ok (.aload_n 2, 1) := by decide +kernel
theorem dL_law_1557 : decode cL_law 1557 = .ok (.invokevirtual 93, 3) := by decide +kernel
theorem dL_law_1560 : decode cL_law 1560 = .ok (.iload 5, 2) := by decide +kernel
theorem dL_law_1562 : decode cL_law 1562 = .ok (.if_icmp .eq 5, 3) := by decide +kernel
theorem dL_law_1565 : decode cL_law 1565 = .ok (.iconst 0, 1) := by decide +kernel
theorem dL_law_1566 : decode cL_law 1566 = .ok (.ireturn, 1) := by decide +kernel
theorem dL_law_1567 : decode cL_law 1567 = .ok (.iload 5, 2) := by decide +kernel
theorem dL_law_1569 : decode cL_law 1569 = .ok (.ifCond .ne 15, 3) := by decide +kernel
theorem dL_law_1572 : decode cL_law 1572 = .ok (.aload_n 3, 1) := by decide +kernel
theorem dL_law_1573 : decode cL_law 1573 = .ok (.iconst 0, 1) := by decide +kernel
theorem dL_law_1574 : decode cL_law 1574 = .ok (.laload, 1) := by decide +kernel
theorem dL_law_1575 : decode cL_law 1575 = .ok (.iload 6, 2) := by decide +kernel
theorem dL_law_1577 : decode cL_law 1577 = .ok (.i2l, 1) := by decide +kernel
theorem dL_law_1578 : decode cL_law 1578 = .ok (.lcmp, 1) := by decide +kernel
theorem dL_law_1579 : decode cL_law 1579 = .ok (.ifCond .eq 5, 3) := by decide +kernel
theorem dL_law_1582 : decode cL_law 1582 = .ok (.iconst 0, 1) := by decide +kernel
theorem dL_law_1583 : decode cL_law 1583 = .ok (.ireturn, 1) := by decide +kernel
theorem dL_law_1584 : decode cL_law 1584 = .ok (.goto 58, 3) := by decide +kernel
theorem dL_law_1587 : decode cL_law 1587 = .ok (.aload_n 1, 1) := by decide +kernel
theorem dL_law_1588 : decode cL_law 1588 = .ok (.invokevirtual 172, 3) := by decide +kernel
theorem dL_law_1591 : decode cL_law 1591 = .ok (.dstore 5, 2) := by decide +kernel
theorem dL_law_1593 : decode cL_law 1593 = .ok (.aload_n 2, 1) := by decide +kernel
theorem dL_law_1594 : decode cL_law 1594 = .ok (.invokevirtual 176, 3) := by decide +kernel
theorem dL_law_1597 : decode cL_law 1597 = .ok (.dstore 7, 2) := by decide +kernel
theorem dL_law_1599 : decode cL_law 1599 = .ok (.dload 5, 2) := by decide +kernel
theorem dL_law_1601 : decode cL_law 1601 = .ok (.dload 7, 2) := by decide +kernel
theorem dL_law_1603 : decode cL_law 1603 = .ok (.dcmp .l, 1) := by decide +kernel
theorem dL_law_1604 : decode cL_law 1604 = .ok (.ifCond .eq 21, 3) := by decide +kernel
theorem dL_law_1607 : decode cL_law 1607 = .ok (.dload 5, 2) := by decide +kernel
theorem dL_law_1609 : decode cL_law 1609 = .ok (.dload 5, 2) := by decide +kernel
theorem dL_law_1611 : decode cL_law 1611 = .ok (.dcmp .l, 1) := by decide +kernel
theorem dL_law_1612 : decode cL_law 1612 = .ok (.ifCond .eq 11, 3) := by decide +kernel
theorem dL_law_1615 : decode cL_law 1615 = .ok (.dload 7, 2) := by decide +kernel
theorem dL_law_1617 : decode cL_law 1617 = .ok (.dload 7, 2) := by decide +kernel
theorem dL_law_1619 : decode cL_law 1619 = .ok (.dcmp .l, 1) := by decide +kernel
theorem dL_law_1620 : decode cL_law 1620 = .ok (.ifCond .ne 5, 3) := by decide +kernel
theorem dL_law_1623 : decode cL_law 1623 = .ok (.iconst 0, 1) := by decide +kernel
theorem dL_law_1624 : decode cL_law 1624 = .ok (.ireturn, 1) := by decide +kernel
theorem dL_law_1625 : decode cL_law 1625 = .ok (.goto 17, 3) := by decide +kernel
theorem dL_law_1628 : decode cL_law 1628 = .ok (.aload_n 1, 1) := by decide +kernel
theorem dL_law_1629 : decode cL_law 1629 = .ok (.invokevirtual 177, 3) := by decide +kernel
theorem dL_law_1632 : decode cL_law 1632 = .ok (.aload_n 2, 1) := by decide +kernel
theorem dL_law_1633 : decode cL_law 1633 = .ok (.invokevirtual 181, 3) := by decide +kernel
theorem dL_law_1636 : decode cL_law 1636 = .ok (.lcmp, 1) := by decide +kernel
theorem dL_law_1637 : decode cL_law 1637 = .ok (.ifCond .eq 5, 3) := by decide +kernel
theorem dL_law_1640 : decode cL_law 1640 = .ok (.iconst 0, 1) := by decide +kernel
theorem dL_law_1641 : decode cL_law 1641 = .ok (.ireturn, 1) := by decide +kernel
theorem dL_law_1642 : decode cL_law 1642 = .ok (.iinc 4 5, 3) := by decide +kernel
theorem dL_law_1645 : decode cL_law 1645 = .ok (.goto (-1622), 3) := by decide +kernel
theorem dL_law_1648 : decode cL_law 1648 = .ok (.iconst 1, 1) := by decide +kernel
theorem dL_law_1649 : decode cL_law 1649 = .ok (.ireturn, 1) := by decide +kernel
end
section
/-! THE MACHINE OVER ONE MEMORY: after the constructors the objects stand still; what moves is a table of ints (and of longs), by cell and place. -/
abbrev Mem : Type := (Nat → Nat → Int32) × (Nat → Nat → Int64)
/-- the tables, the classes of the arrays, the addresses of the cells, where the new heap begins -/
abbrev GG : Type := va_G × (ClassId × ClassId × ClassId) × (Nat → Nat) × Nat
abbrev gD (G : GG) : va_G := G.1
abbrev gT (G : GG) : ClassId × ClassId × ClassId := G.2.1
abbrev ga (G : GG) : Nat → Nat := G.2.2.1
abbrev gA (G : GG) : Nat → Prop := fun q => G.2.2.2 ≤ q
abbrev tysT (T : ClassId × ClassId × ClassId) : List (ClassId × FieldType) := [(T.1, .int), (T.2.1, .object "CourtRelays$Court"), (T.2.2, .long)]
def NC : Nat := 171
def shpC (c r : Nat) : (Nat × List Nat) ⊕ (Nat × Nat) :=
  if r = 0 then .inl (2, [c + 1 + 2, c + 8 + 2, c + 18 + 2, 0, 0, 0, 0])
  else if r = 1 then .inl (6, [0, c + 2 + 2, c + 3 + 2, c + 4 + 2, c + 5 + 2, c + 6 + 2, c + 7 + 2])
  else if r < 8 then .inr (0, 10)
  else if r = 8 then .inl (3, [0, c + 9 + 2, c + 10 + 2, c + 11 + 2, c + 12 + 2, c + 13 + 2, c + 14 + 2, c + 15 + 2, c + 16 + 2, c + 17 + 2])
  else if r < 17 then .inr (0, 30)
  else if r = 17 then .inr (0, 90)
  else .inr (0, 7)
def shpT : List ((Nat × List Nat) ⊕ (Nat × Nat)) :=
  [.inl (0, [0, 156 + 2]), .inr (0, 60), .inl (5, [0, 0, 0, 0, 0, 0]), .inl (1, [0, 0, 0, 0, 0, 0, 0, 0, 159 + 2, 160 + 2, 161 + 2]), .inr (0, 10), .inr (0, 10), .inr (0, 10),
   .inl (8, [163 + 2, 0, 164 + 2, 0, 165 + 2, 0, 166 + 2, 0, 167 + 2, 0, 0, 0, 0, 0, 168 + 2, 169 + 2, 1]), .inr (0, 373), .inr (0, 2238), .inr (0, 60), .inr (0, 3), .inr (0, 40), .inr (0, 3), .inr (0, 373), .inr (2, 1)]
/-- what stands at a cell: an object (class, its fields: 0 an int, 1 a long, k + 2 the cell k), or an array (0 of ints, 1 of courts, 2 of longs; its length) -/
def shp (k : Nat) : (Nat × List Nat) ⊕ (Nat × Nat) :=
  if k = 0 then .inl (7, [1 + 2, 20 + 2, 39 + 2, 155 + 2, 157 + 2, 158 + 2])
  else if k < 39 then shpC (k - (k - 1) % 19) ((k - 1) % 19)
  else if k = 39 then .inl (4, [0, 0, 40 + 2])
  else if k = 40 then .inr (1, 6)
  else if k < 155 then shpC (k - (k - 41) % 19) ((k - 41) % 19)
  else shpT.getD (k - 155) (.inr (0, 0))
def fv (ad : Nat → Nat) (f : Nat → Int32) (g : Nat → Int64) (j d : Nat) : Value := match d with
  | 0 => .int (f j)
  | 1 => .long (g j)
  | r + 2 => .ref (ad r)
def fvs (ad : Nat → Nat) (f : Nat → Int32) (g : Nat → Int64) : Nat → List Nat → List Value
  | _, [] => []
  | j, d :: ds => fv ad f g j d :: fvs ad f g (j + 1) ds
theorem fvs_length (ad : Nat → Nat) (f : Nat → Int32) (g : Nat → Int64) : ∀ (ds : List Nat) (b : Nat), (fvs ad f g b ds).length = ds.length
  | [], _ => rfl
  | _ :: ds, b => by rw [fvs, List.length_cons, List.length_cons, fvs_length ad f g ds (b + 1)]
theorem fvs_get (ad : Nat → Nat) (f : Nat → Int32) (g : Nat → Int64) : ∀ (ds : List Nat) (b j d : Nat), ds[j]? = some d → (fvs ad f g b ds)[j]? = some (fv ad f g (b + j) d)
  | [], _, j, d, h => by simp at h
  | e :: ds, b, 0, d, h => by
    have : e = d := by simpa using h
    subst this
    rfl
  | e :: ds, b, j + 1, d, h => by
    have h' : ds[j]? = some d := by simpa using h
    have := fvs_get ad f g ds (b + 1) j d h'
    rw [show b + 1 + j = b + (j + 1) by omega] at this
    exact this
theorem fvs_cong (ad : Nat → Nat) {f f' : Nat → Int32} {g g' : Nat → Int64} : ∀ (ds : List Nat) (b : Nat), (∀ i, b ≤ i → f i = f' i) → (∀ i, b ≤ i → g i = g' i) → fvs ad f g b ds = fvs ad f' g' b ds
  | [], _, _, _ => rfl
  | d :: ds, b, h, h2 => by
    rw [fvs, fvs, fvs_cong ad ds (b + 1) (fun i hi => h i (by omega)) (fun i hi => h2 i (by omega))]
    congr 1
    match d with
    | 0 => simp only [fv, h b (Nat.le_refl b)]
    | 1 => simp only [fv, h2 b (Nat.le_refl b)]
    | r + 2 => rfl
theorem fvs_seti (ad : Nat → Nat) (f : Nat → Int32) (g : Nat → Int64) (v : Int32) : ∀ (ds : List Nat) (b j : Nat), ds[j]? = some 0 → (fvs ad f g b ds).set j (.int v) = fvs ad (fun i => if i = b + j then v else f i) g b ds
  | [], _, j, h => by simp at h
  | e :: ds, b, 0, h => by
    have he : e = 0 := by simpa using h
    subst he
    show Value.int v :: fvs ad f g (b + 1) ds = fv ad _ g b 0 :: fvs ad _ g (b + 1) ds
    rw [fvs_cong ad (f' := fun i => if i = b + 0 then v else f i) (g' := g) ds (b + 1) (fun i hi => by rw [if_neg (by omega)]) (fun _ _ => rfl)]
    simp [fv]
  | e :: ds, b, j + 1, h => by
    have h' : ds[j]? = some 0 := by simpa using h
    have ih := fvs_seti ad f g v ds (b + 1) j h'
    show fv ad f g b e :: (fvs ad f g (b + 1) ds).set j (.int v) = fv ad _ g b e :: fvs ad _ g (b + 1) ds
    rw [ih, show b + 1 + j = b + (j + 1) by omega]
    congr 1
    match e with
    | 0 => simp only [fv]; rw [if_neg (by omega)]
    | 1 => rfl
    | r + 2 => rfl
theorem fvs_setl (ad : Nat → Nat) (f : Nat → Int32) (g : Nat → Int64) (v : Int64) : ∀ (ds : List Nat) (b j : Nat), ds[j]? = some 1 → (fvs ad f g b ds).set j (.long v) = fvs ad f (fun i => if i = b + j then v else g i) b ds
  | [], _, j, h => by simp at h
  | e :: ds, b, 0, h => by
    have he : e = 1 := by simpa using h
    subst he
    show Value.long v :: fvs ad f g (b + 1) ds = fv ad f _ b 1 :: fvs ad f _ (b + 1) ds
    rw [fvs_cong ad (f' := f) (g' := fun i => if i = b + 0 then v else g i) ds (b + 1) (fun _ _ => rfl) (fun i hi => by rw [if_neg (by omega)])]
    simp [fv]
  | e :: ds, b, j + 1, h => by
    have h' : ds[j]? = some 1 := by simpa using h
    have ih := fvs_setl ad f g v ds (b + 1) j h'
    show fv ad f g b e :: (fvs ad f g (b + 1) ds).set j (.long v) = fv ad f _ b e :: fvs ad f _ (b + 1) ds
    rw [ih, show b + 1 + j = b + (j + 1) by omega]
    congr 1
    match e with
    | 0 => rfl
    | 1 => simp only [fv]; rw [if_neg (by omega)]
    | r + 2 => rfl
/-- the addresses of the six saved courts -/
def savedOff (i : Nat) : Nat := 41 + 19 * i
def cel (G : GG) (μ : Mem) (k : Nat) : va_E := match shp k with
  | .inl (ci, ds) => .inr (ci, fvs (ga G) (μ.1 k) (μ.2 k) 0 ds)
  | .inr (0, n) => .inl ((gT G).1, n, .inl (μ.1 k))
  | .inr (1, n) => .inl ((gT G).2.1, n, .inr (.inr (.inr (.inr (fun i => some (ga G (savedOff i)))))))
  | .inr (_, n) => .inl ((gT G).2.2, n, .inr (.inl (μ.2 k)))
theorem cel_cong {G : GG} {μ μ' : Mem} {k : Nat} (h : μ.1 k = μ'.1 k) (h2 : μ.2 k = μ'.2 k) : cel G μ k = cel G μ' k := by
  unfold cel
  rw [h, h2]
def HR (G : GG) (μ : Mem) (H : Heap) : Prop := ∀ k, k < NC → va_at (gD G) vwCl (ga G k, cel G μ k) H
def AD (G : GG) : Prop := (∀ i j, i < NC → j < NC → ga G i = ga G j → i = j) ∧ ∀ k, k < NC → gA G (ga G k)
def wsl (G : GG) (μ : Mem) : va_W := (List.range NC).map fun k => (ga G k, cel G μ k)
theorem wsl_get {G : GG} {μ : Mem} {k : Nat} (h : k < NC) : (wsl G μ)[k]? = some (ga G k, cel G μ k) := by
  unfold wsl
  rw [List.getElem?_map, List.getElem?_range h]
  rfl
theorem wsl_lt {G : GG} {μ : Mem} {k : Nat} {q : Nat × va_E} (h : (wsl G μ)[k]? = some q) : k < NC ∧ q = (ga G k, cel G μ k) := by
  have hk : k < NC := by
    have := (List.getElem?_eq_some_iff.mp h).1
    simpa [wsl] using this
  rw [wsl_get hk] at h
  exact ⟨hk, (Option.some.inj h).symm⟩
theorem wsl_P {G : GG} {μ : Mem} {H : Heap} (h : HR G μ H) : va_P (gD G) vwCl (wsl G μ) H := by
  intro k q hq
  obtain ⟨hk, rfl⟩ := wsl_lt hq
  exact h k hk
theorem P_wsl {G : GG} {μ : Mem} {H : Heap} (h : va_P (gD G) vwCl (wsl G μ) H) : HR G μ H := fun k hk => h k _ (wsl_get hk)
theorem wsl_D {G : GG} {μ : Mem} (h : AD G) : va_D (gA G) (wsl G μ) := by
  refine ⟨fun i j p q hp hq e => ?_, fun k q hq => ?_⟩
  · obtain ⟨hi, rfl⟩ := wsl_lt hp
    obtain ⟨hj, rfl⟩ := wsl_lt hq
    exact h.1 i j hi hj e
  · obtain ⟨hk, rfl⟩ := wsl_lt hq
    exact h.2 k hk
theorem wsl_set {G : GG} {μ μ' : Mem} {k : Nat} {x : va_E} (hx : cel G μ' k = x) (h1 : ∀ j, j ≠ k → μ'.1 j = μ.1 j) (h2 : ∀ j, j ≠ k → μ'.2 j = μ.2 j) : (wsl G μ).set k (ga G k, x) = wsl G μ' := by
  apply List.ext_getElem?
  intro j
  by_cases hj : j < NC
  · rw [wsl_get hj]
    by_cases hk : k = j
    · subst hk
      rw [List.getElem?_set_self (by simpa [wsl] using hj), hx]
    · rw [List.getElem?_set_ne hk, wsl_get hj]
      have hk' : j ≠ k := fun e => hk e.symm
      rw [cel_cong (h1 j hk') (h2 j hk')]
  · have hl : ∀ μ : Mem, (wsl G μ).length = NC := fun μ => by simp [wsl]
    have h1 := hl μ
    have h2 := hl μ'
    rw [List.getElem?_eq_none (l := wsl G μ') (by omega), List.getElem?_eq_none (l := (wsl G μ).set k (ga G k, x)) (by rw [List.length_set]; omega)]
def si (μ : Mem) (k j : Nat) (v : Int32) : Mem := (fun a i => if a = k ∧ i = j then v else μ.1 a i, μ.2)
def slm (μ : Mem) (k j : Nat) (v : Int64) : Mem := (μ.1, fun a i => if a = k ∧ i = j then v else μ.2 a i)
def sa (μ : Mem) (k : Nat) (f : Nat → Int32) : Mem := (fun a => if a = k then f else μ.1 a, μ.2)
theorem si_ne {μ : Mem} {k j : Nat} {v : Int32} {a : Nat} (h : a ≠ k) : (si μ k j v).1 a = μ.1 a := by
  funext i
  show (if a = k ∧ i = j then v else μ.1 a i) = _
  rw [if_neg (fun q => h q.1)]
theorem si_eq {μ : Mem} {k j : Nat} {v : Int32} : (si μ k j v).1 k = fun i => if i = j then v else μ.1 k i := by
  funext i
  show (if k = k ∧ i = j then v else μ.1 k i) = _
  simp
theorem sl_ne {μ : Mem} {k j : Nat} {v : Int64} {a : Nat} (h : a ≠ k) : (slm μ k j v).2 a = μ.2 a := by
  funext i
  show (if a = k ∧ i = j then v else μ.2 a i) = _
  rw [if_neg (fun q => h q.1)]
theorem sl_eq {μ : Mem} {k j : Nat} {v : Int64} : (slm μ k j v).2 k = fun i => if i = j then v else μ.2 k i := by
  funext i
  show (if k = k ∧ i = j then v else μ.2 k i) = _
  simp
/-- the law's script: L ints at an old cell -/
abbrev fs1 : Nat → Int32 := fun j => ([2, 1, 1, 600, 60, 1440, 20] : List Int32).getD j 0
abbrev fs2 : Nat → Int32 := fun j => ([20, 20, 20, 1000, 2000, 5000, 100] : List Int32).getD j 0
/-- the statics, which nobody writes: at 200 and 201 the two tables -/
def OF (G : GG) (U : State) (H : Heap) : Prop :=
  va_Z "CourtRelays" "FIRST_SETTINGS" "[I" (.ref (ga G 200)) (gA G) U H ∧ va_T .int (ga G 200) 7 (fun j => .int (fs1 j)) (gA G) U H ∧
  va_Z "CourtRelays" "MOST_OF_SETTINGS" "[I" (.ref (ga G 201)) (gA G) U H ∧ va_T .int (ga G 201) 7 (fun j => .int (fs2 j)) (gA G) U H ∧
  vx_Zq Bundle.tN "UNASSIGNED_STACK" Bundle.steD (gA G) U H ∧ vx_Zq Bundle.tN "SUPPRESSED_SENTINEL" Bundle.listD (gA G) U H
theorem OF.moved {G : GG} {u U : State} {H : Heap} (hvm : u.vm.Alike U.vm) (h : OF G u H) : OF G U H := ⟨h.1.moved hvm, h.2.1.moved hvm, h.2.2.1.moved hvm, h.2.2.2.1.moved hvm, h.2.2.2.2.1.moved hvm, h.2.2.2.2.2.moved hvm⟩
theorem OF.kept {G : GG} {U : State} {H H1 : Heap} (h : OF G U H) (hq : ∀ a : Nat, a < H.size → ¬ gA G a → H1[a]? = H[a]?) : OF G U H1 := ⟨h.1.kept hq, h.2.1.kept hq, h.2.2.1.kept hq, h.2.2.2.1.kept hq, h.2.2.2.2.1.kept hq, h.2.2.2.2.2.kept hq⟩
/-- the words that a warming keeps, though they aren't of the good ones: links between nest mates, casts, declarations -/
def nwL : List Cond := [(Jvm.Cond.methodLinkNest "CourtRelays" (9 : Nat) ({ cls := "CourtRelays$Court", name := "<init>", desc := "()V" } : Jvm.MethodName) "CourtRelays"), (Jvm.Cond.methodLinkNest "CourtRelays$Court" (11 : Nat) ({ cls := "CourtRelays$Staff", name := "<init>", desc := "()V" } : Jvm.MethodName) "CourtRelays"), (Jvm.Cond.methodLinkNest "CourtRelays$Court" (20 : Nat) ({ cls := "CourtRelays$Docket", name := "<init>", desc := "()V" } : Jvm.MethodName) "CourtRelays"), (Jvm.Cond.methodLinkNest "CourtRelays$History" (17 : Nat) ({ cls := "CourtRelays$Court", name := "<init>", desc := "()V" } : Jvm.MethodName) "CourtRelays"), (Jvm.Cond.methodLinkNest "CourtRelays" (28 : Nat) ({ cls := "CourtRelays$Buffer", name := "<init>", desc := "()V" } : Jvm.MethodName) "CourtRelays"), (Jvm.Cond.methodLinkNest "CourtRelays" (35 : Nat) ({ cls := "CourtRelays$ListReader", name := "<init>", desc := "()V" } : Jvm.MethodName) "CourtRelays"), (Jvm.Cond.methodLinkNest "CourtRelays" (42 : Nat) ({ cls := "CourtRelays$ChainSearch", name := "<init>", desc := "()V" } : Jvm.MethodName) "CourtRelays"), (Jvm.Cond.methodLinkNest "CourtRelays$Staff" (51 : Nat) ({ cls := "CourtRelays", name := "bitOf", desc := "(I)I" } : Jvm.MethodName) "CourtRelays"), (Jvm.Cond.methodLinkNest "CourtRelays$ChainSearch" (69 : Nat) ({ cls := "CourtRelays", name := "bitOf", desc := "(I)I" } : Jvm.MethodName) "CourtRelays"), (Jvm.Cond.methodLinkNest "CourtRelays$Docket" (61 : Nat) ({ cls := "CourtRelays", name := "maskOf", desc := "(III)I" } : Jvm.MethodName) "CourtRelays"), (Jvm.Cond.methodLinkNest "CourtRelays$Court" (151 : Nat) ({ cls := "CourtRelays", name := "bitOf", desc := "(I)I" } : Jvm.MethodName) "CourtRelays"), (Jvm.Cond.methodLinkNest "CourtRelays$Docket" (53 : Nat) ({ cls := "CourtRelays", name := "bitOf", desc := "(I)I" } : Jvm.MethodName) "CourtRelays"), (Jvm.Cond.methodLinkNest "CourtRelays$Buffer" (19 : Nat) ({ cls := "CourtRelays", name := "mix", desc := "(JJ)J" } : Jvm.MethodName) "CourtRelays"), (Jvm.Cond.methodLinkNest "CourtRelays$Court" (80 : Nat) ({ cls := "CourtRelays", name := "maskOf", desc := "(III)I" } : Jvm.MethodName) "CourtRelays"), (Jvm.Cond.fieldLinkNest "CourtRelays$Court" (25 : Nat) "CourtRelays" "FIRST_SETTINGS" "[I" "CourtRelays"), (Jvm.Cond.castable "[I" "java/lang/Cloneable"), (Jvm.Cond.castable "java/lang/IllegalArgumentException" "java/lang/IllegalArgumentException"), (Jvm.Cond.castable "java/lang/IllegalStateException" "java/lang/IllegalStateException"), (Jvm.Cond.castable "java/lang/IndexOutOfBoundsException" "java/lang/IndexOutOfBoundsException"), (Jvm.Cond.declares ({ cls := "java/lang/RuntimeException", name := "<init>", desc := "()V" } : Jvm.MethodName)), (Jvm.Cond.declares ({ cls := "java/lang/RuntimeException", name := "<init>", desc := "(Ljava/lang/String;)V" } : Jvm.MethodName)), (Jvm.Cond.declares ({ cls := "java/lang/Exception", name := "<init>", desc := "()V" } : Jvm.MethodName)), (Jvm.Cond.declares ({ cls := "java/lang/Exception", name := "<init>", desc := "(Ljava/lang/String;)V" } : Jvm.MethodName)), (Jvm.Cond.declares ({ cls := "java/lang/Throwable", name := "<init>", desc := "()V" } : Jvm.MethodName)), (Jvm.Cond.declares ({ cls := "java/lang/Throwable", name := "<init>", desc := "(Ljava/lang/String;)V" } : Jvm.MethodName))]
def NWs (U : State) : Prop := ∀ w ∈ nwL, va_Nw w U
theorem nwL_tbl : ∀ w ∈ nwL, w ∈ lw_tbl := by decide +kernel
theorem nwL_on : ∀ w ∈ nwL, w.onTables = true := by decide +kernel
theorem NWs.same {u U : State} (h : u.vm = U.vm) (hZ : NWs u) : NWs U := fun w hw => va_Nw.same (nwL_on w hw) h (hZ w hw)
theorem nwL_all {P : Cond → Prop} (h1 : ∀ a i x h, P (.methodLinkNest a i x h)) (h2 : ∀ a i b n d h, P (.fieldLinkNest a i b n d h)) (h3 : ∀ a b, P (.castable a b)) (h4 : ∀ x, P (.declares x)) : ∀ w ∈ nwL, P w := by
  unfold nwL
  simp only [List.forall_mem_cons, List.not_mem_nil, false_imp_iff, implies_true, and_true, h1, h2, h3, h4]
theorem NWs.warm {s U : State} (hW : s.WarmedH U.vm) (hZ : NWs s) : NWs U := by
  have key : ∀ w ∈ nwL, va_Nw w s → va_Nw w U := nwL_all (fun a i x h => va_Nw.warmM hW) (fun a i b n d h => va_Nw.warmF hW) (fun a b => va_Nw.warmC hW) (fun x => va_Nw.warmD hW)
  exact fun w hw => key w hw (hZ w hw)
/-- a state over which the class's and the law's methods run -/
def RU (G : GG) (μ : Mem) (U : State) : Prop := HR G μ U.heap ∧ va_K (gD G) vwCl (tysT (gT G)) U ∧ AD G ∧ OF G U U.heap ∧ G.2.2.2 ≤ U.heap.size ∧ NWs U
/-- all good words of the tables -/
def lw_all : List Cond := lw_tbl.filter goodWord
theorem all_of {w : Cond} (h : w ∈ lw_tbl) (g : goodWord w = true) : w ∈ lw_all := List.mem_filter.mpr ⟨h, g⟩
theorem all_tbl {w : Cond} (h : w ∈ lw_all) : w ∈ lw_tbl := (List.mem_filter.mp h).1
theorem all_good {w : Cond} (h : w ∈ lw_all) : (w.onTables && w.keeps) = true ∨ ∃ ty, w = .arrayClass ty := good_of_word (List.mem_filter.mp h).2
abbrev ws_ (y : MethodName) (cc : ByteArray) (n : Nat) (ret : Option FieldType) : List Cond := .code y cc n ret :: lw_all
theorem ws_in {y : MethodName} {cc : ByteArray} {n : Nat} {ret : Option FieldType} (h : Cond.code y cc n ret ∈ lw_all) : GoodIn lw_all (ws_ y cc n ret) := by
  intro w hw
  rcases List.mem_cons.mp hw with e | e
  · rw [e]; exact ⟨h, all_good h⟩
  · exact ⟨e, all_good e⟩
/-- a method's answer and the memory behind it -/
def QR (G : GG) (r : Option Value) (μ' : Mem) : Array Value → State → Outcome → State → Prop := fun _ st o t => o = .returned r ∧ HR G μ' t.heap ∧ va_F (gA G) st t
def Con (y : MethodName) (cc : ByteArray) (maxL : Nat) (rt : Option FieldType) (fr lo : Nat) (vs : GG → List Value) (μ : Mem) (r : Option Value) (μ' : Mem) : Prop :=
  ∀ (l : Launch), l.flags = flags0 → ∀ G : GG, Met l y (ws_ y cc maxL rt) ({ frames := fr, cells := 0, slots := 0, locals := lo }) (va_Pc (vs G) (RU G μ)) (QR G r μ') 0 0 (gA G)
/-- a frame's surroundings -/
abbrev Cx : Type := Program × Launch × Env × Room × State × MethodId × Array Value × List Frame × Method × Code × GG × Nat
abbrev Cx.G (X : Cx) : GG := X.2.2.2.2.2.2.2.2.2.2.1
abbrev Cx.S (X : Cx) : State := X.2.2.2.2.1
def Fm (X : Cx) (cc : ByteArray) (own : String) (rt : Option FieldType) (fr lo nL : Nat) : Prop := match X with
  | (p, l, _, R, s, m, args, _, meth, c, G, n) => p.tables.exec = Jvm.exec ∧ c.code = cc ∧ c.maxLocals = nL ∧ s.vm.findClass own = some m.cls ∧ (∀ w ∈ lw_all, w.before args s = true) ∧ va_K (gD G) vwCl (tysT (gT G)) s ∧ AD G ∧ OF G s s.heap ∧ G.2.2.2 ≤ s.heap.size ∧
    meth.sig.returnType = rt ∧ meth.locks = false ∧ fr ≤ R.frames ∧ lo ≤ R.locals ∧ n = nL ∧ l.flags = flags0 ∧ NWs s
def WA (X : Cx) (ce sl pc : Nat) (lv : List (Nat × Value)) (st : List Value) (μ : Mem) (Q : State → Prop) : Prop := match X with
  | (p, l, e, R, s, m, args, below, meth, c, G, n) => ∀ (H : Heap) (locs : List Loc) (ls : Array Slot), HR G μ H → va_S (gA G) s.heap H locs → lv_has ls n lv → W p l e R s m args below meth c H locs ce sl Q (F0 m pc ls st)
/-- a method's end -/
def EQ (X : Cx) (r : Option Value) (μ' : Mem) : State → Prop := match X with
  | (_, _, _, _, s, _, args, below, _, _, G, _) => MQ below (QR G r μ') args s 0 0 (gA G)
theorem con_of {y : MethodName} {cc : ByteArray} {maxL : Nat} {rt : Option FieldType} {fr lo : Nat} {vs : GG → List Value} {lv : List (Nat × Value)} {μ : Mem} {r : Option Value} {μ' : Mem} (hy : plainName y.cls = true) (hlen : ∀ G, (lg_sl (vs G)).length ≤ maxL) 
    (body : ∀ X : Cx, Fm X cc y.cls rt fr lo maxL → WA X 0 0 0 (lv_args 0 (vs X.G)) [] μ (EQ X r μ')) : Con y cc maxL rt fr lo vs μ r μ' := by
  intro l hfl G
  refine Met.ofW (cc := cc) (maxL := maxL) (ret := rt) hy rfl ?_
  intro p e s m args below meth c s₁ B hml hv
  obtain ⟨rfl, hH, hK, hA, hO, hsz, hNW⟩ := hv
  have hts := atoms_spec (ws := ws_ y cc maxL rt) B.pre
  have hown : s.vm.findClass y.cls = some m.cls := findClass_of_methodNamed B.named
  have hl := lv_entry (vs G) (n := maxL) (hlen G)
  rw [lg_entry_eq]
  exact body (p, l, e, _, s, m, _, below, meth, c, G, maxL) ⟨B.exec, B.bytes, hml, hown, fun w h => hts w (List.mem_cons_of_mem _ h), hK, hA, hO, hsz, B.returns, B.notSynchronized, Nat.le_refl _, Nat.le_refl _, rfl, hfl, hNW⟩ s.heap [] _ hH va_S.rf hl
end
section
theorem wsl_obj {G : GG} {μ : Mem} {k ci : Nat} {ds : List Nat} (hk : k < NC) (hs : shp k = .inl (ci, ds)) : (wsl G μ)[k]? = some (ga G k, .inr (ci, fvs (ga G) (μ.1 k) (μ.2 k) 0 ds)) := by
  rw [wsl_get hk, cel, hs]
theorem wsl_i {G : GG} {μ : Mem} {k n : Nat} (hk : k < NC) (hs : shp k = .inr (0, n)) : (wsl G μ)[k]? = some (ga G k, .inl ((gT G).1, n, .inl (μ.1 k))) := by
  rw [wsl_get hk, cel, hs]
  rfl
theorem wsl_q {G : GG} {μ : Mem} {k n : Nat} (hk : k < NC) (hs : shp k = .inr (1, n)) : (wsl G μ)[k]? = some (ga G k, .inl ((gT G).2.1, n, .inr (.inr (.inr (.inr (fun i => some (ga G (savedOff i)))))))) := by
  rw [wsl_get hk, cel, hs]
  rfl
theorem wsl_l {G : GG} {μ : Mem} {k n : Nat} (hk : k < NC) (hs : shp k = .inr (2, n)) : (wsl G μ)[k]? = some (ga G k, .inl ((gT G).2.2, n, .inr (.inl (μ.2 k)))) := by
  rw [wsl_get hk, cel, hs]
  rfl
theorem cel_o {G : GG} {μ : Mem} {k ci : Nat} {ds : List Nat} (hs : shp k = .inl (ci, ds)) : cel G μ k = .inr (ci, fvs (ga G) (μ.1 k) (μ.2 k) 0 ds) := by
  rw [cel, hs]
theorem cel_i {G : GG} {μ : Mem} {k n : Nat} (hs : shp k = .inr (0, n)) : cel G μ k = .inl ((gT G).1, n, .inl (μ.1 k)) := by
  rw [cel, hs]
  rfl
theorem cel_l {G : GG} {μ : Mem} {k n : Nat} (hs : shp k = .inr (2, n)) : cel G μ k = .inl ((gT G).2.2, n, .inr (.inl (μ.2 k))) := by
  rw [cel, hs]
  rfl
section ROWS
variable {X : Cx} {cc : ByteArray} {own : String} {rt : Option FieldType} {fr lo nL : Nat} {ce sl pc : Nat} {lv : List (Nat × Value)} {st : List Value} {μ : Mem} {Q : State → Prop}
theorem a_iconst (F : Fm X cc own rt fr lo nL) {n : Int} {v : Int32} (hd : decode cc pc = .ok (.iconst n, 1)) (hv : Int32.ofInt n = v) (K : WA X ce sl (pc + 1) lv (.int v :: st) μ Q) : WA X ce sl pc lv (st) μ Q := by
  obtain ⟨p, l, e, R, s, m, args, below, meth, c, G, nn⟩ := X
  obtain ⟨hx, hb, hml, hown, hts, hK, hA, hO, hsz, hr, hlk, hfr, hlo, hn, hfl, hNW⟩ := F
  intro H locs ls hH hS hl
  exact lv_iconst hx hb hd hv (K H locs ls hH hS hl)
theorem a_bipush (F : Fm X cc own rt fr lo nL) {n : Int} {v : Int32} (hd : decode cc pc = .ok (.bipush n, 2)) (hv : (Int8.ofInt n).toInt32 = v) (K : WA X ce sl (pc + 2) lv (.int v :: st) μ Q) : WA X ce sl pc lv (st) μ Q := by
  obtain ⟨p, l, e, R, s, m, args, below, meth, c, G, nn⟩ := X
  obtain ⟨hx, hb, hml, hown, hts, hK, hA, hO, hsz, hr, hlk, hfr, hlo, hn, hfl, hNW⟩ := F
  intro H locs ls hH hS hl
  exact lv_bipush hx hb hd hv (K H locs ls hH hS hl)
theorem a_sipush (F : Fm X cc own rt fr lo nL) {n : Int} {v : Int32} (hd : decode cc pc = .ok (.sipush n, 3)) (hv : (Int16.ofInt n).toInt32 = v) (K : WA X ce sl (pc + 3) lv (.int v :: st) μ Q) : WA X ce sl pc lv (st) μ Q := by
  obtain ⟨p, l, e, R, s, m, args, below, meth, c, G, nn⟩ := X
  obtain ⟨hx, hb, hml, hown, hts, hK, hA, hO, hsz, hr, hlk, hfr, hlo, hn, hfl, hNW⟩ := F
  intro H locs ls hH hS hl
  exact lv_sipush hx hb hd hv (K H locs ls hH hS hl)
theorem a_lconst (F : Fm X cc own rt fr lo nL) {n : Fin 2} {v : Int64} (hd : decode cc pc = .ok (.lconst n, 1)) (hv : Int64.ofNat (n : Nat) = v) (K : WA X ce sl (pc + 1) lv (.long v :: st) μ Q) : WA X ce sl pc lv (st) μ Q := by
  obtain ⟨p, l, e, R, s, m, args, below, meth, c, G, nn⟩ := X
  obtain ⟨hx, hb, hml, hown, hts, hK, hA, hO, hsz, hr, hlk, hfr, hlo, hn, hfl, hNW⟩ := F
  intro H locs ls hH hS hl
  exact lv_lconst hx hb hd hv (K H locs ls hH hS hl)
theorem a_dconst0 (F : Fm X cc own rt fr lo nL) (hd : decode cc pc = .ok (.dconst 0, 1)) (K : WA X ce sl (pc + 1) lv (.double 0 :: st) μ Q) : WA X ce sl pc lv (st) μ Q := by
  obtain ⟨p, l, e, R, s, m, args, below, meth, c, G, nn⟩ := X
  obtain ⟨hx, hb, hml, hown, hts, hK, hA, hO, hsz, hr, hlk, hfr, hlo, hn, hfl, hNW⟩ := F
  intro H locs ls hH hS hl
  exact lv_dconst0 hx hb hd (K H locs ls hH hS hl)
theorem a_dconst1 (F : Fm X cc own rt fr lo nL) (hd : decode cc pc = .ok (.dconst 1, 1)) (K : WA X ce sl (pc + 1) lv (.double 0x3ff0000000000000 :: st) μ Q) : WA X ce sl pc lv (st) μ Q := by
  obtain ⟨p, l, e, R, s, m, args, below, meth, c, G, nn⟩ := X
  obtain ⟨hx, hb, hml, hown, hts, hK, hA, hO, hsz, hr, hlk, hfr, hlo, hn, hfl, hNW⟩ := F
  intro H locs ls hH hS hl
  exact lv_dconst1 hx hb hd (K H locs ls hH hS hl)
theorem a_iload_n (F : Fm X cc own rt fr lo nL) {q : Fin 4} {x : Int32} (hd : decode cc pc = .ok (.iload_n q, 1)) (k : Nat) (hk : lv[k]? = some ((q : Nat), .int x)) (K : WA X ce sl (pc + 1) lv (.int x :: st) μ Q) : WA X ce sl pc lv (st) μ Q := by
  obtain ⟨p, l, e, R, s, m, args, below, meth, c, G, nn⟩ := X
  obtain ⟨hx, hb, hml, hown, hts, hK, hA, hO, hsz, hr, hlk, hfr, hlo, hn, hfl, hNW⟩ := F
  intro H locs ls hH hS hl
  exact lv_iload_n hx hb hd rfl (lv_at hl k hk) (K H locs ls hH hS hl)
theorem a_iload (F : Fm X cc own rt fr lo nL) {q : Nat} {x : Int32} (hd : decode cc pc = .ok (.iload q, 2)) (k : Nat) (hk : lv[k]? = some (q, .int x)) (K : WA X ce sl (pc + 2) lv (.int x :: st) μ Q) : WA X ce sl pc lv (st) μ Q := by
  obtain ⟨p, l, e, R, s, m, args, below, meth, c, G, nn⟩ := X
  obtain ⟨hx, hb, hml, hown, hts, hK, hA, hO, hsz, hr, hlk, hfr, hlo, hn, hfl, hNW⟩ := F
  intro H locs ls hH hS hl
  exact lv_iload hx hb hd (lv_at hl k hk) (K H locs ls hH hS hl)
theorem a_istore_n (F : Fm X cc own rt fr lo nL) {w : Fin 4} {x : Int32} {lv' : List (Nat × Value)} (hd : decode cc pc = .ok (.istore_n w, 1)) (hi : (w : Nat) < nL) (hv : ((w : Nat), Value.int x) :: lv.filter (fun q => !(q.1 == (w : Nat)) && !(q.1 + 1 == (w : Nat) && q.2.category == 2)) = lv') (K : WA X ce sl (pc + 1) lv' st μ Q) : WA X ce sl pc lv (.int x :: st) μ Q := by
  obtain ⟨p, l, e, R, s, m, args, below, meth, c, G, nn⟩ := X
  obtain ⟨hx, hb, hml, hown, hts, hK, hA, hO, hsz, hr, hlk, hfr, hlo, hn, hfl, hNW⟩ := F
  intro H locs ls hH hS hl
  subst hn
  exact lv_istore_n hx hb hd rfl hl hi hv (fun ls' hl' => K H locs ls' hH hS hl')
theorem a_istore (F : Fm X cc own rt fr lo nL) {i : Nat} {x : Int32} {lv' : List (Nat × Value)} (hd : decode cc pc = .ok (.istore i, 2)) (hi : i < nL) (hv : (i, Value.int x) :: lv.filter (fun q => !(q.1 == i) && !(q.1 + 1 == i && q.2.category == 2)) = lv') (K : WA X ce sl (pc + 2) lv' st μ Q) : WA X ce sl pc lv (.int x :: st) μ Q := by
  obtain ⟨p, l, e, R, s, m, args, below, meth, c, G, nn⟩ := X
  obtain ⟨hx, hb, hml, hown, hts, hK, hA, hO, hsz, hr, hlk, hfr, hlo, hn, hfl, hNW⟩ := F
  intro H locs ls hH hS hl
  subst hn
  exact lv_istore hx hb hd hl hi hv (fun ls' hl' => K H locs ls' hH hS hl')
theorem a_lload_n (F : Fm X cc own rt fr lo nL) {q : Fin 4} {x : Int64} (hd : decode cc pc = .ok (.lload_n q, 1)) (k : Nat) (hk : lv[k]? = some ((q : Nat), .long x)) (K : WA X ce sl (pc + 1) lv (.long x :: st) μ Q) : WA X ce sl pc lv (st) μ Q := by
  obtain ⟨p, l, e, R, s, m, args, below, meth, c, G, nn⟩ := X
  obtain ⟨hx, hb, hml, hown, hts, hK, hA, hO, hsz, hr, hlk, hfr, hlo, hn, hfl, hNW⟩ := F
  intro H locs ls hH hS hl
  exact lv_lload_n hx hb hd rfl (lv_at hl k hk) (K H locs ls hH hS hl)
theorem a_lload (F : Fm X cc own rt fr lo nL) {q : Nat} {x : Int64} (hd : decode cc pc = .ok (.lload q, 2)) (k : Nat) (hk : lv[k]? = some (q, .long x)) (K : WA X ce sl (pc + 2) lv (.long x :: st) μ Q) : WA X ce sl pc lv (st) μ Q := by
  obtain ⟨p, l, e, R, s, m, args, below, meth, c, G, nn⟩ := X
  obtain ⟨hx, hb, hml, hown, hts, hK, hA, hO, hsz, hr, hlk, hfr, hlo, hn, hfl, hNW⟩ := F
  intro H locs ls hH hS hl
  exact lv_lload hx hb hd (lv_at hl k hk) (K H locs ls hH hS hl)
theorem a_lstore_n (F : Fm X cc own rt fr lo nL) {w : Fin 4} {x : Int64} {lv' : List (Nat × Value)} (hd : decode cc pc = .ok (.lstore_n w, 1)) (hi : (w : Nat) + 1 < nL) (hv : ((w : Nat), Value.long x) :: lv.filter (fun q => !(q.1 == (w : Nat)) && (!(q.1 == (w : Nat) + 1) && !(q.1 + 1 == (w : Nat) && q.2.category == 2))) = lv') (K : WA X ce sl (pc + 1) lv' st μ Q) : WA X ce sl pc lv (.long x :: st) μ Q := by
  obtain ⟨p, l, e, R, s, m, args, below, meth, c, G, nn⟩ := X
  obtain ⟨hx, hb, hml, hown, hts, hK, hA, hO, hsz, hr, hlk, hfr, hlo, hn, hfl, hNW⟩ := F
  intro H locs ls hH hS hl
  subst hn
  exact lv_lstore_n hx hb hd rfl hl hi hv (fun ls' hl' => K H locs ls' hH hS hl')
theorem a_lstore (F : Fm X cc own rt fr lo nL) {i : Nat} {x : Int64} {lv' : List (Nat × Value)} (hd : decode cc pc = .ok (.lstore i, 2)) (hi : i + 1 < nL) (hv : (i, Value.long x) :: lv.filter (fun q => !(q.1 == i) && (!(q.1 == i + 1) && !(q.1 + 1 == i && q.2.category == 2))) = lv') (K : WA X ce sl (pc + 2) lv' st μ Q) : WA X ce sl pc lv (.long x :: st) μ Q := by
  obtain ⟨p, l, e, R, s, m, args, below, meth, c, G, nn⟩ := X
  obtain ⟨hx, hb, hml, hown, hts, hK, hA, hO, hsz, hr, hlk, hfr, hlo, hn, hfl, hNW⟩ := F
  intro H locs ls hH hS hl
  subst hn
  exact lv_lstore hx hb hd hl hi hv (fun ls' hl' => K H locs ls' hH hS hl')
theorem a_aload_n (F : Fm X cc own rt fr lo nL) {q : Fin 4} {x : Nat} (hd : decode cc pc = .ok (.aload_n q, 1)) (k : Nat) (hk : lv[k]? = some ((q : Nat), .ref x)) (K : WA X ce sl (pc + 1) lv (.ref x :: st) μ Q) : WA X ce sl pc lv (st) μ Q := by
  obtain ⟨p, l, e, R, s, m, args, below, meth, c, G, nn⟩ := X
  obtain ⟨hx, hb, hml, hown, hts, hK, hA, hO, hsz, hr, hlk, hfr, hlo, hn, hfl, hNW⟩ := F
  intro H locs ls hH hS hl
  exact lv_aload_n hx hb hd rfl (lv_at hl k hk) (K H locs ls hH hS hl)
theorem a_aload (F : Fm X cc own rt fr lo nL) {q : Nat} {x : Nat} (hd : decode cc pc = .ok (.aload q, 2)) (k : Nat) (hk : lv[k]? = some (q, .ref x)) (K : WA X ce sl (pc + 2) lv (.ref x :: st) μ Q) : WA X ce sl pc lv (st) μ Q := by
  obtain ⟨p, l, e, R, s, m, args, below, meth, c, G, nn⟩ := X
  obtain ⟨hx, hb, hml, hown, hts, hK, hA, hO, hsz, hr, hlk, hfr, hlo, hn, hfl, hNW⟩ := F
  intro H locs ls hH hS hl
  exact lv_aload hx hb hd (lv_at hl k hk) (K H locs ls hH hS hl)
theorem a_astore_n (F : Fm X cc own rt fr lo nL) {w : Fin 4} {x : Nat} {lv' : List (Nat × Value)} (hd : decode cc pc = .ok (.astore_n w, 1)) (hi : (w : Nat) < nL) (hv : ((w : Nat), Value.ref x) :: lv.filter (fun q => !(q.1 == (w : Nat)) && !(q.1 + 1 == (w : Nat) && q.2.category == 2)) = lv') (K : WA X ce sl (pc + 1) lv' st μ Q) : WA X ce sl pc lv (.ref x :: st) μ Q := by
  obtain ⟨p, l, e, R, s, m, args, below, meth, c, G, nn⟩ := X
  obtain ⟨hx, hb, hml, hown, hts, hK, hA, hO, hsz, hr, hlk, hfr, hlo, hn, hfl, hNW⟩ := F
  intro H locs ls hH hS hl
  subst hn
  exact lv_astore_n hx hb hd rfl hl hi hv (fun ls' hl' => K H locs ls' hH hS hl')
theorem a_astore (F : Fm X cc own rt fr lo nL) {i : Nat} {x : Nat} {lv' : List (Nat × Value)} (hd : decode cc pc = .ok (.astore i, 2)) (hi : i < nL) (hv : (i, Value.ref x) :: lv.filter (fun q => !(q.1 == i) && !(q.1 + 1 == i && q.2.category == 2)) = lv') (K : WA X ce sl (pc + 2) lv' st μ Q) : WA X ce sl pc lv (.ref x :: st) μ Q := by
  obtain ⟨p, l, e, R, s, m, args, below, meth, c, G, nn⟩ := X
  obtain ⟨hx, hb, hml, hown, hts, hK, hA, hO, hsz, hr, hlk, hfr, hlo, hn, hfl, hNW⟩ := F
  intro H locs ls hH hS hl
  subst hn
  exact lv_astore hx hb hd hl hi hv (fun ls' hl' => K H locs ls' hH hS hl')
theorem a_dload_n (F : Fm X cc own rt fr lo nL) {q : Fin 4} {x : UInt64} (hd : decode cc pc = .ok (.dload_n q, 1)) (k : Nat) (hk : lv[k]? = some ((q : Nat), .double x)) (K : WA X ce sl (pc + 1) lv (.double x :: st) μ Q) : WA X ce sl pc lv (st) μ Q := by
  obtain ⟨p, l, e, R, s, m, args, below, meth, c, G, nn⟩ := X
  obtain ⟨hx, hb, hml, hown, hts, hK, hA, hO, hsz, hr, hlk, hfr, hlo, hn, hfl, hNW⟩ := F
  intro H locs ls hH hS hl
  exact lv_dload_n hx hb hd rfl (lv_at hl k hk) (K H locs ls hH hS hl)
theorem a_dload (F : Fm X cc own rt fr lo nL) {q : Nat} {x : UInt64} (hd : decode cc pc = .ok (.dload q, 2)) (k : Nat) (hk : lv[k]? = some (q, .double x)) (K : WA X ce sl (pc + 2) lv (.double x :: st) μ Q) : WA X ce sl pc lv (st) μ Q := by
  obtain ⟨p, l, e, R, s, m, args, below, meth, c, G, nn⟩ := X
  obtain ⟨hx, hb, hml, hown, hts, hK, hA, hO, hsz, hr, hlk, hfr, hlo, hn, hfl, hNW⟩ := F
  intro H locs ls hH hS hl
  exact lv_dload hx hb hd (lv_at hl k hk) (K H locs ls hH hS hl)
theorem a_dstore_n (F : Fm X cc own rt fr lo nL) {w : Fin 4} {x : UInt64} {lv' : List (Nat × Value)} (hd : decode cc pc = .ok (.dstore_n w, 1)) (hi : (w : Nat) + 1 < nL) (hv : ((w : Nat), Value.double x) :: lv.filter (fun q => !(q.1 == (w : Nat)) && (!(q.1 == (w : Nat) + 1) && !(q.1 + 1 == (w : Nat) && q.2.category == 2))) = lv') (K : WA X ce sl (pc + 1) lv' st μ Q) : WA X ce sl pc lv (.double x :: st) μ Q := by
  obtain ⟨p, l, e, R, s, m, args, below, meth, c, G, nn⟩ := X
  obtain ⟨hx, hb, hml, hown, hts, hK, hA, hO, hsz, hr, hlk, hfr, hlo, hn, hfl, hNW⟩ := F
  intro H locs ls hH hS hl
  subst hn
  exact lv_dstore_n hx hb hd rfl hl hi hv (fun ls' hl' => K H locs ls' hH hS hl')
theorem a_dstore (F : Fm X cc own rt fr lo nL) {i : Nat} {x : UInt64} {lv' : List (Nat × Value)} (hd : decode cc pc = .ok (.dstore i, 2)) (hi : i + 1 < nL) (hv : (i, Value.double x) :: lv.filter (fun q => !(q.1 == i) && (!(q.1 == i + 1) && !(q.1 + 1 == i && q.2.category == 2))) = lv') (K : WA X ce sl (pc + 2) lv' st μ Q) : WA X ce sl pc lv (.double x :: st) μ Q := by
  obtain ⟨p, l, e, R, s, m, args, below, meth, c, G, nn⟩ := X
  obtain ⟨hx, hb, hml, hown, hts, hK, hA, hO, hsz, hr, hlk, hfr, hlo, hn, hfl, hNW⟩ := F
  intro H locs ls hH hS hl
  subst hn
  exact lv_dstore hx hb hd hl hi hv (fun ls' hl' => K H locs ls' hH hS hl')
theorem a_iinc (F : Fm X cc own rt fr lo nL) {i : Nat} {n : Int} {x v : Int32} {lv' : List (Nat × Value)} (hd : decode cc pc = .ok (.iinc i n, 3)) (k : Nat) (hk : lv[k]? = some (i, .int x)) (hv0 : x + Int32.ofInt n = v) (hi : i < nL) (hv : (i, Value.int v) :: lv.filter (fun q => !(q.1 == i) && !(q.1 + 1 == i && q.2.category == 2)) = lv') (K : WA X ce sl (pc + 3) lv' st μ Q) : WA X ce sl pc lv st μ Q := by
  obtain ⟨p, l, e, R, s, m, args, below, meth, c, G, nn⟩ := X
  obtain ⟨hx, hb, hml, hown, hts, hK, hA, hO, hsz, hr, hlk, hfr, hlo, hn, hfl, hNW⟩ := F
  intro H locs ls hH hS hl
  subst hn
  exact lv_iinc hx hb hd hl hk hv0 hi hv (fun ls' hl' => K H locs ls' hH hS hl')
theorem a_iadd (F : Fm X cc own rt fr lo nL) {x y : Int32} (hd : decode cc pc = .ok (.iadd, 1)) (K : WA X ce sl (pc + 1) lv (.int (x + y) :: st) μ Q) : WA X ce sl pc lv (.int y :: .int x :: st) μ Q := by
  obtain ⟨p, l, e, R, s, m, args, below, meth, c, G, nn⟩ := X
  obtain ⟨hx, hb, hml, hown, hts, hK, hA, hO, hsz, hr, hlk, hfr, hlo, hn, hfl, hNW⟩ := F
  intro H locs ls hH hS hl
  exact lv_iadd hx hb hd (K H locs ls hH hS hl)
theorem a_isub (F : Fm X cc own rt fr lo nL) {x y : Int32} (hd : decode cc pc = .ok (.isub, 1)) (K : WA X ce sl (pc + 1) lv (.int (x - y) :: st) μ Q) : WA X ce sl pc lv (.int y :: .int x :: st) μ Q := by
  obtain ⟨p, l, e, R, s, m, args, below, meth, c, G, nn⟩ := X
  obtain ⟨hx, hb, hml, hown, hts, hK, hA, hO, hsz, hr, hlk, hfr, hlo, hn, hfl, hNW⟩ := F
  intro H locs ls hH hS hl
  exact lv_isub hx hb hd (K H locs ls hH hS hl)
theorem a_imul (F : Fm X cc own rt fr lo nL) {x y : Int32} (hd : decode cc pc = .ok (.imul, 1)) (K : WA X ce sl (pc + 1) lv (.int (x * y) :: st) μ Q) : WA X ce sl pc lv (.int y :: .int x :: st) μ Q := by
  obtain ⟨p, l, e, R, s, m, args, below, meth, c, G, nn⟩ := X
  obtain ⟨hx, hb, hml, hown, hts, hK, hA, hO, hsz, hr, hlk, hfr, hlo, hn, hfl, hNW⟩ := F
  intro H locs ls hH hS hl
  exact lv_imul hx hb hd (K H locs ls hH hS hl)
theorem a_iand (F : Fm X cc own rt fr lo nL) {x y : Int32} (hd : decode cc pc = .ok (.iand, 1)) (K : WA X ce sl (pc + 1) lv (.int (x &&& y) :: st) μ Q) : WA X ce sl pc lv (.int y :: .int x :: st) μ Q := by
  obtain ⟨p, l, e, R, s, m, args, below, meth, c, G, nn⟩ := X
  obtain ⟨hx, hb, hml, hown, hts, hK, hA, hO, hsz, hr, hlk, hfr, hlo, hn, hfl, hNW⟩ := F
  intro H locs ls hH hS hl
  exact lv_iand hx hb hd (K H locs ls hH hS hl)
theorem a_ior (F : Fm X cc own rt fr lo nL) {x y : Int32} (hd : decode cc pc = .ok (.ior, 1)) (K : WA X ce sl (pc + 1) lv (.int (x ||| y) :: st) μ Q) : WA X ce sl pc lv (.int y :: .int x :: st) μ Q := by
  obtain ⟨p, l, e, R, s, m, args, below, meth, c, G, nn⟩ := X
  obtain ⟨hx, hb, hml, hown, hts, hK, hA, hO, hsz, hr, hlk, hfr, hlo, hn, hfl, hNW⟩ := F
  intro H locs ls hH hS hl
  exact lv_ior hx hb hd (K H locs ls hH hS hl)
theorem a_ixor (F : Fm X cc own rt fr lo nL) {x y : Int32} (hd : decode cc pc = .ok (.ixor, 1)) (K : WA X ce sl (pc + 1) lv (.int (x ^^^ y) :: st) μ Q) : WA X ce sl pc lv (.int y :: .int x :: st) μ Q := by
  obtain ⟨p, l, e, R, s, m, args, below, meth, c, G, nn⟩ := X
  obtain ⟨hx, hb, hml, hown, hts, hK, hA, hO, hsz, hr, hlk, hfr, hlo, hn, hfl, hNW⟩ := F
  intro H locs ls hH hS hl
  exact lv_ixor hx hb hd (K H locs ls hH hS hl)
theorem a_ishl (F : Fm X cc own rt fr lo nL) {x y : Int32} (hd : decode cc pc = .ok (.ishl, 1)) (K : WA X ce sl (pc + 1) lv (.int (x <<< (y &&& 31)) :: st) μ Q) : WA X ce sl pc lv (.int y :: .int x :: st) μ Q := by
  obtain ⟨p, l, e, R, s, m, args, below, meth, c, G, nn⟩ := X
  obtain ⟨hx, hb, hml, hown, hts, hK, hA, hO, hsz, hr, hlk, hfr, hlo, hn, hfl, hNW⟩ := F
  intro H locs ls hH hS hl
  exact lv_ishl hx hb hd (K H locs ls hH hS hl)
theorem a_ishr (F : Fm X cc own rt fr lo nL) {x y : Int32} (hd : decode cc pc = .ok (.ishr, 1)) (K : WA X ce sl (pc + 1) lv (.int (x >>> (y &&& 31)) :: st) μ Q) : WA X ce sl pc lv (.int y :: .int x :: st) μ Q := by
  obtain ⟨p, l, e, R, s, m, args, below, meth, c, G, nn⟩ := X
  obtain ⟨hx, hb, hml, hown, hts, hK, hA, hO, hsz, hr, hlk, hfr, hlo, hn, hfl, hNW⟩ := F
  intro H locs ls hH hS hl
  exact lv_ishr hx hb hd (K H locs ls hH hS hl)
theorem a_iushr (F : Fm X cc own rt fr lo nL) {x y : Int32} (hd : decode cc pc = .ok (.iushr, 1)) (K : WA X ce sl (pc + 1) lv (.int (x.toUInt32 >>> (y.toUInt32 &&& Int32.toUInt32 31)).toInt32 :: st) μ Q) : WA X ce sl pc lv (.int y :: .int x :: st) μ Q := by
  obtain ⟨p, l, e, R, s, m, args, below, meth, c, G, nn⟩ := X
  obtain ⟨hx, hb, hml, hown, hts, hK, hA, hO, hsz, hr, hlk, hfr, hlo, hn, hfl, hNW⟩ := F
  intro H locs ls hH hS hl
  exact lv_iushr hx hb hd rfl (K H locs ls hH hS hl)
theorem a_ladd (F : Fm X cc own rt fr lo nL) {x y : Int64} (hd : decode cc pc = .ok (.ladd, 1)) (K : WA X ce sl (pc + 1) lv (.long (x + y) :: st) μ Q) : WA X ce sl pc lv (.long y :: .long x :: st) μ Q := by
  obtain ⟨p, l, e, R, s, m, args, below, meth, c, G, nn⟩ := X
  obtain ⟨hx, hb, hml, hown, hts, hK, hA, hO, hsz, hr, hlk, hfr, hlo, hn, hfl, hNW⟩ := F
  intro H locs ls hH hS hl
  exact lv_ladd hx hb hd (K H locs ls hH hS hl)
theorem a_lsub (F : Fm X cc own rt fr lo nL) {x y : Int64} (hd : decode cc pc = .ok (.lsub, 1)) (K : WA X ce sl (pc + 1) lv (.long (x - y) :: st) μ Q) : WA X ce sl pc lv (.long y :: .long x :: st) μ Q := by
  obtain ⟨p, l, e, R, s, m, args, below, meth, c, G, nn⟩ := X
  obtain ⟨hx, hb, hml, hown, hts, hK, hA, hO, hsz, hr, hlk, hfr, hlo, hn, hfl, hNW⟩ := F
  intro H locs ls hH hS hl
  exact lv_lsub hx hb hd (K H locs ls hH hS hl)
theorem a_lmul (F : Fm X cc own rt fr lo nL) {x y : Int64} (hd : decode cc pc = .ok (.lmul, 1)) (K : WA X ce sl (pc + 1) lv (.long (x * y) :: st) μ Q) : WA X ce sl pc lv (.long y :: .long x :: st) μ Q := by
  obtain ⟨p, l, e, R, s, m, args, below, meth, c, G, nn⟩ := X
  obtain ⟨hx, hb, hml, hown, hts, hK, hA, hO, hsz, hr, hlk, hfr, hlo, hn, hfl, hNW⟩ := F
  intro H locs ls hH hS hl
  exact lv_lmul hx hb hd (K H locs ls hH hS hl)
theorem a_lor (F : Fm X cc own rt fr lo nL) {x y : Int64} (hd : decode cc pc = .ok (.lor, 1)) (K : WA X ce sl (pc + 1) lv (.long (x ||| y) :: st) μ Q) : WA X ce sl pc lv (.long y :: .long x :: st) μ Q := by
  obtain ⟨p, l, e, R, s, m, args, below, meth, c, G, nn⟩ := X
  obtain ⟨hx, hb, hml, hown, hts, hK, hA, hO, hsz, hr, hlk, hfr, hlo, hn, hfl, hNW⟩ := F
  intro H locs ls hH hS hl
  exact lv_lor hx hb hd (K H locs ls hH hS hl)
theorem a_lshl (F : Fm X cc own rt fr lo nL) {x : Int64} {y : Int32} (hd : decode cc pc = .ok (.lshl, 1)) (K : WA X ce sl (pc + 1) lv (.long (x <<< (y.toInt64 &&& 63)) :: st) μ Q) : WA X ce sl pc lv (.int y :: .long x :: st) μ Q := by
  obtain ⟨p, l, e, R, s, m, args, below, meth, c, G, nn⟩ := X
  obtain ⟨hx, hb, hml, hown, hts, hK, hA, hO, hsz, hr, hlk, hfr, hlo, hn, hfl, hNW⟩ := F
  intro H locs ls hH hS hl
  exact lv_lshl hx hb hd rfl (K H locs ls hH hS hl)
theorem a_lcmp (F : Fm X cc own rt fr lo nL) {x y : Int64} (hd : decode cc pc = .ok (.lcmp, 1)) (K : WA X ce sl (pc + 1) lv (.int (lg_cmp x y) :: st) μ Q) : WA X ce sl pc lv (.long y :: .long x :: st) μ Q := by
  obtain ⟨p, l, e, R, s, m, args, below, meth, c, G, nn⟩ := X
  obtain ⟨hx, hb, hml, hown, hts, hK, hA, hO, hsz, hr, hlk, hfr, hlo, hn, hfl, hNW⟩ := F
  intro H locs ls hH hS hl
  exact W.lcmp hx hb hd (K H locs ls hH hS hl)
theorem a_idiv (F : Fm X cc own rt fr lo nL) {x y : Int32} (hd : decode cc pc = .ok (.idiv, 1)) (hne : ¬ y = 0) (K : WA X ce sl (pc + 1) lv (.int (x / y) :: st) μ Q) : WA X ce sl pc lv (.int y :: .int x :: st) μ Q := by
  obtain ⟨p, l, e, R, s, m, args, below, meth, c, G, nn⟩ := X
  obtain ⟨hx, hb, hml, hown, hts, hK, hA, hO, hsz, hr, hlk, hfr, hlo, hn, hfl, hNW⟩ := F
  intro H locs ls hH hS hl
  exact lv_idiv hx hb hd hne (K H locs ls hH hS hl)
theorem a_irem (F : Fm X cc own rt fr lo nL) {x y : Int32} (hd : decode cc pc = .ok (.irem, 1)) (hne : ¬ y = 0) (K : WA X ce sl (pc + 1) lv (.int (x - x / y * y) :: st) μ Q) : WA X ce sl pc lv (.int y :: .int x :: st) μ Q := by
  obtain ⟨p, l, e, R, s, m, args, below, meth, c, G, nn⟩ := X
  obtain ⟨hx, hb, hml, hown, hts, hK, hA, hO, hsz, hr, hlk, hfr, hlo, hn, hfl, hNW⟩ := F
  intro H locs ls hH hS hl
  exact lv_irem hx hb hd hne (K H locs ls hH hS hl)
theorem a_i2l (F : Fm X cc own rt fr lo nL) {x : Int32} (hd : decode cc pc = .ok (.i2l, 1)) (K : WA X ce sl (pc + 1) lv (.long x.toInt64 :: st) μ Q) : WA X ce sl pc lv (.int x :: st) μ Q := by
  obtain ⟨p, l, e, R, s, m, args, below, meth, c, G, nn⟩ := X
  obtain ⟨hx, hb, hml, hown, hts, hK, hA, hO, hsz, hr, hlk, hfr, hlo, hn, hfl, hNW⟩ := F
  intro H locs ls hH hS hl
  exact lv_i2l hx hb hd rfl (K H locs ls hH hS hl)
theorem a_i2d (F : Fm X cc own rt fr lo nL) {x : Int32} (hd : decode cc pc = .ok (.i2d, 1)) (K : WA X ce sl (pc + 1) lv (.double (FP.i2d x) :: st) μ Q) : WA X ce sl pc lv (.int x :: st) μ Q := by
  obtain ⟨p, l, e, R, s, m, args, below, meth, c, G, nn⟩ := X
  obtain ⟨hx, hb, hml, hown, hts, hK, hA, hO, hsz, hr, hlk, hfr, hlo, hn, hfl, hNW⟩ := F
  intro H locs ls hH hS hl
  exact lv_i2d hx hb hd (K H locs ls hH hS hl)
theorem a_d2l (F : Fm X cc own rt fr lo nL) {x : UInt64} (hd : decode cc pc = .ok (.d2l, 1)) (K : WA X ce sl (pc + 1) lv (.long (FP.d2l x) :: st) μ Q) : WA X ce sl pc lv (.double x :: st) μ Q := by
  obtain ⟨p, l, e, R, s, m, args, below, meth, c, G, nn⟩ := X
  obtain ⟨hx, hb, hml, hown, hts, hK, hA, hO, hsz, hr, hlk, hfr, hlo, hn, hfl, hNW⟩ := F
  intro H locs ls hH hS hl
  exact lv_d2l hx hb hd (K H locs ls hH hS hl)
theorem a_ddiv (F : Fm X cc own rt fr lo nL) {x y : UInt64} (hd : decode cc pc = .ok (.ddiv, 1)) (hne : vf_n64 (FP.ddiv x y)) (K : WA X ce sl (pc + 1) lv (.double (FP.ddiv x y) :: st) μ Q) : WA X ce sl pc lv (.double y :: .double x :: st) μ Q := by
  obtain ⟨p, l, e, R, s, m, args, below, meth, c, G, nn⟩ := X
  obtain ⟨hx, hb, hml, hown, hts, hK, hA, hO, hsz, hr, hlk, hfr, hlo, hn, hfl, hNW⟩ := F
  intro H locs ls hH hS hl
  exact lv_ddiv hx hb hd hne (K H locs ls hH hS hl)
theorem a_dmul (F : Fm X cc own rt fr lo nL) {x y : UInt64} (hd : decode cc pc = .ok (.dmul, 1)) (hne : vf_n64 (FP.dmul x y)) (K : WA X ce sl (pc + 1) lv (.double (FP.dmul x y) :: st) μ Q) : WA X ce sl pc lv (.double y :: .double x :: st) μ Q := by
  obtain ⟨p, l, e, R, s, m, args, below, meth, c, G, nn⟩ := X
  obtain ⟨hx, hb, hml, hown, hts, hK, hA, hO, hsz, hr, hlk, hfr, hlo, hn, hfl, hNW⟩ := F
  intro H locs ls hH hS hl
  exact lv_dmul hx hb hd hne (K H locs ls hH hS hl)
theorem a_dsub (F : Fm X cc own rt fr lo nL) {x y : UInt64} (hd : decode cc pc = .ok (.dsub, 1)) (hne : vf_n64 (FP.dsub x y)) (K : WA X ce sl (pc + 1) lv (.double (FP.dsub x y) :: st) μ Q) : WA X ce sl pc lv (.double y :: .double x :: st) μ Q := by
  obtain ⟨p, l, e, R, s, m, args, below, meth, c, G, nn⟩ := X
  obtain ⟨hx, hb, hml, hown, hts, hK, hA, hO, hsz, hr, hlk, hfr, hlo, hn, hfl, hNW⟩ := F
  intro H locs ls hH hS hl
  exact lv_dsub hx hb hd hne (K H locs ls hH hS hl)
theorem a_dcmp (F : Fm X cc own rt fr lo nL) {x y : UInt64} {op : CmpOp} (hd : decode cc pc = .ok (.dcmp op, 1)) (K : WA X ce sl (pc + 1) lv (.int (Op.cmpValue (FP.dcmp x y) op) :: st) μ Q) : WA X ce sl pc lv (.double y :: .double x :: st) μ Q := by
  obtain ⟨p, l, e, R, s, m, args, below, meth, c, G, nn⟩ := X
  obtain ⟨hx, hb, hml, hown, hts, hK, hA, hO, hsz, hr, hlk, hfr, hlo, hn, hfl, hNW⟩ := F
  intro H locs ls hH hS hl
  exact lv_dcmp hx hb hd (K H locs ls hH hS hl)
theorem a_dup (F : Fm X cc own rt fr lo nL) {v : Value} (hd : decode cc pc = .ok (.dup, 1)) (hv : v.category = 1) (K : WA X ce sl (pc + 1) lv (v :: v :: st) μ Q) : WA X ce sl pc lv (v :: st) μ Q := by
  obtain ⟨p, l, e, R, s, m, args, below, meth, c, G, nn⟩ := X
  obtain ⟨hx, hb, hml, hown, hts, hK, hA, hO, hsz, hr, hlk, hfr, hlo, hn, hfl, hNW⟩ := F
  intro H locs ls hH hS hl
  exact lv_dup hx hb hd hv (K H locs ls hH hS hl)
theorem a_dup2 (F : Fm X cc own rt fr lo nL) {v w : Value} (hd : decode cc pc = .ok (.dup2, 1)) (hv : v.category = 1) (hw : w.category = 1) (K : WA X ce sl (pc + 1) lv (v :: w :: v :: w :: st) μ Q) : WA X ce sl pc lv (v :: w :: st) μ Q := by
  obtain ⟨p, l, e, R, s, m, args, below, meth, c, G, nn⟩ := X
  obtain ⟨hx, hb, hml, hown, hts, hK, hA, hO, hsz, hr, hlk, hfr, hlo, hn, hfl, hNW⟩ := F
  intro H locs ls hH hS hl
  exact lv_dup2_11 hx hb hd hv hw (K H locs ls hH hS hl)
theorem a_dup2d (F : Fm X cc own rt fr lo nL) {v : Value} (hd : decode cc pc = .ok (.dup2, 1)) (hv : v.category = 2) (K : WA X ce sl (pc + 1) lv (v :: v :: st) μ Q) : WA X ce sl pc lv (v :: st) μ Q := by
  obtain ⟨p, l, e, R, s, m, args, below, meth, c, G, nn⟩ := X
  obtain ⟨hx, hb, hml, hown, hts, hK, hA, hO, hsz, hr, hlk, hfr, hlo, hn, hfl, hNW⟩ := F
  intro H locs ls hH hS hl
  exact lv_dup2_2 hx hb hd hv (K H locs ls hH hS hl)
theorem a_pop (F : Fm X cc own rt fr lo nL) {v : Value} (hd : decode cc pc = .ok (.pop, 1)) (hv : v.category = 1) (K : WA X ce sl (pc + 1) lv (st) μ Q) : WA X ce sl pc lv (v :: st) μ Q := by
  obtain ⟨p, l, e, R, s, m, args, below, meth, c, G, nn⟩ := X
  obtain ⟨hx, hb, hml, hown, hts, hK, hA, hO, hsz, hr, hlk, hfr, hlo, hn, hfl, hNW⟩ := F
  intro H locs ls hH hS hl
  exact lv_pop hx hb hd hv (K H locs ls hH hS hl)
theorem a_ldc (F : Fm X cc own rt fr lo nL) {ix : Nat} {v : Int32} (hd : decode cc pc = .ok (.ldc ix, 2)) (hw : Cond.constant own ix v ∈ lw_all) (K : WA X ce sl (pc + 2) lv (.int v :: st) μ Q) : WA X ce sl pc lv (st) μ Q := by
  obtain ⟨p, l, e, R, s, m, args, below, meth, c, G, nn⟩ := X
  obtain ⟨hx, hb, hml, hown, hts, hK, hA, hO, hsz, hr, hlk, hfr, hlo, hn, hfl, hNW⟩ := F
  intro H locs ls hH hS hl
  exact lv_ldc hx hb hown (hts _ hw) hd (K H locs ls hH hS hl)
theorem a_ldc2l (F : Fm X cc own rt fr lo nL) {ix : Nat} {v : Int64} (hd : decode cc pc = .ok (.ldc2_w ix, 3)) (hw : Cond.constantLong own ix v ∈ lw_all) (K : WA X ce sl (pc + 3) lv (.long v :: st) μ Q) : WA X ce sl pc lv (st) μ Q := by
  obtain ⟨p, l, e, R, s, m, args, below, meth, c, G, nn⟩ := X
  obtain ⟨hx, hb, hml, hown, hts, hK, hA, hO, hsz, hr, hlk, hfr, hlo, hn, hfl, hNW⟩ := F
  intro H locs ls hH hS hl
  exact lv_ldc2 hx hb hown (hts _ hw) hd (K H locs ls hH hS hl)
theorem a_ldc2d (F : Fm X cc own rt fr lo nL) {ix : Nat} {v : UInt64} (hd : decode cc pc = .ok (.ldc2_w ix, 3)) (hw : Cond.constantDouble own ix v ∈ lw_all) (K : WA X ce sl (pc + 3) lv (.double v :: st) μ Q) : WA X ce sl pc lv (st) μ Q := by
  obtain ⟨p, l, e, R, s, m, args, below, meth, c, G, nn⟩ := X
  obtain ⟨hx, hb, hml, hown, hts, hK, hA, hO, hsz, hr, hlk, hfr, hlo, hn, hfl, hNW⟩ := F
  intro H locs ls hH hS hl
  exact lv_ldc2d hx hb hown (hts _ hw) hd (K H locs ls hH hS hl)
theorem a_if_eq (F : Fm X cc own rt fr lo nL) {x : Int32} {off : Int} {tgt : Nat} (hd : decode cc pc = .ok (.ifCond .eq off, 3)) (ht : (pc : Int) + off = (tgt : Int)) (kt : x = 0 → WA X ce sl tgt lv st μ Q) (kf : ¬ (x = 0) → WA X ce sl (pc + 3) lv st μ Q) : WA X ce sl pc lv (.int x :: st) μ Q := by
  obtain ⟨p, l, e, R, s, m, args, below, meth, c, G, nn⟩ := X
  obtain ⟨hx, hb, hml, hown, hts, hK, hA, hO, hsz, hr, hlk, hfr, hlo, hn, hfl, hNW⟩ := F
  intro H locs ls hH hS hl
  exact lv_if_eq hx hb hd ht (fun h => kt h H locs ls hH hS hl) (fun h => kf (by first | exact h | exact fun q => q h) H locs ls hH hS hl)
theorem a_icmp_eq (F : Fm X cc own rt fr lo nL) {x y : Int32} {off : Int} {tgt : Nat} (hd : decode cc pc = .ok (.if_icmp .eq off, 3)) (ht : (pc : Int) + off = (tgt : Int)) (kt : x = y → WA X ce sl tgt lv st μ Q) (kf : ¬ (x = y) → WA X ce sl (pc + 3) lv st μ Q) : WA X ce sl pc lv (.int y :: .int x :: st) μ Q := by
  obtain ⟨p, l, e, R, s, m, args, below, meth, c, G, nn⟩ := X
  obtain ⟨hx, hb, hml, hown, hts, hK, hA, hO, hsz, hr, hlk, hfr, hlo, hn, hfl, hNW⟩ := F
  intro H locs ls hH hS hl
  exact lv_icmp_eq hx hb hd ht (fun h => kt h H locs ls hH hS hl) (fun h => kf (by first | exact h | exact fun q => q h) H locs ls hH hS hl)
theorem a_if_ne (F : Fm X cc own rt fr lo nL) {x : Int32} {off : Int} {tgt : Nat} (hd : decode cc pc = .ok (.ifCond .ne off, 3)) (ht : (pc : Int) + off = (tgt : Int)) (kt : x ≠ 0 → WA X ce sl tgt lv st μ Q) (kf : ¬ (x ≠ 0) → WA X ce sl (pc + 3) lv st μ Q) : WA X ce sl pc lv (.int x :: st) μ Q := by
  obtain ⟨p, l, e, R, s, m, args, below, meth, c, G, nn⟩ := X
  obtain ⟨hx, hb, hml, hown, hts, hK, hA, hO, hsz, hr, hlk, hfr, hlo, hn, hfl, hNW⟩ := F
  intro H locs ls hH hS hl
  exact lv_if_ne hx hb hd ht (fun h => kt h H locs ls hH hS hl) (fun h => kf (by first | exact h | exact fun q => q h) H locs ls hH hS hl)
theorem a_icmp_ne (F : Fm X cc own rt fr lo nL) {x y : Int32} {off : Int} {tgt : Nat} (hd : decode cc pc = .ok (.if_icmp .ne off, 3)) (ht : (pc : Int) + off = (tgt : Int)) (kt : x ≠ y → WA X ce sl tgt lv st μ Q) (kf : ¬ (x ≠ y) → WA X ce sl (pc + 3) lv st μ Q) : WA X ce sl pc lv (.int y :: .int x :: st) μ Q := by
  obtain ⟨p, l, e, R, s, m, args, below, meth, c, G, nn⟩ := X
  obtain ⟨hx, hb, hml, hown, hts, hK, hA, hO, hsz, hr, hlk, hfr, hlo, hn, hfl, hNW⟩ := F
  intro H locs ls hH hS hl
  exact lv_icmp_ne hx hb hd ht (fun h => kt h H locs ls hH hS hl) (fun h => kf (by first | exact h | exact fun q => q h) H locs ls hH hS hl)
theorem a_if_lt (F : Fm X cc own rt fr lo nL) {x : Int32} {off : Int} {tgt : Nat} (hd : decode cc pc = .ok (.ifCond .lt off, 3)) (ht : (pc : Int) + off = (tgt : Int)) (kt : x < 0 → WA X ce sl tgt lv st μ Q) (kf : ¬ (x < 0) → WA X ce sl (pc + 3) lv st μ Q) : WA X ce sl pc lv (.int x :: st) μ Q := by
  obtain ⟨p, l, e, R, s, m, args, below, meth, c, G, nn⟩ := X
  obtain ⟨hx, hb, hml, hown, hts, hK, hA, hO, hsz, hr, hlk, hfr, hlo, hn, hfl, hNW⟩ := F
  intro H locs ls hH hS hl
  exact lv_if_lt hx hb hd ht (fun h => kt h H locs ls hH hS hl) (fun h => kf (by first | exact h | exact fun q => q h) H locs ls hH hS hl)
theorem a_icmp_lt (F : Fm X cc own rt fr lo nL) {x y : Int32} {off : Int} {tgt : Nat} (hd : decode cc pc = .ok (.if_icmp .lt off, 3)) (ht : (pc : Int) + off = (tgt : Int)) (kt : x < y → WA X ce sl tgt lv st μ Q) (kf : ¬ (x < y) → WA X ce sl (pc + 3) lv st μ Q) : WA X ce sl pc lv (.int y :: .int x :: st) μ Q := by
  obtain ⟨p, l, e, R, s, m, args, below, meth, c, G, nn⟩ := X
  obtain ⟨hx, hb, hml, hown, hts, hK, hA, hO, hsz, hr, hlk, hfr, hlo, hn, hfl, hNW⟩ := F
  intro H locs ls hH hS hl
  exact lv_icmp_lt hx hb hd ht (fun h => kt h H locs ls hH hS hl) (fun h => kf (by first | exact h | exact fun q => q h) H locs ls hH hS hl)
theorem a_if_ge (F : Fm X cc own rt fr lo nL) {x : Int32} {off : Int} {tgt : Nat} (hd : decode cc pc = .ok (.ifCond .ge off, 3)) (ht : (pc : Int) + off = (tgt : Int)) (kt : 0 ≤ x → WA X ce sl tgt lv st μ Q) (kf : ¬ (0 ≤ x) → WA X ce sl (pc + 3) lv st μ Q) : WA X ce sl pc lv (.int x :: st) μ Q := by
  obtain ⟨p, l, e, R, s, m, args, below, meth, c, G, nn⟩ := X
  obtain ⟨hx, hb, hml, hown, hts, hK, hA, hO, hsz, hr, hlk, hfr, hlo, hn, hfl, hNW⟩ := F
  intro H locs ls hH hS hl
  exact lv_if_ge hx hb hd ht (fun h => kt h H locs ls hH hS hl) (fun h => kf (by first | exact h | exact fun q => q h) H locs ls hH hS hl)
theorem a_icmp_ge (F : Fm X cc own rt fr lo nL) {x y : Int32} {off : Int} {tgt : Nat} (hd : decode cc pc = .ok (.if_icmp .ge off, 3)) (ht : (pc : Int) + off = (tgt : Int)) (kt : y ≤ x → WA X ce sl tgt lv st μ Q) (kf : ¬ (y ≤ x) → WA X ce sl (pc + 3) lv st μ Q) : WA X ce sl pc lv (.int y :: .int x :: st) μ Q := by
  obtain ⟨p, l, e, R, s, m, args, below, meth, c, G, nn⟩ := X
  obtain ⟨hx, hb, hml, hown, hts, hK, hA, hO, hsz, hr, hlk, hfr, hlo, hn, hfl, hNW⟩ := F
  intro H locs ls hH hS hl
  exact lv_icmp_ge hx hb hd ht (fun h => kt h H locs ls hH hS hl) (fun h => kf (by first | exact h | exact fun q => q h) H locs ls hH hS hl)
theorem a_if_gt (F : Fm X cc own rt fr lo nL) {x : Int32} {off : Int} {tgt : Nat} (hd : decode cc pc = .ok (.ifCond .gt off, 3)) (ht : (pc : Int) + off = (tgt : Int)) (kt : 0 < x → WA X ce sl tgt lv st μ Q) (kf : ¬ (0 < x) → WA X ce sl (pc + 3) lv st μ Q) : WA X ce sl pc lv (.int x :: st) μ Q := by
  obtain ⟨p, l, e, R, s, m, args, below, meth, c, G, nn⟩ := X
  obtain ⟨hx, hb, hml, hown, hts, hK, hA, hO, hsz, hr, hlk, hfr, hlo, hn, hfl, hNW⟩ := F
  intro H locs ls hH hS hl
  exact lv_if_gt hx hb hd ht (fun h => kt h H locs ls hH hS hl) (fun h => kf (by first | exact h | exact fun q => q h) H locs ls hH hS hl)
theorem a_icmp_gt (F : Fm X cc own rt fr lo nL) {x y : Int32} {off : Int} {tgt : Nat} (hd : decode cc pc = .ok (.if_icmp .gt off, 3)) (ht : (pc : Int) + off = (tgt : Int)) (kt : y < x → WA X ce sl tgt lv st μ Q) (kf : ¬ (y < x) → WA X ce sl (pc + 3) lv st μ Q) : WA X ce sl pc lv (.int y :: .int x :: st) μ Q := by
  obtain ⟨p, l, e, R, s, m, args, below, meth, c, G, nn⟩ := X
  obtain ⟨hx, hb, hml, hown, hts, hK, hA, hO, hsz, hr, hlk, hfr, hlo, hn, hfl, hNW⟩ := F
  intro H locs ls hH hS hl
  exact lv_icmp_gt hx hb hd ht (fun h => kt h H locs ls hH hS hl) (fun h => kf (by first | exact h | exact fun q => q h) H locs ls hH hS hl)
theorem a_if_le (F : Fm X cc own rt fr lo nL) {x : Int32} {off : Int} {tgt : Nat} (hd : decode cc pc = .ok (.ifCond .le off, 3)) (ht : (pc : Int) + off = (tgt : Int)) (kt : x ≤ 0 → WA X ce sl tgt lv st μ Q) (kf : ¬ (x ≤ 0) → WA X ce sl (pc + 3) lv st μ Q) : WA X ce sl pc lv (.int x :: st) μ Q := by
  obtain ⟨p, l, e, R, s, m, args, below, meth, c, G, nn⟩ := X
  obtain ⟨hx, hb, hml, hown, hts, hK, hA, hO, hsz, hr, hlk, hfr, hlo, hn, hfl, hNW⟩ := F
  intro H locs ls hH hS hl
  exact lv_if_le hx hb hd ht (fun h => kt h H locs ls hH hS hl) (fun h => kf (by first | exact h | exact fun q => q h) H locs ls hH hS hl)
theorem a_icmp_le (F : Fm X cc own rt fr lo nL) {x y : Int32} {off : Int} {tgt : Nat} (hd : decode cc pc = .ok (.if_icmp .le off, 3)) (ht : (pc : Int) + off = (tgt : Int)) (kt : x ≤ y → WA X ce sl tgt lv st μ Q) (kf : ¬ (x ≤ y) → WA X ce sl (pc + 3) lv st μ Q) : WA X ce sl pc lv (.int y :: .int x :: st) μ Q := by
  obtain ⟨p, l, e, R, s, m, args, below, meth, c, G, nn⟩ := X
  obtain ⟨hx, hb, hml, hown, hts, hK, hA, hO, hsz, hr, hlk, hfr, hlo, hn, hfl, hNW⟩ := F
  intro H locs ls hH hS hl
  exact lv_icmp_le hx hb hd ht (fun h => kt h H locs ls hH hS hl) (fun h => kf (by first | exact h | exact fun q => q h) H locs ls hH hS hl)
theorem a_goto (F : Fm X cc own rt fr lo nL) {off : Int} {tgt : Nat} (hd : decode cc pc = .ok (.goto off, 3)) (ht : (pc : Int) + off = (tgt : Int)) (K : WA X ce sl tgt lv st μ Q) : WA X ce sl pc lv st μ Q := by
  obtain ⟨p, l, e, R, s, m, args, below, meth, c, G, nn⟩ := X
  obtain ⟨hx, hb, hml, hown, hts, hK, hA, hO, hsz, hr, hlk, hfr, hlo, hn, hfl, hNW⟩ := F
  intro H locs ls hH hS hl
  exact lv_goto hx hb hd ht (K H locs ls hH hS hl)
theorem a_ifnull (F : Fm X cc own rt fr lo nL) {a : Nat} {off : Int} (hd : decode cc pc = .ok (.ifnull off, 3)) (K : WA X ce sl (pc + 3) lv st μ Q) : WA X ce sl pc lv (.ref a :: st) μ Q := by
  obtain ⟨p, l, e, R, s, m, args, below, meth, c, G, nn⟩ := X
  obtain ⟨hx, hb, hml, hown, hts, hK, hA, hO, hsz, hr, hlk, hfr, hlo, hn, hfl, hNW⟩ := F
  intro H locs ls hH hS hl
  exact lv_ifnull hx hb hd (K H locs ls hH hS hl)
theorem a_ifnonnull (F : Fm X cc own rt fr lo nL) {a : Nat} {off : Int} {tgt : Nat} (hd : decode cc pc = .ok (.ifnonnull off, 3)) (ht : (pc : Int) + off = (tgt : Int)) (K : WA X ce sl tgt lv st μ Q) : WA X ce sl pc lv (.ref a :: st) μ Q := by
  obtain ⟨p, l, e, R, s, m, args, below, meth, c, G, nn⟩ := X
  obtain ⟨hx, hb, hml, hown, hts, hK, hA, hO, hsz, hr, hlk, hfr, hlo, hn, hfl, hNW⟩ := F
  intro H locs ls hH hS hl
  exact lv_ifnonnull hx hb hd ht (K H locs ls hH hS hl)
theorem a_swin (F : Fm X cc own rt fr lo nL) {dflt lw hi : Int} {offs : Array Int} {len : Nat} {x : Int32} {off : Int} {tgt : Nat} (hd : decode cc pc = .ok (.tableswitch dflt lw hi offs, len)) (h1 : ¬ x.toInt < lw) (h2 : ¬ hi < x.toInt) (ho : offs[(x.toInt - lw).toNat]? = some off) (ht : (pc : Int) + off = (tgt : Int)) (K : WA X ce sl tgt lv st μ Q) : WA X ce sl pc lv (.int x :: st) μ Q := by
  obtain ⟨p, l, e, R, s, m, args, below, meth, c, G, nn⟩ := X
  obtain ⟨hx, hb, hml, hown, hts, hK, hA, hO, hsz, hr, hlk, hfr, hlo, hn, hfl, hNW⟩ := F
  intro H locs ls hH hS hl
  exact lv_tableIn hx hb hd h1 h2 ho ht (K H locs ls hH hS hl)
theorem a_swout (F : Fm X cc own rt fr lo nL) {dflt lw hi : Int} {offs : Array Int} {len : Nat} {x : Int32} {tgt : Nat} (hd : decode cc pc = .ok (.tableswitch dflt lw hi offs, len)) (h : x.toInt < lw ∨ hi < x.toInt) (ht : (pc : Int) + dflt = (tgt : Int)) (K : WA X ce sl tgt lv st μ Q) : WA X ce sl pc lv (.int x :: st) μ Q := by
  obtain ⟨p, l, e, R, s, m, args, below, meth, c, G, nn⟩ := X
  obtain ⟨hx, hb, hml, hown, hts, hK, hA, hO, hsz, hr, hlk, hfr, hlo, hn, hfl, hNW⟩ := F
  intro H locs ls hH hS hl
  exact lv_tableOut hx hb hd h ht (K H locs ls hH hS hl)
theorem a_lv (F : Fm X cc own rt fr lo nL) {lv' : List (Nat × Value)} (ks : List Nat) (hl' : lv_pick lv ks = lv') (K : WA X ce sl pc lv' st μ Q) : WA X ce sl pc lv st μ Q := by
  obtain ⟨p, l, e, R, s, m, args, below, meth, c, G, nn⟩ := X
  obtain ⟨hx, hb, hml, hown, hts, hK, hA, hO, hsz, hr, hlk, hfr, hlo, hn, hfl, hNW⟩ := F
  intro H locs ls hH hS hl
  exact K H locs ls hH hS (lv_sub hl ks hl')
/-- a field's link: which place of which class -/
def FL (own : String) (ix ci j : Nat) : Prop := ∃ (C : String) (T : u_T) (N : Nat), vwCl[ci]? = some (C, T, N) ∧ (∀ w ∈ u_ws C T N, w ∈ lw_all) ∧ j < N ∧ Cond.fieldLink own ix (T j).1 (T j).2.1 (T j).2.2.1 ∈ lw_all
theorem a_geti (F : Fm X cc own rt fr lo nL) {ix ci j k : Nat} {ds : List Nat} (hd : decode cc pc = .ok (.getfield ix, 3)) (hf : FL own ix ci j) (hk : k < NC) (hs : shp k = .inl (ci, ds)) (hj : ds[j]? = some 0) (K : WA X ce sl (pc + 3) lv (.int (μ.1 k j) :: st) μ Q) : WA X ce sl pc lv (.ref (ga X.G k) :: st) μ Q := by
  obtain ⟨p, l, e, R, s, m, args, below, meth, c, G, nn⟩ := X
  obtain ⟨hx, hb, hml, hown, hts, hK, hA, hO, hsz, hr, hlk, hfr, hlo, hn, hfl, hNW⟩ := F
  intro H locs ls hH hS hl
  obtain ⟨C, T, N, h1, h2, h3, h4⟩ := hf
  exact va_get hx hb hts h2 hown hK (wsl_P hH) k (wsl_obj hk hs) h1 j h3 (hts _ h4) (fun _ h => h) ((fvs_get _ _ _ _ 0 j 0 hj).trans (by rw [Nat.zero_add]; rfl)) hd (K H locs ls hH hS hl)
theorem a_getl (F : Fm X cc own rt fr lo nL) {ix ci j k : Nat} {ds : List Nat} (hd : decode cc pc = .ok (.getfield ix, 3)) (hf : FL own ix ci j) (hk : k < NC) (hs : shp k = .inl (ci, ds)) (hj : ds[j]? = some 1) (K : WA X ce sl (pc + 3) lv (.long (μ.2 k j) :: st) μ Q) : WA X ce sl pc lv (.ref (ga X.G k) :: st) μ Q := by
  obtain ⟨p, l, e, R, s, m, args, below, meth, c, G, nn⟩ := X
  obtain ⟨hx, hb, hml, hown, hts, hK, hA, hO, hsz, hr, hlk, hfr, hlo, hn, hfl, hNW⟩ := F
  intro H locs ls hH hS hl
  obtain ⟨C, T, N, h1, h2, h3, h4⟩ := hf
  exact va_get hx hb hts h2 hown hK (wsl_P hH) k (wsl_obj hk hs) h1 j h3 (hts _ h4) (fun _ h => h) ((fvs_get _ _ _ _ 0 j 1 hj).trans (by rw [Nat.zero_add]; rfl)) hd (K H locs ls hH hS hl)
theorem a_getr (F : Fm X cc own rt fr lo nL) {ix ci j k r : Nat} {ds : List Nat} (hd : decode cc pc = .ok (.getfield ix, 3)) (hf : FL own ix ci j) (hk : k < NC) (hs : shp k = .inl (ci, ds)) (hj : ds[j]? = some (r + 2)) (K : WA X ce sl (pc + 3) lv (.ref (ga X.G r) :: st) μ Q) : WA X ce sl pc lv (.ref (ga X.G k) :: st) μ Q := by
  obtain ⟨p, l, e, R, s, m, args, below, meth, c, G, nn⟩ := X
  obtain ⟨hx, hb, hml, hown, hts, hK, hA, hO, hsz, hr, hlk, hfr, hlo, hn, hfl, hNW⟩ := F
  intro H locs ls hH hS hl
  obtain ⟨C, T, N, h1, h2, h3, h4⟩ := hf
  exact va_get hx hb hts h2 hown hK (wsl_P hH) k (wsl_obj hk hs) h1 j h3 (hts _ h4) (fun _ h => h) (fvs_get _ _ _ _ 0 j (r + 2) hj) hd (K H locs ls hH hS hl)
def FP (own : String) (ix ci j : Nat) (ty : FieldType) : Prop := ∃ (C : String) (T : u_T) (N : Nat) (t0 : Nat → FieldType), vwCl[ci]? = some (C, T, N) ∧ (∀ w ∈ u_ws C T N, w ∈ lw_all) ∧ j < N ∧ Cond.fieldLink own ix (T j).1 (T j).2.1 (T j).2.2.1 ∈ lw_all ∧ (∀ k, k < N → parseFieldDescriptor (T k).2.2.1 = some (t0 k)) ∧ (∀ a, a < N → ∀ b, b < N → a ≠ b → (T a).2.1 ≠ (T b).2.1) ∧ (T j).2.2.2 = false ∧ parseFieldDescriptor (T j).2.2.1 = some ty
theorem a_puti (F : Fm X cc own rt fr lo nL) {ix ci j k : Nat} {ds : List Nat} {x : Int32} (hd : decode cc pc = .ok (.putfield ix, 3)) (hf : FP own ix ci j .int) (hk : k < NC) (hs : shp k = .inl (ci, ds)) (hj : ds[j]? = some 0) (K : WA X ce sl (pc + 3) lv st (si μ k j x) Q) : WA X ce sl pc lv (.int x :: .ref (ga X.G k) :: st) μ Q := by
  obtain ⟨p, l, e, R, s, m, args, below, meth, c, G, nn⟩ := X
  obtain ⟨hx, hb, hml, hown, hts, hK, hA, hO, hsz, hr, hlk, hfr, hlo, hn, hfl, hNW⟩ := F
  intro H locs ls hH hS hl
  obtain ⟨C, T, N, t0, h1, h2, h3, h4, h5, h6, h7, h8⟩ := hf
  refine va_put hx hb hts h2 t0 h5 h6 hown hK (wsl_P hH) (wsl_D hA) hS k (wsl_obj hk hs) h1 j h3 (hts _ h4) (fun _ h => h) h7 (ty := .int) (v := .int x) h8 rfl rfl (by rw [fvs_length]; exact (List.getElem?_eq_some_iff.mp hj).1) hd (fun H1 locs1 hP1 hD1 hS1 => ?_)
  have e := wsl_set (G := G) (μ := μ) (μ' := si μ k j x) (k := k) (x := .inr (ci, (fvs (ga G) (μ.1 k) (μ.2 k) 0 ds).set j (.int x))) (by rw [cel_o hs, fvs_seti _ _ _ _ _ _ _ hj, si_eq, Nat.zero_add]; rfl) (fun a ha => si_ne ha) (fun a ha => rfl)
  rw [e] at hP1
  exact K H1 locs1 ls (P_wsl hP1) hS1 hl
theorem a_putl (F : Fm X cc own rt fr lo nL) {ix ci j k : Nat} {ds : List Nat} {x : Int64} (hd : decode cc pc = .ok (.putfield ix, 3)) (hf : FP own ix ci j .long) (hk : k < NC) (hs : shp k = .inl (ci, ds)) (hj : ds[j]? = some 1) (K : WA X ce sl (pc + 3) lv st (slm μ k j x) Q) : WA X ce sl pc lv (.long x :: .ref (ga X.G k) :: st) μ Q := by
  obtain ⟨p, l, e, R, s, m, args, below, meth, c, G, nn⟩ := X
  obtain ⟨hx, hb, hml, hown, hts, hK, hA, hO, hsz, hr, hlk, hfr, hlo, hn, hfl, hNW⟩ := F
  intro H locs ls hH hS hl
  obtain ⟨C, T, N, t0, h1, h2, h3, h4, h5, h6, h7, h8⟩ := hf
  refine va_put hx hb hts h2 t0 h5 h6 hown hK (wsl_P hH) (wsl_D hA) hS k (wsl_obj hk hs) h1 j h3 (hts _ h4) (fun _ h => h) h7 (ty := .long) (v := .long x) h8 rfl rfl (by rw [fvs_length]; exact (List.getElem?_eq_some_iff.mp hj).1) hd (fun H1 locs1 hP1 hD1 hS1 => ?_)
  have e := wsl_set (G := G) (μ := μ) (μ' := slm μ k j x) (k := k) (x := .inr (ci, (fvs (ga G) (μ.1 k) (μ.2 k) 0 ds).set j (.long x))) (by rw [cel_o hs, fvs_setl _ _ _ _ _ _ _ hj, sl_eq, Nat.zero_add]; rfl) (fun a ha => rfl) (fun a ha => sl_ne ha)
  rw [e] at hP1
  exact K H1 locs1 ls (P_wsl hP1) hS1 hl
theorem a_ial (F : Fm X cc own rt fr lo nL) {k n : Nat} {i : Int32} (hd : decode cc pc = .ok (.iaload, 1)) (hk : k < NC) (hs : shp k = .inr (0, n)) (hin : vp_in i n) (K : WA X ce sl (pc + 1) lv (.int (μ.1 k i.toNatClampNeg) :: st) μ Q) : WA X ce sl pc lv (.int i :: .ref (ga X.G k) :: st) μ Q := by
  obtain ⟨p, l, e, R, s, m, args, below, meth, c, G, nn⟩ := X
  obtain ⟨hx, hb, hml, hown, hts, hK, hA, hO, hsz, hr, hlk, hfr, hlo, hn, hfl, hNW⟩ := F
  intro H locs ls hH hS hl
  exact va_iald hx hb hK (wsl_P hH) k 0 (wsl_i hk hs) rfl hin hd (K H locs ls hH hS hl)
theorem a_ias (F : Fm X cc own rt fr lo nL) {k n : Nat} {i x : Int32} (hd : decode cc pc = .ok (.iastore, 1)) (hk : k < NC) (hs : shp k = .inr (0, n)) (hin : vp_in i n) (K : WA X ce sl (pc + 1) lv st (si μ k i.toNatClampNeg x) Q) : WA X ce sl pc lv (.int x :: .int i :: .ref (ga X.G k) :: st) μ Q := by
  obtain ⟨p, l, e, R, s, m, args, below, meth, c, G, nn⟩ := X
  obtain ⟨hx, hb, hml, hown, hts, hK, hA, hO, hsz, hr, hlk, hfr, hlo, hn, hfl, hNW⟩ := F
  intro H locs ls hH hS hl
  refine va_iast hx hb hK (wsl_P hH) (wsl_D hA) hS k 0 (wsl_i hk hs) rfl hin hd (fun H1 locs1 hP1 hD1 hS1 => ?_)
  have e := wsl_set (G := G) (μ := μ) (μ' := si μ k i.toNatClampNeg x) (k := k) (x := .inl ((gT G).1, n, .inl (upd (μ.1 k) i.toNatClampNeg x))) (by rw [cel_i hs, si_eq]; rfl) (fun a ha => si_ne ha) (fun a ha => rfl)
  rw [e] at hP1
  exact K H1 locs1 ls (P_wsl hP1) hS1 hl
theorem a_lal (F : Fm X cc own rt fr lo nL) {k n : Nat} {i : Int32} (hd : decode cc pc = .ok (.laload, 1)) (hk : k < NC) (hs : shp k = .inr (2, n)) (hin : vp_in i n) (K : WA X ce sl (pc + 1) lv (.long (μ.2 k i.toNatClampNeg) :: st) μ Q) : WA X ce sl pc lv (.int i :: .ref (ga X.G k) :: st) μ Q := by
  obtain ⟨p, l, e, R, s, m, args, below, meth, c, G, nn⟩ := X
  obtain ⟨hx, hb, hml, hown, hts, hK, hA, hO, hsz, hr, hlk, hfr, hlo, hn, hfl, hNW⟩ := F
  intro H locs ls hH hS hl
  exact va_lald hx hb hK (wsl_P hH) k 2 (wsl_l hk hs) rfl hin hd (K H locs ls hH hS hl)
theorem a_las (F : Fm X cc own rt fr lo nL) {k n : Nat} {i : Int32} {x : Int64} (hd : decode cc pc = .ok (.lastore, 1)) (hk : k < NC) (hs : shp k = .inr (2, n)) (hin : vp_in i n) (K : WA X ce sl (pc + 1) lv st (slm μ k i.toNatClampNeg x) Q) : WA X ce sl pc lv (.long x :: .int i :: .ref (ga X.G k) :: st) μ Q := by
  obtain ⟨p, l, e, R, s, m, args, below, meth, c, G, nn⟩ := X
  obtain ⟨hx, hb, hml, hown, hts, hK, hA, hO, hsz, hr, hlk, hfr, hlo, hn, hfl, hNW⟩ := F
  intro H locs ls hH hS hl
  refine va_last hx hb hK (wsl_P hH) (wsl_D hA) hS k 2 (wsl_l hk hs) rfl hin hd (fun H1 locs1 hP1 hD1 hS1 => ?_)
  have e := wsl_set (G := G) (μ := μ) (μ' := slm μ k i.toNatClampNeg x) (k := k) (x := .inl ((gT G).2.2, n, .inr (.inl (vp_updL (μ.2 k) i.toNatClampNeg x)))) (by rw [cel_l hs, sl_eq]; rfl) (fun a ha => rfl) (fun a ha => sl_ne ha)
  rw [e] at hP1
  exact K H1 locs1 ls (P_wsl hP1) hS1 hl
theorem a_aal (F : Fm X cc own rt fr lo nL) {k n : Nat} {i : Int32} (hd : decode cc pc = .ok (.aaload, 1)) (hk : k < NC) (hs : shp k = .inr (1, n)) (hin : vp_in i n) (K : WA X ce sl (pc + 1) lv (.ref (ga X.G (savedOff i.toNatClampNeg)) :: st) μ Q) : WA X ce sl pc lv (.int i :: .ref (ga X.G k) :: st) μ Q := by
  obtain ⟨p, l, e, R, s, m, args, below, meth, c, G, nn⟩ := X
  obtain ⟨hx, hb, hml, hown, hts, hK, hA, hO, hsz, hr, hlk, hfr, hlo, hn, hfl, hNW⟩ := F
  intro H locs ls hH hS hl
  exact va_aldq hx hb hK (wsl_P hH) k 1 (wsl_q hk hs) rfl hin hd (K H locs ls hH hS hl)
theorem a_alen (F : Fm X cc own rt fr lo nL) {k n : Nat} (hd : decode cc pc = .ok (.arraylength, 1)) (hk : k < NC) (hs : shp k = .inr (0, n)) (K : WA X ce sl (pc + 1) lv (.int (Int32.ofNat n) :: st) μ Q) : WA X ce sl pc lv (.ref (ga X.G k) :: st) μ Q := by
  obtain ⟨p, l, e, R, s, m, args, below, meth, c, G, nn⟩ := X
  obtain ⟨hx, hb, hml, hown, hts, hK, hA, hO, hsz, hr, hlk, hfr, hlo, hn, hfl, hNW⟩ := F
  intro H locs ls hH hS hl
  exact va_alen hx hb hK (wsl_P hH) k 0 (wsl_i hk hs) rfl rfl hd (K H locs ls hH hS hl)
theorem a_gets1 (F : Fm X cc own rt fr lo nL) {ix : Nat} (hd : decode cc pc = .ok (.getstatic ix, 3)) (hw : Cond.fieldLink own ix "CourtRelays" "FIRST_SETTINGS" "[I" ∈ lw_all) (K : WA X ce sl (pc + 3) lv (.ref (ga X.G 200) :: st) μ Q) : WA X ce sl pc lv st μ Q := by
  obtain ⟨p, l, e, R, s, m, args, below, meth, c, G, nn⟩ := X
  obtain ⟨hx, hb, hml, hown, hts, hK, hA, hO, hsz, hr, hlk, hfr, hlo, hn, hfl, hNW⟩ := F
  intro H locs ls hH hS hl
  exact va_gets hx hb hO.1 hS hown (hts _ hw) (fun _ h => h) hd (K H locs ls hH hS hl)
theorem a_gets2 (F : Fm X cc own rt fr lo nL) {ix : Nat} (hd : decode cc pc = .ok (.getstatic ix, 3)) (hw : Cond.fieldLink own ix "CourtRelays" "MOST_OF_SETTINGS" "[I" ∈ lw_all) (K : WA X ce sl (pc + 3) lv (.ref (ga X.G 201) :: st) μ Q) : WA X ce sl pc lv st μ Q := by
  obtain ⟨p, l, e, R, s, m, args, below, meth, c, G, nn⟩ := X
  obtain ⟨hx, hb, hml, hown, hts, hK, hA, hO, hsz, hr, hlk, hfr, hlo, hn, hfl, hNW⟩ := F
  intro H locs ls hH hS hl
  exact va_gets hx hb hO.2.2.1 hS hown (hts _ hw) (fun _ h => h) hd (K H locs ls hH hS hl)
theorem a_len1 (F : Fm X cc own rt fr lo nL) (hd : decode cc pc = .ok (.arraylength, 1)) (K : WA X ce sl (pc + 1) lv (.int 7 :: st) μ Q) : WA X ce sl pc lv (.ref (ga X.G 200) :: st) μ Q := by
  obtain ⟨p, l, e, R, s, m, args, below, meth, c, G, nn⟩ := X
  obtain ⟨hx, hb, hml, hown, hts, hK, hA, hO, hsz, hr, hlk, hfr, hlo, hn, hfl, hNW⟩ := F
  intro H locs ls hH hS hl
  exact va_tlen hx hb hO.2.1 hS rfl hd (K H locs ls hH hS hl)
theorem a_ial2 (F : Fm X cc own rt fr lo nL) {i : Int32} (hd : decode cc pc = .ok (.iaload, 1)) (hin : vp_in i 7) (K : WA X ce sl (pc + 1) lv (.int (fs2 i.toNatClampNeg) :: st) μ Q) : WA X ce sl pc lv (.int i :: .ref (ga X.G 201) :: st) μ Q := by
  obtain ⟨p, l, e, R, s, m, args, below, meth, c, G, nn⟩ := X
  obtain ⟨hx, hb, hml, hown, hts, hK, hA, hO, hsz, hr, hlk, hfr, hlo, hn, hfl, hNW⟩ := F
  intro H locs ls hH hS hl
  exact va_ti hx hb hO.2.2.2.1 hS hin rfl hd (K H locs ls hH hS hl)
theorem a_mmin (F : Fm X cc own rt fr lo nL) {ix : Nat} {x y : Int32} (hd : decode cc pc = .ok (.invokestatic ix, 3)) (hw : Cond.methodLink own ix Lib.Math.min.name ∈ lw_all ∧ Cond.static Lib.Math.min.name ∈ lw_all ∧ Cond.initialized "java/lang/Math" ∈ lw_all ∧ Cond.code Lib.Math.min.name Lib.Math.min.code 2 (some .int) ∈ lw_all) (h1 : 1 ≤ fr) (h2 : (st.map fun v => v.category).sum + 13 ≤ lo) (h3 : ce = 0) (h4 : sl = 0) (K : WA X ce sl (pc + 3) lv (.int (if y < x then y else x) :: st) μ Q) : WA X ce sl pc lv (.int y :: .int x :: st) μ Q := by
  obtain ⟨p, l, e, R, s, m, args, below, meth, c, G, nn⟩ := X
  obtain ⟨hx, hb, hml, hown, hts, hK, hA, hO, hsz, hr, hlk, hfr, hlo, hn, hfl, hNW⟩ := F
  intro H locs ls hH hS hl
  subst h3; subst h4
  exact va_mmin hx hb (by rw [hml, hl.1, hn]) hown (hts _ hw.1) (hts _ hw.2.1) (hts _ hw.2.2.1) (hts _ hw.2.2.2) (by omega) (by omega) (Nat.zero_le _) (Nat.zero_le _) hd (K H locs ls hH hS hl)
theorem a_mmax (F : Fm X cc own rt fr lo nL) {ix : Nat} {x y : Int32} (hd : decode cc pc = .ok (.invokestatic ix, 3)) (hw : Cond.methodLink own ix Lib.Math.max.name ∈ lw_all ∧ Cond.static Lib.Math.max.name ∈ lw_all ∧ Cond.initialized "java/lang/Math" ∈ lw_all ∧ Cond.code Lib.Math.max.name Lib.Math.max.code 2 (some .int) ∈ lw_all) (h1 : 1 ≤ fr) (h2 : (st.map fun v => v.category).sum + 13 ≤ lo) (h3 : ce = 0) (h4 : sl = 0) (K : WA X ce sl (pc + 3) lv (.int (if x < y then y else x) :: st) μ Q) : WA X ce sl pc lv (.int y :: .int x :: st) μ Q := by
  obtain ⟨p, l, e, R, s, m, args, below, meth, c, G, nn⟩ := X
  obtain ⟨hx, hb, hml, hown, hts, hK, hA, hO, hsz, hr, hlk, hfr, hlo, hn, hfl, hNW⟩ := F
  intro H locs ls hH hS hl
  subst h3; subst h4
  exact va_mmax hx hb (by rw [hml, hl.1, hn]) hown (hts _ hw.1) (hts _ hw.2.1) (hts _ hw.2.2.1) (hts _ hw.2.2.2) (by omega) (by omega) (Nat.zero_le _) (Nat.zero_le _) hd (K H locs ls hH hS hl)
theorem a_rawbits (F : Fm X cc own rt fr lo nL) {ix : Nat} {b : UInt64} (hd : decode cc pc = .ok (.invokestatic ix, 3)) (hw : Cond.methodLink own ix ⟨"java/lang/Double", "doubleToRawLongBits", "(D)J"⟩ ∈ lw_all ∧ Cond.native ⟨"java/lang/Double", "doubleToRawLongBits", "(D)J"⟩ ∈ lw_all ∧ Cond.static ⟨"java/lang/Double", "doubleToRawLongBits", "(D)J"⟩ ∈ lw_all ∧ Cond.initialized "java/lang/Double" ∈ lw_all) (h1 : 1 ≤ fr) (h2 : (st.map fun v => v.category).sum + 15 ≤ lo) (K : WA X ce sl (pc + 3) lv (.long b.toInt64 :: st) μ Q) : WA X ce sl pc lv (.double b :: st) μ Q := by
  obtain ⟨p, l, e, R, s, m, args, below, meth, c, G, nn⟩ := X
  obtain ⟨hx, hb, hml, hown, hts, hK, hA, hO, hsz, hr, hlk, hfr, hlo, hn, hfl, hNW⟩ := F
  intro H locs ls hH hS hl
  exact vn_d2l hx hb (by rw [hml, hl.1, hn]) hown (hts _ hw.1) (hts _ hw.2.1) (hts _ hw.2.2.1) (hts _ hw.2.2.2) (by omega) (by omega) hd (K H locs ls hH hS hl)
/-- System.arraycopy between two rows of ints of ours -/
theorem a_copy (F : Fm X cc own rt fr lo nL) {ix k0 k1 n0 n1 : Nat} {sp dp n : Int32} (hd : decode cc pc = .ok (.invokestatic ix, 3)) (hw : Cond.methodLink own ix arraycopyName ∈ lw_all ∧ Cond.native arraycopyName ∈ lw_all ∧ Cond.static arraycopyName ∈ lw_all ∧ Cond.initialized "java/lang/System" ∈ lw_all) (hk0 : k0 < NC) (hs0 : shp k0 = .inr (0, n0)) (hk1 : k1 < NC) (hs1 : shp k1 = .inr (0, n1)) (g1 : ¬ sp < 0) (g2 : ¬ dp < 0) (g3 : ¬ n < 0) (g4 : sp.toNatClampNeg + n.toNatClampNeg ≤ n0) (g5 : dp.toNatClampNeg + n.toNatClampNeg ≤ n1) (h1 : 1 ≤ fr) (h2 : (st.map fun v => v.category).sum + (nativeFrameWords "java/lang/System" "arraycopy" 5 + 11) ≤ lo)
    (K : WA X ce sl (pc + 3) lv st (sa μ k1 (va_cpy (μ.1 k0) (μ.1 k1) sp.toNatClampNeg dp.toNatClampNeg n.toNatClampNeg)) Q) : WA X ce sl pc lv (.int n :: .int dp :: .ref (ga X.G k1) :: .int sp :: .ref (ga X.G k0) :: st) μ Q := by
  obtain ⟨p, l, e, R, s, m, args, below, meth, c, G, nn⟩ := X
  obtain ⟨hx, hb, hml, hown, hts, hK, hA, hO, hsz, hr, hlk, hfr, hlo, hn, hfl, hNW⟩ := F
  intro H locs ls hH hS hl
  refine va_copyi hx hb (by rw [hml, hl.1, hn]) hown (hts _ hw.1) (hts _ hw.2.1) (hts _ hw.2.2.1) (hts _ hw.2.2.2) hK (wsl_P hH) (wsl_D hA) hS k0 k1 0 0 (wsl_i hk0 hs0) (wsl_i hk1 hs1) rfl rfl (ty := .int) rfl g1 g2 g3 g4 g5 (fun i hi => rfl) (by omega) (by omega) hd (fun H1 locs1 hP1 hD1 hS1 => ?_)
  have e := wsl_set (G := G) (μ := μ) (μ' := sa μ k1 (va_cpy (μ.1 k0) (μ.1 k1) sp.toNatClampNeg dp.toNatClampNeg n.toNatClampNeg)) (k := k1) (x := .inl ((gT G).1, n1, .inl (va_cpy (μ.1 k0) (μ.1 k1) sp.toNatClampNeg dp.toNatClampNeg n.toNatClampNeg))) (by rw [cel_i hs1]; simp [sa]) (fun a ha => by simp [sa, ha]) (fun a ha => rfl)
  rw [e] at hP1
  exact K H1 locs1 ls (P_wsl hP1) hS1 hl
theorem a_nm {α : Sort _} {e : α} {P : α → Prop} (K : ∀ x, x = e → P x) : P e := K e rfl
/-- the ends of a method -/
theorem a_iret (F : Fm X cc own rt fr lo nL) {v : Int32} (hd : decode cc pc = .ok (.ireturn, 1)) (hrt : ∃ ty, rt = some ty ∧ narrow ty (.int v) = .int v) : WA X 0 0 pc lv [.int v] μ (EQ X (some (.int v)) μ) := by
  obtain ⟨p, l, e, R, s, m, args, below, meth, c, G, nn⟩ := X
  obtain ⟨hx, hb, hml, hown, hts, hK, hA, hO, hsz, hr, hlk, hfr, hlo, hn, hfl, hNW⟩ := F
  intro H locs ls hH hS hl
  obtain ⟨ty, e1, e2⟩ := hrt
  exact W.zret hx hb (hr.trans e1) e2 (fun t ht hW => ⟨rfl, by rw [ht]; exact hH, hS.F ht⟩) hS.2.2 hd hlk
theorem a_lret (F : Fm X cc own rt fr lo nL) {v : Int64} (hd : decode cc pc = .ok (.lreturn, 1)) (hrt : rt = some .long) : WA X 0 0 pc lv [.long v] μ (EQ X (some (.long v)) μ) := by
  obtain ⟨p, l, e, R, s, m, args, below, meth, c, G, nn⟩ := X
  obtain ⟨hx, hb, hml, hown, hts, hK, hA, hO, hsz, hr, hlk, hfr, hlo, hn, hfl, hNW⟩ := F
  intro H locs ls hH hS hl
  exact W.lret hx hb (hr.trans hrt) (fun t ht hW => ⟨rfl, by rw [ht]; exact hH, hS.F ht⟩) hS.2.2 hd hlk
theorem a_dret (F : Fm X cc own rt fr lo nL) {v : UInt64} (hd : decode cc pc = .ok (.dreturn, 1)) (hrt : rt = some .double) : WA X 0 0 pc lv [.double v] μ (EQ X (some (.double v)) μ) := by
  obtain ⟨p, l, e, R, s, m, args, below, meth, c, G, nn⟩ := X
  obtain ⟨hx, hb, hml, hown, hts, hK, hA, hO, hsz, hr, hlk, hfr, hlo, hn, hfl, hNW⟩ := F
  intro H locs ls hH hS hl
  exact W.dret hx hb (hr.trans hrt) (fun t ht hW => ⟨rfl, by rw [ht]; exact hH, hS.F ht⟩) hS.2.2 hd hlk
theorem a_vret (F : Fm X cc own rt fr lo nL) (hd : decode cc pc = .ok (.return_, 1)) (hrt : rt = none) : WA X 0 0 pc lv [] μ (EQ X none μ) := by
  obtain ⟨p, l, e, R, s, m, args, below, meth, c, G, nn⟩ := X
  obtain ⟨hx, hb, hml, hown, hts, hK, hA, hO, hsz, hr, hlk, hfr, hlo, hn, hfl, hNW⟩ := F
  intro H locs ls hH hS hl
  exact W.vret hx hb (hr.trans hrt) (fun t ht hW => ⟨rfl, by rw [ht]; exact hH, hS.F ht⟩) hS.2.2 hd hlk
end ROWS
section CALLS
variable {X : Cx} {cc : ByteArray} {own : String} {rt : Option FieldType} {fr lo nL : Nat} {ce sl pc : Nat} {lv : List (Nat × Value)} {st : List Value} {μ : Mem} {Q : State → Prop}
theorem RU_at {G : GG} {μ : Mem} {s U : State} {H : Heap} {locs : List Loc} (hK : va_K (gD G) vwCl (tysT (gT G)) s) (hA : AD G) (hO : OF G s s.heap) (hsz : G.2.2.2 ≤ s.heap.size) (hNW : NWs s) (hH : HR G μ H) (hS : va_S (gA G) s.heap H locs) (hU : U.heap = H) (hW : s.WarmedH U.vm) : RU G μ U :=
  ⟨by rw [hU]; exact hH, va_K.moved hW.alike hK, hA, by rw [hU]; exact (hO.moved hW.alike).kept (fun a h1 h2 => hS.2.1 a h1 h2), by rw [hU]; exact Nat.le_trans hsz hS.1, NWs.warm hW hNW⟩
theorem RU_blind {vs : List Value} {G : GG} {μ : Mem} : FrameBlind (va_Pc vs (RU G μ)) := fun a U g mk h => ⟨h.1, h.2.1, va_K.moved (u := U) (U := U.calling g mk a) (Vm.Alike.refl U.vm) h.2.2.1, h.2.2.2.1, (OF.moved (u := U) (U := U.calling g mk a) (Vm.Alike.refl U.vm) h.2.2.2.2.1), h.2.2.2.2.2.1, NWs.same (u := U) (U := U.calling g mk a) rfl h.2.2.2.2.2.2⟩
theorem W_run {p : Program} {l : Launch} {e : Env} {R : Room} {s : State} {m : MethodId} {args : Array Value} {below : List Frame} {meth : Method} {c : Code} {H : Heap} {locs : List Loc} {cells slots : Nat} {Q : State → Prop} {pc : Nat} {ls : Array Slot} {rest st0 : List Value} {a : Array Value} {G : GG} {r : Option Value} {μ' : Mem}
    (hr : va_Run p l e R s m args below meth c H locs cells slots 0 0 (F0 m pc ls st0) rest (QR G r μ' a) (gA G)) (hS : va_S (gA G) s.heap H locs)
    (kk : ∀ (H1 : Heap) (locs1 : List Loc), HR G μ' H1 → va_S (gA G) s.heap H1 locs1 → W p l e R s m args below meth c H1 locs1 cells slots Q (F0 m (pc + 3) ls (r.toList ++ rest))) : W p l e R s m args below meth c H locs cells slots Q (F0 m pc ls st0) := by
  intro T hT X
  obtain ⟨v, st₀, t, T', L, h0, X', hL, e1, e2, ⟨hv, hH1, hz, hk⟩, st⟩ := hr T hT X
  cases hv
  rw [h0] at hz hk
  obtain ⟨t2, a1, b1⟩ := kk T'.heap (locs ++ L) (by rw [e1]; exact hH1)
    ⟨Nat.le_trans hS.1 (by rw [e1]; exact hz), fun q h1 h2 => by rw [e1, hk q (Nat.lt_of_lt_of_le h1 hS.1) h2]; exact hS.2.1 q h1 h2, fun q hq => by
      rcases List.mem_append.mp hq with h | h
      · exact hS.2.2 q h
      · exact hL q h⟩ T' rfl X'
  exact ⟨t2, st t2 a1, b1⟩
/-- a call by name of a method of the class C (its code in C itself) -/
def CV (own : String) (ix : Nat) (C : String) (y : MethodName) (cb : ByteArray) (mL : Nat) (ret : Option FieldType) (n : Nat) : Prop :=
  Cond.methodLink own ix y ∈ lw_all ∧ Cond.instanceMethod y ∈ lw_all ∧ Cond.selects C y y ∈ lw_all ∧ Cond.initialized C ∈ lw_all ∧ Cond.code y cb mL ret ∈ lw_all ∧ (y.cls = C ∧ y.cls ≠ "java/lang/invoke/MethodHandle" ∧ y.cls ≠ "java/lang/invoke/VarHandle" ∧ (parseMethodDescriptor y.desc).map (fun d => d.parameters.length) = some n)
theorem CV.good {own : String} {ix : Nat} {C : String} {y : MethodName} {cb : ByteArray} {mL : Nat} {ret : Option FieldType} {n : Nat} (h : CV own ix C y cb mL ret n) : GoodIn lw_all (wsV own ix C y (ws_ y cb mL ret)) := by
  intro w hw
  rcases List.mem_append.mp hw with q | q
  · simp only [List.mem_cons, List.not_mem_nil, or_false] at q
    rcases q with rfl | rfl | rfl | rfl
    · exact ⟨h.1, all_good h.1⟩
    · exact ⟨h.2.1, all_good h.2.1⟩
    · exact ⟨h.2.2.1, all_good h.2.2.1⟩
    · exact ⟨h.2.2.2.1, all_good h.2.2.2.1⟩
  · exact ws_in h.2.2.2.2.1 w q
theorem a_callV (F : Fm X cc own rt fr lo nL) {ix k ci : Nat} {C : String} {y : MethodName} {cb : ByteArray} {mL n : Nat} {ret : Option FieldType} {f2 l2 : Nat} {As : List Value} {vs : GG → List Value} {r : Option Value} {μ' : Mem} {ds : List Nat} (hd : decode cc pc = .ok (.invokevirtual ix, 3)) (hc : Con y cb mL ret f2 l2 vs μ r μ') (hw : CV own ix C y cb mL ret n) (hk : k < NC) (hs : shp k = .inl (ci, ds)) (hci : ∃ (T : u_T) (N : Nat), vwCl[ci]? = some (C, T, N)) (hvs : vs X.G = .ref (ga X.G k) :: As) {st0 : List Value} (hst : st0 = As.reverse ++ .ref (ga X.G k) :: st) (hn : As.length = n) (hrs : (st.map fun v => v.category).sum ≤ 8) (hR : f2 + 1 ≤ fr ∧ 8 + (mL + 11) + l2 ≤ lo)
    (K : WA X ce sl (pc + 3) lv (r.toList ++ st) μ' Q) : ce = 0 → sl = 0 → WA X ce sl pc lv st0 μ Q := by
  intro e1 e2
  subst e1; subst e2
  subst hst
  obtain ⟨p, l, e, R, s, m, args, below, meth, c, G, nn⟩ := X
  obtain ⟨hx, hb, hml, hown, hts, hKK, hA, hO, hsz, hr, hlk, hfr, hlo, hnn, hfl, hNW⟩ := F
  intro H locs ls hH hS hl
  obtain ⟨T, N, hci⟩ := hci
  have hM := hc l hfl G
  rw [show vs G = .ref (ga G k) :: As from hvs] at hM
  have hrv := va_recv (s := s) (H := H) hKK (wsl_P hH) hci (wsl_obj hk hs)
  exact W_run (va_runV (As := As) (rest := st) ⟨hx, hb, hml, hown, hts⟩ hM (cwV n hts hw.good rfl rfl rfl hw.2.2.2.2.2 ⟨Nat.le_trans hR.1 hfr, Nat.le_trans hR.2 hlo⟩) ⟨RU_blind, hrv, fun U hU hW => ⟨rfl, RU_at hKK hA hO hsz hNW hH hS hU hW⟩⟩ rfl hn (by rw [← hnn]; exact hl.1) rfl (lv_room hrs) hd ⟨Nat.zero_le _, Nat.zero_le _⟩) hS (fun H1 locs1 hH1 hS1 => K H1 locs1 ls hH1 hS1 hl)
def CS (own : String) (ix : Nat) (y : MethodName) (cb : ByteArray) (mL : Nat) (ret : Option FieldType) (n : Nat) : Prop :=
  Cond.methodLink own ix y ∈ lw_all ∧ Cond.static y ∈ lw_all ∧ Cond.initialized y.cls ∈ lw_all ∧ Cond.code y cb mL ret ∈ lw_all ∧ (y.cls ≠ "java/lang/invoke/MethodHandle" ∧ y.cls ≠ "java/lang/invoke/VarHandle" ∧ (parseMethodDescriptor y.desc).map (fun d => d.parameters.length) = some n)
theorem CS.good {own : String} {ix : Nat} {y : MethodName} {cb : ByteArray} {mL : Nat} {ret : Option FieldType} {n : Nat} (h : CS own ix y cb mL ret n) : GoodIn lw_all (va_wsS own ix y (ws_ y cb mL ret)) := by
  intro w hw
  rcases List.mem_append.mp hw with q | q
  · simp only [List.mem_cons, List.not_mem_nil, or_false] at q
    rcases q with rfl | rfl | rfl
    · exact ⟨h.1, all_good h.1⟩
    · exact ⟨h.2.1, all_good h.2.1⟩
    · exact ⟨h.2.2.1, all_good h.2.2.1⟩
  · exact ws_in h.2.2.2.1 w q
theorem a_callS (F : Fm X cc own rt fr lo nL) {ix : Nat} {y : MethodName} {cb : ByteArray} {mL n : Nat} {ret : Option FieldType} {f2 l2 : Nat} {As : List Value} {vs : GG → List Value} {r : Option Value} {μ' : Mem} (hd : decode cc pc = .ok (.invokestatic ix, 3)) (hc : Con y cb mL ret f2 l2 vs μ r μ') (hw : CS own ix y cb mL ret n) (hvs : vs X.G = As) {st0 : List Value} (hst : st0 = As.reverse ++ st) (hn : As.length = n) (hrs : (st.map fun v => v.category).sum ≤ 8) (hR : f2 + 1 ≤ fr ∧ 8 + (mL + 11) + l2 ≤ lo)
    (K : WA X ce sl (pc + 3) lv (r.toList ++ st) μ' Q) : ce = 0 → sl = 0 → WA X ce sl pc lv st0 μ Q := by
  intro e1 e2
  subst e1; subst e2
  subst hst
  obtain ⟨p, l, e, R, s, m, args, below, meth, c, G, nn⟩ := X
  obtain ⟨hx, hb, hml, hown, hts, hKK, hA, hO, hsz, hr, hlk, hfr, hlo, hnn, hfl, hNW⟩ := F
  intro H locs ls hH hS hl
  have hM := hc l hfl G
  rw [show vs G = As from hvs] at hM
  exact W_run (va_runS (As := As) (rest := st) ⟨hx, hb, hml, hown, hts⟩ hM (va_cwS n hts hw.good rfl rfl rfl hw.2.2.2.2 ⟨Nat.le_trans hR.1 hfr, Nat.le_trans hR.2 hlo⟩) ⟨RU_blind, fun U hU hW => ⟨rfl, RU_at hKK hA hO hsz hNW hH hS hU hW⟩⟩ rfl hn (by rw [← hnn]; exact hl.1) rfl (lv_room hrs) hd ⟨Nat.zero_le _, Nat.zero_le _⟩) hS (fun H1 locs1 hH1 hS1 => K H1 locs1 ls hH1 hS1 hl)
/-- a private static of a nest mate -/
def CN (own : String) (ix : Nat) (y : MethodName) (host : String) (cb : ByteArray) (mL : Nat) (ret : Option FieldType) (n : Nat) : Prop :=
  Cond.methodLinkNest own ix y host ∈ nwL ∧ Cond.static y ∈ lw_all ∧ Cond.initialized y.cls ∈ lw_all ∧ Cond.code y cb mL ret ∈ lw_all ∧ (y.cls ≠ "java/lang/invoke/MethodHandle" ∧ y.cls ≠ "java/lang/invoke/VarHandle" ∧ (parseMethodDescriptor y.desc).map (fun d => d.parameters.length) = some n)
theorem a_callSN (F : Fm X cc own rt fr lo nL) {ix : Nat} {y : MethodName} {host : String} {cb : ByteArray} {mL n : Nat} {ret : Option FieldType} {f2 l2 : Nat} {As : List Value} {vs : GG → List Value} {r : Option Value} {μ' : Mem} (hd : decode cc pc = .ok (.invokestatic ix, 3)) (hc : Con y cb mL ret f2 l2 vs μ r μ') (hw : CN own ix y host cb mL ret n) (hvs : vs X.G = As) {st0 : List Value} (hst : st0 = As.reverse ++ st) (hn : As.length = n) (hrs : (st.map fun v => v.category).sum ≤ 8) (hR : f2 + 1 ≤ fr ∧ 8 + (mL + 11) + l2 ≤ lo)
    (K : WA X ce sl (pc + 3) lv (r.toList ++ st) μ' Q) : ce = 0 → sl = 0 → WA X ce sl pc lv st0 μ Q := by
  intro e1 e2
  subst e1; subst e2
  subst hst
  obtain ⟨p, l, e, R, s, m, args, below, meth, c, G, nn⟩ := X
  obtain ⟨hx, hb, hml, hown, hts, hKK, hA, hO, hsz, hr, hlk, hfr, hlo, hnn, hfl, hNW⟩ := F
  intro H locs ls hH hS hl
  have hM := hc l hfl G
  rw [show vs G = As from hvs] at hM
  exact W_run (va_runSN (As := As) (rest := st) ⟨hx, hb, hml, hown, hts⟩ hM ⟨va_cnB n hts (ws_in hw.2.2.2.1) rfl rfl rfl (hNW _ hw.1) (hts _ hw.2.2.1) hw.2.2.2.2 ⟨Nat.le_trans hR.1 hfr, Nat.le_trans hR.2 hlo⟩, hts _ hw.2.1, trivial⟩ ⟨RU_blind, fun U hU hW => ⟨rfl, RU_at hKK hA hO hsz hNW hH hS hU hW⟩⟩ rfl hn (by rw [← hnn]; exact hl.1) rfl (lv_room hrs) hd ⟨Nat.zero_le _, Nat.zero_le _⟩) hS (fun H1 locs1 hH1 hS1 => K H1 locs1 ls hH1 hS1 hl)
end CALLS
end
