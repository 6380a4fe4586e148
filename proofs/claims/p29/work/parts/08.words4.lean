set_option maxRecDepth 100000 in
set_option maxHeartbeats 4000000 in
theorem cs_RL_99 : CS RL 99 yL_act cL_act 11 (some Jvm.ClassFile.FieldType.boolean) 7 := ⟨(all_of (List.mem_append_right _ (List.mem_of_getElem? (i := 260) (by decide +kernel))) rfl), (all_of (List.mem_append_right _ (List.mem_of_getElem? (i := 261) (by decide +kernel))) rfl), (all_of (List.mem_append_right _ (List.mem_of_getElem? (i := 0) (by decide +kernel))) rfl), (all_of (List.mem_append_right _ (List.mem_of_getElem? (i := 262) rfl)) rfl), by decide +kernel⟩
set_option maxRecDepth 100000 in
set_option maxHeartbeats 4000000 in
theorem cs_RL_102 : CS RL 102 yL_agree cL_agree 10 (some Jvm.ClassFile.FieldType.boolean) 5 := ⟨(all_of (List.mem_append_right _ (List.mem_of_getElem? (i := 642) (by decide +kernel))) rfl), (all_of (List.mem_append_right _ (List.mem_of_getElem? (i := 643) (by decide +kernel))) rfl), (all_of (List.mem_append_right _ (List.mem_of_getElem? (i := 0) (by decide +kernel))) rfl), (all_of (List.mem_append_right _ (List.mem_of_getElem? (i := 644) rfl)) rfl), by decide +kernel⟩
