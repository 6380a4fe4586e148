theorem inA0 : ∀ w ∈ u_ws RX0 TX0 2, w ∈ lw_all := by decide +kernel
theorem inA1 : ∀ w ∈ u_ws RX1 TX1 11, w ∈ lw_all := by decide +kernel
theorem inA2 : ∀ w ∈ u_ws RX2 TX2 7, w ∈ lw_all := by decide +kernel
theorem inA3 : ∀ w ∈ u_ws RX3 TX3 10, w ∈ lw_all := by decide +kernel
theorem inA4 : ∀ w ∈ u_ws RX4 TX4 3, w ∈ lw_all := by decide +kernel
theorem inA5 : ∀ w ∈ u_ws RX5 TX5 6, w ∈ lw_all := by decide +kernel
theorem inA6 : ∀ w ∈ u_ws RX6 TX6 7, w ∈ lw_all := by decide +kernel
theorem inA7 : ∀ w ∈ u_ws RX7 TX7 6, w ∈ lw_all := by decide +kernel
theorem fl_RX7_10 : FL RX7 10 7 0 := ⟨RX7, TX7, 6, rfl, inA7, by decide, (all_of (List.mem_append_right _ (List.mem_of_getElem? (i := 237) (by decide +kernel))) rfl)⟩
theorem fl_RX7_22 : FL RX7 22 7 2 := ⟨RX7, TX7, 6, rfl, inA7, by decide, (all_of (List.mem_append_right _ (List.mem_of_getElem? (i := 239) (by decide +kernel))) rfl)⟩
theorem fl_RX7_64 : FL RX7 64 2 0 := ⟨RX2, TX2, 7, rfl, inA2, by decide, (all_of (List.mem_append_right _ (List.mem_of_getElem? (i := 129) (by decide +kernel))) rfl)⟩
theorem fl_RX7_68 : FL RX7 68 6 0 := ⟨RX6, TX6, 7, rfl, inA6, by decide, (all_of (List.mem_append_right _ (List.mem_of_getElem? (i := 39) (by decide +kernel))) rfl)⟩
theorem fl_RX7_89 : FL RX7 89 2 1 := ⟨RX2, TX2, 7, rfl, inA2, by decide, (all_of (List.mem_append_right _ (List.mem_of_getElem? (i := 131) (by decide +kernel))) rfl)⟩
theorem fl_RX7_93 : FL RX7 93 3 0 := ⟨RX3, TX3, 10, rfl, inA3, by decide, (all_of (List.mem_append_right _ (List.mem_of_getElem? (i := 77) (by decide +kernel))) rfl)⟩
theorem fl_RX7_98 : FL RX7 98 2 3 := ⟨RX2, TX2, 7, rfl, inA2, by decide, (all_of (List.mem_append_right _ (List.mem_of_getElem? (i := 135) (by decide +kernel))) rfl)⟩
theorem fl_RX7_116 : FL RX7 116 6 2 := ⟨RX6, TX6, 7, rfl, inA6, by decide, (all_of (List.mem_append_right _ (List.mem_of_getElem? (i := 44) (by decide +kernel))) rfl)⟩
theorem fl_RX7_130 : FL RX7 130 2 2 := ⟨RX2, TX2, 7, rfl, inA2, by decide, (all_of (List.mem_append_right _ (List.mem_of_getElem? (i := 133) (by decide +kernel))) rfl)⟩
theorem fl_RX7_164 : FL RX7 164 3 6 := ⟨RX3, TX3, 10, rfl, inA3, by decide, (all_of (List.mem_append_right _ (List.mem_of_getElem? (i := 91) (by decide +kernel))) rfl)⟩
theorem fl_RX7_180 : FL RX7 180 3 3 := ⟨RX3, TX3, 10, rfl, inA3, by decide, (all_of (List.mem_append_right _ (List.mem_of_getElem? (i := 85) (by decide +kernel))) rfl)⟩
theorem fl_RX7_227 : FL RX7 227 4 0 := ⟨RX4, TX4, 3, rfl, inA4, by decide, (all_of (List.mem_append_right _ (List.mem_of_getElem? (i := 164) (by decide +kernel))) rfl)⟩
theorem fl_RX2_12 : FL RX2 12 2 0 := ⟨RX2, TX2, 7, rfl, inA2, by decide, (all_of (List.mem_append_right _ (List.mem_of_getElem? (i := 128) (by decide +kernel))) rfl)⟩
theorem fl_RX2_21 : FL RX2 21 2 1 := ⟨RX2, TX2, 7, rfl, inA2, by decide, (all_of (List.mem_append_right _ (List.mem_of_getElem? (i := 130) (by decide +kernel))) rfl)⟩
theorem fl_RX2_34 : FL RX2 34 2 2 := ⟨RX2, TX2, 7, rfl, inA2, by decide, (all_of (List.mem_append_right _ (List.mem_of_getElem? (i := 132) (by decide +kernel))) rfl)⟩
theorem fl_RX2_50 : FL RX2 50 2 3 := ⟨RX2, TX2, 7, rfl, inA2, by decide, (all_of (List.mem_append_right _ (List.mem_of_getElem? (i := 134) (by decide +kernel))) rfl)⟩
theorem fl_RX2_54 : FL RX2 54 2 4 := ⟨RX2, TX2, 7, rfl, inA2, by decide, (all_of (List.mem_append_right _ (List.mem_of_getElem? (i := 136) (by decide +kernel))) rfl)⟩
theorem fl_RX2_57 : FL RX2 57 2 5 := ⟨RX2, TX2, 7, rfl, inA2, by decide, (all_of (List.mem_append_right _ (List.mem_of_getElem? (i := 137) (by decide +kernel))) rfl)⟩
theorem fl_RX2_60 : FL RX2 60 2 6 := ⟨RX2, TX2, 7, rfl, inA2, by decide, (all_of (List.mem_append_right _ (List.mem_of_getElem? (i := 138) (by decide +kernel))) rfl)⟩
theorem fl_RX2_63 : FL RX2 63 3 3 := ⟨RX3, TX3, 10, rfl, inA3, by decide, (all_of (List.mem_append_right _ (List.mem_of_getElem? (i := 84) (by decide +kernel))) rfl)⟩
theorem fl_RX2_73 : FL RX2 73 3 2 := ⟨RX3, TX3, 10, rfl, inA3, by decide, (all_of (List.mem_append_right _ (List.mem_of_getElem? (i := 82) (by decide +kernel))) rfl)⟩
theorem fl_RX2_84 : FL RX2 84 3 1 := ⟨RX3, TX3, 10, rfl, inA3, by decide, (all_of (List.mem_append_right _ (List.mem_of_getElem? (i := 80) (by decide +kernel))) rfl)⟩
theorem fl_RX2_94 : FL RX2 94 6 0 := ⟨RX6, TX6, 7, rfl, inA6, by decide, (all_of (List.mem_append_right _ (List.mem_of_getElem? (i := 40) (by decide +kernel))) rfl)⟩
theorem fl_RX2_97 : FL RX2 97 6 3 := ⟨RX6, TX6, 7, rfl, inA6, by decide, (all_of (List.mem_append_right _ (List.mem_of_getElem? (i := 47) (by decide +kernel))) rfl)⟩
theorem fl_RX2_100 : FL RX2 100 3 4 := ⟨RX3, TX3, 10, rfl, inA3, by decide, (all_of (List.mem_append_right _ (List.mem_of_getElem? (i := 87) (by decide +kernel))) rfl)⟩
theorem fl_RX2_107 : FL RX2 107 3 6 := ⟨RX3, TX3, 10, rfl, inA3, by decide, (all_of (List.mem_append_right _ (List.mem_of_getElem? (i := 92) (by decide +kernel))) rfl)⟩
theorem fl_RX2_127 : FL RX2 127 3 5 := ⟨RX3, TX3, 10, rfl, inA3, by decide, (all_of (List.mem_append_right _ (List.mem_of_getElem? (i := 89) (by decide +kernel))) rfl)⟩
theorem fl_RX2_130 : FL RX2 130 3 7 := ⟨RX3, TX3, 10, rfl, inA3, by decide, (all_of (List.mem_append_right _ (List.mem_of_getElem? (i := 94) (by decide +kernel))) rfl)⟩
theorem fl_RX2_135 : FL RX2 135 3 0 := ⟨RX3, TX3, 10, rfl, inA3, by decide, (all_of (List.mem_append_right _ (List.mem_of_getElem? (i := 78) (by decide +kernel))) rfl)⟩
theorem fl_RX2_148 : FL RX2 148 3 8 := ⟨RX3, TX3, 10, rfl, inA3, by decide, (all_of (List.mem_append_right _ (List.mem_of_getElem? (i := 96) (by decide +kernel))) rfl)⟩
theorem fl_RX2_167 : FL RX2 167 6 1 := ⟨RX6, TX6, 7, rfl, inA6, by decide, (all_of (List.mem_append_right _ (List.mem_of_getElem? (i := 42) (by decide +kernel))) rfl)⟩
theorem fl_RX2_170 : FL RX2 170 6 2 := ⟨RX6, TX6, 7, rfl, inA6, by decide, (all_of (List.mem_append_right _ (List.mem_of_getElem? (i := 45) (by decide +kernel))) rfl)⟩
theorem fl_RX2_173 : FL RX2 173 6 4 := ⟨RX6, TX6, 7, rfl, inA6, by decide, (all_of (List.mem_append_right _ (List.mem_of_getElem? (i := 49) (by decide +kernel))) rfl)⟩
theorem fl_RX2_176 : FL RX2 176 6 5 := ⟨RX6, TX6, 7, rfl, inA6, by decide, (all_of (List.mem_append_right _ (List.mem_of_getElem? (i := 51) (by decide +kernel))) rfl)⟩
theorem fl_RX2_183 : FL RX2 183 6 6 := ⟨RX6, TX6, 7, rfl, inA6, by decide, (all_of (List.mem_append_right _ (List.mem_of_getElem? (i := 53) (by decide +kernel))) rfl)⟩
theorem fl_RX3_9 : FL RX3 9 3 1 := ⟨RX3, TX3, 10, rfl, inA3, by decide, (all_of (List.mem_append_right _ (List.mem_of_getElem? (i := 79) (by decide +kernel))) rfl)⟩
theorem fl_RX3_15 : FL RX3 15 3 2 := ⟨RX3, TX3, 10, rfl, inA3, by decide, (all_of (List.mem_append_right _ (List.mem_of_getElem? (i := 81) (by decide +kernel))) rfl)⟩
theorem fl_RX3_18 : FL RX3 18 3 3 := ⟨RX3, TX3, 10, rfl, inA3, by decide, (all_of (List.mem_append_right _ (List.mem_of_getElem? (i := 83) (by decide +kernel))) rfl)⟩
theorem fl_RX3_21 : FL RX3 21 3 4 := ⟨RX3, TX3, 10, rfl, inA3, by decide, (all_of (List.mem_append_right _ (List.mem_of_getElem? (i := 86) (by decide +kernel))) rfl)⟩
theorem fl_RX3_24 : FL RX3 24 3 5 := ⟨RX3, TX3, 10, rfl, inA3, by decide, (all_of (List.mem_append_right _ (List.mem_of_getElem? (i := 88) (by decide +kernel))) rfl)⟩
theorem fl_RX3_27 : FL RX3 27 3 6 := ⟨RX3, TX3, 10, rfl, inA3, by decide, (all_of (List.mem_append_right _ (List.mem_of_getElem? (i := 90) (by decide +kernel))) rfl)⟩
theorem fl_RX3_30 : FL RX3 30 3 7 := ⟨RX3, TX3, 10, rfl, inA3, by decide, (all_of (List.mem_append_right _ (List.mem_of_getElem? (i := 93) (by decide +kernel))) rfl)⟩
theorem fl_RX3_33 : FL RX3 33 3 8 := ⟨RX3, TX3, 10, rfl, inA3, by decide, (all_of (List.mem_append_right _ (List.mem_of_getElem? (i := 95) (by decide +kernel))) rfl)⟩
theorem fl_RX3_36 : FL RX3 36 3 9 := ⟨RX3, TX3, 10, rfl, inA3, by decide, (all_of (List.mem_append_right _ (List.mem_of_getElem? (i := 97) (by decide +kernel))) rfl)⟩
theorem fl_RX3_39 : FL RX3 39 3 0 := ⟨RX3, TX3, 10, rfl, inA3, by decide, (all_of (List.mem_append_right _ (List.mem_of_getElem? (i := 76) (by decide +kernel))) rfl)⟩
theorem fl_RX4_11 : FL RX4 11 4 2 := ⟨RX4, TX4, 3, rfl, inA4, by decide, (all_of (List.mem_append_right _ (List.mem_of_getElem? (i := 166) (by decide +kernel))) rfl)⟩
theorem fl_RX4_18 : FL RX4 18 4 1 := ⟨RX4, TX4, 3, rfl, inA4, by decide, (all_of (List.mem_append_right _ (List.mem_of_getElem? (i := 165) (by decide +kernel))) rfl)⟩
theorem fl_RX4_22 : FL RX4 22 4 0 := ⟨RX4, TX4, 3, rfl, inA4, by decide, (all_of (List.mem_append_right _ (List.mem_of_getElem? (i := 163) (by decide +kernel))) rfl)⟩
theorem fl_RX6_9 : FL RX6 9 6 1 := ⟨RX6, TX6, 7, rfl, inA6, by decide, (all_of (List.mem_append_right _ (List.mem_of_getElem? (i := 41) (by decide +kernel))) rfl)⟩
theorem fl_RX6_15 : FL RX6 15 6 2 := ⟨RX6, TX6, 7, rfl, inA6, by decide, (all_of (List.mem_append_right _ (List.mem_of_getElem? (i := 43) (by decide +kernel))) rfl)⟩
theorem fl_RX6_18 : FL RX6 18 6 3 := ⟨RX6, TX6, 7, rfl, inA6, by decide, (all_of (List.mem_append_right _ (List.mem_of_getElem? (i := 46) (by decide +kernel))) rfl)⟩
theorem fl_RX6_21 : FL RX6 21 6 4 := ⟨RX6, TX6, 7, rfl, inA6, by decide, (all_of (List.mem_append_right _ (List.mem_of_getElem? (i := 48) (by decide +kernel))) rfl)⟩
theorem fl_RX6_24 : FL RX6 24 6 5 := ⟨RX6, TX6, 7, rfl, inA6, by decide, (all_of (List.mem_append_right _ (List.mem_of_getElem? (i := 50) (by decide +kernel))) rfl)⟩
theorem fl_RX6_27 : FL RX6 27 6 6 := ⟨RX6, TX6, 7, rfl, inA6, by decide, (all_of (List.mem_append_right _ (List.mem_of_getElem? (i := 52) (by decide +kernel))) rfl)⟩
theorem fl_RX6_30 : FL RX6 30 6 0 := ⟨RX6, TX6, 7, rfl, inA6, by decide, (all_of (List.mem_append_right _ (List.mem_of_getElem? (i := 38) (by decide +kernel))) rfl)⟩
theorem fp_RX2_50 : FP RX2 50 2 3 .int := ⟨RX2, TX2, 7, tyX2, rfl, inA2, by decide, (all_of (List.mem_append_right _ (List.mem_of_getElem? (i := 134) (by decide +kernel))) rfl), tyX2_ok, nmX2, rfl, by decide +kernel⟩
theorem fp_RX2_54 : FP RX2 54 2 4 .int := ⟨RX2, TX2, 7, tyX2, rfl, inA2, by decide, (all_of (List.mem_append_right _ (List.mem_of_getElem? (i := 136) (by decide +kernel))) rfl), tyX2_ok, nmX2, rfl, by decide +kernel⟩
theorem fp_RX2_57 : FP RX2 57 2 5 .int := ⟨RX2, TX2, 7, tyX2, rfl, inA2, by decide, (all_of (List.mem_append_right _ (List.mem_of_getElem? (i := 137) (by decide +kernel))) rfl), tyX2_ok, nmX2, rfl, by decide +kernel⟩
theorem fp_RX2_60 : FP RX2 60 2 6 .int := ⟨RX2, TX2, 7, tyX2, rfl, inA2, by decide, (all_of (List.mem_append_right _ (List.mem_of_getElem? (i := 138) (by decide +kernel))) rfl), tyX2_ok, nmX2, rfl, by decide +kernel⟩
theorem fp_RX3_39 : FP RX3 39 3 0 .int := ⟨RX3, TX3, 10, tyX3, rfl, inA3, by decide, (all_of (List.mem_append_right _ (List.mem_of_getElem? (i := 76) (by decide +kernel))) rfl), tyX3_ok, nmX3, rfl, by decide +kernel⟩
theorem fp_RX4_18 : FP RX4 18 4 1 .int := ⟨RX4, TX4, 3, tyX4, rfl, inA4, by decide, (all_of (List.mem_append_right _ (List.mem_of_getElem? (i := 165) (by decide +kernel))) rfl), tyX4_ok, nmX4, rfl, by decide +kernel⟩
theorem fp_RX4_22 : FP RX4 22 4 0 .int := ⟨RX4, TX4, 3, tyX4, rfl, inA4, by decide, (all_of (List.mem_append_right _ (List.mem_of_getElem? (i := 163) (by decide +kernel))) rfl), tyX4_ok, nmX4, rfl, by decide +kernel⟩
