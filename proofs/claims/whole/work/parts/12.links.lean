/-! fields, links, callees -/
theorem fl_RX6_9 : jFld RX6 9 6 0 (.array .byte) true := ⟨_, _, _, tyX6, rfl, inX6, tyX6_ok, nmX6, by decide, (jl4_in _ (List.mem_of_getElem? (i := 38) rfl)), by decide +kernel, rfl⟩
theorem fl_RX6_13 : jFld RX6 13 6 1 .int false := ⟨_, _, _, tyX6, rfl, inX6, tyX6_ok, nmX6, by decide, (jl4_in _ (List.mem_of_getElem? (i := 39) rfl)), by decide +kernel, rfl⟩
theorem fl_RX6_17 : jFld RX6 17 6 2 .int false := ⟨_, _, _, tyX6, rfl, inX6, tyX6_ok, nmX6, by decide, (jl5_in _ (List.mem_of_getElem? (i := 0) rfl)), by decide +kernel, rfl⟩
theorem fl_RX6_23 : jFld RX6 23 6 3 (.object "RoundCoracles$Reader") true := ⟨_, _, _, tyX6, rfl, inX6, tyX6_ok, nmX6, by decide, (jl5_in _ (List.mem_of_getElem? (i := 1) rfl)), by decide +kernel, rfl⟩
theorem fl_RX6_30 : jFld RX6 30 6 4 (.object "RoundCoracles$Gorge") false := ⟨_, _, _, tyX6, rfl, inX6, tyX6_ok, nmX6, by decide, (jl5_in _ (List.mem_of_getElem? (i := 2) rfl)), by decide +kernel, rfl⟩
theorem fl_RX6_37 : jFld RX6 37 6 5 (.object "RoundCoracles$Book") true := ⟨_, _, _, tyX6, rfl, inX6, tyX6_ok, nmX6, by decide, (jl5_in _ (List.mem_of_getElem? (i := 3) rfl)), by decide +kernel, rfl⟩
theorem fl_RX6_41 : jFld RX6 41 6 6 (.object "RoundCoracles$Book") true := ⟨_, _, _, tyX6, rfl, inX6, tyX6_ok, nmX6, by decide, (jl5_in _ (List.mem_of_getElem? (i := 4) rfl)), by decide +kernel, rfl⟩
theorem fl_RX6_44 : jFld RX6 44 6 7 .boolean false := ⟨_, _, _, tyX6, rfl, inX6, tyX6_ok, nmX6, by decide, (jl5_in _ (List.mem_of_getElem? (i := 5) rfl)), by decide +kernel, rfl⟩
theorem fl_RX6_51 : jFld RX6 51 6 8 (.object "RoundCoracles$Waters") true := ⟨_, _, _, tyX6, rfl, inX6, tyX6_ok, nmX6, by decide, (jl5_in _ (List.mem_of_getElem? (i := 6) rfl)), by decide +kernel, rfl⟩
theorem fl_RX6_58 : jFld RX6 58 6 9 (.object "RoundCoracles$Panel") true := ⟨_, _, _, tyX6, rfl, inX6, tyX6_ok, nmX6, by decide, (jl5_in _ (List.mem_of_getElem? (i := 7) rfl)), by decide +kernel, rfl⟩
theorem fl_RX6_62 : jFld RX6 62 6 10 (.array .int) true := ⟨_, _, _, tyX6, rfl, inX6, tyX6_ok, nmX6, by decide, (jl5_in _ (List.mem_of_getElem? (i := 8) rfl)), by decide +kernel, rfl⟩
theorem fl_RX6_66 : jFld RX6 66 6 11 (.array .int) true := ⟨_, _, _, tyX6, rfl, inX6, tyX6_ok, nmX6, by decide, (jl5_in _ (List.mem_of_getElem? (i := 9) rfl)), by decide +kernel, rfl⟩
theorem fl_RX6_69 : jFld RX6 69 6 12 (.array .int) true := ⟨_, _, _, tyX6, rfl, inX6, tyX6_ok, nmX6, by decide, (jl5_in _ (List.mem_of_getElem? (i := 10) rfl)), by decide +kernel, rfl⟩
theorem fl_RX6_91 : jFld RX6 91 4 1 .int false := ⟨_, _, _, tyX4, rfl, inX4, tyX4_ok, nmX4, by decide, (jl2_in _ (List.mem_of_getElem? (i := 18) rfl)), by decide +kernel, rfl⟩
theorem fl_RX6_94 : jFld RX6 94 0 1 (.array .int) true := ⟨_, _, _, tyX0, rfl, inX0, tyX0_ok, nmX0, by decide, (jl3_in _ (List.mem_of_getElem? (i := 30) rfl)), by decide +kernel, rfl⟩
theorem fl_RX6_97 : jFld RX6 97 4 0 .int false := ⟨_, _, _, tyX4, rfl, inX4, tyX4_ok, nmX4, by decide, (jl2_in _ (List.mem_of_getElem? (i := 16) rfl)), by decide +kernel, rfl⟩
theorem fl_RX6_104 : jFld RX6 104 1 0 .int false := ⟨_, _, _, tyX1, rfl, inX1, tyX1_ok, nmX1, by decide, (jl1_in _ (List.mem_of_getElem? (i := 2) rfl)), by decide +kernel, rfl⟩
theorem fl_RX6_107 : jFld RX6 107 1 1 .int false := ⟨_, _, _, tyX1, rfl, inX1, tyX1_ok, nmX1, by decide, (jl1_in _ (List.mem_of_getElem? (i := 7) rfl)), by decide +kernel, rfl⟩
theorem fl_RX6_110 : jFld RX6 110 1 2 .int false := ⟨_, _, _, tyX1, rfl, inX1, tyX1_ok, nmX1, by decide, (jl1_in _ (List.mem_of_getElem? (i := 12) rfl)), by decide +kernel, rfl⟩
theorem fl_RX6_113 : jFld RX6 113 0 0 (.object "RoundCoracles$Waters") true := ⟨_, _, _, tyX0, rfl, inX0, tyX0_ok, nmX0, by decide, (jl3_in _ (List.mem_of_getElem? (i := 28) rfl)), by decide +kernel, rfl⟩
theorem fl_RX6_116 : jFld RX6 116 5 0 .int false := ⟨_, _, _, tyX5, rfl, inX5, tyX5_ok, nmX5, by decide, (jl3_in _ (List.mem_of_getElem? (i := 10) rfl)), by decide +kernel, rfl⟩
theorem fl_RX6_136 : jFld RX6 136 0 2 .int false := ⟨_, _, _, tyX0, rfl, inX0, tyX0_ok, nmX0, by decide, (jl4_in _ (List.mem_of_getElem? (i := 0) rfl)), by decide +kernel, rfl⟩
theorem fl_RX6_139 : jFld RX6 139 0 3 .int false := ⟨_, _, _, tyX0, rfl, inX0, tyX0_ok, nmX0, by decide, (jl4_in _ (List.mem_of_getElem? (i := 2) rfl)), by decide +kernel, rfl⟩
theorem fl_RX6_147 : jFld RX6 147 5 3 (.array .int) true := ⟨_, _, _, tyX5, rfl, inX5, tyX5_ok, nmX5, by decide, (jl3_in _ (List.mem_of_getElem? (i := 17) rfl)), by decide +kernel, rfl⟩
theorem fl_RX6_166 : jFld RX6 166 5 6 (.array .int) true := ⟨_, _, _, tyX5, rfl, inX5, tyX5_ok, nmX5, by decide, (jl3_in _ (List.mem_of_getElem? (i := 23) rfl)), by decide +kernel, rfl⟩
theorem fl_RX6_169 : jFld RX6 169 5 7 (.array .int) true := ⟨_, _, _, tyX5, rfl, inX5, tyX5_ok, nmX5, by decide, (jl3_in _ (List.mem_of_getElem? (i := 25) rfl)), by decide +kernel, rfl⟩
theorem fl_RX6_179 : jFld RX6 179 5 1 (.array .int) true := ⟨_, _, _, tyX5, rfl, inX5, tyX5_ok, nmX5, by decide, (jl3_in _ (List.mem_of_getElem? (i := 12) rfl)), by decide +kernel, rfl⟩
theorem fl_RX6_182 : jFld RX6 182 5 2 (.array .int) true := ⟨_, _, _, tyX5, rfl, inX5, tyX5_ok, nmX5, by decide, (jl3_in _ (List.mem_of_getElem? (i := 14) rfl)), by decide +kernel, rfl⟩
theorem fl_RX6_185 : jFld RX6 185 1 6 (.array .int) true := ⟨_, _, _, tyX1, rfl, inX1, tyX1_ok, nmX1, by decide, (jl1_in _ (List.mem_of_getElem? (i := 26) rfl)), by decide +kernel, rfl⟩
theorem fl_RX6_188 : jFld RX6 188 1 7 (.array .int) true := ⟨_, _, _, tyX1, rfl, inX1, tyX1_ok, nmX1, by decide, (jl1_in _ (List.mem_of_getElem? (i := 30) rfl)), by decide +kernel, rfl⟩
theorem fl_RX6_191 : jFld RX6 191 1 8 (.array .boolean) true := ⟨_, _, _, tyX1, rfl, inX1, tyX1_ok, nmX1, by decide, (jl1_in _ (List.mem_of_getElem? (i := 34) rfl)), by decide +kernel, rfl⟩
theorem fl_RX6_249 : jFld RX6 249 5 5 (.array .int) true := ⟨_, _, _, tyX5, rfl, inX5, tyX5_ok, nmX5, by decide, (jl3_in _ (List.mem_of_getElem? (i := 21) rfl)), by decide +kernel, rfl⟩
theorem fl_RX6_263 : jFld RX6 263 3 0 .int false := ⟨_, _, _, tyX3, rfl, inX3, tyX3_ok, nmX3, by decide, (jl4_in _ (List.mem_of_getElem? (i := 18) rfl)), by decide +kernel, rfl⟩
theorem fl_RX6_266 : jFld RX6 266 3 1 .int false := ⟨_, _, _, tyX3, rfl, inX3, tyX3_ok, nmX3, by decide, (jl4_in _ (List.mem_of_getElem? (i := 20) rfl)), by decide +kernel, rfl⟩
theorem fl_RX6_269 : jFld RX6 269 3 2 (.array .int) true := ⟨_, _, _, tyX3, rfl, inX3, tyX3_ok, nmX3, by decide, (jl4_in _ (List.mem_of_getElem? (i := 22) rfl)), by decide +kernel, rfl⟩
theorem fl_RX6_281 : jFld RX6 281 5 4 (.array .int) true := ⟨_, _, _, tyX5, rfl, inX5, tyX5_ok, nmX5, by decide, (jl3_in _ (List.mem_of_getElem? (i := 19) rfl)), by decide +kernel, rfl⟩
theorem fl_RX6_285 : jFld RX6 285 0 5 (.array .int) true := ⟨_, _, _, tyX0, rfl, inX0, tyX0_ok, nmX0, by decide, (jl4_in _ (List.mem_of_getElem? (i := 6) rfl)), by decide +kernel, rfl⟩
theorem fl_RX6_288 : jFld RX6 288 0 4 (.array .int) true := ⟨_, _, _, tyX0, rfl, inX0, tyX0_ok, nmX0, by decide, (jl4_in _ (List.mem_of_getElem? (i := 4) rfl)), by decide +kernel, rfl⟩
theorem fl_RX6_291 : jFld RX6 291 0 6 (.array .int) true := ⟨_, _, _, tyX0, rfl, inX0, tyX0_ok, nmX0, by decide, (jl4_in _ (List.mem_of_getElem? (i := 8) rfl)), by decide +kernel, rfl⟩
theorem fl_RX0_12 : jFld RX0 12 0 0 (.object "RoundCoracles$Waters") true := ⟨_, _, _, tyX0, rfl, inX0, tyX0_ok, nmX0, by decide, (jl3_in _ (List.mem_of_getElem? (i := 27) rfl)), by decide +kernel, rfl⟩
theorem fl_RX0_18 : jFld RX0 18 0 1 (.array .int) true := ⟨_, _, _, tyX0, rfl, inX0, tyX0_ok, nmX0, by decide, (jl3_in _ (List.mem_of_getElem? (i := 29) rfl)), by decide +kernel, rfl⟩
theorem fl_RX0_22 : jFld RX0 22 0 2 .int false := ⟨_, _, _, tyX0, rfl, inX0, tyX0_ok, nmX0, by decide, (jl3_in _ (List.mem_of_getElem? (i := 31) rfl)), by decide +kernel, rfl⟩
theorem fl_RX0_26 : jFld RX0 26 0 3 .int false := ⟨_, _, _, tyX0, rfl, inX0, tyX0_ok, nmX0, by decide, (jl4_in _ (List.mem_of_getElem? (i := 1) rfl)), by decide +kernel, rfl⟩
theorem fl_RX0_29 : jFld RX0 29 0 4 (.array .int) true := ⟨_, _, _, tyX0, rfl, inX0, tyX0_ok, nmX0, by decide, (jl4_in _ (List.mem_of_getElem? (i := 3) rfl)), by decide +kernel, rfl⟩
theorem fl_RX0_32 : jFld RX0 32 0 5 (.array .int) true := ⟨_, _, _, tyX0, rfl, inX0, tyX0_ok, nmX0, by decide, (jl4_in _ (List.mem_of_getElem? (i := 5) rfl)), by decide +kernel, rfl⟩
theorem fl_RX0_35 : jFld RX0 35 0 6 (.array .int) true := ⟨_, _, _, tyX0, rfl, inX0, tyX0_ok, nmX0, by decide, (jl4_in _ (List.mem_of_getElem? (i := 7) rfl)), by decide +kernel, rfl⟩
theorem fl_RX0_38 : jFld RX0 38 0 7 (.array .int) true := ⟨_, _, _, tyX0, rfl, inX0, tyX0_ok, nmX0, by decide, (jl4_in _ (List.mem_of_getElem? (i := 9) rfl)), by decide +kernel, rfl⟩
theorem fl_RX0_41 : jFld RX0 41 0 8 .int false := ⟨_, _, _, tyX0, rfl, inX0, tyX0_ok, nmX0, by decide, (jl4_in _ (List.mem_of_getElem? (i := 10) rfl)), by decide +kernel, rfl⟩
theorem fl_RX1_9 : jFld RX1 9 1 0 .int false := ⟨_, _, _, tyX1, rfl, inX1, tyX1_ok, nmX1, by decide, (jl1_in _ (List.mem_of_getElem? (i := 0) rfl)), by decide +kernel, rfl⟩
theorem fl_RX1_15 : jFld RX1 15 1 1 .int false := ⟨_, _, _, tyX1, rfl, inX1, tyX1_ok, nmX1, by decide, (jl1_in _ (List.mem_of_getElem? (i := 5) rfl)), by decide +kernel, rfl⟩
theorem fl_RX1_18 : jFld RX1 18 1 2 .int false := ⟨_, _, _, tyX1, rfl, inX1, tyX1_ok, nmX1, by decide, (jl1_in _ (List.mem_of_getElem? (i := 9) rfl)), by decide +kernel, rfl⟩
theorem fl_RX1_21 : jFld RX1 21 1 3 (.array .int) true := ⟨_, _, _, tyX1, rfl, inX1, tyX1_ok, nmX1, by decide, (jl1_in _ (List.mem_of_getElem? (i := 14) rfl)), by decide +kernel, rfl⟩
theorem fl_RX1_25 : jFld RX1 25 1 4 (.array .int) true := ⟨_, _, _, tyX1, rfl, inX1, tyX1_ok, nmX1, by decide, (jl1_in _ (List.mem_of_getElem? (i := 17) rfl)), by decide +kernel, rfl⟩
theorem fl_RX1_28 : jFld RX1 28 1 5 (.array .int) true := ⟨_, _, _, tyX1, rfl, inX1, tyX1_ok, nmX1, by decide, (jl1_in _ (List.mem_of_getElem? (i := 20) rfl)), by decide +kernel, rfl⟩
theorem fl_RX1_31 : jFld RX1 31 1 6 (.array .int) true := ⟨_, _, _, tyX1, rfl, inX1, tyX1_ok, nmX1, by decide, (jl1_in _ (List.mem_of_getElem? (i := 23) rfl)), by decide +kernel, rfl⟩
theorem fl_RX1_34 : jFld RX1 34 1 7 (.array .int) true := ⟨_, _, _, tyX1, rfl, inX1, tyX1_ok, nmX1, by decide, (jl1_in _ (List.mem_of_getElem? (i := 28) rfl)), by decide +kernel, rfl⟩
theorem fl_RX1_37 : jFld RX1 37 1 8 (.array .boolean) true := ⟨_, _, _, tyX1, rfl, inX1, tyX1_ok, nmX1, by decide, (jl1_in _ (List.mem_of_getElem? (i := 32) rfl)), by decide +kernel, rfl⟩
theorem fl_RX1_41 : jFld RX1 41 1 9 (.array .int) true := ⟨_, _, _, tyX1, rfl, inX1, tyX1_ok, nmX1, by decide, (jl1_in _ (List.mem_of_getElem? (i := 36) rfl)), by decide +kernel, rfl⟩
theorem fl_RX1_44 : jFld RX1 44 1 10 .int false := ⟨_, _, _, tyX1, rfl, inX1, tyX1_ok, nmX1, by decide, (jl1_in _ (List.mem_of_getElem? (i := 38) rfl)), by decide +kernel, rfl⟩
theorem fl_RX1_47 : jFld RX1 47 1 11 .int false := ⟨_, _, _, tyX1, rfl, inX1, tyX1_ok, nmX1, by decide, (jl2_in _ (List.mem_of_getElem? (i := 0) rfl)), by decide +kernel, rfl⟩
theorem fl_RX1_50 : jFld RX1 50 1 12 .int false := ⟨_, _, _, tyX1, rfl, inX1, tyX1_ok, nmX1, by decide, (jl2_in _ (List.mem_of_getElem? (i := 3) rfl)), by decide +kernel, rfl⟩
theorem fl_RX1_53 : jFld RX1 53 1 13 .int false := ⟨_, _, _, tyX1, rfl, inX1, tyX1_ok, nmX1, by decide, (jl2_in _ (List.mem_of_getElem? (i := 6) rfl)), by decide +kernel, rfl⟩
theorem fl_RX1_56 : jFld RX1 56 1 14 .int false := ⟨_, _, _, tyX1, rfl, inX1, tyX1_ok, nmX1, by decide, (jl2_in _ (List.mem_of_getElem? (i := 9) rfl)), by decide +kernel, rfl⟩
theorem fl_RX2_7 : jFld RX2 7 2 0 (.array .int) true := ⟨_, _, _, tyX2, rfl, inX2, tyX2_ok, nmX2, by decide, (jl3_in _ (List.mem_of_getElem? (i := 6) rfl)), by decide +kernel, rfl⟩
theorem fl_RX2_13 : jFld RX2 13 2 1 (.array .int) true := ⟨_, _, _, tyX2, rfl, inX2, tyX2_ok, nmX2, by decide, (jl3_in _ (List.mem_of_getElem? (i := 8) rfl)), by decide +kernel, rfl⟩
theorem fl_RX3_9 : jFld RX3 9 3 0 .int false := ⟨_, _, _, tyX3, rfl, inX3, tyX3_ok, nmX3, by decide, (jl4_in _ (List.mem_of_getElem? (i := 17) rfl)), by decide +kernel, rfl⟩
theorem fl_RX3_15 : jFld RX3 15 3 1 .int false := ⟨_, _, _, tyX3, rfl, inX3, tyX3_ok, nmX3, by decide, (jl4_in _ (List.mem_of_getElem? (i := 19) rfl)), by decide +kernel, rfl⟩
theorem fl_RX3_18 : jFld RX3 18 3 2 (.array .int) true := ⟨_, _, _, tyX3, rfl, inX3, tyX3_ok, nmX3, by decide, (jl4_in _ (List.mem_of_getElem? (i := 21) rfl)), by decide +kernel, rfl⟩
theorem fl_RX3_22 : jFld RX3 22 3 3 (.array .int) true := ⟨_, _, _, tyX3, rfl, inX3, tyX3_ok, nmX3, by decide, (jl4_in _ (List.mem_of_getElem? (i := 23) rfl)), by decide +kernel, rfl⟩
theorem fl_RX3_25 : jFld RX3 25 1 2 .int false := ⟨_, _, _, tyX1, rfl, inX1, tyX1_ok, nmX1, by decide, (jl1_in _ (List.mem_of_getElem? (i := 10) rfl)), by decide +kernel, rfl⟩
theorem fl_RX3_30 : jFld RX3 30 1 0 .int false := ⟨_, _, _, tyX1, rfl, inX1, tyX1_ok, nmX1, by decide, (jl1_in _ (List.mem_of_getElem? (i := 1) rfl)), by decide +kernel, rfl⟩
theorem fl_RX3_40 : jFld RX3 40 1 6 (.array .int) true := ⟨_, _, _, tyX1, rfl, inX1, tyX1_ok, nmX1, by decide, (jl1_in _ (List.mem_of_getElem? (i := 25) rfl)), by decide +kernel, rfl⟩
theorem fl_RX3_57 : jFld RX3 57 5 3 (.array .int) true := ⟨_, _, _, tyX5, rfl, inX5, tyX5_ok, nmX5, by decide, (jl3_in _ (List.mem_of_getElem? (i := 16) rfl)), by decide +kernel, rfl⟩
theorem fl_RX4_9 : jFld RX4 9 4 0 .int false := ⟨_, _, _, tyX4, rfl, inX4, tyX4_ok, nmX4, by decide, (jl2_in _ (List.mem_of_getElem? (i := 15) rfl)), by decide +kernel, rfl⟩
theorem fl_RX4_15 : jFld RX4 15 4 1 .int false := ⟨_, _, _, tyX4, rfl, inX4, tyX4_ok, nmX4, by decide, (jl2_in _ (List.mem_of_getElem? (i := 17) rfl)), by decide +kernel, rfl⟩
theorem fl_RX4_18 : jFld RX4 18 4 2 (.array .byte) false := ⟨_, _, _, tyX4, rfl, inX4, tyX4_ok, nmX4, by decide, (jl2_in _ (List.mem_of_getElem? (i := 19) rfl)), by decide +kernel, rfl⟩
theorem fl_RX4_22 : jFld RX4 22 4 3 .int false := ⟨_, _, _, tyX4, rfl, inX4, tyX4_ok, nmX4, by decide, (jl2_in _ (List.mem_of_getElem? (i := 20) rfl)), by decide +kernel, rfl⟩
theorem fl_RX4_28 : jFld RX4 28 4 4 (.object "RoundCoracles$Gorge") false := ⟨_, _, _, tyX4, rfl, inX4, tyX4_ok, nmX4, by decide, (jl2_in _ (List.mem_of_getElem? (i := 21) rfl)), by decide +kernel, rfl⟩
theorem fl_RX4_32 : jFld RX4 32 4 5 .int false := ⟨_, _, _, tyX4, rfl, inX4, tyX4_ok, nmX4, by decide, (jl2_in _ (List.mem_of_getElem? (i := 22) rfl)), by decide +kernel, rfl⟩
theorem fl_RX4_35 : jFld RX4 35 4 6 .int false := ⟨_, _, _, tyX4, rfl, inX4, tyX4_ok, nmX4, by decide, (jl2_in _ (List.mem_of_getElem? (i := 23) rfl)), by decide +kernel, rfl⟩
theorem fl_RX4_38 : jFld RX4 38 4 7 .int false := ⟨_, _, _, tyX4, rfl, inX4, tyX4_ok, nmX4, by decide, (jl2_in _ (List.mem_of_getElem? (i := 24) rfl)), by decide +kernel, rfl⟩
theorem fl_RX4_41 : jFld RX4 41 4 8 .int false := ⟨_, _, _, tyX4, rfl, inX4, tyX4_ok, nmX4, by decide, (jl2_in _ (List.mem_of_getElem? (i := 25) rfl)), by decide +kernel, rfl⟩
theorem fl_RX4_44 : jFld RX4 44 4 9 .int false := ⟨_, _, _, tyX4, rfl, inX4, tyX4_ok, nmX4, by decide, (jl2_in _ (List.mem_of_getElem? (i := 26) rfl)), by decide +kernel, rfl⟩
theorem fl_RX4_47 : jFld RX4 47 4 10 .int false := ⟨_, _, _, tyX4, rfl, inX4, tyX4_ok, nmX4, by decide, (jl2_in _ (List.mem_of_getElem? (i := 27) rfl)), by decide +kernel, rfl⟩
theorem fl_RX4_50 : jFld RX4 50 4 11 .boolean false := ⟨_, _, _, tyX4, rfl, inX4, tyX4_ok, nmX4, by decide, (jl2_in _ (List.mem_of_getElem? (i := 28) rfl)), by decide +kernel, rfl⟩
theorem fl_RX4_54 : jFld RX4 54 4 12 .boolean false := ⟨_, _, _, tyX4, rfl, inX4, tyX4_ok, nmX4, by decide, (jl2_in _ (List.mem_of_getElem? (i := 29) rfl)), by decide +kernel, rfl⟩
theorem fl_RX4_133 : jFld RX4 133 1 2 .int false := ⟨_, _, _, tyX1, rfl, inX1, tyX1_ok, nmX1, by decide, (jl1_in _ (List.mem_of_getElem? (i := 13) rfl)), by decide +kernel, rfl⟩
theorem fl_RX4_140 : jFld RX4 140 1 0 .int false := ⟨_, _, _, tyX1, rfl, inX1, tyX1_ok, nmX1, by decide, (jl1_in _ (List.mem_of_getElem? (i := 4) rfl)), by decide +kernel, rfl⟩
theorem fl_RX4_146 : jFld RX4 146 1 1 .int false := ⟨_, _, _, tyX1, rfl, inX1, tyX1_ok, nmX1, by decide, (jl1_in _ (List.mem_of_getElem? (i := 8) rfl)), by decide +kernel, rfl⟩
theorem fl_RX4_149 : jFld RX4 149 1 3 (.array .int) true := ⟨_, _, _, tyX1, rfl, inX1, tyX1_ok, nmX1, by decide, (jl1_in _ (List.mem_of_getElem? (i := 16) rfl)), by decide +kernel, rfl⟩
theorem fl_RX4_153 : jFld RX4 153 1 4 (.array .int) true := ⟨_, _, _, tyX1, rfl, inX1, tyX1_ok, nmX1, by decide, (jl1_in _ (List.mem_of_getElem? (i := 19) rfl)), by decide +kernel, rfl⟩
theorem fl_RX4_156 : jFld RX4 156 1 5 (.array .int) true := ⟨_, _, _, tyX1, rfl, inX1, tyX1_ok, nmX1, by decide, (jl1_in _ (List.mem_of_getElem? (i := 22) rfl)), by decide +kernel, rfl⟩
theorem fl_RX4_159 : jFld RX4 159 1 6 (.array .int) true := ⟨_, _, _, tyX1, rfl, inX1, tyX1_ok, nmX1, by decide, (jl1_in _ (List.mem_of_getElem? (i := 27) rfl)), by decide +kernel, rfl⟩
theorem fl_RX4_162 : jFld RX4 162 1 7 (.array .int) true := ⟨_, _, _, tyX1, rfl, inX1, tyX1_ok, nmX1, by decide, (jl1_in _ (List.mem_of_getElem? (i := 31) rfl)), by decide +kernel, rfl⟩
theorem fl_RX4_165 : jFld RX4 165 1 8 (.array .boolean) true := ⟨_, _, _, tyX1, rfl, inX1, tyX1_ok, nmX1, by decide, (jl1_in _ (List.mem_of_getElem? (i := 35) rfl)), by decide +kernel, rfl⟩
theorem fl_RX4_171 : jFld RX4 171 1 10 .int false := ⟨_, _, _, tyX1, rfl, inX1, tyX1_ok, nmX1, by decide, (jl1_in _ (List.mem_of_getElem? (i := 39) rfl)), by decide +kernel, rfl⟩
theorem fl_RX4_174 : jFld RX4 174 1 11 .int false := ⟨_, _, _, tyX1, rfl, inX1, tyX1_ok, nmX1, by decide, (jl2_in _ (List.mem_of_getElem? (i := 2) rfl)), by decide +kernel, rfl⟩
theorem fl_RX4_180 : jFld RX4 180 1 12 .int false := ⟨_, _, _, tyX1, rfl, inX1, tyX1_ok, nmX1, by decide, (jl2_in _ (List.mem_of_getElem? (i := 5) rfl)), by decide +kernel, rfl⟩
theorem fl_RX4_186 : jFld RX4 186 1 13 .int false := ⟨_, _, _, tyX1, rfl, inX1, tyX1_ok, nmX1, by decide, (jl2_in _ (List.mem_of_getElem? (i := 8) rfl)), by decide +kernel, rfl⟩
theorem fl_RX4_189 : jFld RX4 189 1 14 .int false := ⟨_, _, _, tyX1, rfl, inX1, tyX1_ok, nmX1, by decide, (jl2_in _ (List.mem_of_getElem? (i := 11) rfl)), by decide +kernel, rfl⟩
theorem fl_RX5_9 : jFld RX5 9 5 0 .int false := ⟨_, _, _, tyX5, rfl, inX5, tyX5_ok, nmX5, by decide, (jl3_in _ (List.mem_of_getElem? (i := 9) rfl)), by decide +kernel, rfl⟩
theorem fl_RX5_15 : jFld RX5 15 5 1 (.array .int) true := ⟨_, _, _, tyX5, rfl, inX5, tyX5_ok, nmX5, by decide, (jl3_in _ (List.mem_of_getElem? (i := 11) rfl)), by decide +kernel, rfl⟩
theorem fl_RX5_19 : jFld RX5 19 5 2 (.array .int) true := ⟨_, _, _, tyX5, rfl, inX5, tyX5_ok, nmX5, by decide, (jl3_in _ (List.mem_of_getElem? (i := 13) rfl)), by decide +kernel, rfl⟩
theorem fl_RX5_22 : jFld RX5 22 5 3 (.array .int) true := ⟨_, _, _, tyX5, rfl, inX5, tyX5_ok, nmX5, by decide, (jl3_in _ (List.mem_of_getElem? (i := 15) rfl)), by decide +kernel, rfl⟩
theorem fl_RX5_25 : jFld RX5 25 5 4 (.array .int) true := ⟨_, _, _, tyX5, rfl, inX5, tyX5_ok, nmX5, by decide, (jl3_in _ (List.mem_of_getElem? (i := 18) rfl)), by decide +kernel, rfl⟩
theorem fl_RX5_28 : jFld RX5 28 5 5 (.array .int) true := ⟨_, _, _, tyX5, rfl, inX5, tyX5_ok, nmX5, by decide, (jl3_in _ (List.mem_of_getElem? (i := 20) rfl)), by decide +kernel, rfl⟩
theorem fl_RX5_31 : jFld RX5 31 5 6 (.array .int) true := ⟨_, _, _, tyX5, rfl, inX5, tyX5_ok, nmX5, by decide, (jl3_in _ (List.mem_of_getElem? (i := 22) rfl)), by decide +kernel, rfl⟩
theorem fl_RX5_34 : jFld RX5 34 5 7 (.array .int) true := ⟨_, _, _, tyX5, rfl, inX5, tyX5_ok, nmX5, by decide, (jl3_in _ (List.mem_of_getElem? (i := 24) rfl)), by decide +kernel, rfl⟩
theorem fl_RX5_40 : jFld RX5 40 5 8 (.object "RoundCoracles$Machine") true := ⟨_, _, _, tyX5, rfl, inX5, tyX5_ok, nmX5, by decide, (jl3_in _ (List.mem_of_getElem? (i := 26) rfl)), by decide +kernel, rfl⟩
theorem fl_RX5_50 : jFld RX5 50 1 5 (.array .int) true := ⟨_, _, _, tyX1, rfl, inX1, tyX1_ok, nmX1, by decide, (jl1_in _ (List.mem_of_getElem? (i := 21) rfl)), by decide +kernel, rfl⟩
theorem fl_RX5_61 : jFld RX5 61 1 6 (.array .int) true := ⟨_, _, _, tyX1, rfl, inX1, tyX1_ok, nmX1, by decide, (jl1_in _ (List.mem_of_getElem? (i := 24) rfl)), by decide +kernel, rfl⟩
theorem fl_RX5_62 : jFld RX5 62 1 3 (.array .int) true := ⟨_, _, _, tyX1, rfl, inX1, tyX1_ok, nmX1, by decide, (jl1_in _ (List.mem_of_getElem? (i := 15) rfl)), by decide +kernel, rfl⟩
theorem fl_RX5_63 : jFld RX5 63 1 4 (.array .int) true := ⟨_, _, _, tyX1, rfl, inX1, tyX1_ok, nmX1, by decide, (jl1_in _ (List.mem_of_getElem? (i := 18) rfl)), by decide +kernel, rfl⟩
theorem fl_RX5_64 : jFld RX5 64 1 2 .int false := ⟨_, _, _, tyX1, rfl, inX1, tyX1_ok, nmX1, by decide, (jl1_in _ (List.mem_of_getElem? (i := 11) rfl)), by decide +kernel, rfl⟩
theorem fl_RX5_67 : jFld RX5 67 1 7 (.array .int) true := ⟨_, _, _, tyX1, rfl, inX1, tyX1_ok, nmX1, by decide, (jl1_in _ (List.mem_of_getElem? (i := 29) rfl)), by decide +kernel, rfl⟩
theorem fl_RX5_70 : jFld RX5 70 1 1 .int false := ⟨_, _, _, tyX1, rfl, inX1, tyX1_ok, nmX1, by decide, (jl1_in _ (List.mem_of_getElem? (i := 6) rfl)), by decide +kernel, rfl⟩
theorem fl_RX5_98 : jFld RX5 98 1 9 (.array .int) true := ⟨_, _, _, tyX1, rfl, inX1, tyX1_ok, nmX1, by decide, (jl1_in _ (List.mem_of_getElem? (i := 37) rfl)), by decide +kernel, rfl⟩
theorem fl_RX5_101 : jFld RX5 101 1 11 .int false := ⟨_, _, _, tyX1, rfl, inX1, tyX1_ok, nmX1, by decide, (jl2_in _ (List.mem_of_getElem? (i := 1) rfl)), by decide +kernel, rfl⟩
theorem fl_RX5_104 : jFld RX5 104 1 12 .int false := ⟨_, _, _, tyX1, rfl, inX1, tyX1_ok, nmX1, by decide, (jl2_in _ (List.mem_of_getElem? (i := 4) rfl)), by decide +kernel, rfl⟩
theorem fl_RX5_120 : jFld RX5 120 1 8 (.array .boolean) true := ⟨_, _, _, tyX1, rfl, inX1, tyX1_ok, nmX1, by decide, (jl1_in _ (List.mem_of_getElem? (i := 33) rfl)), by decide +kernel, rfl⟩
theorem fl_RX5_127 : jFld RX5 127 1 13 .int false := ⟨_, _, _, tyX1, rfl, inX1, tyX1_ok, nmX1, by decide, (jl2_in _ (List.mem_of_getElem? (i := 7) rfl)), by decide +kernel, rfl⟩
theorem fl_RX5_130 : jFld RX5 130 1 14 .int false := ⟨_, _, _, tyX1, rfl, inX1, tyX1_ok, nmX1, by decide, (jl2_in _ (List.mem_of_getElem? (i := 10) rfl)), by decide +kernel, rfl⟩
theorem fl_RX5_137 : jFld RX5 137 2 0 (.array .int) true := ⟨_, _, _, tyX2, rfl, inX2, tyX2_ok, nmX2, by decide, (jl3_in _ (List.mem_of_getElem? (i := 7) rfl)), by decide +kernel, rfl⟩
theorem fl_RX5_150 : jFld RX5 150 1 0 .int false := ⟨_, _, _, tyX1, rfl, inX1, tyX1_ok, nmX1, by decide, (jl1_in _ (List.mem_of_getElem? (i := 3) rfl)), by decide +kernel, rfl⟩
theorem fl_RX7_15 : jFld RX7 15 7 0 (.array (.object "java/lang/String")) true := ⟨_, _, _, tyX7, rfl, inX7, tyX7_ok, nmX7, by decide, (jl23_in _ (List.mem_of_getElem? (i := 37) rfl)), by decide +kernel, rfl⟩
theorem fl_RX7_31 : jFld RX7 31 7 1 (.array (.object "java/lang/String")) true := ⟨_, _, _, tyX7, rfl, inX7, tyX7_ok, nmX7, by decide, (jl23_in _ (List.mem_of_getElem? (i := 38) rfl)), by decide +kernel, rfl⟩
theorem fl_RX7_36 : jFld RX7 36 7 2 (.array (.object "java/lang/String")) true := ⟨_, _, _, tyX7, rfl, inX7, tyX7_ok, nmX7, by decide, (jl23_in _ (List.mem_of_getElem? (i := 39) rfl)), by decide +kernel, rfl⟩
theorem fl_RX7_39 : jFld RX7 39 7 3 (.array (.object "java/lang/String")) false := ⟨_, _, _, tyX7, rfl, inX7, tyX7_ok, nmX7, by decide, (jl24_in _ (List.mem_of_getElem? (i := 0) rfl)), by decide +kernel, rfl⟩
theorem fl_RX7_42 : jFld RX7 42 7 5 (.array .int) true := ⟨_, _, _, tyX7, rfl, inX7, tyX7_ok, nmX7, by decide, (jl24_in _ (List.mem_of_getElem? (i := 2) rfl)), by decide +kernel, rfl⟩
theorem fl_RX7_46 : jFld RX7 46 7 6 (.array .int) true := ⟨_, _, _, tyX7, rfl, inX7, tyX7_ok, nmX7, by decide, (jl24_in _ (List.mem_of_getElem? (i := 3) rfl)), by decide +kernel, rfl⟩
theorem fl_RX7_49 : jFld RX7 49 7 7 (.array .int) true := ⟨_, _, _, tyX7, rfl, inX7, tyX7_ok, nmX7, by decide, (jl24_in _ (List.mem_of_getElem? (i := 4) rfl)), by decide +kernel, rfl⟩
theorem fl_RX7_52 : jFld RX7 52 7 8 (.array .int) true := ⟨_, _, _, tyX7, rfl, inX7, tyX7_ok, nmX7, by decide, (jl24_in _ (List.mem_of_getElem? (i := 5) rfl)), by decide +kernel, rfl⟩
theorem fl_RX7_54 : jFld RX7 54 7 9 (.array .int) true := ⟨_, _, _, tyX7, rfl, inX7, tyX7_ok, nmX7, by decide, (jl24_in _ (List.mem_of_getElem? (i := 6) rfl)), by decide +kernel, rfl⟩
theorem fl_RX7_57 : jFld RX7 57 7 10 (.array .int) true := ⟨_, _, _, tyX7, rfl, inX7, tyX7_ok, nmX7, by decide, (jl24_in _ (List.mem_of_getElem? (i := 7) rfl)), by decide +kernel, rfl⟩
theorem fl_RX7_60 : jFld RX7 60 7 11 (.array .int) true := ⟨_, _, _, tyX7, rfl, inX7, tyX7_ok, nmX7, by decide, (jl24_in _ (List.mem_of_getElem? (i := 8) rfl)), by decide +kernel, rfl⟩
theorem fl_RX7_63 : jFld RX7 63 7 12 (.array .int) true := ⟨_, _, _, tyX7, rfl, inX7, tyX7_ok, nmX7, by decide, (jl24_in _ (List.mem_of_getElem? (i := 9) rfl)), by decide +kernel, rfl⟩
theorem fl_RX7_66 : jFld RX7 66 7 13 (.array .int) true := ⟨_, _, _, tyX7, rfl, inX7, tyX7_ok, nmX7, by decide, (jl24_in _ (List.mem_of_getElem? (i := 10) rfl)), by decide +kernel, rfl⟩
theorem fl_RX7_69 : jFld RX7 69 7 14 (.array .int) true := ⟨_, _, _, tyX7, rfl, inX7, tyX7_ok, nmX7, by decide, (jl24_in _ (List.mem_of_getElem? (i := 11) rfl)), by decide +kernel, rfl⟩
theorem fl_RX7_72 : jFld RX7 72 7 15 (.array .int) true := ⟨_, _, _, tyX7, rfl, inX7, tyX7_ok, nmX7, by decide, (jl24_in _ (List.mem_of_getElem? (i := 12) rfl)), by decide +kernel, rfl⟩
theorem fl_RX7_74 : jFld RX7 74 7 16 (.array .int) true := ⟨_, _, _, tyX7, rfl, inX7, tyX7_ok, nmX7, by decide, (jl24_in _ (List.mem_of_getElem? (i := 13) rfl)), by decide +kernel, rfl⟩
theorem fl_RX7_77 : jFld RX7 77 7 26 .int false := ⟨_, _, _, tyX7, rfl, inX7, tyX7_ok, nmX7, by decide, (jl24_in _ (List.mem_of_getElem? (i := 23) rfl)), by decide +kernel, rfl⟩
theorem fl_RX7_81 : jFld RX7 81 7 28 (.array .int) true := ⟨_, _, _, tyX7, rfl, inX7, tyX7_ok, nmX7, by decide, (jl24_in _ (List.mem_of_getElem? (i := 25) rfl)), by decide +kernel, rfl⟩
theorem fl_RX7_84 : jFld RX7 84 7 29 (.array .int) true := ⟨_, _, _, tyX7, rfl, inX7, tyX7_ok, nmX7, by decide, (jl24_in _ (List.mem_of_getElem? (i := 26) rfl)), by decide +kernel, rfl⟩
theorem fl_RX7_87 : jFld RX7 87 7 30 (.array .int) true := ⟨_, _, _, tyX7, rfl, inX7, tyX7_ok, nmX7, by decide, (jl24_in _ (List.mem_of_getElem? (i := 27) rfl)), by decide +kernel, rfl⟩
theorem fl_RX7_90 : jFld RX7 90 7 31 (.array .int) true := ⟨_, _, _, tyX7, rfl, inX7, tyX7_ok, nmX7, by decide, (jl24_in _ (List.mem_of_getElem? (i := 28) rfl)), by decide +kernel, rfl⟩
theorem fl_RX7_92 : jFld RX7 92 7 32 (.array .int) true := ⟨_, _, _, tyX7, rfl, inX7, tyX7_ok, nmX7, by decide, (jl24_in _ (List.mem_of_getElem? (i := 29) rfl)), by decide +kernel, rfl⟩
theorem fl_RX7_94 : jFld RX7 94 7 33 (.array .int) true := ⟨_, _, _, tyX7, rfl, inX7, tyX7_ok, nmX7, by decide, (jl24_in _ (List.mem_of_getElem? (i := 30) rfl)), by decide +kernel, rfl⟩
theorem fl_RX7_97 : jFld RX7 97 7 37 (.array .int) true := ⟨_, _, _, tyX7, rfl, inX7, tyX7_ok, nmX7, by decide, (jl24_in _ (List.mem_of_getElem? (i := 34) rfl)), by decide +kernel, rfl⟩
theorem fl_RX7_100 : jFld RX7 100 7 38 (.array .int) true := ⟨_, _, _, tyX7, rfl, inX7, tyX7_ok, nmX7, by decide, (jl24_in _ (List.mem_of_getElem? (i := 35) rfl)), by decide +kernel, rfl⟩
theorem fl_RX7_103 : jFld RX7 103 7 39 (.array .int) true := ⟨_, _, _, tyX7, rfl, inX7, tyX7_ok, nmX7, by decide, (jl24_in _ (List.mem_of_getElem? (i := 36) rfl)), by decide +kernel, rfl⟩
theorem fl_RX7_106 : jFld RX7 106 7 41 (.array .int) true := ⟨_, _, _, tyX7, rfl, inX7, tyX7_ok, nmX7, by decide, (jl24_in _ (List.mem_of_getElem? (i := 38) rfl)), by decide +kernel, rfl⟩
theorem fl_RX7_109 : jFld RX7 109 7 42 (.array .int) true := ⟨_, _, _, tyX7, rfl, inX7, tyX7_ok, nmX7, by decide, (jl24_in _ (List.mem_of_getElem? (i := 39) rfl)), by decide +kernel, rfl⟩
theorem fl_RX7_112 : jFld RX7 112 7 43 (.array .int) true := ⟨_, _, _, tyX7, rfl, inX7, tyX7_ok, nmX7, by decide, (jl25_in _ (List.mem_of_getElem? (i := 0) rfl)), by decide +kernel, rfl⟩
theorem fl_RX7_115 : jFld RX7 115 7 44 (.array .int) true := ⟨_, _, _, tyX7, rfl, inX7, tyX7_ok, nmX7, by decide, (jl25_in _ (List.mem_of_getElem? (i := 1) rfl)), by decide +kernel, rfl⟩
theorem fl_RX7_118 : jFld RX7 118 7 45 (.array .int) true := ⟨_, _, _, tyX7, rfl, inX7, tyX7_ok, nmX7, by decide, (jl25_in _ (List.mem_of_getElem? (i := 2) rfl)), by decide +kernel, rfl⟩
theorem fl_RX7_121 : jFld RX7 121 7 46 (.array .int) true := ⟨_, _, _, tyX7, rfl, inX7, tyX7_ok, nmX7, by decide, (jl25_in _ (List.mem_of_getElem? (i := 3) rfl)), by decide +kernel, rfl⟩
theorem fl_RX7_124 : jFld RX7 124 7 47 (.array .int) true := ⟨_, _, _, tyX7, rfl, inX7, tyX7_ok, nmX7, by decide, (jl25_in _ (List.mem_of_getElem? (i := 4) rfl)), by decide +kernel, rfl⟩
theorem fl_RX7_127 : jFld RX7 127 7 48 (.array .int) true := ⟨_, _, _, tyX7, rfl, inX7, tyX7_ok, nmX7, by decide, (jl25_in _ (List.mem_of_getElem? (i := 5) rfl)), by decide +kernel, rfl⟩
theorem fl_RX7_130 : jFld RX7 130 7 50 (.array .int) true := ⟨_, _, _, tyX7, rfl, inX7, tyX7_ok, nmX7, by decide, (jl25_in _ (List.mem_of_getElem? (i := 7) rfl)), by decide +kernel, rfl⟩
theorem fl_RX7_133 : jFld RX7 133 7 55 (.array .int) true := ⟨_, _, _, tyX7, rfl, inX7, tyX7_ok, nmX7, by decide, (jl25_in _ (List.mem_of_getElem? (i := 12) rfl)), by decide +kernel, rfl⟩
theorem fl_RX7_136 : jFld RX7 136 7 56 (.array .int) true := ⟨_, _, _, tyX7, rfl, inX7, tyX7_ok, nmX7, by decide, (jl25_in _ (List.mem_of_getElem? (i := 13) rfl)), by decide +kernel, rfl⟩
theorem fl_RX7_139 : jFld RX7 139 7 57 (.array .int) true := ⟨_, _, _, tyX7, rfl, inX7, tyX7_ok, nmX7, by decide, (jl25_in _ (List.mem_of_getElem? (i := 14) rfl)), by decide +kernel, rfl⟩
theorem fl_RX7_142 : jFld RX7 142 7 58 (.array .int) true := ⟨_, _, _, tyX7, rfl, inX7, tyX7_ok, nmX7, by decide, (jl25_in _ (List.mem_of_getElem? (i := 15) rfl)), by decide +kernel, rfl⟩
theorem fl_RX7_145 : jFld RX7 145 7 59 (.array .int) true := ⟨_, _, _, tyX7, rfl, inX7, tyX7_ok, nmX7, by decide, (jl25_in _ (List.mem_of_getElem? (i := 16) rfl)), by decide +kernel, rfl⟩
theorem fl_RX7_148 : jFld RX7 148 7 60 (.array .int) true := ⟨_, _, _, tyX7, rfl, inX7, tyX7_ok, nmX7, by decide, (jl25_in _ (List.mem_of_getElem? (i := 17) rfl)), by decide +kernel, rfl⟩
theorem fl_RX7_151 : jFld RX7 151 7 4 .int false := ⟨_, _, _, tyX7, rfl, inX7, tyX7_ok, nmX7, by decide, (jl24_in _ (List.mem_of_getElem? (i := 1) rfl)), by decide +kernel, rfl⟩
theorem fl_RX7_158 : jFld RX7 158 7 17 .int false := ⟨_, _, _, tyX7, rfl, inX7, tyX7_ok, nmX7, by decide, (jl24_in _ (List.mem_of_getElem? (i := 14) rfl)), by decide +kernel, rfl⟩
theorem fl_RX7_161 : jFld RX7 161 7 19 .int false := ⟨_, _, _, tyX7, rfl, inX7, tyX7_ok, nmX7, by decide, (jl24_in _ (List.mem_of_getElem? (i := 16) rfl)), by decide +kernel, rfl⟩
theorem fl_RX7_164 : jFld RX7 164 7 18 .int false := ⟨_, _, _, tyX7, rfl, inX7, tyX7_ok, nmX7, by decide, (jl24_in _ (List.mem_of_getElem? (i := 15) rfl)), by decide +kernel, rfl⟩
theorem fl_RX7_171 : jFld RX7 171 7 22 .int false := ⟨_, _, _, tyX7, rfl, inX7, tyX7_ok, nmX7, by decide, (jl24_in _ (List.mem_of_getElem? (i := 19) rfl)), by decide +kernel, rfl⟩
theorem fl_RX7_174 : jFld RX7 174 7 20 .int false := ⟨_, _, _, tyX7, rfl, inX7, tyX7_ok, nmX7, by decide, (jl24_in _ (List.mem_of_getElem? (i := 17) rfl)), by decide +kernel, rfl⟩
theorem fl_RX7_184 : jFld RX7 184 7 21 .int false := ⟨_, _, _, tyX7, rfl, inX7, tyX7_ok, nmX7, by decide, (jl24_in _ (List.mem_of_getElem? (i := 18) rfl)), by decide +kernel, rfl⟩
theorem fl_RX7_197 : jFld RX7 197 7 23 .int false := ⟨_, _, _, tyX7, rfl, inX7, tyX7_ok, nmX7, by decide, (jl24_in _ (List.mem_of_getElem? (i := 20) rfl)), by decide +kernel, rfl⟩
theorem fl_RX7_200 : jFld RX7 200 7 24 .int false := ⟨_, _, _, tyX7, rfl, inX7, tyX7_ok, nmX7, by decide, (jl24_in _ (List.mem_of_getElem? (i := 21) rfl)), by decide +kernel, rfl⟩
theorem fl_RX7_203 : jFld RX7 203 7 25 .int false := ⟨_, _, _, tyX7, rfl, inX7, tyX7_ok, nmX7, by decide, (jl24_in _ (List.mem_of_getElem? (i := 22) rfl)), by decide +kernel, rfl⟩
theorem fl_RX7_231 : jFld RX7 231 7 27 .boolean false := ⟨_, _, _, tyX7, rfl, inX7, tyX7_ok, nmX7, by decide, (jl24_in _ (List.mem_of_getElem? (i := 24) rfl)), by decide +kernel, rfl⟩
theorem fl_RX7_306 : jFld RX7 306 7 34 .int false := ⟨_, _, _, tyX7, rfl, inX7, tyX7_ok, nmX7, by decide, (jl24_in _ (List.mem_of_getElem? (i := 31) rfl)), by decide +kernel, rfl⟩
theorem fl_RX7_309 : jFld RX7 309 7 35 .int false := ⟨_, _, _, tyX7, rfl, inX7, tyX7_ok, nmX7, by decide, (jl24_in _ (List.mem_of_getElem? (i := 32) rfl)), by decide +kernel, rfl⟩
theorem fl_RX7_312 : jFld RX7 312 7 36 .int false := ⟨_, _, _, tyX7, rfl, inX7, tyX7_ok, nmX7, by decide, (jl24_in _ (List.mem_of_getElem? (i := 33) rfl)), by decide +kernel, rfl⟩
theorem fl_RX7_314 : jFld RX7 314 7 52 .boolean false := ⟨_, _, _, tyX7, rfl, inX7, tyX7_ok, nmX7, by decide, (jl25_in _ (List.mem_of_getElem? (i := 9) rfl)), by decide +kernel, rfl⟩
theorem fl_RX7_344 : jFld RX7 344 7 40 .int false := ⟨_, _, _, tyX7, rfl, inX7, tyX7_ok, nmX7, by decide, (jl24_in _ (List.mem_of_getElem? (i := 37) rfl)), by decide +kernel, rfl⟩
theorem fl_RX7_432 : jFld RX7 432 7 49 .int false := ⟨_, _, _, tyX7, rfl, inX7, tyX7_ok, nmX7, by decide, (jl25_in _ (List.mem_of_getElem? (i := 6) rfl)), by decide +kernel, rfl⟩
theorem fl_RX7_449 : jFld RX7 449 7 51 .int false := ⟨_, _, _, tyX7, rfl, inX7, tyX7_ok, nmX7, by decide, (jl25_in _ (List.mem_of_getElem? (i := 8) rfl)), by decide +kernel, rfl⟩
theorem fl_RX7_459 : jFld RX7 459 7 53 .int false := ⟨_, _, _, tyX7, rfl, inX7, tyX7_ok, nmX7, by decide, (jl25_in _ (List.mem_of_getElem? (i := 10) rfl)), by decide +kernel, rfl⟩
theorem fl_RX7_462 : jFld RX7 462 7 54 .int false := ⟨_, _, _, tyX7, rfl, inX7, tyX7_ok, nmX7, by decide, (jl25_in _ (List.mem_of_getElem? (i := 11) rfl)), by decide +kernel, rfl⟩
theorem ml_RX6_1 : Cond.methodLink RX6 1 ⟨"java/lang/Object", "<init>", "()V"⟩ ∈ jT := (jl0_in _ (List.mem_of_getElem? (i := 27) rfl))
theorem ml_RX6_72 : Cond.methodLink RX6 72 yX0_begin ∈ jT := (jl4_in _ (List.mem_of_getElem? (i := 24) rfl))
theorem ml_RX6_76 : Cond.methodLink RX6 76 yX6_putFour ∈ jT := (jl5_in _ (List.mem_of_getElem? (i := 15) rfl))
theorem ml_RX6_84 : Cond.methodLink RX6 84 ⟨"java/lang/IllegalArgumentException", "<init>", "(Ljava/lang/String;)V"⟩ ∈ jT := (jl10_in _ (List.mem_of_getElem? (i := 7) rfl))
theorem ml_RX6_87 : Cond.methodLink RX6 87 yX4_read ∈ jT := (jl10_in _ (List.mem_of_getElem? (i := 24) rfl))
theorem ml_RX6_100 : Cond.methodLink RX6 100 yX4_exchange ∈ jT := (jl14_in _ (List.mem_of_getElem? (i := 14) rfl))
theorem ml_RX6_119 : Cond.methodLink RX6 119 yX5_fairOnes ∈ jT := (jl14_in _ (List.mem_of_getElem? (i := 26) rfl))
theorem ml_RX6_123 : Cond.methodLink RX6 123 yX5_landedOnes ∈ jT := (jl8_in _ (List.mem_of_getElem? (i := 2) rfl))
theorem ml_RX6_126 : Cond.methodLink RX6 126 yX5_afloatOnes ∈ jT := (jl14_in _ (List.mem_of_getElem? (i := 30) rfl))
theorem ml_RX6_129 : Cond.methodLink RX6 129 yX5_pools ∈ jT := (jl14_in _ (List.mem_of_getElem? (i := 34) rfl))
theorem ml_RX6_132 : Cond.methodLink RX6 132 yX6_fewestWithAll ∈ jT := (jl14_in _ (List.mem_of_getElem? (i := 38) rfl))
theorem ml_RX6_146 : Cond.methodLink RX6 146 ⟨"java/util/NoSuchElementException", "<init>", "(Ljava/lang/String;)V"⟩ ∈ jT := (jl15_in _ (List.mem_of_getElem? (i := 6) rfl))
theorem ml_RX6_150 : Cond.methodLink RX6 150 yX1_allSides ∈ jT := (jl15_in _ (List.mem_of_getElem? (i := 1) rfl))
theorem ml_RX6_153 : Cond.methodLink RX6 153 yJ6_bitCount_0f7a4 ∈ jT := (jl15_in _ (List.mem_of_getElem? (i := 2) rfl))
theorem ml_RX6_159 : Cond.methodLink RX6 159 yX6_needReach ∈ jT := (jl15_in _ (List.mem_of_getElem? (i := 17) rfl))
theorem ml_RX6_162 : Cond.methodLink RX6 162 yX6_needWhat ∈ jT := (jl15_in _ (List.mem_of_getElem? (i := 20) rfl))
theorem ml_RX6_172 : Cond.methodLink RX6 172 yX5_onesOn ∈ jT := (jl15_in _ (List.mem_of_getElem? (i := 23) rfl))
theorem ml_RX6_176 : Cond.methodLink RX6 176 yX6_needJudge ∈ jT := (jl15_in _ (List.mem_of_getElem? (i := 31) rfl))
theorem ml_RX6_195 : Cond.methodLink RX6 195 yX6_refuse ∈ jT := (jl5_in _ (List.mem_of_getElem? (i := 26) rfl))
theorem ml_RX6_198 : Cond.methodLink RX6 198 yX0_keepAct ∈ jT := (jl5_in _ (List.mem_of_getElem? (i := 29) rfl))
theorem ml_RX6_201 : Cond.methodLink RX6 201 yX5_pass ∈ jT := (jl5_in _ (List.mem_of_getElem? (i := 39) rfl))
theorem ml_RX6_205 : Cond.methodLink RX6 205 yX5_goOn ∈ jT := (jl16_in _ (List.mem_of_getElem? (i := 1) rfl))
theorem ml_RX6_209 : Cond.methodLink RX6 209 yX6_needSide ∈ jT := (jl16_in _ (List.mem_of_getElem? (i := 9) rfl))
theorem ml_RX6_212 : Cond.methodLink RX6 212 yX0_undoAct ∈ jT := (jl7_in _ (List.mem_of_getElem? (i := 30) rfl))
theorem ml_RX6_216 : Cond.methodLink RX6 216 yX6_needSteps ∈ jT := (jl16_in _ (List.mem_of_getElem? (i := 33) rfl))
theorem ml_RX6_220 : Cond.methodLink RX6 220 yX6_tryFor ∈ jT := (jl16_in _ (List.mem_of_getElem? (i := 36) rfl))
theorem ml_RX6_223 : Cond.methodLink RX6 223 yX6_tryFromNow ∈ jT := (jl8_in _ (List.mem_of_getElem? (i := 6) rfl))
theorem ml_RX6_226 : Cond.methodLink RX6 226 yX6_stepsTillFair ∈ jT := (jl17_in _ (List.mem_of_getElem? (i := 9) rfl))
theorem ml_RX6_229 : Cond.methodLink RX6 229 yX6_stepsTillLanded ∈ jT := (jl17_in _ (List.mem_of_getElem? (i := 13) rfl))
theorem ml_RX6_232 : Cond.methodLink RX6 232 yX5_isFair ∈ jT := (jl17_in _ (List.mem_of_getElem? (i := 12) rfl))
theorem ml_RX6_236 : Cond.methodLink RX6 236 yX5_crowd ∈ jT := (jl17_in _ (List.mem_of_getElem? (i := 23) rfl))
theorem ml_RX6_239 : Cond.methodLink RX6 239 yJ6_numberOfTrailingZeros_0f7a4 ∈ jT := (jl9_in _ (List.mem_of_getElem? (i := 0) rfl))
theorem ml_RX6_242 : Cond.methodLink RX6 242 yX5_isOnPool ∈ jT := (jl18_in _ (List.mem_of_getElem? (i := 8) rfl))
theorem ml_RX6_246 : Cond.methodLink RX6 246 yX5_isAlone ∈ jT := (jl18_in _ (List.mem_of_getElem? (i := 12) rfl))
theorem ml_RX6_252 : Cond.methodLink RX6 252 yX6_isSooner ∈ jT := (jl18_in _ (List.mem_of_getElem? (i := 37) rfl))
theorem ml_RX6_256 : Cond.methodLink RX6 256 yX6_goOnTrying ∈ jT := (jl16_in _ (List.mem_of_getElem? (i := 39) rfl))
theorem ml_RX6_259 : Cond.methodLink RX6 259 yX3_fill ∈ jT := (jl20_in _ (List.mem_of_getElem? (i := 15) rfl))
theorem ml_RX6_272 : Cond.methodLink RX6 272 yX0_keepSighting ∈ jT := (jl21_in _ (List.mem_of_getElem? (i := 34) rfl))
theorem ml_RX6_275 : Cond.methodLink RX6 275 yX6_sightingsHold ∈ jT := (jl22_in _ (List.mem_of_getElem? (i := 5) rfl))
theorem ml_RX6_278 : Cond.methodLink RX6 278 yX6_tryGuess ∈ jT := (jl22_in _ (List.mem_of_getElem? (i := 13) rfl))
theorem ml_RX6_282 : Cond.methodLink RX6 282 yX0_lastSightingStep ∈ jT := (jl22_in _ (List.mem_of_getElem? (i := 8) rfl))
theorem ml_RX6_294 : Cond.methodLink RX6 294 yJ7_fill_53178 ∈ jT := (jl22_in _ (List.mem_of_getElem? (i := 23) rfl))
theorem ml_RX6_299 : Cond.methodLink RX6 299 yX6_addPlaces ∈ jT := (jl22_in _ (List.mem_of_getElem? (i := 24) rfl))
theorem ml_RX6_306 : Cond.methodLink RX6 306 yX6_play ∈ jT := (jl23_in _ (List.mem_of_getElem? (i := 1) rfl))
theorem ml_RX6_309 : Cond.methodLink RX6 309 yX6_rests ∈ jT := (jl23_in _ (List.mem_of_getElem? (i := 5) rfl))
theorem ml_RX6_312 : Cond.methodLink RX6 312 yX5_turnBy ∈ jT := (jl23_in _ (List.mem_of_getElem? (i := 4) rfl))
theorem ml_RX6_315 : Cond.methodLink RX6 315 yX6_befall ∈ jT := (jl23_in _ (List.mem_of_getElem? (i := 15) rfl))
theorem ml_RX6_318 : Cond.methodLink RX6 318 yX5_turnedByAll ∈ jT := (jl23_in _ (List.mem_of_getElem? (i := 26) rfl))
theorem ml_RX6_321 : Cond.methodLink RX6 321 yX6_stir ∈ jT := (jl23_in _ (List.mem_of_getElem? (i := 18) rfl))
theorem ml_RX6_324 : Cond.methodLink RX6 324 yX6_draw ∈ jT := (jl23_in _ (List.mem_of_getElem? (i := 22) rfl))
theorem ml_RX6_329 : Cond.methodLink RX6 329 yX6_rest ∈ jT := (jl23_in _ (List.mem_of_getElem? (i := 25) rfl))
theorem ml_RX6_332 : Cond.methodLink RX6 332 yX0_copyFrom ∈ jT := (jl9_in _ (List.mem_of_getElem? (i := 12) rfl))
theorem ml_RX6_336 : Cond.methodLink RX6 336 yX5_copyFrom ∈ jT := (jl8_in _ (List.mem_of_getElem? (i := 9) rfl))
theorem ml_RX0_3 : Cond.methodLink RX0 3 ⟨"java/lang/Object", "<init>", "()V"⟩ ∈ jT := (jl2_in _ (List.mem_of_getElem? (i := 35) rfl))
theorem ml_RX0_44 : Cond.methodLink RX0 44 yX5_begin ∈ jT := (jl4_in _ (List.mem_of_getElem? (i := 28) rfl))
theorem ml_RX0_48 : Cond.methodLink RX0 48 yX5_copyFrom ∈ jT := (jl9_in _ (List.mem_of_getElem? (i := 16) rfl))
theorem ml_RX0_52 : Cond.methodLink RX0 52 arraycopyName ∈ jT := (jl9_in _ (List.mem_of_getElem? (i := 17) rfl))
theorem ml_RX0_62 : Cond.methodLink RX0 62 yX5_writeTo ∈ jT := (jl5_in _ (List.mem_of_getElem? (i := 35) rfl))
theorem ml_RX0_66 : Cond.methodLink RX0 66 yX5_readFrom ∈ jT := (jl7_in _ (List.mem_of_getElem? (i := 34) rfl))
theorem ml_RX0_69 : Cond.methodLink RX0 69 yJ9_max_7cf53 ∈ jT := (jl22_in _ (List.mem_of_getElem? (i := 12) rfl))
theorem ml_RX1_3 : Cond.methodLink RX1 3 ⟨"java/lang/Object", "<init>", "()V"⟩ ∈ jT := (jl0_in _ (List.mem_of_getElem? (i := 39) rfl))
theorem ml_RX2_1 : Cond.methodLink RX2 1 ⟨"java/lang/Object", "<init>", "()V"⟩ ∈ jT := (jl3_in _ (List.mem_of_getElem? (i := 5) rfl))
theorem ml_RX2_16 : Cond.methodLink RX2 16 yJ9_max_7cf53 ∈ jT := (jl6_in _ (List.mem_of_getElem? (i := 30) rfl))
theorem ml_RX2_22 : Cond.methodLink RX2 22 yX2_valueOf ∈ jT := (jl6_in _ (List.mem_of_getElem? (i := 33) rfl))
theorem ml_RX2_26 : Cond.methodLink RX2 26 yX2_combine ∈ jT := (jl6_in _ (List.mem_of_getElem? (i := 36) rfl))
theorem ml_RX3_3 : Cond.methodLink RX3 3 ⟨"java/lang/Object", "<init>", "()V"⟩ ∈ jT := (jl4_in _ (List.mem_of_getElem? (i := 16) rfl))
theorem ml_RX3_33 : Cond.methodLink RX3 33 yX3_bestWorth ∈ jT := (jl20_in _ (List.mem_of_getElem? (i := 19) rfl))
theorem ml_RX3_37 : Cond.methodLink RX3 37 yX3_firstBest ∈ jT := (jl20_in _ (List.mem_of_getElem? (i := 29) rfl))
theorem ml_RX3_43 : Cond.methodLink RX3 43 yX3_mayHave ∈ jT := (jl20_in _ (List.mem_of_getElem? (i := 22) rfl))
theorem ml_RX3_47 : Cond.methodLink RX3 47 yX3_worthWith ∈ jT := (jl20_in _ (List.mem_of_getElem? (i := 25) rfl))
theorem ml_RX3_51 : Cond.methodLink RX3 51 yJ9_max_7cf53 ∈ jT := (jl20_in _ (List.mem_of_getElem? (i := 28) rfl))
theorem ml_RX4_3 : Cond.methodLink RX4 3 ⟨"java/lang/Object", "<init>", "()V"⟩ ∈ jT := (jl0_in _ (List.mem_of_getElem? (i := 34) rfl))
theorem ml_RX4_57 : Cond.methodLink RX4 57 yJ9_min_7cf53 ∈ jT := (jl10_in _ (List.mem_of_getElem? (i := 28) rfl))
theorem ml_RX4_63 : Cond.methodLink RX4 63 yX1_clear ∈ jT := (jl10_in _ (List.mem_of_getElem? (i := 29) rfl))
theorem ml_RX4_66 : Cond.methodLink RX4 66 yX4_next ∈ jT := (jl10_in _ (List.mem_of_getElem? (i := 33) rfl))
theorem ml_RX4_69 : Cond.methodLink RX4 69 yX4_readLine ∈ jT := (jl11_in _ (List.mem_of_getElem? (i := 11) rfl))
theorem ml_RX4_73 : Cond.methodLink RX4 73 yX4_isBlank ∈ jT := (jl10_in _ (List.mem_of_getElem? (i := 36) rfl))
theorem ml_RX4_77 : Cond.methodLink RX4 77 yX4_isLetter ∈ jT := (jl10_in _ (List.mem_of_getElem? (i := 39) rfl))
theorem ml_RX4_80 : Cond.methodLink RX4 80 yX4_isDigit ∈ jT := (jl11_in _ (List.mem_of_getElem? (i := 2) rfl))
theorem ml_RX4_83 : Cond.methodLink RX4 83 yX4_takeDigits ∈ jT := (jl11_in _ (List.mem_of_getElem? (i := 5) rfl))
theorem ml_RX4_86 : Cond.methodLink RX4 86 yX4_isSignByte ∈ jT := (jl11_in _ (List.mem_of_getElem? (i := 8) rfl))
theorem ml_RX4_89 : Cond.methodLink RX4 89 yJ0_length_8abf5 ∈ jT := (jl11_in _ (List.mem_of_getElem? (i := 17) rfl))
theorem ml_RX4_94 : Cond.methodLink RX4 94 yJ0_charAt_5068e ∈ jT := (jl11_in _ (List.mem_of_getElem? (i := 26) rfl))
theorem ml_RX4_100 : Cond.methodLink RX4 100 yX4_isWord ∈ jT := (jl11_in _ (List.mem_of_getElem? (i := 14) rfl))
theorem ml_RX4_104 : Cond.methodLink RX4 104 yX4_readSides ∈ jT := (jl12_in _ (List.mem_of_getElem? (i := 20) rfl))
theorem ml_RX4_109 : Cond.methodLink RX4 109 yX4_readReach ∈ jT := (jl12_in _ (List.mem_of_getElem? (i := 35) rfl))
theorem ml_RX4_114 : Cond.methodLink RX4 114 yX4_readJudge ∈ jT := (jl12_in _ (List.mem_of_getElem? (i := 38) rfl))
theorem ml_RX4_122 : Cond.methodLink RX4 122 yX4_readTurns ∈ jT := (jl13_in _ (List.mem_of_getElem? (i := 1) rfl))
theorem ml_RX4_127 : Cond.methodLink RX4 127 yX4_readGoes ∈ jT := (jl14_in _ (List.mem_of_getElem? (i := 10) rfl))
theorem ml_RX4_130 : Cond.methodLink RX4 130 yX4_refuseToken ∈ jT := (jl12_in _ (List.mem_of_getElem? (i := 23) rfl))
theorem ml_RX4_136 : Cond.methodLink RX4 136 yX4_readNumber ∈ jT := (jl12_in _ (List.mem_of_getElem? (i := 26) rfl))
theorem ml_RX4_142 : Cond.methodLink RX4 142 yX4_readSign ∈ jT := (jl12_in _ (List.mem_of_getElem? (i := 29) rfl))
theorem ml_RX4_168 : Cond.methodLink RX4 168 yX1_hasTurns ∈ jT := (jl13_in _ (List.mem_of_getElem? (i := 4) rfl))
theorem ml_RX4_177 : Cond.methodLink RX4 177 yX4_readExpr ∈ jT := (jl13_in _ (List.mem_of_getElem? (i := 5) rfl))
theorem ml_RX4_183 : Cond.methodLink RX4 183 yX1_hasGoes ∈ jT := (jl14_in _ (List.mem_of_getElem? (i := 13) rfl))
theorem ml_RX4_192 : Cond.methodLink RX4 192 yX4_isSign ∈ jT := (jl12_in _ (List.mem_of_getElem? (i := 32) rfl))
theorem ml_RX4_195 : Cond.methodLink RX4 195 yX4_readAnd ∈ jT := (jl13_in _ (List.mem_of_getElem? (i := 8) rfl))
theorem ml_RX4_202 : Cond.methodLink RX4 202 yX1_emit ∈ jT := (jl14_in _ (List.mem_of_getElem? (i := 3) rfl))
theorem ml_RX4_206 : Cond.methodLink RX4 206 yX4_readNot ∈ jT := (jl13_in _ (List.mem_of_getElem? (i := 11) rfl))
theorem ml_RX4_213 : Cond.methodLink RX4 213 yX4_readSum ∈ jT := (jl13_in _ (List.mem_of_getElem? (i := 14) rfl))
theorem ml_RX4_216 : Cond.methodLink RX4 216 yX4_readProduct ∈ jT := (jl13_in _ (List.mem_of_getElem? (i := 17) rfl))
theorem ml_RX4_219 : Cond.methodLink RX4 219 yX4_readPart ∈ jT := (jl14_in _ (List.mem_of_getElem? (i := 0) rfl))
theorem ml_RX4_222 : Cond.methodLink RX4 222 yX4_valueWord ∈ jT := (jl14_in _ (List.mem_of_getElem? (i := 7) rfl))
theorem ml_RX5_3 : Cond.methodLink RX5 3 ⟨"java/lang/Object", "<init>", "()V"⟩ ∈ jT := (jl3_in _ (List.mem_of_getElem? (i := 0) rfl))
theorem ml_RX5_44 : Cond.methodLink RX5 44 yJ7_fill_53178 ∈ jT := (jl4_in _ (List.mem_of_getElem? (i := 32) rfl))
theorem ml_RX5_55 : Cond.methodLink RX5 55 arraycopyName ∈ jT := (jl4_in _ (List.mem_of_getElem? (i := 35) rfl))
theorem ml_RX5_73 : Cond.methodLink RX5 73 yX5_drift ∈ jT := (jl6_in _ (List.mem_of_getElem? (i := 3) rfl))
theorem ml_RX5_77 : Cond.methodLink RX5 77 yX5_turnOn ∈ jT := (jl6_in _ (List.mem_of_getElem? (i := 6) rfl))
theorem ml_RX5_81 : Cond.methodLink RX5 81 yX5_turnBy ∈ jT := (jl7_in _ (List.mem_of_getElem? (i := 3) rfl))
theorem ml_RX5_85 : Cond.methodLink RX5 85 yX5_wayOn ∈ jT := (jl7_in _ (List.mem_of_getElem? (i := 7) rfl))
theorem ml_RX5_88 : Cond.methodLink RX5 88 yX5_goOn ∈ jT := (jl7_in _ (List.mem_of_getElem? (i := 22) rfl))
theorem ml_RX5_91 : Cond.methodLink RX5 91 yX1_hasTurns ∈ jT := (jl6_in _ (List.mem_of_getElem? (i := 9) rfl))
theorem ml_RX5_95 : Cond.methodLink RX5 95 yX5_tellMachine ∈ jT := (jl6_in _ (List.mem_of_getElem? (i := 13) rfl))
theorem ml_RX5_107 : Cond.methodLink RX5 107 yX2_result ∈ jT := (jl6_in _ (List.mem_of_getElem? (i := 26) rfl))
theorem ml_RX5_111 : Cond.methodLink RX5 111 yJ9_min_7cf53 ∈ jT := (jl6_in _ (List.mem_of_getElem? (i := 39) rfl))
theorem ml_RX5_117 : Cond.methodLink RX5 117 yJ9_max_7cf53 ∈ jT := (jl7_in _ (List.mem_of_getElem? (i := 2) rfl))
theorem ml_RX5_124 : Cond.methodLink RX5 124 yX1_hasGoes ∈ jT := (jl7_in _ (List.mem_of_getElem? (i := 10) rfl))
theorem ml_RX5_133 : Cond.methodLink RX5 133 yX5_isFair ∈ jT := (jl7_in _ (List.mem_of_getElem? (i := 14) rfl))
theorem ml_RX5_140 : Cond.methodLink RX5 140 yJ6_bitCount_0f7a4 ∈ jT := (jl6_in _ (List.mem_of_getElem? (i := 16) rfl))
theorem ml_RX5_146 : Cond.methodLink RX5 146 yX5_onesOn ∈ jT := (jl6_in _ (List.mem_of_getElem? (i := 22) rfl))
theorem ml_RX5_156 : Cond.methodLink RX5 156 yX1_allSides ∈ jT := (jl7_in _ (List.mem_of_getElem? (i := 18) rfl))
theorem ml_RL_7 : Cond.methodLink RL 7 yX6_gorge ∈ jT := (jl9_in _ (List.mem_of_getElem? (i := 26) rfl))
theorem ml_RL_15 : Cond.methodLink RL 15 yX6_count ∈ jT := (jl14_in _ (List.mem_of_getElem? (i := 22) rfl))
theorem ml_RL_20 : Cond.methodLink RL 20 yX6_reach ∈ jT := (jl15_in _ (List.mem_of_getElem? (i := 13) rfl))
theorem ml_RL_24 : Cond.methodLink RL 24 yX6_judge ∈ jT := (jl15_in _ (List.mem_of_getElem? (i := 27) rfl))
theorem ml_RL_27 : Cond.methodLink RL 27 yX6_call ∈ jT := (jl15_in _ (List.mem_of_getElem? (i := 37) rfl))
theorem ml_RL_30 : Cond.methodLink RL 30 yX6_paddle ∈ jT := (jl16_in _ (List.mem_of_getElem? (i := 5) rfl))
theorem ml_RL_33 : Cond.methodLink RL 33 yX6_carry ∈ jT := (jl16_in _ (List.mem_of_getElem? (i := 15) rfl))
theorem ml_RL_36 : Cond.methodLink RL 36 yX6_dredge ∈ jT := (jl16_in _ (List.mem_of_getElem? (i := 22) rfl))
theorem ml_RL_40 : Cond.methodLink RL 40 yX6_then ∈ jT := (jl16_in _ (List.mem_of_getElem? (i := 29) rfl))
theorem ml_RL_43 : Cond.methodLink RL 43 yX6_when ∈ jT := (jl17_in _ (List.mem_of_getElem? (i := 5) rfl))
theorem ml_RL_46 : Cond.methodLink RL 46 yX6_later ∈ jT := (jl17_in _ (List.mem_of_getElem? (i := 19) rfl))
theorem ml_RL_49 : Cond.methodLink RL 49 yX6_beside ∈ jT := (jl17_in _ (List.mem_of_getElem? (i := 30) rfl))
theorem ml_RL_52 : Cond.methodLink RL 52 yX6_last ∈ jT := (jl17_in _ (List.mem_of_getElem? (i := 37) rfl))
theorem ml_RL_55 : Cond.methodLink RL 55 yX6_still ∈ jT := (jl18_in _ (List.mem_of_getElem? (i := 4) rfl))
theorem ml_RL_58 : Cond.methodLink RL 58 yX6_turned ∈ jT := (jl18_in _ (List.mem_of_getElem? (i := 19) rfl))
theorem ml_RL_61 : Cond.methodLink RL 61 yX6_stay ∈ jT := (jl18_in _ (List.mem_of_getElem? (i := 26) rfl))
theorem ml_RL_64 : Cond.methodLink RL 64 yX6_toSet ∈ jT := (jl18_in _ (List.mem_of_getElem? (i := 33) rfl))
theorem ml_RL_67 : Cond.methodLink RL 67 yX6_toSpin ∈ jT := (jl19_in _ (List.mem_of_getElem? (i := 3) rfl))
theorem ml_RL_70 : Cond.methodLink RL 70 yX6_toCall ∈ jT := (jl20_in _ (List.mem_of_getElem? (i := 4) rfl))
theorem ml_RL_73 : Cond.methodLink RL 73 yX6_panel ∈ jT := (jl20_in _ (List.mem_of_getElem? (i := 11) rfl))
theorem ml_RL_76 : Cond.methodLink RL 76 yX6_seat ∈ jT := (jl20_in _ (List.mem_of_getElem? (i := 35) rfl))
theorem ml_RL_79 : Cond.methodLink RL 79 yX6_unlike ∈ jT := (jl21_in _ (List.mem_of_getElem? (i := 2) rfl))
theorem ml_RL_82 : Cond.methodLink RL 82 yX6_sides ∈ jT := (jl21_in _ (List.mem_of_getElem? (i := 9) rfl))
theorem ml_RL_85 : Cond.methodLink RL 85 yX6_facing ∈ jT := (jl21_in _ (List.mem_of_getElem? (i := 16) rfl))
theorem ml_RL_88 : Cond.methodLink RL 88 yX6_agree ∈ jT := (jl21_in _ (List.mem_of_getElem? (i := 23) rfl))
theorem ml_RL_91 : Cond.methodLink RL 91 yX6_see ∈ jT := (jl21_in _ (List.mem_of_getElem? (i := 30) rfl))
theorem ml_RL_94 : Cond.methodLink RL 94 yX6_leans ∈ jT := (jl22_in _ (List.mem_of_getElem? (i := 1) rfl))
theorem ml_RL_97 : Cond.methodLink RL 97 yX6_watch ∈ jT := (jl22_in _ (List.mem_of_getElem? (i := 19) rfl))
theorem ml_RL_100 : Cond.methodLink RL 100 yX6_floods ∈ jT := (jl22_in _ (List.mem_of_getElem? (i := 30) rfl))
theorem ml_RL_103 : Cond.methodLink RL 103 yX6_game ∈ jT := (jl22_in _ (List.mem_of_getElem? (i := 37) rfl))
theorem ml_RL_106 : Cond.methodLink RL 106 yX6_years ∈ jT := (jl23_in _ (List.mem_of_getElem? (i := 11) rfl))
theorem ml_RL_109 : Cond.methodLink RL 109 yX6_init ∈ jT := (jl0_in _ (List.mem_of_getElem? (i := 24) rfl))
theorem ml_RL_112 : Cond.methodLink RL 112 yX7_init ∈ jT := (jl23_in _ (List.mem_of_getElem? (i := 32) rfl))
theorem ml_RL_113 : Cond.methodLink RL 113 yX6_feed ∈ jT := (jl5_in _ (List.mem_of_getElem? (i := 11) rfl))
theorem ml_RL_117 : Cond.methodLink RL 117 yX7_feed ∈ jT := (jl26_in _ (List.mem_of_getElem? (i := 4) rfl))
theorem ml_RL_118 : Cond.methodLink RL 118 yL_gorge ∈ jT := (jl9_in _ (List.mem_of_getElem? (i := 22) rfl))
theorem ml_RL_123 : Cond.methodLink RL 123 yX7_gorge ∈ jT := (jl26_in _ (List.mem_of_getElem? (i := 8) rfl))
theorem ml_RL_124 : Cond.methodLink RL 124 yX7_thrown ∈ jT := (jl26_in _ (List.mem_of_getElem? (i := 0) rfl))
theorem ml_RL_128 : Cond.methodLink RL 128 yX6_fault ∈ jT := (jl5_in _ (List.mem_of_getElem? (i := 18) rfl))
theorem ml_RL_131 : Cond.methodLink RL 131 yX7_fault ∈ jT := (jl29_in _ (List.mem_of_getElem? (i := 8) rfl))
theorem ml_RL_132 : Cond.methodLink RL 132 yL_count ∈ jT := (jl14_in _ (List.mem_of_getElem? (i := 18) rfl))
theorem ml_RL_134 : Cond.methodLink RL 134 yX7_count ∈ jT := (jl29_in _ (List.mem_of_getElem? (i := 12) rfl))
theorem ml_RL_135 : Cond.methodLink RL 135 yL_reach ∈ jT := (jl15_in _ (List.mem_of_getElem? (i := 10) rfl))
theorem ml_RL_138 : Cond.methodLink RL 138 yX7_reach ∈ jT := (jl30_in _ (List.mem_of_getElem? (i := 3) rfl))
theorem ml_RL_139 : Cond.methodLink RL 139 yL_judge ∈ jT := (jl15_in _ (List.mem_of_getElem? (i := 24) rfl))
theorem ml_RL_141 : Cond.methodLink RL 141 yX7_judge ∈ jT := (jl30_in _ (List.mem_of_getElem? (i := 14) rfl))
theorem ml_RL_142 : Cond.methodLink RL 142 yX6_steps ∈ jT := (jl5_in _ (List.mem_of_getElem? (i := 22) rfl))
theorem ml_RL_145 : Cond.methodLink RL 145 yX7_steps ∈ jT := (jl30_in _ (List.mem_of_getElem? (i := 21) rfl))
theorem ml_RL_146 : Cond.methodLink RL 146 yL_call ∈ jT := (jl15_in _ (List.mem_of_getElem? (i := 34) rfl))
theorem ml_RL_148 : Cond.methodLink RL 148 yX7_call ∈ jT := (jl31_in _ (List.mem_of_getElem? (i := 20) rfl))
theorem ml_RL_149 : Cond.methodLink RL 149 yL_paddle ∈ jT := (jl16_in _ (List.mem_of_getElem? (i := 2) rfl))
theorem ml_RL_151 : Cond.methodLink RL 151 yX7_paddle ∈ jT := (jl31_in _ (List.mem_of_getElem? (i := 24) rfl))
theorem ml_RL_152 : Cond.methodLink RL 152 yL_carry ∈ jT := (jl16_in _ (List.mem_of_getElem? (i := 12) rfl))
theorem ml_RL_154 : Cond.methodLink RL 154 yX7_carry ∈ jT := (jl31_in _ (List.mem_of_getElem? (i := 31) rfl))
theorem ml_RL_155 : Cond.methodLink RL 155 yL_dredge ∈ jT := (jl16_in _ (List.mem_of_getElem? (i := 19) rfl))
theorem ml_RL_158 : Cond.methodLink RL 158 yX7_dredge ∈ jT := (jl31_in _ (List.mem_of_getElem? (i := 35) rfl))
theorem ml_RL_159 : Cond.methodLink RL 159 yX6_undo ∈ jT := (jl7_in _ (List.mem_of_getElem? (i := 26) rfl))
theorem ml_RL_162 : Cond.methodLink RL 162 yX7_undo ∈ jT := (jl32_in _ (List.mem_of_getElem? (i := 1) rfl))
theorem ml_RL_163 : Cond.methodLink RL 163 yL_then ∈ jT := (jl16_in _ (List.mem_of_getElem? (i := 26) rfl))
theorem ml_RL_165 : Cond.methodLink RL 165 yX7_then ∈ jT := (jl32_in _ (List.mem_of_getElem? (i := 8) rfl))
theorem ml_RL_166 : Cond.methodLink RL 166 yL_when ∈ jT := (jl17_in _ (List.mem_of_getElem? (i := 2) rfl))
theorem ml_RL_168 : Cond.methodLink RL 168 yX7_when ∈ jT := (jl32_in _ (List.mem_of_getElem? (i := 13) rfl))
theorem ml_RL_169 : Cond.methodLink RL 169 yL_later ∈ jT := (jl17_in _ (List.mem_of_getElem? (i := 16) rfl))
theorem ml_RL_171 : Cond.methodLink RL 171 yX7_later ∈ jT := (jl32_in _ (List.mem_of_getElem? (i := 20) rfl))
theorem ml_RL_172 : Cond.methodLink RL 172 yL_beside ∈ jT := (jl17_in _ (List.mem_of_getElem? (i := 27) rfl))
theorem ml_RL_174 : Cond.methodLink RL 174 yX7_beside ∈ jT := (jl32_in _ (List.mem_of_getElem? (i := 27) rfl))
theorem ml_RL_175 : Cond.methodLink RL 175 yX6_first ∈ jT := (jl7_in _ (List.mem_of_getElem? (i := 38) rfl))
theorem ml_RL_178 : Cond.methodLink RL 178 yX7_first ∈ jT := (jl32_in _ (List.mem_of_getElem? (i := 31) rfl))
theorem ml_RL_179 : Cond.methodLink RL 179 yL_last ∈ jT := (jl17_in _ (List.mem_of_getElem? (i := 34) rfl))
theorem ml_RL_181 : Cond.methodLink RL 181 yX7_last ∈ jT := (jl32_in _ (List.mem_of_getElem? (i := 35) rfl))
theorem ml_RL_182 : Cond.methodLink RL 182 yL_still ∈ jT := (jl18_in _ (List.mem_of_getElem? (i := 1) rfl))
theorem ml_RL_184 : Cond.methodLink RL 184 yX7_still ∈ jT := (jl32_in _ (List.mem_of_getElem? (i := 39) rfl))
theorem ml_RL_185 : Cond.methodLink RL 185 yL_turned ∈ jT := (jl18_in _ (List.mem_of_getElem? (i := 16) rfl))
theorem ml_RL_187 : Cond.methodLink RL 187 yX7_turned ∈ jT := (jl33_in _ (List.mem_of_getElem? (i := 3) rfl))
theorem ml_RL_188 : Cond.methodLink RL 188 yL_stay ∈ jT := (jl18_in _ (List.mem_of_getElem? (i := 23) rfl))
theorem ml_RL_190 : Cond.methodLink RL 190 yX7_stay ∈ jT := (jl33_in _ (List.mem_of_getElem? (i := 10) rfl))
theorem ml_RL_191 : Cond.methodLink RL 191 yL_toSet ∈ jT := (jl18_in _ (List.mem_of_getElem? (i := 30) rfl))
theorem ml_RL_193 : Cond.methodLink RL 193 yX7_toSet ∈ jT := (jl33_in _ (List.mem_of_getElem? (i := 26) rfl))
theorem ml_RL_194 : Cond.methodLink RL 194 yL_toSpin ∈ jT := (jl19_in _ (List.mem_of_getElem? (i := 0) rfl))
theorem ml_RL_196 : Cond.methodLink RL 196 yX7_toSpin ∈ jT := (jl33_in _ (List.mem_of_getElem? (i := 31) rfl))
theorem ml_RL_197 : Cond.methodLink RL 197 yL_toCall ∈ jT := (jl20_in _ (List.mem_of_getElem? (i := 1) rfl))
theorem ml_RL_199 : Cond.methodLink RL 199 yX7_toCall ∈ jT := (jl33_in _ (List.mem_of_getElem? (i := 35) rfl))
theorem ml_RL_200 : Cond.methodLink RL 200 yL_panel ∈ jT := (jl20_in _ (List.mem_of_getElem? (i := 8) rfl))
theorem ml_RL_202 : Cond.methodLink RL 202 yX7_panel ∈ jT := (jl33_in _ (List.mem_of_getElem? (i := 39) rfl))
theorem ml_RL_203 : Cond.methodLink RL 203 yL_seat ∈ jT := (jl20_in _ (List.mem_of_getElem? (i := 32) rfl))
theorem ml_RL_205 : Cond.methodLink RL 205 yX7_seat ∈ jT := (jl35_in _ (List.mem_of_getElem? (i := 0) rfl))
theorem ml_RL_206 : Cond.methodLink RL 206 yL_unlike ∈ jT := (jl20_in _ (List.mem_of_getElem? (i := 39) rfl))
theorem ml_RL_208 : Cond.methodLink RL 208 yX7_unlike ∈ jT := (jl35_in _ (List.mem_of_getElem? (i := 4) rfl))
theorem ml_RL_209 : Cond.methodLink RL 209 yL_sides ∈ jT := (jl21_in _ (List.mem_of_getElem? (i := 6) rfl))
theorem ml_RL_211 : Cond.methodLink RL 211 yX7_sides ∈ jT := (jl33_in _ (List.mem_of_getElem? (i := 14) rfl))
theorem ml_RL_212 : Cond.methodLink RL 212 yL_facing ∈ jT := (jl21_in _ (List.mem_of_getElem? (i := 13) rfl))
theorem ml_RL_214 : Cond.methodLink RL 214 yX7_facing ∈ jT := (jl33_in _ (List.mem_of_getElem? (i := 18) rfl))
theorem ml_RL_215 : Cond.methodLink RL 215 yL_agree ∈ jT := (jl21_in _ (List.mem_of_getElem? (i := 20) rfl))
theorem ml_RL_217 : Cond.methodLink RL 217 yX7_agree ∈ jT := (jl33_in _ (List.mem_of_getElem? (i := 22) rfl))
theorem ml_RL_218 : Cond.methodLink RL 218 yL_see ∈ jT := (jl21_in _ (List.mem_of_getElem? (i := 27) rfl))
theorem ml_RL_220 : Cond.methodLink RL 220 yX7_see ∈ jT := (jl35_in _ (List.mem_of_getElem? (i := 8) rfl))
theorem ml_RL_221 : Cond.methodLink RL 221 yL_leans ∈ jT := (jl21_in _ (List.mem_of_getElem? (i := 38) rfl))
theorem ml_RL_223 : Cond.methodLink RL 223 yX7_leans ∈ jT := (jl35_in _ (List.mem_of_getElem? (i := 12) rfl))
theorem ml_RL_224 : Cond.methodLink RL 224 yL_watch ∈ jT := (jl22_in _ (List.mem_of_getElem? (i := 16) rfl))
theorem ml_RL_226 : Cond.methodLink RL 226 yX7_watch ∈ jT := (jl35_in _ (List.mem_of_getElem? (i := 22) rfl))
theorem ml_RL_227 : Cond.methodLink RL 227 yX6_forget ∈ jT := (jl9_in _ (List.mem_of_getElem? (i := 4) rfl))
theorem ml_RL_230 : Cond.methodLink RL 230 yX7_forget ∈ jT := (jl35_in _ (List.mem_of_getElem? (i := 26) rfl))
theorem ml_RL_231 : Cond.methodLink RL 231 yL_floods ∈ jT := (jl22_in _ (List.mem_of_getElem? (i := 27) rfl))
theorem ml_RL_233 : Cond.methodLink RL 233 yX7_floods ∈ jT := (jl35_in _ (List.mem_of_getElem? (i := 30) rfl))
theorem ml_RL_234 : Cond.methodLink RL 234 yL_game ∈ jT := (jl22_in _ (List.mem_of_getElem? (i := 34) rfl))
theorem ml_RL_236 : Cond.methodLink RL 236 yX7_game ∈ jT := (jl35_in _ (List.mem_of_getElem? (i := 36) rfl))
theorem ml_RL_237 : Cond.methodLink RL 237 yL_years ∈ jT := (jl23_in _ (List.mem_of_getElem? (i := 8) rfl))
theorem ml_RL_239 : Cond.methodLink RL 239 yX7_years ∈ jT := (jl36_in _ (List.mem_of_getElem? (i := 3) rfl))
theorem ml_RL_240 : Cond.methodLink RL 240 yX6_image ∈ jT := (jl9_in _ (List.mem_of_getElem? (i := 8) rfl))
theorem ml_RL_243 : Cond.methodLink RL 243 yX7_image ∈ jT := (jl36_in _ (List.mem_of_getElem? (i := 14) rfl))
theorem ml_RL_244 : Cond.methodLink RL 244 yX6_restore ∈ jT := (jl9_in _ (List.mem_of_getElem? (i := 18) rfl))
theorem ml_RL_248 : Cond.methodLink RL 248 yX7_restore ∈ jT := (jl36_in _ (List.mem_of_getElem? (i := 21) rfl))
theorem ml_RX7_3 : Cond.methodLink RX7 3 ⟨"java/lang/Object", "<init>", "()V"⟩ ∈ jT := (jl23_in _ (List.mem_of_getElem? (i := 35) rfl))
theorem ml_RX7_154 : Cond.methodLink RX7 154 yX7_isIn ∈ jT := (jl30_in _ (List.mem_of_getElem? (i := 10) rfl))
theorem ml_RX7_167 : Cond.methodLink RX7 167 yX7_byteAt ∈ jT := (jl26_in _ (List.mem_of_getElem? (i := 18) rfl))
theorem ml_RX7_177 : Cond.methodLink RX7 177 yX7_isLetter ∈ jT := (jl26_in _ (List.mem_of_getElem? (i := 21) rfl))
theorem ml_RX7_181 : Cond.methodLink RX7 181 yX7_isDigit ∈ jT := (jl26_in _ (List.mem_of_getElem? (i := 24) rfl))
theorem ml_RX7_188 : Cond.methodLink RX7 188 yJ9_min_7cf53 ∈ jT := (jl26_in _ (List.mem_of_getElem? (i := 28) rfl))
theorem ml_RX7_194 : Cond.methodLink RX7 194 yX7_isMark ∈ jT := (jl26_in _ (List.mem_of_getElem? (i := 29) rfl))
theorem ml_RX7_206 : Cond.methodLink RX7 206 yJ0_length_8abf5 ∈ jT := (jl27_in _ (List.mem_of_getElem? (i := 1) rfl))
theorem ml_RX7_210 : Cond.methodLink RX7 210 yJ0_charAt_5068e ∈ jT := (jl27_in _ (List.mem_of_getElem? (i := 2) rfl))
theorem ml_RX7_214 : Cond.methodLink RX7 214 yX7_is ∈ jT := (jl26_in _ (List.mem_of_getElem? (i := 38) rfl))
theorem ml_RX7_218 : Cond.methodLink RX7 218 yX7_isMarked ∈ jT := (jl27_in _ (List.mem_of_getElem? (i := 18) rfl))
theorem ml_RX7_221 : Cond.methodLink RX7 221 yX7_wrong ∈ jT := (jl27_in _ (List.mem_of_getElem? (i := 3) rfl))
theorem ml_RX7_225 : Cond.methodLink RX7 225 yX7_stepOn ∈ jT := (jl26_in _ (List.mem_of_getElem? (i := 15) rfl))
theorem ml_RX7_228 : Cond.methodLink RX7 228 yX7_numberNow ∈ jT := (jl27_in _ (List.mem_of_getElem? (i := 12) rfl))
theorem ml_RX7_235 : Cond.methodLink RX7 235 yX7_readNumber ∈ jT := (jl27_in _ (List.mem_of_getElem? (i := 9) rfl))
theorem ml_RX7_238 : Cond.methodLink RX7 238 yX7_lay ∈ jT := (jl27_in _ (List.mem_of_getElem? (i := 36) rfl))
theorem ml_RX7_241 : Cond.methodLink RX7 241 yX7_which ∈ jT := (jl26_in _ (List.mem_of_getElem? (i := 35) rfl))
theorem ml_RX7_245 : Cond.methodLink RX7 245 yX7_mark ∈ jT := (jl27_in _ (List.mem_of_getElem? (i := 39) rfl))
theorem ml_RX7_248 : Cond.methodLink RX7 248 yX7_readExpression ∈ jT := (jl27_in _ (List.mem_of_getElem? (i := 15) rfl))
theorem ml_RX7_251 : Cond.methodLink RX7 251 yX7_readPart ∈ jT := (jl27_in _ (List.mem_of_getElem? (i := 33) rfl))
theorem ml_RX7_254 : Cond.methodLink RX7 254 yX7_readProduct ∈ jT := (jl27_in _ (List.mem_of_getElem? (i := 30) rfl))
theorem ml_RX7_259 : Cond.methodLink RX7 259 yX7_readSum ∈ jT := (jl27_in _ (List.mem_of_getElem? (i := 27) rfl))
theorem ml_RX7_262 : Cond.methodLink RX7 262 yX7_readNot ∈ jT := (jl27_in _ (List.mem_of_getElem? (i := 24) rfl))
theorem ml_RX7_267 : Cond.methodLink RX7 267 yX7_readAnd ∈ jT := (jl27_in _ (List.mem_of_getElem? (i := 21) rfl))
theorem ml_RX7_272 : Cond.methodLink RX7 272 yX7_another ∈ jT := (jl28_in _ (List.mem_of_getElem? (i := 5) rfl))
theorem ml_RX7_282 : Cond.methodLink RX7 282 yX7_sayOnce ∈ jT := (jl27_in _ (List.mem_of_getElem? (i := 6) rfl))
theorem ml_RX7_285 : Cond.methodLink RX7 285 yX7_sayJudge ∈ jT := (jl28_in _ (List.mem_of_getElem? (i := 2) rfl))
theorem ml_RX7_290 : Cond.methodLink RX7 290 yX7_sayReach ∈ jT := (jl28_in _ (List.mem_of_getElem? (i := 8) rfl))
theorem ml_RX7_293 : Cond.methodLink RX7 293 yX7_fail ∈ jT := (jl26_in _ (List.mem_of_getElem? (i := 12) rfl))
theorem ml_RX7_296 : Cond.methodLink RX7 296 yX7_readLine ∈ jT := (jl26_in _ (List.mem_of_getElem? (i := 32) rfl))
theorem ml_RX7_299 : Cond.methodLink RX7 299 yX7_takeOver ∈ jT := (jl29_in _ (List.mem_of_getElem? (i := 2) rfl))
theorem ml_RX7_302 : Cond.methodLink RX7 302 yX7_takeHalf ∈ jT := (jl29_in _ (List.mem_of_getElem? (i := 5) rfl))
theorem ml_RX7_317 : Cond.methodLink RX7 317 yX7_reckon ∈ jT := (jl31_in _ (List.mem_of_getElem? (i := 13) rfl))
theorem ml_RX7_321 : Cond.methodLink RX7 321 yX7_allSides ∈ jT := (jl29_in _ (List.mem_of_getElem? (i := 22) rfl))
theorem ml_RX7_324 : Cond.methodLink RX7 324 yX7_isFair ∈ jT := (jl29_in _ (List.mem_of_getElem? (i := 19) rfl))
theorem ml_RX7_327 : Cond.methodLink RX7 327 yX7_bitsOf ∈ jT := (jl30_in _ (List.mem_of_getElem? (i := 0) rfl))
theorem ml_RX7_330 : Cond.methodLink RX7 330 yX7_whoIs ∈ jT := (jl29_in _ (List.mem_of_getElem? (i := 25) rfl))
theorem ml_RX7_333 : Cond.methodLink RX7 333 yX7_valueNow ∈ jT := (jl31_in _ (List.mem_of_getElem? (i := 10) rfl))
theorem ml_RX7_337 : Cond.methodLink RX7 337 yX7_ruleOf ∈ jT := (jl31_in _ (List.mem_of_getElem? (i := 7) rfl))
theorem ml_RX7_341 : Cond.methodLink RX7 341 yJ9_max_7cf53 ∈ jT := (jl31_in _ (List.mem_of_getElem? (i := 16) rfl))
theorem ml_RX7_347 : Cond.methodLink RX7 347 yX7_goBy ∈ jT := (jl31_in _ (List.mem_of_getElem? (i := 1) rfl))
theorem ml_RX7_351 : Cond.methodLink RX7 351 yX7_turnsOf ∈ jT := (jl31_in _ (List.mem_of_getElem? (i := 4) rfl))
theorem ml_RX7_354 : Cond.methodLink RX7 354 yX7_goesOf ∈ jT := (jl31_in _ (List.mem_of_getElem? (i := 17) rfl))
theorem ml_RX7_358 : Cond.methodLink RX7 358 yX7_aStepIn ∈ jT := (jl30_in _ (List.mem_of_getElem? (i := 38) rfl))
theorem ml_RX7_362 : Cond.methodLink RX7 362 yX7_isOf ∈ jT := (jl29_in _ (List.mem_of_getElem? (i := 37) rfl))
theorem ml_RX7_365 : Cond.methodLink RX7 365 yX7_fairOnes ∈ jT := (jl29_in _ (List.mem_of_getElem? (i := 16) rfl))
theorem ml_RX7_368 : Cond.methodLink RX7 368 yX7_onReaches ∈ jT := (jl29_in _ (List.mem_of_getElem? (i := 28) rfl))
theorem ml_RX7_371 : Cond.methodLink RX7 371 yX7_pools ∈ jT := (jl29_in _ (List.mem_of_getElem? (i := 31) rfl))
theorem ml_RX7_374 : Cond.methodLink RX7 374 yX7_bench ∈ jT := (jl29_in _ (List.mem_of_getElem? (i := 34) rfl))
theorem ml_RX7_377 : Cond.methodLink RX7 377 yX7_isReach ∈ jT := (jl30_in _ (List.mem_of_getElem? (i := 7) rfl))
theorem ml_RX7_382 : Cond.methodLink RX7 382 yX7_isJudge ∈ jT := (jl30_in _ (List.mem_of_getElem? (i := 18) rfl))
theorem ml_RX7_385 : Cond.methodLink RX7 385 yX7_pack ∈ jT := (jl30_in _ (List.mem_of_getElem? (i := 32) rfl))
theorem ml_RX7_391 : Cond.methodLink RX7 391 yX7_refuse ∈ jT := (jl30_in _ (List.mem_of_getElem? (i := 26) rfl))
theorem ml_RX7_394 : Cond.methodLink RX7 394 yX7_keep ∈ jT := (jl30_in _ (List.mem_of_getElem? (i := 29) rfl))
theorem ml_RX7_397 : Cond.methodLink RX7 397 yX7_goOn ∈ jT := (jl30_in _ (List.mem_of_getElem? (i := 35) rfl))
theorem ml_RX7_400 : Cond.methodLink RX7 400 yX7_isSide ∈ jT := (jl31_in _ (List.mem_of_getElem? (i := 28) rfl))
theorem ml_RX7_407 : Cond.methodLink RX7 407 yX7_unpack ∈ jT := (jl32_in _ (List.mem_of_getElem? (i := 5) rfl))
theorem ml_RX7_412 : Cond.methodLink RX7 412 yX7_firstIn ∈ jT := (jl32_in _ (List.mem_of_getElem? (i := 17) rfl))
theorem ml_RX7_415 : Cond.methodLink RX7 415 yX7_crowdNow ∈ jT := (jl32_in _ (List.mem_of_getElem? (i := 24) rfl))
theorem ml_RX7_418 : Cond.methodLink RX7 418 yX7_beginAnew ∈ jT := (jl33_in _ (List.mem_of_getElem? (i := 7) rfl))
theorem ml_RX7_422 : Cond.methodLink RX7 422 yX7_goesOn ∈ jT := (jl34_in _ (List.mem_of_getElem? (i := 6) rfl))
theorem ml_RX7_425 : Cond.methodLink RX7 425 yX7_may ∈ jT := (jl34_in _ (List.mem_of_getElem? (i := 9) rfl))
theorem ml_RX7_429 : Cond.methodLink RX7 429 yX7_tellPanel ∈ jT := (jl34_in _ (List.mem_of_getElem? (i := 3) rfl))
theorem ml_RX7_435 : Cond.methodLink RX7 435 yX7_isAsSeen ∈ jT := (jl35_in _ (List.mem_of_getElem? (i := 16) rfl))
theorem ml_RX7_439 : Cond.methodLink RX7 439 yX7_tellFits ∈ jT := (jl35_in _ (List.mem_of_getElem? (i := 19) rfl))
theorem ml_RX7_446 : Cond.methodLink RX7 446 yX7_tellGains ∈ jT := (jl36_in _ (List.mem_of_getElem? (i := 0) rfl))
theorem ml_RX7_453 : Cond.methodLink RX7 453 yX7_drawOf ∈ jT := (jl36_in _ (List.mem_of_getElem? (i := 10) rfl))
theorem ml_RX7_456 : Cond.methodLink RX7 456 yX7_something ∈ jT := (jl36_in _ (List.mem_of_getElem? (i := 7) rfl))
theorem ml_RX7_465 : Cond.methodLink RX7 465 yX7_copyTo ∈ jT := (jl36_in _ (List.mem_of_getElem? (i := 18) rfl))
theorem mn_RX6_22 : Cond.methodLinkNest RX6 22 yX4_init "RoundCoracles" ∈ jNG := by decide +kernel
theorem mn_RX6_29 : Cond.methodLinkNest RX6 29 yX1_init "RoundCoracles" ∈ jNG := by decide +kernel
theorem mn_RX6_36 : Cond.methodLinkNest RX6 36 yX0_init "RoundCoracles" ∈ jNG := by decide +kernel
theorem mn_RX6_50 : Cond.methodLinkNest RX6 50 yX5_init "RoundCoracles" ∈ jNG := by decide +kernel
theorem mn_RX6_57 : Cond.methodLinkNest RX6 57 yX3_init "RoundCoracles" ∈ jNG := by decide +kernel
theorem mn_RX0_11 : Cond.methodLinkNest RX0 11 yX5_init "RoundCoracles" ∈ jNG := by decide +kernel
theorem mn_RX0_58 : Cond.methodLinkNest RX0 58 yX6_rest "RoundCoracles" ∈ jNG := by decide +kernel
theorem mn_RX4_27 : Cond.methodLinkNest RX4 27 yX1_init "RoundCoracles" ∈ jNG := by decide +kernel
theorem mn_RX5_39 : Cond.methodLinkNest RX5 39 yX2_init "RoundCoracles" ∈ jNG := by decide +kernel
theorem mn_RX5_153 : Cond.methodLinkNest RX5 153 yX6_rest "RoundCoracles" ∈ jNG := by decide +kernel
theorem cal_X0_init : jCI yX0_init cX0_init 1 0 := ⟨(jl2_in _ (List.mem_of_getElem? (i := 34) rfl)), (jl2_in _ (List.mem_of_getElem? (i := 33) rfl)), (jl0_in _ (List.mem_of_getElem? (i := 4) rfl)), rfl, ⟨by decide, by decide, by decide +kernel⟩⟩
theorem cal_X0_begin : jCV yX0_begin cX0_begin 2 none 1 := ⟨(jl4_in _ (List.mem_of_getElem? (i := 27) rfl)), (jl4_in _ (List.mem_of_getElem? (i := 25) rfl)), (jl4_in _ (List.mem_of_getElem? (i := 26) rfl)), (jl0_in _ (List.mem_of_getElem? (i := 4) rfl)), ⟨by decide, by decide, by decide +kernel⟩⟩
theorem cal_X0_copyFrom : jCV yX0_copyFrom cX0_copyFrom 2 none 1 := ⟨(jl9_in _ (List.mem_of_getElem? (i := 15) rfl)), (jl9_in _ (List.mem_of_getElem? (i := 13) rfl)), (jl9_in _ (List.mem_of_getElem? (i := 14) rfl)), (jl0_in _ (List.mem_of_getElem? (i := 4) rfl)), ⟨by decide, by decide, by decide +kernel⟩⟩
theorem cal_X0_keepAct : jCV yX0_keepAct cX0_keepAct 1 none 0 := ⟨(jl5_in _ (List.mem_of_getElem? (i := 32) rfl)), (jl5_in _ (List.mem_of_getElem? (i := 30) rfl)), (jl5_in _ (List.mem_of_getElem? (i := 31) rfl)), (jl0_in _ (List.mem_of_getElem? (i := 4) rfl)), ⟨by decide, by decide, by decide +kernel⟩⟩
theorem cal_X0_undoAct : jCV yX0_undoAct cX0_undoAct 1 (some .boolean) 0 := ⟨(jl7_in _ (List.mem_of_getElem? (i := 33) rfl)), (jl7_in _ (List.mem_of_getElem? (i := 31) rfl)), (jl7_in _ (List.mem_of_getElem? (i := 32) rfl)), (jl0_in _ (List.mem_of_getElem? (i := 4) rfl)), ⟨by decide, by decide, by decide +kernel⟩⟩
theorem cal_X0_keepSighting : jCV yX0_keepSighting cX0_keepSighting 4 none 3 := ⟨(jl21_in _ (List.mem_of_getElem? (i := 37) rfl)), (jl21_in _ (List.mem_of_getElem? (i := 35) rfl)), (jl21_in _ (List.mem_of_getElem? (i := 36) rfl)), (jl0_in _ (List.mem_of_getElem? (i := 4) rfl)), ⟨by decide, by decide, by decide +kernel⟩⟩
theorem cal_X0_lastSightingStep : jCV yX0_lastSightingStep cX0_lastSightingStep 3 (some .int) 0 := ⟨(jl22_in _ (List.mem_of_getElem? (i := 11) rfl)), (jl22_in _ (List.mem_of_getElem? (i := 9) rfl)), (jl22_in _ (List.mem_of_getElem? (i := 10) rfl)), (jl0_in _ (List.mem_of_getElem? (i := 4) rfl)), ⟨by decide, by decide, by decide +kernel⟩⟩
theorem cal_X1_init : jCI yX1_init cX1_init 1 0 := ⟨(jl0_in _ (List.mem_of_getElem? (i := 38) rfl)), (jl0_in _ (List.mem_of_getElem? (i := 37) rfl)), (jl0_in _ (List.mem_of_getElem? (i := 3) rfl)), rfl, ⟨by decide, by decide, by decide +kernel⟩⟩
theorem cal_X1_clear : jCV yX1_clear cX1_clear 1 none 0 := ⟨(jl10_in _ (List.mem_of_getElem? (i := 32) rfl)), (jl10_in _ (List.mem_of_getElem? (i := 30) rfl)), (jl10_in _ (List.mem_of_getElem? (i := 31) rfl)), (jl0_in _ (List.mem_of_getElem? (i := 3) rfl)), ⟨by decide, by decide, by decide +kernel⟩⟩
theorem cal_X1_allSides : jCV yX1_allSides cX1_allSides 1 (some .int) 0 := ⟨(jl7_in _ (List.mem_of_getElem? (i := 21) rfl)), (jl7_in _ (List.mem_of_getElem? (i := 19) rfl)), (jl7_in _ (List.mem_of_getElem? (i := 20) rfl)), (jl0_in _ (List.mem_of_getElem? (i := 3) rfl)), ⟨by decide, by decide, by decide +kernel⟩⟩
theorem cal_X1_hasTurns : jCV yX1_hasTurns cX1_hasTurns 1 (some .boolean) 0 := ⟨(jl6_in _ (List.mem_of_getElem? (i := 12) rfl)), (jl6_in _ (List.mem_of_getElem? (i := 10) rfl)), (jl6_in _ (List.mem_of_getElem? (i := 11) rfl)), (jl0_in _ (List.mem_of_getElem? (i := 3) rfl)), ⟨by decide, by decide, by decide +kernel⟩⟩
theorem cal_X1_hasGoes : jCV yX1_hasGoes cX1_hasGoes 1 (some .boolean) 0 := ⟨(jl7_in _ (List.mem_of_getElem? (i := 13) rfl)), (jl7_in _ (List.mem_of_getElem? (i := 11) rfl)), (jl7_in _ (List.mem_of_getElem? (i := 12) rfl)), (jl0_in _ (List.mem_of_getElem? (i := 3) rfl)), ⟨by decide, by decide, by decide +kernel⟩⟩
theorem cal_X1_emit : jCV yX1_emit cX1_emit 3 none 2 := ⟨(jl14_in _ (List.mem_of_getElem? (i := 6) rfl)), (jl14_in _ (List.mem_of_getElem? (i := 4) rfl)), (jl14_in _ (List.mem_of_getElem? (i := 5) rfl)), (jl0_in _ (List.mem_of_getElem? (i := 3) rfl)), ⟨by decide, by decide, by decide +kernel⟩⟩
theorem cal_X2_init : jCI yX2_init cX2_init 1 0 := ⟨(jl3_in _ (List.mem_of_getElem? (i := 4) rfl)), (jl3_in _ (List.mem_of_getElem? (i := 3) rfl)), (jl0_in _ (List.mem_of_getElem? (i := 6) rfl)), rfl, ⟨by decide, by decide, by decide +kernel⟩⟩
theorem cal_X2_result : jCV yX2_result cX2_result 8 (some .int) 3 := ⟨(jl6_in _ (List.mem_of_getElem? (i := 29) rfl)), (jl6_in _ (List.mem_of_getElem? (i := 27) rfl)), (jl6_in _ (List.mem_of_getElem? (i := 28) rfl)), (jl0_in _ (List.mem_of_getElem? (i := 6) rfl)), ⟨by decide, by decide, by decide +kernel⟩⟩
theorem cal_X2_valueOf : jCV yX2_valueOf cX2_valueOf 2 (some .int) 1 := ⟨(jl6_in _ (List.mem_of_getElem? (i := 35) rfl)), (jl6_in _ (List.mem_of_getElem? (i := 34) rfl)), (js0_in _ (List.mem_of_getElem? (i := 5) rfl)), (jl0_in _ (List.mem_of_getElem? (i := 6) rfl)), ⟨by decide, by decide, by decide +kernel⟩⟩
theorem cal_X2_combine : jCS yX2_combine cX2_combine 3 (some .int) 3 := ⟨(jl6_in _ (List.mem_of_getElem? (i := 38) rfl)), (jl6_in _ (List.mem_of_getElem? (i := 37) rfl)), (jl0_in _ (List.mem_of_getElem? (i := 6) rfl)), ⟨by decide, by decide, by decide +kernel⟩⟩
theorem cal_X3_init : jCI yX3_init cX3_init 1 0 := ⟨(jl4_in _ (List.mem_of_getElem? (i := 15) rfl)), (jl4_in _ (List.mem_of_getElem? (i := 14) rfl)), (jl0_in _ (List.mem_of_getElem? (i := 7) rfl)), rfl, ⟨by decide, by decide, by decide +kernel⟩⟩
theorem cal_X3_fill : jCV yX3_fill cX3_fill 7 none 2 := ⟨(jl20_in _ (List.mem_of_getElem? (i := 18) rfl)), (jl20_in _ (List.mem_of_getElem? (i := 16) rfl)), (jl20_in _ (List.mem_of_getElem? (i := 17) rfl)), (jl0_in _ (List.mem_of_getElem? (i := 7) rfl)), ⟨by decide, by decide, by decide +kernel⟩⟩
theorem cal_X3_bestWorth : jCV yX3_bestWorth cX3_bestWorth 7 (some .int) 4 := ⟨(jl20_in _ (List.mem_of_getElem? (i := 21) rfl)), (jl20_in _ (List.mem_of_getElem? (i := 20) rfl)), (js0_in _ (List.mem_of_getElem? (i := 37) rfl)), (jl0_in _ (List.mem_of_getElem? (i := 7) rfl)), ⟨by decide, by decide, by decide +kernel⟩⟩
theorem cal_X3_firstBest : jCV yX3_firstBest cX3_firstBest 6 (some .int) 4 := ⟨(jl20_in _ (List.mem_of_getElem? (i := 31) rfl)), (jl20_in _ (List.mem_of_getElem? (i := 30) rfl)), (js0_in _ (List.mem_of_getElem? (i := 39) rfl)), (jl0_in _ (List.mem_of_getElem? (i := 7) rfl)), ⟨by decide, by decide, by decide +kernel⟩⟩
theorem cal_X3_mayHave : jCS yX3_mayHave cX3_mayHave 4 (some .boolean) 4 := ⟨(jl20_in _ (List.mem_of_getElem? (i := 24) rfl)), (jl20_in _ (List.mem_of_getElem? (i := 23) rfl)), (jl0_in _ (List.mem_of_getElem? (i := 7) rfl)), ⟨by decide, by decide, by decide +kernel⟩⟩
theorem cal_X3_worthWith : jCV yX3_worthWith cX3_worthWith 5 (some .int) 4 := ⟨(jl20_in _ (List.mem_of_getElem? (i := 27) rfl)), (jl20_in _ (List.mem_of_getElem? (i := 26) rfl)), (js0_in _ (List.mem_of_getElem? (i := 38) rfl)), (jl0_in _ (List.mem_of_getElem? (i := 7) rfl)), ⟨by decide, by decide, by decide +kernel⟩⟩
theorem cal_X4_init : jCI yX4_init cX4_init 1 0 := ⟨(jl0_in _ (List.mem_of_getElem? (i := 33) rfl)), (jl0_in _ (List.mem_of_getElem? (i := 32) rfl)), (jl0_in _ (List.mem_of_getElem? (i := 2) rfl)), rfl, ⟨by decide, by decide, by decide +kernel⟩⟩
theorem cal_X4_exchange : jCV yX4_exchange cX4_exchange 3 (some (.object "RoundCoracles$Gorge")) 1 := ⟨(jl14_in _ (List.mem_of_getElem? (i := 17) rfl)), (jl14_in _ (List.mem_of_getElem? (i := 15) rfl)), (jl14_in _ (List.mem_of_getElem? (i := 16) rfl)), (jl0_in _ (List.mem_of_getElem? (i := 2) rfl)), ⟨by decide, by decide, by decide +kernel⟩⟩
theorem cal_X4_read : jCV yX4_read cX4_read 4 (some .boolean) 2 := ⟨(jl10_in _ (List.mem_of_getElem? (i := 27) rfl)), (jl10_in _ (List.mem_of_getElem? (i := 25) rfl)), (jl10_in _ (List.mem_of_getElem? (i := 26) rfl)), (jl0_in _ (List.mem_of_getElem? (i := 2) rfl)), ⟨by decide, by decide, by decide +kernel⟩⟩
theorem cal_X4_refuseToken : jCV yX4_refuseToken cX4_refuseToken 2 (some .boolean) 1 := ⟨(jl12_in _ (List.mem_of_getElem? (i := 25) rfl)), (jl12_in _ (List.mem_of_getElem? (i := 24) rfl)), (js0_in _ (List.mem_of_getElem? (i := 14) rfl)), (jl0_in _ (List.mem_of_getElem? (i := 2) rfl)), ⟨by decide, by decide, by decide +kernel⟩⟩
theorem cal_X4_next : jCV yX4_next cX4_next 1 none 0 := ⟨(jl10_in _ (List.mem_of_getElem? (i := 35) rfl)), (jl10_in _ (List.mem_of_getElem? (i := 34) rfl)), (js0_in _ (List.mem_of_getElem? (i := 9) rfl)), (jl0_in _ (List.mem_of_getElem? (i := 2) rfl)), ⟨by decide, by decide, by decide +kernel⟩⟩
theorem cal_X4_takeDigits : jCV yX4_takeDigits cX4_takeDigits 1 none 0 := ⟨(jl11_in _ (List.mem_of_getElem? (i := 7) rfl)), (jl11_in _ (List.mem_of_getElem? (i := 6) rfl)), (js0_in _ (List.mem_of_getElem? (i := 10) rfl)), (jl0_in _ (List.mem_of_getElem? (i := 2) rfl)), ⟨by decide, by decide, by decide +kernel⟩⟩
theorem cal_X4_isBlank : jCS yX4_isBlank cX4_isBlank 1 (some .boolean) 1 := ⟨(jl10_in _ (List.mem_of_getElem? (i := 38) rfl)), (jl10_in _ (List.mem_of_getElem? (i := 37) rfl)), (jl0_in _ (List.mem_of_getElem? (i := 2) rfl)), ⟨by decide, by decide, by decide +kernel⟩⟩
theorem cal_X4_isLetter : jCS yX4_isLetter cX4_isLetter 1 (some .boolean) 1 := ⟨(jl11_in _ (List.mem_of_getElem? (i := 1) rfl)), (jl11_in _ (List.mem_of_getElem? (i := 0) rfl)), (jl0_in _ (List.mem_of_getElem? (i := 2) rfl)), ⟨by decide, by decide, by decide +kernel⟩⟩
theorem cal_X4_isDigit : jCS yX4_isDigit cX4_isDigit 1 (some .boolean) 1 := ⟨(jl11_in _ (List.mem_of_getElem? (i := 4) rfl)), (jl11_in _ (List.mem_of_getElem? (i := 3) rfl)), (jl0_in _ (List.mem_of_getElem? (i := 2) rfl)), ⟨by decide, by decide, by decide +kernel⟩⟩
theorem cal_X4_isSignByte : jCS yX4_isSignByte cX4_isSignByte 1 (some .boolean) 1 := ⟨(jl11_in _ (List.mem_of_getElem? (i := 10) rfl)), (jl11_in _ (List.mem_of_getElem? (i := 9) rfl)), (jl0_in _ (List.mem_of_getElem? (i := 2) rfl)), ⟨by decide, by decide, by decide +kernel⟩⟩
theorem cal_X4_isSign : jCV yX4_isSign cX4_isSign 2 (some .boolean) 1 := ⟨(jl12_in _ (List.mem_of_getElem? (i := 34) rfl)), (jl12_in _ (List.mem_of_getElem? (i := 33) rfl)), (js0_in _ (List.mem_of_getElem? (i := 17) rfl)), (jl0_in _ (List.mem_of_getElem? (i := 2) rfl)), ⟨by decide, by decide, by decide +kernel⟩⟩
theorem cal_X4_isWord : jCV yX4_isWord cX4_isWord 3 (some .boolean) 1 := ⟨(jl11_in _ (List.mem_of_getElem? (i := 16) rfl)), (jl11_in _ (List.mem_of_getElem? (i := 15) rfl)), (js0_in _ (List.mem_of_getElem? (i := 12) rfl)), (jl0_in _ (List.mem_of_getElem? (i := 2) rfl)), ⟨by decide, by decide, by decide +kernel⟩⟩
theorem cal_X4_readLine : jCV yX4_readLine cX4_readLine 1 (some .boolean) 0 := ⟨(jl11_in _ (List.mem_of_getElem? (i := 13) rfl)), (jl11_in _ (List.mem_of_getElem? (i := 12) rfl)), (js0_in _ (List.mem_of_getElem? (i := 11) rfl)), (jl0_in _ (List.mem_of_getElem? (i := 2) rfl)), ⟨by decide, by decide, by decide +kernel⟩⟩
theorem cal_X4_readSides : jCV yX4_readSides cX4_readSides 1 (some .boolean) 0 := ⟨(jl12_in _ (List.mem_of_getElem? (i := 22) rfl)), (jl12_in _ (List.mem_of_getElem? (i := 21) rfl)), (js0_in _ (List.mem_of_getElem? (i := 13) rfl)), (jl0_in _ (List.mem_of_getElem? (i := 2) rfl)), ⟨by decide, by decide, by decide +kernel⟩⟩
theorem cal_X4_readReach : jCV yX4_readReach cX4_readReach 2 (some .boolean) 0 := ⟨(jl12_in _ (List.mem_of_getElem? (i := 37) rfl)), (jl12_in _ (List.mem_of_getElem? (i := 36) rfl)), (js0_in _ (List.mem_of_getElem? (i := 18) rfl)), (jl0_in _ (List.mem_of_getElem? (i := 2) rfl)), ⟨by decide, by decide, by decide +kernel⟩⟩
theorem cal_X4_readJudge : jCV yX4_readJudge cX4_readJudge 3 (some .boolean) 1 := ⟨(jl13_in _ (List.mem_of_getElem? (i := 0) rfl)), (jl12_in _ (List.mem_of_getElem? (i := 39) rfl)), (js0_in _ (List.mem_of_getElem? (i := 19) rfl)), (jl0_in _ (List.mem_of_getElem? (i := 2) rfl)), ⟨by decide, by decide, by decide +kernel⟩⟩
theorem cal_X4_readTurns : jCV yX4_readTurns cX4_readTurns 1 (some .boolean) 0 := ⟨(jl13_in _ (List.mem_of_getElem? (i := 3) rfl)), (jl13_in _ (List.mem_of_getElem? (i := 2) rfl)), (js0_in _ (List.mem_of_getElem? (i := 20) rfl)), (jl0_in _ (List.mem_of_getElem? (i := 2) rfl)), ⟨by decide, by decide, by decide +kernel⟩⟩
theorem cal_X4_readGoes : jCV yX4_readGoes cX4_readGoes 1 (some .boolean) 0 := ⟨(jl14_in _ (List.mem_of_getElem? (i := 12) rfl)), (jl14_in _ (List.mem_of_getElem? (i := 11) rfl)), (js0_in _ (List.mem_of_getElem? (i := 28) rfl)), (jl0_in _ (List.mem_of_getElem? (i := 2) rfl)), ⟨by decide, by decide, by decide +kernel⟩⟩
theorem cal_X4_readSign : jCV yX4_readSign cX4_readSign 2 (some .boolean) 1 := ⟨(jl12_in _ (List.mem_of_getElem? (i := 31) rfl)), (jl12_in _ (List.mem_of_getElem? (i := 30) rfl)), (js0_in _ (List.mem_of_getElem? (i := 16) rfl)), (jl0_in _ (List.mem_of_getElem? (i := 2) rfl)), ⟨by decide, by decide, by decide +kernel⟩⟩
theorem cal_X4_readNumber : jCV yX4_readNumber cX4_readNumber 4 (some .boolean) 3 := ⟨(jl12_in _ (List.mem_of_getElem? (i := 28) rfl)), (jl12_in _ (List.mem_of_getElem? (i := 27) rfl)), (js0_in _ (List.mem_of_getElem? (i := 15) rfl)), (jl0_in _ (List.mem_of_getElem? (i := 2) rfl)), ⟨by decide, by decide, by decide +kernel⟩⟩
theorem cal_X4_readExpr : jCV yX4_readExpr cX4_readExpr 3 (some .boolean) 1 := ⟨(jl13_in _ (List.mem_of_getElem? (i := 7) rfl)), (jl13_in _ (List.mem_of_getElem? (i := 6) rfl)), (js0_in _ (List.mem_of_getElem? (i := 21) rfl)), (jl0_in _ (List.mem_of_getElem? (i := 2) rfl)), ⟨by decide, by decide, by decide +kernel⟩⟩
theorem cal_X4_readAnd : jCV yX4_readAnd cX4_readAnd 3 (some .boolean) 1 := ⟨(jl13_in _ (List.mem_of_getElem? (i := 10) rfl)), (jl13_in _ (List.mem_of_getElem? (i := 9) rfl)), (js0_in _ (List.mem_of_getElem? (i := 22) rfl)), (jl0_in _ (List.mem_of_getElem? (i := 2) rfl)), ⟨by decide, by decide, by decide +kernel⟩⟩
theorem cal_X4_readNot : jCV yX4_readNot cX4_readNot 4 (some .boolean) 1 := ⟨(jl13_in _ (List.mem_of_getElem? (i := 13) rfl)), (jl13_in _ (List.mem_of_getElem? (i := 12) rfl)), (js0_in _ (List.mem_of_getElem? (i := 23) rfl)), (jl0_in _ (List.mem_of_getElem? (i := 2) rfl)), ⟨by decide, by decide, by decide +kernel⟩⟩
theorem cal_X4_readSum : jCV yX4_readSum cX4_readSum 4 (some .boolean) 1 := ⟨(jl13_in _ (List.mem_of_getElem? (i := 16) rfl)), (jl13_in _ (List.mem_of_getElem? (i := 15) rfl)), (js0_in _ (List.mem_of_getElem? (i := 24) rfl)), (jl0_in _ (List.mem_of_getElem? (i := 2) rfl)), ⟨by decide, by decide, by decide +kernel⟩⟩
theorem cal_X4_readProduct : jCV yX4_readProduct cX4_readProduct 4 (some .boolean) 1 := ⟨(jl13_in _ (List.mem_of_getElem? (i := 19) rfl)), (jl13_in _ (List.mem_of_getElem? (i := 18) rfl)), (js0_in _ (List.mem_of_getElem? (i := 25) rfl)), (jl0_in _ (List.mem_of_getElem? (i := 2) rfl)), ⟨by decide, by decide, by decide +kernel⟩⟩
theorem cal_X4_readPart : jCV yX4_readPart cX4_readPart 3 (some .boolean) 1 := ⟨(jl14_in _ (List.mem_of_getElem? (i := 2) rfl)), (jl14_in _ (List.mem_of_getElem? (i := 1) rfl)), (js0_in _ (List.mem_of_getElem? (i := 26) rfl)), (jl0_in _ (List.mem_of_getElem? (i := 2) rfl)), ⟨by decide, by decide, by decide +kernel⟩⟩
theorem cal_X4_valueWord : jCV yX4_valueWord cX4_valueWord 1 (some .int) 0 := ⟨(jl14_in _ (List.mem_of_getElem? (i := 9) rfl)), (jl14_in _ (List.mem_of_getElem? (i := 8) rfl)), (js0_in _ (List.mem_of_getElem? (i := 27) rfl)), (jl0_in _ (List.mem_of_getElem? (i := 2) rfl)), ⟨by decide, by decide, by decide +kernel⟩⟩
theorem cal_X5_init : jCI yX5_init cX5_init 1 0 := ⟨(jl2_in _ (List.mem_of_getElem? (i := 39) rfl)), (jl2_in _ (List.mem_of_getElem? (i := 38) rfl)), (jl0_in _ (List.mem_of_getElem? (i := 5) rfl)), rfl, ⟨by decide, by decide, by decide +kernel⟩⟩
theorem cal_X5_begin : jCV yX5_begin cX5_begin 2 none 1 := ⟨(jl4_in _ (List.mem_of_getElem? (i := 31) rfl)), (jl4_in _ (List.mem_of_getElem? (i := 29) rfl)), (jl4_in _ (List.mem_of_getElem? (i := 30) rfl)), (jl0_in _ (List.mem_of_getElem? (i := 5) rfl)), ⟨by decide, by decide, by decide +kernel⟩⟩
theorem cal_X5_copyFrom : jCV yX5_copyFrom cX5_copyFrom 2 none 1 := ⟨(jl8_in _ (List.mem_of_getElem? (i := 12) rfl)), (jl8_in _ (List.mem_of_getElem? (i := 10) rfl)), (jl8_in _ (List.mem_of_getElem? (i := 11) rfl)), (jl0_in _ (List.mem_of_getElem? (i := 5) rfl)), ⟨by decide, by decide, by decide +kernel⟩⟩
theorem cal_X5_writeTo : jCV yX5_writeTo cX5_writeTo 5 none 2 := ⟨(jl5_in _ (List.mem_of_getElem? (i := 38) rfl)), (jl5_in _ (List.mem_of_getElem? (i := 36) rfl)), (jl5_in _ (List.mem_of_getElem? (i := 37) rfl)), (jl0_in _ (List.mem_of_getElem? (i := 5) rfl)), ⟨by decide, by decide, by decide +kernel⟩⟩
theorem cal_X5_readFrom : jCV yX5_readFrom cX5_readFrom 5 none 2 := ⟨(jl7_in _ (List.mem_of_getElem? (i := 37) rfl)), (jl7_in _ (List.mem_of_getElem? (i := 35) rfl)), (jl7_in _ (List.mem_of_getElem? (i := 36) rfl)), (jl0_in _ (List.mem_of_getElem? (i := 5) rfl)), ⟨by decide, by decide, by decide +kernel⟩⟩
theorem cal_X5_pass : jCV yX5_pass cX5_pass 4 none 2 := ⟨(jl6_in _ (List.mem_of_getElem? (i := 2) rfl)), (jl6_in _ (List.mem_of_getElem? (i := 0) rfl)), (jl6_in _ (List.mem_of_getElem? (i := 1) rfl)), (jl0_in _ (List.mem_of_getElem? (i := 5) rfl)), ⟨by decide, by decide, by decide +kernel⟩⟩
theorem cal_X5_drift : jCV yX5_drift cX5_drift 6 none 3 := ⟨(jl6_in _ (List.mem_of_getElem? (i := 5) rfl)), (jl6_in _ (List.mem_of_getElem? (i := 4) rfl)), (js0_in _ (List.mem_of_getElem? (i := 2) rfl)), (jl0_in _ (List.mem_of_getElem? (i := 5) rfl)), ⟨by decide, by decide, by decide +kernel⟩⟩
theorem cal_X5_turnOn : jCV yX5_turnOn cX5_turnOn 6 (some .int) 3 := ⟨(jl6_in _ (List.mem_of_getElem? (i := 8) rfl)), (jl6_in _ (List.mem_of_getElem? (i := 7) rfl)), (js0_in _ (List.mem_of_getElem? (i := 3) rfl)), (jl0_in _ (List.mem_of_getElem? (i := 5) rfl)), ⟨by decide, by decide, by decide +kernel⟩⟩
theorem cal_X5_wayOn : jCV yX5_wayOn cX5_wayOn 5 (some .int) 3 := ⟨(jl7_in _ (List.mem_of_getElem? (i := 9) rfl)), (jl7_in _ (List.mem_of_getElem? (i := 8) rfl)), (js0_in _ (List.mem_of_getElem? (i := 6) rfl)), (jl0_in _ (List.mem_of_getElem? (i := 5) rfl)), ⟨by decide, by decide, by decide +kernel⟩⟩
theorem cal_X5_tellMachine : jCV yX5_tellMachine cX5_tellMachine 4 none 3 := ⟨(jl6_in _ (List.mem_of_getElem? (i := 15) rfl)), (jl6_in _ (List.mem_of_getElem? (i := 14) rfl)), (js0_in _ (List.mem_of_getElem? (i := 4) rfl)), (jl0_in _ (List.mem_of_getElem? (i := 5) rfl)), ⟨by decide, by decide, by decide +kernel⟩⟩
theorem cal_X5_turnBy : jCV yX5_turnBy cX5_turnBy 4 none 3 := ⟨(jl7_in _ (List.mem_of_getElem? (i := 6) rfl)), (jl7_in _ (List.mem_of_getElem? (i := 4) rfl)), (jl7_in _ (List.mem_of_getElem? (i := 5) rfl)), (jl0_in _ (List.mem_of_getElem? (i := 5) rfl)), ⟨by decide, by decide, by decide +kernel⟩⟩
theorem cal_X5_goOn : jCV yX5_goOn cX5_goOn 5 none 3 := ⟨(jl7_in _ (List.mem_of_getElem? (i := 25) rfl)), (jl7_in _ (List.mem_of_getElem? (i := 23) rfl)), (jl7_in _ (List.mem_of_getElem? (i := 24) rfl)), (jl0_in _ (List.mem_of_getElem? (i := 5) rfl)), ⟨by decide, by decide, by decide +kernel⟩⟩
theorem cal_X5_isFair : jCV yX5_isFair cX5_isFair 3 (some .boolean) 2 := ⟨(jl7_in _ (List.mem_of_getElem? (i := 17) rfl)), (jl7_in _ (List.mem_of_getElem? (i := 15) rfl)), (jl7_in _ (List.mem_of_getElem? (i := 16) rfl)), (jl0_in _ (List.mem_of_getElem? (i := 5) rfl)), ⟨by decide, by decide, by decide +kernel⟩⟩
theorem cal_X5_isOnPool : jCV yX5_isOnPool cX5_isOnPool 3 (some .boolean) 1 := ⟨(jl18_in _ (List.mem_of_getElem? (i := 11) rfl)), (jl18_in _ (List.mem_of_getElem? (i := 9) rfl)), (jl18_in _ (List.mem_of_getElem? (i := 10) rfl)), (jl0_in _ (List.mem_of_getElem? (i := 5) rfl)), ⟨by decide, by decide, by decide +kernel⟩⟩
theorem cal_X5_isAlone : jCV yX5_isAlone cX5_isAlone 3 (some .boolean) 2 := ⟨(jl18_in _ (List.mem_of_getElem? (i := 15) rfl)), (jl18_in _ (List.mem_of_getElem? (i := 13) rfl)), (jl18_in _ (List.mem_of_getElem? (i := 14) rfl)), (jl0_in _ (List.mem_of_getElem? (i := 5) rfl)), ⟨by decide, by decide, by decide +kernel⟩⟩
theorem cal_X5_onesOn : jCV yX5_onesOn cX5_onesOn 5 (some .int) 2 := ⟨(jl6_in _ (List.mem_of_getElem? (i := 25) rfl)), (jl6_in _ (List.mem_of_getElem? (i := 23) rfl)), (jl6_in _ (List.mem_of_getElem? (i := 24) rfl)), (jl0_in _ (List.mem_of_getElem? (i := 5) rfl)), ⟨by decide, by decide, by decide +kernel⟩⟩
theorem cal_X5_landedOnes : jCV yX5_landedOnes cX5_landedOnes 2 (some .int) 1 := ⟨(jl8_in _ (List.mem_of_getElem? (i := 5) rfl)), (jl8_in _ (List.mem_of_getElem? (i := 3) rfl)), (jl8_in _ (List.mem_of_getElem? (i := 4) rfl)), (jl0_in _ (List.mem_of_getElem? (i := 5) rfl)), ⟨by decide, by decide, by decide +kernel⟩⟩
theorem cal_X5_afloatOnes : jCV yX5_afloatOnes cX5_afloatOnes 4 (some .int) 1 := ⟨(jl14_in _ (List.mem_of_getElem? (i := 33) rfl)), (jl14_in _ (List.mem_of_getElem? (i := 31) rfl)), (jl14_in _ (List.mem_of_getElem? (i := 32) rfl)), (jl0_in _ (List.mem_of_getElem? (i := 5) rfl)), ⟨by decide, by decide, by decide +kernel⟩⟩
theorem cal_X5_fairOnes : jCV yX5_fairOnes cX5_fairOnes 4 (some .int) 1 := ⟨(jl14_in _ (List.mem_of_getElem? (i := 29) rfl)), (jl14_in _ (List.mem_of_getElem? (i := 27) rfl)), (jl14_in _ (List.mem_of_getElem? (i := 28) rfl)), (jl0_in _ (List.mem_of_getElem? (i := 5) rfl)), ⟨by decide, by decide, by decide +kernel⟩⟩
theorem cal_X5_pools : jCV yX5_pools cX5_pools 4 (some .int) 1 := ⟨(jl14_in _ (List.mem_of_getElem? (i := 37) rfl)), (jl14_in _ (List.mem_of_getElem? (i := 35) rfl)), (jl14_in _ (List.mem_of_getElem? (i := 36) rfl)), (jl0_in _ (List.mem_of_getElem? (i := 5) rfl)), ⟨by decide, by decide, by decide +kernel⟩⟩
theorem cal_X5_crowd : jCV yX5_crowd cX5_crowd 6 (some .int) 1 := ⟨(jl17_in _ (List.mem_of_getElem? (i := 26) rfl)), (jl17_in _ (List.mem_of_getElem? (i := 24) rfl)), (jl17_in _ (List.mem_of_getElem? (i := 25) rfl)), (jl0_in _ (List.mem_of_getElem? (i := 5) rfl)), ⟨by decide, by decide, by decide +kernel⟩⟩
theorem cal_X5_turnedByAll : jCV yX5_turnedByAll cX5_turnedByAll 4 (some .int) 1 := ⟨(jl23_in _ (List.mem_of_getElem? (i := 29) rfl)), (jl23_in _ (List.mem_of_getElem? (i := 27) rfl)), (jl23_in _ (List.mem_of_getElem? (i := 28) rfl)), (jl0_in _ (List.mem_of_getElem? (i := 5) rfl)), ⟨by decide, by decide, by decide +kernel⟩⟩
theorem cal_X6_init : jCI yX6_init cX6_init 1 0 := ⟨(jl0_in _ (List.mem_of_getElem? (i := 26) rfl)), (jl0_in _ (List.mem_of_getElem? (i := 25) rfl)), (jl0_in _ (List.mem_of_getElem? (i := 1) rfl)), rfl, ⟨by decide, by decide, by decide +kernel⟩⟩
theorem cal_X6_feed : jCV yX6_feed cX6_feed 6 (some .int) 5 := ⟨(jl5_in _ (List.mem_of_getElem? (i := 14) rfl)), (jl5_in _ (List.mem_of_getElem? (i := 12) rfl)), (jl5_in _ (List.mem_of_getElem? (i := 13) rfl)), (jl0_in _ (List.mem_of_getElem? (i := 1) rfl)), ⟨by decide, by decide, by decide +kernel⟩⟩
theorem cal_X6_putFour : jCV yX6_putFour cX6_putFour 3 none 1 := ⟨(jl5_in _ (List.mem_of_getElem? (i := 17) rfl)), (jl5_in _ (List.mem_of_getElem? (i := 16) rfl)), (js0_in _ (List.mem_of_getElem? (i := 0) rfl)), (jl0_in _ (List.mem_of_getElem? (i := 1) rfl)), ⟨by decide, by decide, by decide +kernel⟩⟩
theorem cal_X6_gorge : jCV yX6_gorge cX6_gorge 2 (some .int) 1 := ⟨(jl9_in _ (List.mem_of_getElem? (i := 29) rfl)), (jl9_in _ (List.mem_of_getElem? (i := 27) rfl)), (jl9_in _ (List.mem_of_getElem? (i := 28) rfl)), (jl0_in _ (List.mem_of_getElem? (i := 1) rfl)), ⟨by decide, by decide, by decide +kernel⟩⟩
theorem cal_X6_fault : jCV yX6_fault cX6_fault 1 (some .int) 0 := ⟨(jl5_in _ (List.mem_of_getElem? (i := 21) rfl)), (jl5_in _ (List.mem_of_getElem? (i := 19) rfl)), (jl5_in _ (List.mem_of_getElem? (i := 20) rfl)), (jl0_in _ (List.mem_of_getElem? (i := 1) rfl)), ⟨by decide, by decide, by decide +kernel⟩⟩
theorem cal_X6_count : jCV yX6_count cX6_count 2 (some .int) 1 := ⟨(jl14_in _ (List.mem_of_getElem? (i := 25) rfl)), (jl14_in _ (List.mem_of_getElem? (i := 23) rfl)), (jl14_in _ (List.mem_of_getElem? (i := 24) rfl)), (jl0_in _ (List.mem_of_getElem? (i := 1) rfl)), ⟨by decide, by decide, by decide +kernel⟩⟩
theorem cal_X6_fewestWithAll : jCV yX6_fewestWithAll cX6_fewestWithAll 5 (some .int) 0 := ⟨(jl15_in _ (List.mem_of_getElem? (i := 0) rfl)), (jl14_in _ (List.mem_of_getElem? (i := 39) rfl)), (js0_in _ (List.mem_of_getElem? (i := 29) rfl)), (jl0_in _ (List.mem_of_getElem? (i := 1) rfl)), ⟨by decide, by decide, by decide +kernel⟩⟩
theorem cal_X6_reach : jCV yX6_reach cX6_reach 3 (some .int) 2 := ⟨(jl15_in _ (List.mem_of_getElem? (i := 16) rfl)), (jl15_in _ (List.mem_of_getElem? (i := 14) rfl)), (jl15_in _ (List.mem_of_getElem? (i := 15) rfl)), (jl0_in _ (List.mem_of_getElem? (i := 1) rfl)), ⟨by decide, by decide, by decide +kernel⟩⟩
theorem cal_X6_judge : jCV yX6_judge cX6_judge 3 (some .int) 2 := ⟨(jl15_in _ (List.mem_of_getElem? (i := 30) rfl)), (jl15_in _ (List.mem_of_getElem? (i := 28) rfl)), (jl15_in _ (List.mem_of_getElem? (i := 29) rfl)), (jl0_in _ (List.mem_of_getElem? (i := 1) rfl)), ⟨by decide, by decide, by decide +kernel⟩⟩
theorem cal_X6_steps : jCV yX6_steps cX6_steps 3 (some .int) 1 := ⟨(jl5_in _ (List.mem_of_getElem? (i := 25) rfl)), (jl5_in _ (List.mem_of_getElem? (i := 23) rfl)), (jl5_in _ (List.mem_of_getElem? (i := 24) rfl)), (jl0_in _ (List.mem_of_getElem? (i := 1) rfl)), ⟨by decide, by decide, by decide +kernel⟩⟩
theorem cal_X6_call : jCV yX6_call cX6_call 2 (some .int) 1 := ⟨(jl16_in _ (List.mem_of_getElem? (i := 0) rfl)), (jl15_in _ (List.mem_of_getElem? (i := 38) rfl)), (jl15_in _ (List.mem_of_getElem? (i := 39) rfl)), (jl0_in _ (List.mem_of_getElem? (i := 1) rfl)), ⟨by decide, by decide, by decide +kernel⟩⟩
theorem cal_X6_paddle : jCV yX6_paddle cX6_paddle 4 (some .int) 2 := ⟨(jl16_in _ (List.mem_of_getElem? (i := 8) rfl)), (jl16_in _ (List.mem_of_getElem? (i := 6) rfl)), (jl16_in _ (List.mem_of_getElem? (i := 7) rfl)), (jl0_in _ (List.mem_of_getElem? (i := 1) rfl)), ⟨by decide, by decide, by decide +kernel⟩⟩
theorem cal_X6_carry : jCV yX6_carry cX6_carry 4 (some .int) 2 := ⟨(jl16_in _ (List.mem_of_getElem? (i := 18) rfl)), (jl16_in _ (List.mem_of_getElem? (i := 16) rfl)), (jl16_in _ (List.mem_of_getElem? (i := 17) rfl)), (jl0_in _ (List.mem_of_getElem? (i := 1) rfl)), ⟨by decide, by decide, by decide +kernel⟩⟩
theorem cal_X6_dredge : jCV yX6_dredge cX6_dredge 5 (some .int) 3 := ⟨(jl16_in _ (List.mem_of_getElem? (i := 25) rfl)), (jl16_in _ (List.mem_of_getElem? (i := 23) rfl)), (jl16_in _ (List.mem_of_getElem? (i := 24) rfl)), (jl0_in _ (List.mem_of_getElem? (i := 1) rfl)), ⟨by decide, by decide, by decide +kernel⟩⟩
theorem cal_X6_refuse : jCV yX6_refuse cX6_refuse 2 (some .int) 1 := ⟨(jl5_in _ (List.mem_of_getElem? (i := 28) rfl)), (jl5_in _ (List.mem_of_getElem? (i := 27) rfl)), (js0_in _ (List.mem_of_getElem? (i := 1) rfl)), (jl0_in _ (List.mem_of_getElem? (i := 1) rfl)), ⟨by decide, by decide, by decide +kernel⟩⟩
theorem cal_X6_undo : jCV yX6_undo cX6_undo 1 (some .int) 0 := ⟨(jl7_in _ (List.mem_of_getElem? (i := 29) rfl)), (jl7_in _ (List.mem_of_getElem? (i := 27) rfl)), (jl7_in _ (List.mem_of_getElem? (i := 28) rfl)), (jl0_in _ (List.mem_of_getElem? (i := 1) rfl)), ⟨by decide, by decide, by decide +kernel⟩⟩
theorem cal_X6_then : jCV yX6_then cX6_then 4 (some .int) 3 := ⟨(jl16_in _ (List.mem_of_getElem? (i := 32) rfl)), (jl16_in _ (List.mem_of_getElem? (i := 30) rfl)), (jl16_in _ (List.mem_of_getElem? (i := 31) rfl)), (jl0_in _ (List.mem_of_getElem? (i := 1) rfl)), ⟨by decide, by decide, by decide +kernel⟩⟩
theorem cal_X6_when : jCV yX6_when cX6_when 3 (some .int) 2 := ⟨(jl17_in _ (List.mem_of_getElem? (i := 8) rfl)), (jl17_in _ (List.mem_of_getElem? (i := 6) rfl)), (jl17_in _ (List.mem_of_getElem? (i := 7) rfl)), (jl0_in _ (List.mem_of_getElem? (i := 1) rfl)), ⟨by decide, by decide, by decide +kernel⟩⟩
theorem cal_X6_stepsTillFair : jCV yX6_stepsTillFair cX6_stepsTillFair 3 (some .int) 1 := ⟨(jl17_in _ (List.mem_of_getElem? (i := 11) rfl)), (jl17_in _ (List.mem_of_getElem? (i := 10) rfl)), (js0_in _ (List.mem_of_getElem? (i := 35) rfl)), (jl0_in _ (List.mem_of_getElem? (i := 1) rfl)), ⟨by decide, by decide, by decide +kernel⟩⟩
theorem cal_X6_stepsTillLanded : jCV yX6_stepsTillLanded cX6_stepsTillLanded 3 (some .int) 1 := ⟨(jl17_in _ (List.mem_of_getElem? (i := 15) rfl)), (jl17_in _ (List.mem_of_getElem? (i := 14) rfl)), (js0_in _ (List.mem_of_getElem? (i := 36) rfl)), (jl0_in _ (List.mem_of_getElem? (i := 1) rfl)), ⟨by decide, by decide, by decide +kernel⟩⟩
theorem cal_X6_later : jCV yX6_later cX6_later 3 (some .int) 2 := ⟨(jl17_in _ (List.mem_of_getElem? (i := 22) rfl)), (jl17_in _ (List.mem_of_getElem? (i := 20) rfl)), (jl17_in _ (List.mem_of_getElem? (i := 21) rfl)), (jl0_in _ (List.mem_of_getElem? (i := 1) rfl)), ⟨by decide, by decide, by decide +kernel⟩⟩
theorem cal_X6_beside : jCV yX6_beside cX6_beside 4 (some .int) 2 := ⟨(jl17_in _ (List.mem_of_getElem? (i := 33) rfl)), (jl17_in _ (List.mem_of_getElem? (i := 31) rfl)), (jl17_in _ (List.mem_of_getElem? (i := 32) rfl)), (jl0_in _ (List.mem_of_getElem? (i := 1) rfl)), ⟨by decide, by decide, by decide +kernel⟩⟩
theorem cal_X6_first : jCV yX6_first cX6_first 4 (some .int) 0 := ⟨(jl8_in _ (List.mem_of_getElem? (i := 1) rfl)), (jl7_in _ (List.mem_of_getElem? (i := 39) rfl)), (jl8_in _ (List.mem_of_getElem? (i := 0) rfl)), (jl0_in _ (List.mem_of_getElem? (i := 1) rfl)), ⟨by decide, by decide, by decide +kernel⟩⟩
theorem cal_X6_last : jCV yX6_last cX6_last 6 (some .int) 1 := ⟨(jl18_in _ (List.mem_of_getElem? (i := 0) rfl)), (jl17_in _ (List.mem_of_getElem? (i := 38) rfl)), (jl17_in _ (List.mem_of_getElem? (i := 39) rfl)), (jl0_in _ (List.mem_of_getElem? (i := 1) rfl)), ⟨by decide, by decide, by decide +kernel⟩⟩
theorem cal_X6_still : jCV yX6_still cX6_still 6 (some .int) 3 := ⟨(jl18_in _ (List.mem_of_getElem? (i := 7) rfl)), (jl18_in _ (List.mem_of_getElem? (i := 5) rfl)), (jl18_in _ (List.mem_of_getElem? (i := 6) rfl)), (jl0_in _ (List.mem_of_getElem? (i := 1) rfl)), ⟨by decide, by decide, by decide +kernel⟩⟩
theorem cal_X6_turned : jCV yX6_turned cX6_turned 3 (some .int) 2 := ⟨(jl18_in _ (List.mem_of_getElem? (i := 22) rfl)), (jl18_in _ (List.mem_of_getElem? (i := 20) rfl)), (jl18_in _ (List.mem_of_getElem? (i := 21) rfl)), (jl0_in _ (List.mem_of_getElem? (i := 1) rfl)), ⟨by decide, by decide, by decide +kernel⟩⟩
theorem cal_X6_stay : jCV yX6_stay cX6_stay 6 (some .int) 1 := ⟨(jl18_in _ (List.mem_of_getElem? (i := 29) rfl)), (jl18_in _ (List.mem_of_getElem? (i := 27) rfl)), (jl18_in _ (List.mem_of_getElem? (i := 28) rfl)), (jl0_in _ (List.mem_of_getElem? (i := 1) rfl)), ⟨by decide, by decide, by decide +kernel⟩⟩
theorem cal_X6_toSet : jCV yX6_toSet cX6_toSet 7 (some .int) 2 := ⟨(jl18_in _ (List.mem_of_getElem? (i := 36) rfl)), (jl18_in _ (List.mem_of_getElem? (i := 34) rfl)), (jl18_in _ (List.mem_of_getElem? (i := 35) rfl)), (jl0_in _ (List.mem_of_getElem? (i := 1) rfl)), ⟨by decide, by decide, by decide +kernel⟩⟩
theorem cal_X6_isSooner : jCS yX6_isSooner cX6_isSooner 2 (some .boolean) 2 := ⟨(jl18_in _ (List.mem_of_getElem? (i := 39) rfl)), (jl18_in _ (List.mem_of_getElem? (i := 38) rfl)), (jl0_in _ (List.mem_of_getElem? (i := 1) rfl)), ⟨by decide, by decide, by decide +kernel⟩⟩
theorem cal_X6_toSpin : jCV yX6_toSpin cX6_toSpin 8 (some .int) 3 := ⟨(jl20_in _ (List.mem_of_getElem? (i := 0) rfl)), (jl19_in _ (List.mem_of_getElem? (i := 4) rfl)), (jl19_in _ (List.mem_of_getElem? (i := 5) rfl)), (jl0_in _ (List.mem_of_getElem? (i := 1) rfl)), ⟨by decide, by decide, by decide +kernel⟩⟩
theorem cal_X6_toCall : jCV yX6_toCall cX6_toCall 6 (some .int) 1 := ⟨(jl20_in _ (List.mem_of_getElem? (i := 7) rfl)), (jl20_in _ (List.mem_of_getElem? (i := 5) rfl)), (jl20_in _ (List.mem_of_getElem? (i := 6) rfl)), (jl0_in _ (List.mem_of_getElem? (i := 1) rfl)), ⟨by decide, by decide, by decide +kernel⟩⟩
theorem cal_X6_panel : jCV yX6_panel cX6_panel 2 (some .int) 1 := ⟨(jl20_in _ (List.mem_of_getElem? (i := 14) rfl)), (jl20_in _ (List.mem_of_getElem? (i := 12) rfl)), (jl20_in _ (List.mem_of_getElem? (i := 13) rfl)), (jl0_in _ (List.mem_of_getElem? (i := 1) rfl)), ⟨by decide, by decide, by decide +kernel⟩⟩
theorem cal_X6_seat : jCV yX6_seat cX6_seat 2 (some .int) 1 := ⟨(jl20_in _ (List.mem_of_getElem? (i := 38) rfl)), (jl20_in _ (List.mem_of_getElem? (i := 36) rfl)), (jl20_in _ (List.mem_of_getElem? (i := 37) rfl)), (jl0_in _ (List.mem_of_getElem? (i := 1) rfl)), ⟨by decide, by decide, by decide +kernel⟩⟩
theorem cal_X6_unlike : jCV yX6_unlike cX6_unlike 3 (some .int) 2 := ⟨(jl21_in _ (List.mem_of_getElem? (i := 5) rfl)), (jl21_in _ (List.mem_of_getElem? (i := 3) rfl)), (jl21_in _ (List.mem_of_getElem? (i := 4) rfl)), (jl0_in _ (List.mem_of_getElem? (i := 1) rfl)), ⟨by decide, by decide, by decide +kernel⟩⟩
theorem cal_X6_sides : jCV yX6_sides cX6_sides 6 (some .int) 2 := ⟨(jl21_in _ (List.mem_of_getElem? (i := 12) rfl)), (jl21_in _ (List.mem_of_getElem? (i := 10) rfl)), (jl21_in _ (List.mem_of_getElem? (i := 11) rfl)), (jl0_in _ (List.mem_of_getElem? (i := 1) rfl)), ⟨by decide, by decide, by decide +kernel⟩⟩
theorem cal_X6_facing : jCV yX6_facing cX6_facing 5 (some .int) 2 := ⟨(jl21_in _ (List.mem_of_getElem? (i := 19) rfl)), (jl21_in _ (List.mem_of_getElem? (i := 17) rfl)), (jl21_in _ (List.mem_of_getElem? (i := 18) rfl)), (jl0_in _ (List.mem_of_getElem? (i := 1) rfl)), ⟨by decide, by decide, by decide +kernel⟩⟩
theorem cal_X6_agree : jCV yX6_agree cX6_agree 6 (some .int) 3 := ⟨(jl21_in _ (List.mem_of_getElem? (i := 26) rfl)), (jl21_in _ (List.mem_of_getElem? (i := 24) rfl)), (jl21_in _ (List.mem_of_getElem? (i := 25) rfl)), (jl0_in _ (List.mem_of_getElem? (i := 1) rfl)), ⟨by decide, by decide, by decide +kernel⟩⟩
theorem cal_X6_see : jCV yX6_see cX6_see 4 (some .int) 3 := ⟨(jl21_in _ (List.mem_of_getElem? (i := 33) rfl)), (jl21_in _ (List.mem_of_getElem? (i := 31) rfl)), (jl21_in _ (List.mem_of_getElem? (i := 32) rfl)), (jl0_in _ (List.mem_of_getElem? (i := 1) rfl)), ⟨by decide, by decide, by decide +kernel⟩⟩
theorem cal_X6_leans : jCV yX6_leans cX6_leans 4 (some .int) 1 := ⟨(jl22_in _ (List.mem_of_getElem? (i := 4) rfl)), (jl22_in _ (List.mem_of_getElem? (i := 2) rfl)), (jl22_in _ (List.mem_of_getElem? (i := 3) rfl)), (jl0_in _ (List.mem_of_getElem? (i := 1) rfl)), ⟨by decide, by decide, by decide +kernel⟩⟩
theorem cal_X6_tryGuess : jCV yX6_tryGuess cX6_tryGuess 4 (some .boolean) 1 := ⟨(jl22_in _ (List.mem_of_getElem? (i := 15) rfl)), (jl22_in _ (List.mem_of_getElem? (i := 14) rfl)), (js1_in _ (List.mem_of_getElem? (i := 1) rfl)), (jl0_in _ (List.mem_of_getElem? (i := 1) rfl)), ⟨by decide, by decide, by decide +kernel⟩⟩
theorem cal_X6_sightingsHold : jCV yX6_sightingsHold cX6_sightingsHold 4 (some .boolean) 0 := ⟨(jl22_in _ (List.mem_of_getElem? (i := 7) rfl)), (jl22_in _ (List.mem_of_getElem? (i := 6) rfl)), (js1_in _ (List.mem_of_getElem? (i := 0) rfl)), (jl0_in _ (List.mem_of_getElem? (i := 1) rfl)), ⟨by decide, by decide, by decide +kernel⟩⟩
theorem cal_X6_watch : jCV yX6_watch cX6_watch 6 (some .int) 1 := ⟨(jl22_in _ (List.mem_of_getElem? (i := 22) rfl)), (jl22_in _ (List.mem_of_getElem? (i := 20) rfl)), (jl22_in _ (List.mem_of_getElem? (i := 21) rfl)), (jl0_in _ (List.mem_of_getElem? (i := 1) rfl)), ⟨by decide, by decide, by decide +kernel⟩⟩
theorem cal_X6_addPlaces : jCV yX6_addPlaces cX6_addPlaces 3 none 1 := ⟨(jl22_in _ (List.mem_of_getElem? (i := 26) rfl)), (jl22_in _ (List.mem_of_getElem? (i := 25) rfl)), (js1_in _ (List.mem_of_getElem? (i := 2) rfl)), (jl0_in _ (List.mem_of_getElem? (i := 1) rfl)), ⟨by decide, by decide, by decide +kernel⟩⟩
theorem cal_X6_forget : jCV yX6_forget cX6_forget 1 none 0 := ⟨(jl9_in _ (List.mem_of_getElem? (i := 7) rfl)), (jl9_in _ (List.mem_of_getElem? (i := 5) rfl)), (jl9_in _ (List.mem_of_getElem? (i := 6) rfl)), (jl0_in _ (List.mem_of_getElem? (i := 1) rfl)), ⟨by decide, by decide, by decide +kernel⟩⟩
theorem cal_X6_floods : jCV yX6_floods cX6_floods 9 (some .int) 3 := ⟨(jl22_in _ (List.mem_of_getElem? (i := 33) rfl)), (jl22_in _ (List.mem_of_getElem? (i := 31) rfl)), (jl22_in _ (List.mem_of_getElem? (i := 32) rfl)), (jl0_in _ (List.mem_of_getElem? (i := 1) rfl)), ⟨by decide, by decide, by decide +kernel⟩⟩
theorem cal_X6_game : jCV yX6_game cX6_game 8 (some .int) 3 := ⟨(jl23_in _ (List.mem_of_getElem? (i := 0) rfl)), (jl22_in _ (List.mem_of_getElem? (i := 38) rfl)), (jl22_in _ (List.mem_of_getElem? (i := 39) rfl)), (jl0_in _ (List.mem_of_getElem? (i := 1) rfl)), ⟨by decide, by decide, by decide +kernel⟩⟩
theorem cal_X6_play : jCV yX6_play cX6_play 6 none 3 := ⟨(jl23_in _ (List.mem_of_getElem? (i := 3) rfl)), (jl23_in _ (List.mem_of_getElem? (i := 2) rfl)), (js1_in _ (List.mem_of_getElem? (i := 3) rfl)), (jl0_in _ (List.mem_of_getElem? (i := 1) rfl)), ⟨by decide, by decide, by decide +kernel⟩⟩
theorem cal_X6_rests : jCV yX6_rests cX6_rests 3 (some .boolean) 2 := ⟨(jl23_in _ (List.mem_of_getElem? (i := 7) rfl)), (jl23_in _ (List.mem_of_getElem? (i := 6) rfl)), (js1_in _ (List.mem_of_getElem? (i := 4) rfl)), (jl0_in _ (List.mem_of_getElem? (i := 1) rfl)), ⟨by decide, by decide, by decide +kernel⟩⟩
theorem cal_X6_years : jCV yX6_years cX6_years 6 (some .int) 3 := ⟨(jl23_in _ (List.mem_of_getElem? (i := 14) rfl)), (jl23_in _ (List.mem_of_getElem? (i := 12) rfl)), (jl23_in _ (List.mem_of_getElem? (i := 13) rfl)), (jl0_in _ (List.mem_of_getElem? (i := 1) rfl)), ⟨by decide, by decide, by decide +kernel⟩⟩
theorem cal_X6_befall : jCV yX6_befall cX6_befall 5 (some .int) 1 := ⟨(jl23_in _ (List.mem_of_getElem? (i := 17) rfl)), (jl23_in _ (List.mem_of_getElem? (i := 16) rfl)), (js1_in _ (List.mem_of_getElem? (i := 5) rfl)), (jl0_in _ (List.mem_of_getElem? (i := 1) rfl)), ⟨by decide, by decide, by decide +kernel⟩⟩
theorem cal_X6_stir : jCS yX6_stir cX6_stir 1 (some .int) 1 := ⟨(jl23_in _ (List.mem_of_getElem? (i := 20) rfl)), (jl23_in _ (List.mem_of_getElem? (i := 19) rfl)), (jl0_in _ (List.mem_of_getElem? (i := 1) rfl)), ⟨by decide, by decide, by decide +kernel⟩⟩
theorem cal_X6_draw : jCS yX6_draw cX6_draw 2 (some .int) 2 := ⟨(jl23_in _ (List.mem_of_getElem? (i := 24) rfl)), (jl23_in _ (List.mem_of_getElem? (i := 23) rfl)), (jl0_in _ (List.mem_of_getElem? (i := 1) rfl)), ⟨by decide, by decide, by decide +kernel⟩⟩
theorem cal_X6_rest : jCS yX6_rest cX6_rest 2 (some .int) 2 := ⟨(jl5_in _ (List.mem_of_getElem? (i := 34) rfl)), (jl5_in _ (List.mem_of_getElem? (i := 33) rfl)), (jl0_in _ (List.mem_of_getElem? (i := 1) rfl)), ⟨by decide, by decide, by decide +kernel⟩⟩
theorem cal_X6_image : jCV yX6_image cX6_image 1 none 0 := ⟨(jl9_in _ (List.mem_of_getElem? (i := 11) rfl)), (jl9_in _ (List.mem_of_getElem? (i := 9) rfl)), (jl9_in _ (List.mem_of_getElem? (i := 10) rfl)), (jl0_in _ (List.mem_of_getElem? (i := 1) rfl)), ⟨by decide, by decide, by decide +kernel⟩⟩
theorem cal_X6_restore : jCV yX6_restore cX6_restore 1 (some .boolean) 0 := ⟨(jl9_in _ (List.mem_of_getElem? (i := 21) rfl)), (jl9_in _ (List.mem_of_getElem? (i := 19) rfl)), (jl9_in _ (List.mem_of_getElem? (i := 20) rfl)), (jl0_in _ (List.mem_of_getElem? (i := 1) rfl)), ⟨by decide, by decide, by decide +kernel⟩⟩
theorem cal_X6_tryFromNow : jCV yX6_tryFromNow cX6_tryFromNow 1 none 0 := ⟨(jl8_in _ (List.mem_of_getElem? (i := 8) rfl)), (jl8_in _ (List.mem_of_getElem? (i := 7) rfl)), (js0_in _ (List.mem_of_getElem? (i := 7) rfl)), (jl0_in _ (List.mem_of_getElem? (i := 1) rfl)), ⟨by decide, by decide, by decide +kernel⟩⟩
theorem cal_X6_tryFor : jCV yX6_tryFor cX6_tryFor 2 none 1 := ⟨(jl16_in _ (List.mem_of_getElem? (i := 38) rfl)), (jl16_in _ (List.mem_of_getElem? (i := 37) rfl)), (js0_in _ (List.mem_of_getElem? (i := 33) rfl)), (jl0_in _ (List.mem_of_getElem? (i := 1) rfl)), ⟨by decide, by decide, by decide +kernel⟩⟩
theorem cal_X6_goOnTrying : jCV yX6_goOnTrying cX6_goOnTrying 3 none 1 := ⟨(jl17_in _ (List.mem_of_getElem? (i := 1) rfl)), (jl17_in _ (List.mem_of_getElem? (i := 0) rfl)), (js0_in _ (List.mem_of_getElem? (i := 34) rfl)), (jl0_in _ (List.mem_of_getElem? (i := 1) rfl)), ⟨by decide, by decide, by decide +kernel⟩⟩
theorem cal_X6_needJudge : jCV yX6_needJudge cX6_needJudge 2 none 1 := ⟨(jl15_in _ (List.mem_of_getElem? (i := 33) rfl)), (jl15_in _ (List.mem_of_getElem? (i := 32) rfl)), (js0_in _ (List.mem_of_getElem? (i := 31) rfl)), (jl0_in _ (List.mem_of_getElem? (i := 1) rfl)), ⟨by decide, by decide, by decide +kernel⟩⟩
theorem cal_X6_needReach : jCV yX6_needReach cX6_needReach 2 none 1 := ⟨(jl15_in _ (List.mem_of_getElem? (i := 19) rfl)), (jl15_in _ (List.mem_of_getElem? (i := 18) rfl)), (js0_in _ (List.mem_of_getElem? (i := 30) rfl)), (jl0_in _ (List.mem_of_getElem? (i := 1) rfl)), ⟨by decide, by decide, by decide +kernel⟩⟩
theorem cal_X6_needSide : jCV yX6_needSide cX6_needSide 2 none 1 := ⟨(jl16_in _ (List.mem_of_getElem? (i := 11) rfl)), (jl16_in _ (List.mem_of_getElem? (i := 10) rfl)), (js0_in _ (List.mem_of_getElem? (i := 32) rfl)), (jl0_in _ (List.mem_of_getElem? (i := 1) rfl)), ⟨by decide, by decide, by decide +kernel⟩⟩
theorem cal_X6_needWhat : jCS yX6_needWhat cX6_needWhat 2 none 2 := ⟨(jl15_in _ (List.mem_of_getElem? (i := 22) rfl)), (jl15_in _ (List.mem_of_getElem? (i := 21) rfl)), (jl0_in _ (List.mem_of_getElem? (i := 1) rfl)), ⟨by decide, by decide, by decide +kernel⟩⟩
theorem cal_X6_needSteps : jCS yX6_needSteps cX6_needSteps 3 none 3 := ⟨(jl16_in _ (List.mem_of_getElem? (i := 35) rfl)), (jl16_in _ (List.mem_of_getElem? (i := 34) rfl)), (jl0_in _ (List.mem_of_getElem? (i := 1) rfl)), ⟨by decide, by decide, by decide +kernel⟩⟩
theorem cal_X7_init : jCI yX7_init cX7_init 1 0 := ⟨(jl23_in _ (List.mem_of_getElem? (i := 34) rfl)), (jl23_in _ (List.mem_of_getElem? (i := 33) rfl)), (jl0_in _ (List.mem_of_getElem? (i := 10) rfl)), rfl, ⟨by decide, by decide, by decide +kernel⟩⟩
theorem cal_X7_thrown : jCV yX7_thrown cX7_thrown 1 (some .int) 0 := ⟨(jl26_in _ (List.mem_of_getElem? (i := 3) rfl)), (jl26_in _ (List.mem_of_getElem? (i := 1) rfl)), (jl26_in _ (List.mem_of_getElem? (i := 2) rfl)), (jl0_in _ (List.mem_of_getElem? (i := 10) rfl)), ⟨by decide, by decide, by decide +kernel⟩⟩
theorem cal_X7_fail : jCV yX7_fail cX7_fail 2 (some .int) 1 := ⟨(jl26_in _ (List.mem_of_getElem? (i := 14) rfl)), (jl26_in _ (List.mem_of_getElem? (i := 13) rfl)), (js1_in _ (List.mem_of_getElem? (i := 6) rfl)), (jl0_in _ (List.mem_of_getElem? (i := 10) rfl)), ⟨by decide, by decide, by decide +kernel⟩⟩
theorem cal_X7_isIn : jCS yX7_isIn cX7_isIn 6 (some .boolean) 3 := ⟨(jl30_in _ (List.mem_of_getElem? (i := 12) rfl)), (jl30_in _ (List.mem_of_getElem? (i := 11) rfl)), (jl0_in _ (List.mem_of_getElem? (i := 10) rfl)), ⟨by decide, by decide, by decide +kernel⟩⟩
theorem cal_X7_isOf : jCS yX7_isOf cX7_isOf 2 (some .boolean) 2 := ⟨(jl29_in _ (List.mem_of_getElem? (i := 39) rfl)), (jl29_in _ (List.mem_of_getElem? (i := 38) rfl)), (jl0_in _ (List.mem_of_getElem? (i := 10) rfl)), ⟨by decide, by decide, by decide +kernel⟩⟩
theorem cal_X7_bitsOf : jCS yX7_bitsOf cX7_bitsOf 3 (some .int) 1 := ⟨(jl30_in _ (List.mem_of_getElem? (i := 2) rfl)), (jl30_in _ (List.mem_of_getElem? (i := 1) rfl)), (jl0_in _ (List.mem_of_getElem? (i := 10) rfl)), ⟨by decide, by decide, by decide +kernel⟩⟩
theorem cal_X7_isSide : jCV yX7_isSide cX7_isSide 2 (some .boolean) 1 := ⟨(jl31_in _ (List.mem_of_getElem? (i := 30) rfl)), (jl31_in _ (List.mem_of_getElem? (i := 29) rfl)), (js2_in _ (List.mem_of_getElem? (i := 8) rfl)), (jl0_in _ (List.mem_of_getElem? (i := 10) rfl)), ⟨by decide, by decide, by decide +kernel⟩⟩
theorem cal_X7_isReach : jCV yX7_isReach cX7_isReach 2 (some .boolean) 1 := ⟨(jl30_in _ (List.mem_of_getElem? (i := 9) rfl)), (jl30_in _ (List.mem_of_getElem? (i := 8) rfl)), (js1_in _ (List.mem_of_getElem? (i := 36) rfl)), (jl0_in _ (List.mem_of_getElem? (i := 10) rfl)), ⟨by decide, by decide, by decide +kernel⟩⟩
theorem cal_X7_isJudge : jCV yX7_isJudge cX7_isJudge 2 (some .boolean) 1 := ⟨(jl30_in _ (List.mem_of_getElem? (i := 20) rfl)), (jl30_in _ (List.mem_of_getElem? (i := 19) rfl)), (js1_in _ (List.mem_of_getElem? (i := 37) rfl)), (jl0_in _ (List.mem_of_getElem? (i := 10) rfl)), ⟨by decide, by decide, by decide +kernel⟩⟩
theorem cal_X7_allSides : jCV yX7_allSides cX7_allSides 1 (some .int) 0 := ⟨(jl29_in _ (List.mem_of_getElem? (i := 24) rfl)), (jl29_in _ (List.mem_of_getElem? (i := 23) rfl)), (js1_in _ (List.mem_of_getElem? (i := 31) rfl)), (jl0_in _ (List.mem_of_getElem? (i := 10) rfl)), ⟨by decide, by decide, by decide +kernel⟩⟩
theorem cal_X7_feed : jCV yX7_feed cX7_feed 8 (some .int) 5 := ⟨(jl26_in _ (List.mem_of_getElem? (i := 7) rfl)), (jl26_in _ (List.mem_of_getElem? (i := 5) rfl)), (jl26_in _ (List.mem_of_getElem? (i := 6) rfl)), (jl0_in _ (List.mem_of_getElem? (i := 10) rfl)), ⟨by decide, by decide, by decide +kernel⟩⟩
theorem cal_X7_byteAt : jCV yX7_byteAt cX7_byteAt 2 (some .int) 1 := ⟨(jl26_in _ (List.mem_of_getElem? (i := 20) rfl)), (jl26_in _ (List.mem_of_getElem? (i := 19) rfl)), (js1_in _ (List.mem_of_getElem? (i := 8) rfl)), (jl0_in _ (List.mem_of_getElem? (i := 10) rfl)), ⟨by decide, by decide, by decide +kernel⟩⟩
theorem cal_X7_isLetter : jCS yX7_isLetter cX7_isLetter 1 (some .boolean) 1 := ⟨(jl26_in _ (List.mem_of_getElem? (i := 23) rfl)), (jl26_in _ (List.mem_of_getElem? (i := 22) rfl)), (jl0_in _ (List.mem_of_getElem? (i := 10) rfl)), ⟨by decide, by decide, by decide +kernel⟩⟩
theorem cal_X7_isDigit : jCS yX7_isDigit cX7_isDigit 1 (some .boolean) 1 := ⟨(jl26_in _ (List.mem_of_getElem? (i := 26) rfl)), (jl26_in _ (List.mem_of_getElem? (i := 25) rfl)), (jl0_in _ (List.mem_of_getElem? (i := 10) rfl)), ⟨by decide, by decide, by decide +kernel⟩⟩
theorem cal_X7_isMark : jCS yX7_isMark cX7_isMark 1 (some .boolean) 1 := ⟨(jl26_in _ (List.mem_of_getElem? (i := 31) rfl)), (jl26_in _ (List.mem_of_getElem? (i := 30) rfl)), (jl0_in _ (List.mem_of_getElem? (i := 10) rfl)), ⟨by decide, by decide, by decide +kernel⟩⟩
theorem cal_X7_stepOn : jCV yX7_stepOn cX7_stepOn 2 none 0 := ⟨(jl26_in _ (List.mem_of_getElem? (i := 17) rfl)), (jl26_in _ (List.mem_of_getElem? (i := 16) rfl)), (js1_in _ (List.mem_of_getElem? (i := 7) rfl)), (jl0_in _ (List.mem_of_getElem? (i := 10) rfl)), ⟨by decide, by decide, by decide +kernel⟩⟩
theorem cal_X7_wrong : jCV yX7_wrong cX7_wrong 2 none 1 := ⟨(jl27_in _ (List.mem_of_getElem? (i := 5) rfl)), (jl27_in _ (List.mem_of_getElem? (i := 4) rfl)), (js1_in _ (List.mem_of_getElem? (i := 12) rfl)), (jl0_in _ (List.mem_of_getElem? (i := 10) rfl)), ⟨by decide, by decide, by decide +kernel⟩⟩
theorem cal_X7_is : jCV yX7_is cX7_is 4 (some .boolean) 1 := ⟨(jl27_in _ (List.mem_of_getElem? (i := 0) rfl)), (jl26_in _ (List.mem_of_getElem? (i := 39) rfl)), (js1_in _ (List.mem_of_getElem? (i := 11) rfl)), (jl0_in _ (List.mem_of_getElem? (i := 10) rfl)), ⟨by decide, by decide, by decide +kernel⟩⟩
theorem cal_X7_which : jCV yX7_which cX7_which 3 (some .int) 1 := ⟨(jl26_in _ (List.mem_of_getElem? (i := 37) rfl)), (jl26_in _ (List.mem_of_getElem? (i := 36) rfl)), (js1_in _ (List.mem_of_getElem? (i := 10) rfl)), (jl0_in _ (List.mem_of_getElem? (i := 10) rfl)), ⟨by decide, by decide, by decide +kernel⟩⟩
theorem cal_X7_isMarked : jCV yX7_isMarked cX7_isMarked 2 (some .boolean) 1 := ⟨(jl27_in _ (List.mem_of_getElem? (i := 20) rfl)), (jl27_in _ (List.mem_of_getElem? (i := 19) rfl)), (js1_in _ (List.mem_of_getElem? (i := 17) rfl)), (jl0_in _ (List.mem_of_getElem? (i := 10) rfl)), ⟨by decide, by decide, by decide +kernel⟩⟩
theorem cal_X7_mark : jCV yX7_mark cX7_mark 2 none 1 := ⟨(jl28_in _ (List.mem_of_getElem? (i := 1) rfl)), (jl28_in _ (List.mem_of_getElem? (i := 0) rfl)), (js1_in _ (List.mem_of_getElem? (i := 24) rfl)), (jl0_in _ (List.mem_of_getElem? (i := 10) rfl)), ⟨by decide, by decide, by decide +kernel⟩⟩
theorem cal_X7_numberNow : jCV yX7_numberNow cX7_numberNow 3 (some .int) 2 := ⟨(jl27_in _ (List.mem_of_getElem? (i := 14) rfl)), (jl27_in _ (List.mem_of_getElem? (i := 13) rfl)), (js1_in _ (List.mem_of_getElem? (i := 15) rfl)), (jl0_in _ (List.mem_of_getElem? (i := 10) rfl)), ⟨by decide, by decide, by decide +kernel⟩⟩
theorem cal_X7_readNumber : jCV yX7_readNumber cX7_readNumber 4 (some .int) 2 := ⟨(jl27_in _ (List.mem_of_getElem? (i := 11) rfl)), (jl27_in _ (List.mem_of_getElem? (i := 10) rfl)), (js1_in _ (List.mem_of_getElem? (i := 14) rfl)), (jl0_in _ (List.mem_of_getElem? (i := 10) rfl)), ⟨by decide, by decide, by decide +kernel⟩⟩
theorem cal_X7_lay : jCV yX7_lay cX7_lay 4 none 1 := ⟨(jl27_in _ (List.mem_of_getElem? (i := 38) rfl)), (jl27_in _ (List.mem_of_getElem? (i := 37) rfl)), (js1_in _ (List.mem_of_getElem? (i := 23) rfl)), (jl0_in _ (List.mem_of_getElem? (i := 10) rfl)), ⟨by decide, by decide, by decide +kernel⟩⟩
theorem cal_X7_readPart : jCV yX7_readPart cX7_readPart 3 none 1 := ⟨(jl27_in _ (List.mem_of_getElem? (i := 35) rfl)), (jl27_in _ (List.mem_of_getElem? (i := 34) rfl)), (js1_in _ (List.mem_of_getElem? (i := 22) rfl)), (jl0_in _ (List.mem_of_getElem? (i := 10) rfl)), ⟨by decide, by decide, by decide +kernel⟩⟩
theorem cal_X7_readProduct : jCV yX7_readProduct cX7_readProduct 3 none 1 := ⟨(jl27_in _ (List.mem_of_getElem? (i := 32) rfl)), (jl27_in _ (List.mem_of_getElem? (i := 31) rfl)), (js1_in _ (List.mem_of_getElem? (i := 21) rfl)), (jl0_in _ (List.mem_of_getElem? (i := 10) rfl)), ⟨by decide, by decide, by decide +kernel⟩⟩
theorem cal_X7_readSum : jCV yX7_readSum cX7_readSum 3 none 1 := ⟨(jl27_in _ (List.mem_of_getElem? (i := 29) rfl)), (jl27_in _ (List.mem_of_getElem? (i := 28) rfl)), (js1_in _ (List.mem_of_getElem? (i := 20) rfl)), (jl0_in _ (List.mem_of_getElem? (i := 10) rfl)), ⟨by decide, by decide, by decide +kernel⟩⟩
theorem cal_X7_readNot : jCV yX7_readNot cX7_readNot 4 none 1 := ⟨(jl27_in _ (List.mem_of_getElem? (i := 26) rfl)), (jl27_in _ (List.mem_of_getElem? (i := 25) rfl)), (js1_in _ (List.mem_of_getElem? (i := 19) rfl)), (jl0_in _ (List.mem_of_getElem? (i := 10) rfl)), ⟨by decide, by decide, by decide +kernel⟩⟩
theorem cal_X7_readAnd : jCV yX7_readAnd cX7_readAnd 2 none 1 := ⟨(jl27_in _ (List.mem_of_getElem? (i := 23) rfl)), (jl27_in _ (List.mem_of_getElem? (i := 22) rfl)), (js1_in _ (List.mem_of_getElem? (i := 18) rfl)), (jl0_in _ (List.mem_of_getElem? (i := 10) rfl)), ⟨by decide, by decide, by decide +kernel⟩⟩
theorem cal_X7_readExpression : jCV yX7_readExpression cX7_readExpression 3 none 1 := ⟨(jl27_in _ (List.mem_of_getElem? (i := 17) rfl)), (jl27_in _ (List.mem_of_getElem? (i := 16) rfl)), (js1_in _ (List.mem_of_getElem? (i := 16) rfl)), (jl0_in _ (List.mem_of_getElem? (i := 10) rfl)), ⟨by decide, by decide, by decide +kernel⟩⟩
theorem cal_X7_another : jCV yX7_another cX7_another 3 (some .boolean) 2 := ⟨(jl28_in _ (List.mem_of_getElem? (i := 7) rfl)), (jl28_in _ (List.mem_of_getElem? (i := 6) rfl)), (js1_in _ (List.mem_of_getElem? (i := 26) rfl)), (jl0_in _ (List.mem_of_getElem? (i := 10) rfl)), ⟨by decide, by decide, by decide +kernel⟩⟩
theorem cal_X7_sayReach : jCV yX7_sayReach cX7_sayReach 2 none 0 := ⟨(jl29_in _ (List.mem_of_getElem? (i := 1) rfl)), (jl29_in _ (List.mem_of_getElem? (i := 0) rfl)), (js1_in _ (List.mem_of_getElem? (i := 27) rfl)), (jl0_in _ (List.mem_of_getElem? (i := 10) rfl)), ⟨by decide, by decide, by decide +kernel⟩⟩
theorem cal_X7_sayJudge : jCV yX7_sayJudge cX7_sayJudge 4 none 1 := ⟨(jl28_in _ (List.mem_of_getElem? (i := 4) rfl)), (jl28_in _ (List.mem_of_getElem? (i := 3) rfl)), (js1_in _ (List.mem_of_getElem? (i := 25) rfl)), (jl0_in _ (List.mem_of_getElem? (i := 10) rfl)), ⟨by decide, by decide, by decide +kernel⟩⟩
theorem cal_X7_sayOnce : jCV yX7_sayOnce cX7_sayOnce 2 none 1 := ⟨(jl27_in _ (List.mem_of_getElem? (i := 8) rfl)), (jl27_in _ (List.mem_of_getElem? (i := 7) rfl)), (js1_in _ (List.mem_of_getElem? (i := 13) rfl)), (jl0_in _ (List.mem_of_getElem? (i := 10) rfl)), ⟨by decide, by decide, by decide +kernel⟩⟩
theorem cal_X7_readLine : jCV yX7_readLine cX7_readLine 4 (some .int) 1 := ⟨(jl26_in _ (List.mem_of_getElem? (i := 34) rfl)), (jl26_in _ (List.mem_of_getElem? (i := 33) rfl)), (js1_in _ (List.mem_of_getElem? (i := 9) rfl)), (jl0_in _ (List.mem_of_getElem? (i := 10) rfl)), ⟨by decide, by decide, by decide +kernel⟩⟩
theorem cal_X7_gorge : jCV yX7_gorge cX7_gorge 3 (some .int) 1 := ⟨(jl26_in _ (List.mem_of_getElem? (i := 11) rfl)), (jl26_in _ (List.mem_of_getElem? (i := 9) rfl)), (jl26_in _ (List.mem_of_getElem? (i := 10) rfl)), (jl0_in _ (List.mem_of_getElem? (i := 10) rfl)), ⟨by decide, by decide, by decide +kernel⟩⟩
theorem cal_X7_takeHalf : jCS yX7_takeHalf cX7_takeHalf 2 none 1 := ⟨(jl29_in _ (List.mem_of_getElem? (i := 7) rfl)), (jl29_in _ (List.mem_of_getElem? (i := 6) rfl)), (jl0_in _ (List.mem_of_getElem? (i := 10) rfl)), ⟨by decide, by decide, by decide +kernel⟩⟩
theorem cal_X7_takeOver : jCV yX7_takeOver cX7_takeOver 3 none 0 := ⟨(jl29_in _ (List.mem_of_getElem? (i := 4) rfl)), (jl29_in _ (List.mem_of_getElem? (i := 3) rfl)), (js1_in _ (List.mem_of_getElem? (i := 28) rfl)), (jl0_in _ (List.mem_of_getElem? (i := 10) rfl)), ⟨by decide, by decide, by decide +kernel⟩⟩
theorem cal_X7_fault : jCV yX7_fault cX7_fault 1 (some .int) 0 := ⟨(jl29_in _ (List.mem_of_getElem? (i := 11) rfl)), (jl29_in _ (List.mem_of_getElem? (i := 9) rfl)), (jl29_in _ (List.mem_of_getElem? (i := 10) rfl)), (jl0_in _ (List.mem_of_getElem? (i := 10) rfl)), ⟨by decide, by decide, by decide +kernel⟩⟩
theorem cal_X7_pack : jCV yX7_pack cX7_pack 4 none 2 := ⟨(jl30_in _ (List.mem_of_getElem? (i := 34) rfl)), (jl30_in _ (List.mem_of_getElem? (i := 33) rfl)), (js2_in _ (List.mem_of_getElem? (i := 0) rfl)), (jl0_in _ (List.mem_of_getElem? (i := 10) rfl)), ⟨by decide, by decide, by decide +kernel⟩⟩
theorem cal_X7_unpack : jCV yX7_unpack cX7_unpack 4 none 2 := ⟨(jl32_in _ (List.mem_of_getElem? (i := 7) rfl)), (jl32_in _ (List.mem_of_getElem? (i := 6) rfl)), (js2_in _ (List.mem_of_getElem? (i := 9) rfl)), (jl0_in _ (List.mem_of_getElem? (i := 10) rfl)), ⟨by decide, by decide, by decide +kernel⟩⟩
theorem cal_X7_reckon : jCS yX7_reckon cX7_reckon 3 (some .int) 3 := ⟨(jl31_in _ (List.mem_of_getElem? (i := 15) rfl)), (jl31_in _ (List.mem_of_getElem? (i := 14) rfl)), (jl0_in _ (List.mem_of_getElem? (i := 10) rfl)), ⟨by decide, by decide, by decide +kernel⟩⟩
theorem cal_X7_valueNow : jCV yX7_valueNow cX7_valueNow 6 (some .int) 2 := ⟨(jl31_in _ (List.mem_of_getElem? (i := 12) rfl)), (jl31_in _ (List.mem_of_getElem? (i := 11) rfl)), (js2_in _ (List.mem_of_getElem? (i := 6) rfl)), (jl0_in _ (List.mem_of_getElem? (i := 10) rfl)), ⟨by decide, by decide, by decide +kernel⟩⟩
theorem cal_X7_whoIs : jCV yX7_whoIs cX7_whoIs 4 (some .int) 1 := ⟨(jl29_in _ (List.mem_of_getElem? (i := 27) rfl)), (jl29_in _ (List.mem_of_getElem? (i := 26) rfl)), (js1_in _ (List.mem_of_getElem? (i := 32) rfl)), (jl0_in _ (List.mem_of_getElem? (i := 10) rfl)), ⟨by decide, by decide, by decide +kernel⟩⟩
theorem cal_X7_onReaches : jCV yX7_onReaches cX7_onReaches 3 (some .int) 0 := ⟨(jl29_in _ (List.mem_of_getElem? (i := 30) rfl)), (jl29_in _ (List.mem_of_getElem? (i := 29) rfl)), (js1_in _ (List.mem_of_getElem? (i := 33) rfl)), (jl0_in _ (List.mem_of_getElem? (i := 10) rfl)), ⟨by decide, by decide, by decide +kernel⟩⟩
theorem cal_X7_isFair : jCV yX7_isFair cX7_isFair 2 (some .boolean) 1 := ⟨(jl29_in _ (List.mem_of_getElem? (i := 21) rfl)), (jl29_in _ (List.mem_of_getElem? (i := 20) rfl)), (js1_in _ (List.mem_of_getElem? (i := 30) rfl)), (jl0_in _ (List.mem_of_getElem? (i := 10) rfl)), ⟨by decide, by decide, by decide +kernel⟩⟩
theorem cal_X7_fairOnes : jCV yX7_fairOnes cX7_fairOnes 3 (some .int) 0 := ⟨(jl29_in _ (List.mem_of_getElem? (i := 18) rfl)), (jl29_in _ (List.mem_of_getElem? (i := 17) rfl)), (js1_in _ (List.mem_of_getElem? (i := 29) rfl)), (jl0_in _ (List.mem_of_getElem? (i := 10) rfl)), ⟨by decide, by decide, by decide +kernel⟩⟩
theorem cal_X7_ruleOf : jCV yX7_ruleOf cX7_ruleOf 5 (some .int) 4 := ⟨(jl31_in _ (List.mem_of_getElem? (i := 9) rfl)), (jl31_in _ (List.mem_of_getElem? (i := 8) rfl)), (js2_in _ (List.mem_of_getElem? (i := 5) rfl)), (jl0_in _ (List.mem_of_getElem? (i := 10) rfl)), ⟨by decide, by decide, by decide +kernel⟩⟩
theorem cal_X7_turnsOf : jCV yX7_turnsOf cX7_turnsOf 4 (some .int) 1 := ⟨(jl31_in _ (List.mem_of_getElem? (i := 6) rfl)), (jl31_in _ (List.mem_of_getElem? (i := 5) rfl)), (js2_in _ (List.mem_of_getElem? (i := 4) rfl)), (jl0_in _ (List.mem_of_getElem? (i := 10) rfl)), ⟨by decide, by decide, by decide +kernel⟩⟩
theorem cal_X7_goesOf : jCV yX7_goesOf cX7_goesOf 5 (some .int) 2 := ⟨(jl31_in _ (List.mem_of_getElem? (i := 19) rfl)), (jl31_in _ (List.mem_of_getElem? (i := 18) rfl)), (js2_in _ (List.mem_of_getElem? (i := 7) rfl)), (jl0_in _ (List.mem_of_getElem? (i := 10) rfl)), ⟨by decide, by decide, by decide +kernel⟩⟩
theorem cal_X7_goBy : jCV yX7_goBy cX7_goBy 3 none 2 := ⟨(jl31_in _ (List.mem_of_getElem? (i := 3) rfl)), (jl31_in _ (List.mem_of_getElem? (i := 2) rfl)), (js2_in _ (List.mem_of_getElem? (i := 3) rfl)), (jl0_in _ (List.mem_of_getElem? (i := 10) rfl)), ⟨by decide, by decide, by decide +kernel⟩⟩
theorem cal_X7_aStepIn : jCV yX7_aStepIn cX7_aStepIn 4 none 1 := ⟨(jl31_in _ (List.mem_of_getElem? (i := 0) rfl)), (jl30_in _ (List.mem_of_getElem? (i := 39) rfl)), (js2_in _ (List.mem_of_getElem? (i := 2) rfl)), (jl0_in _ (List.mem_of_getElem? (i := 10) rfl)), ⟨by decide, by decide, by decide +kernel⟩⟩
theorem cal_X7_goOn : jCV yX7_goOn cX7_goOn 3 none 1 := ⟨(jl30_in _ (List.mem_of_getElem? (i := 37) rfl)), (jl30_in _ (List.mem_of_getElem? (i := 36) rfl)), (js2_in _ (List.mem_of_getElem? (i := 1) rfl)), (jl0_in _ (List.mem_of_getElem? (i := 10) rfl)), ⟨by decide, by decide, by decide +kernel⟩⟩
theorem cal_X7_beginAnew : jCV yX7_beginAnew cX7_beginAnew 2 none 0 := ⟨(jl33_in _ (List.mem_of_getElem? (i := 9) rfl)), (jl33_in _ (List.mem_of_getElem? (i := 8) rfl)), (js2_in _ (List.mem_of_getElem? (i := 12) rfl)), (jl0_in _ (List.mem_of_getElem? (i := 10) rfl)), ⟨by decide, by decide, by decide +kernel⟩⟩
theorem cal_X7_pools : jCV yX7_pools cX7_pools 3 (some .int) 0 := ⟨(jl29_in _ (List.mem_of_getElem? (i := 33) rfl)), (jl29_in _ (List.mem_of_getElem? (i := 32) rfl)), (js1_in _ (List.mem_of_getElem? (i := 34) rfl)), (jl0_in _ (List.mem_of_getElem? (i := 10) rfl)), ⟨by decide, by decide, by decide +kernel⟩⟩
theorem cal_X7_bench : jCV yX7_bench cX7_bench 5 (some .int) 0 := ⟨(jl29_in _ (List.mem_of_getElem? (i := 36) rfl)), (jl29_in _ (List.mem_of_getElem? (i := 35) rfl)), (js1_in _ (List.mem_of_getElem? (i := 35) rfl)), (jl0_in _ (List.mem_of_getElem? (i := 10) rfl)), ⟨by decide, by decide, by decide +kernel⟩⟩
theorem cal_X7_count : jCV yX7_count cX7_count 2 (some .int) 1 := ⟨(jl29_in _ (List.mem_of_getElem? (i := 15) rfl)), (jl29_in _ (List.mem_of_getElem? (i := 13) rfl)), (jl29_in _ (List.mem_of_getElem? (i := 14) rfl)), (jl0_in _ (List.mem_of_getElem? (i := 10) rfl)), ⟨by decide, by decide, by decide +kernel⟩⟩
theorem cal_X7_reach : jCV yX7_reach cX7_reach 3 (some .int) 2 := ⟨(jl30_in _ (List.mem_of_getElem? (i := 6) rfl)), (jl30_in _ (List.mem_of_getElem? (i := 4) rfl)), (jl30_in _ (List.mem_of_getElem? (i := 5) rfl)), (jl0_in _ (List.mem_of_getElem? (i := 10) rfl)), ⟨by decide, by decide, by decide +kernel⟩⟩
theorem cal_X7_judge : jCV yX7_judge cX7_judge 3 (some .int) 2 := ⟨(jl30_in _ (List.mem_of_getElem? (i := 17) rfl)), (jl30_in _ (List.mem_of_getElem? (i := 15) rfl)), (jl30_in _ (List.mem_of_getElem? (i := 16) rfl)), (jl0_in _ (List.mem_of_getElem? (i := 10) rfl)), ⟨by decide, by decide, by decide +kernel⟩⟩
theorem cal_X7_refuse : jCV yX7_refuse cX7_refuse 2 (some .int) 1 := ⟨(jl30_in _ (List.mem_of_getElem? (i := 28) rfl)), (jl30_in _ (List.mem_of_getElem? (i := 27) rfl)), (js1_in _ (List.mem_of_getElem? (i := 38) rfl)), (jl0_in _ (List.mem_of_getElem? (i := 10) rfl)), ⟨by decide, by decide, by decide +kernel⟩⟩
theorem cal_X7_keep : jCV yX7_keep cX7_keep 2 none 0 := ⟨(jl30_in _ (List.mem_of_getElem? (i := 31) rfl)), (jl30_in _ (List.mem_of_getElem? (i := 30) rfl)), (js1_in _ (List.mem_of_getElem? (i := 39) rfl)), (jl0_in _ (List.mem_of_getElem? (i := 10) rfl)), ⟨by decide, by decide, by decide +kernel⟩⟩
theorem cal_X7_steps : jCV yX7_steps cX7_steps 2 (some .int) 1 := ⟨(jl30_in _ (List.mem_of_getElem? (i := 24) rfl)), (jl30_in _ (List.mem_of_getElem? (i := 22) rfl)), (jl30_in _ (List.mem_of_getElem? (i := 23) rfl)), (jl0_in _ (List.mem_of_getElem? (i := 10) rfl)), ⟨by decide, by decide, by decide +kernel⟩⟩
theorem cal_X7_call : jCV yX7_call cX7_call 2 (some .int) 1 := ⟨(jl31_in _ (List.mem_of_getElem? (i := 23) rfl)), (jl31_in _ (List.mem_of_getElem? (i := 21) rfl)), (jl31_in _ (List.mem_of_getElem? (i := 22) rfl)), (jl0_in _ (List.mem_of_getElem? (i := 10) rfl)), ⟨by decide, by decide, by decide +kernel⟩⟩
theorem cal_X7_paddle : jCV yX7_paddle cX7_paddle 4 (some .int) 2 := ⟨(jl31_in _ (List.mem_of_getElem? (i := 27) rfl)), (jl31_in _ (List.mem_of_getElem? (i := 25) rfl)), (jl31_in _ (List.mem_of_getElem? (i := 26) rfl)), (jl0_in _ (List.mem_of_getElem? (i := 10) rfl)), ⟨by decide, by decide, by decide +kernel⟩⟩
theorem cal_X7_carry : jCV yX7_carry cX7_carry 4 (some .int) 2 := ⟨(jl31_in _ (List.mem_of_getElem? (i := 34) rfl)), (jl31_in _ (List.mem_of_getElem? (i := 32) rfl)), (jl31_in _ (List.mem_of_getElem? (i := 33) rfl)), (jl0_in _ (List.mem_of_getElem? (i := 10) rfl)), ⟨by decide, by decide, by decide +kernel⟩⟩
theorem cal_X7_dredge : jCV yX7_dredge cX7_dredge 5 (some .int) 3 := ⟨(jl31_in _ (List.mem_of_getElem? (i := 38) rfl)), (jl31_in _ (List.mem_of_getElem? (i := 36) rfl)), (jl31_in _ (List.mem_of_getElem? (i := 37) rfl)), (jl0_in _ (List.mem_of_getElem? (i := 10) rfl)), ⟨by decide, by decide, by decide +kernel⟩⟩
theorem cal_X7_undo : jCV yX7_undo cX7_undo 1 (some .int) 0 := ⟨(jl32_in _ (List.mem_of_getElem? (i := 4) rfl)), (jl32_in _ (List.mem_of_getElem? (i := 2) rfl)), (jl32_in _ (List.mem_of_getElem? (i := 3) rfl)), (jl0_in _ (List.mem_of_getElem? (i := 10) rfl)), ⟨by decide, by decide, by decide +kernel⟩⟩
theorem cal_X7_then : jCV yX7_then cX7_then 5 (some .int) 3 := ⟨(jl32_in _ (List.mem_of_getElem? (i := 11) rfl)), (jl32_in _ (List.mem_of_getElem? (i := 9) rfl)), (jl32_in _ (List.mem_of_getElem? (i := 10) rfl)), (jl0_in _ (List.mem_of_getElem? (i := 10) rfl)), ⟨by decide, by decide, by decide +kernel⟩⟩
theorem cal_X7_firstIn : jCV yX7_firstIn cX7_firstIn 5 (some .int) 2 := ⟨(jl32_in _ (List.mem_of_getElem? (i := 19) rfl)), (jl32_in _ (List.mem_of_getElem? (i := 18) rfl)), (js2_in _ (List.mem_of_getElem? (i := 10) rfl)), (jl0_in _ (List.mem_of_getElem? (i := 10) rfl)), ⟨by decide, by decide, by decide +kernel⟩⟩
theorem cal_X7_when : jCV yX7_when cX7_when 3 (some .int) 2 := ⟨(jl32_in _ (List.mem_of_getElem? (i := 16) rfl)), (jl32_in _ (List.mem_of_getElem? (i := 14) rfl)), (jl32_in _ (List.mem_of_getElem? (i := 15) rfl)), (jl0_in _ (List.mem_of_getElem? (i := 10) rfl)), ⟨by decide, by decide, by decide +kernel⟩⟩
theorem cal_X7_crowdNow : jCV yX7_crowdNow cX7_crowdNow 3 (some .int) 0 := ⟨(jl32_in _ (List.mem_of_getElem? (i := 26) rfl)), (jl32_in _ (List.mem_of_getElem? (i := 25) rfl)), (js2_in _ (List.mem_of_getElem? (i := 11) rfl)), (jl0_in _ (List.mem_of_getElem? (i := 10) rfl)), ⟨by decide, by decide, by decide +kernel⟩⟩
theorem cal_X7_later : jCV yX7_later cX7_later 4 (some .int) 2 := ⟨(jl32_in _ (List.mem_of_getElem? (i := 23) rfl)), (jl32_in _ (List.mem_of_getElem? (i := 21) rfl)), (jl32_in _ (List.mem_of_getElem? (i := 22) rfl)), (jl0_in _ (List.mem_of_getElem? (i := 10) rfl)), ⟨by decide, by decide, by decide +kernel⟩⟩
theorem cal_X7_beside : jCV yX7_beside cX7_beside 5 (some .int) 2 := ⟨(jl32_in _ (List.mem_of_getElem? (i := 30) rfl)), (jl32_in _ (List.mem_of_getElem? (i := 28) rfl)), (jl32_in _ (List.mem_of_getElem? (i := 29) rfl)), (jl0_in _ (List.mem_of_getElem? (i := 10) rfl)), ⟨by decide, by decide, by decide +kernel⟩⟩
theorem cal_X7_first : jCV yX7_first cX7_first 5 (some .int) 0 := ⟨(jl32_in _ (List.mem_of_getElem? (i := 34) rfl)), (jl32_in _ (List.mem_of_getElem? (i := 32) rfl)), (jl32_in _ (List.mem_of_getElem? (i := 33) rfl)), (jl0_in _ (List.mem_of_getElem? (i := 10) rfl)), ⟨by decide, by decide, by decide +kernel⟩⟩
theorem cal_X7_last : jCV yX7_last cX7_last 6 (some .int) 1 := ⟨(jl32_in _ (List.mem_of_getElem? (i := 38) rfl)), (jl32_in _ (List.mem_of_getElem? (i := 36) rfl)), (jl32_in _ (List.mem_of_getElem? (i := 37) rfl)), (jl0_in _ (List.mem_of_getElem? (i := 10) rfl)), ⟨by decide, by decide, by decide +kernel⟩⟩
theorem cal_X7_still : jCV yX7_still cX7_still 6 (some .int) 3 := ⟨(jl33_in _ (List.mem_of_getElem? (i := 2) rfl)), (jl33_in _ (List.mem_of_getElem? (i := 0) rfl)), (jl33_in _ (List.mem_of_getElem? (i := 1) rfl)), (jl0_in _ (List.mem_of_getElem? (i := 10) rfl)), ⟨by decide, by decide, by decide +kernel⟩⟩
theorem cal_X7_turned : jCV yX7_turned cX7_turned 3 (some .int) 2 := ⟨(jl33_in _ (List.mem_of_getElem? (i := 6) rfl)), (jl33_in _ (List.mem_of_getElem? (i := 4) rfl)), (jl33_in _ (List.mem_of_getElem? (i := 5) rfl)), (jl0_in _ (List.mem_of_getElem? (i := 10) rfl)), ⟨by decide, by decide, by decide +kernel⟩⟩
theorem cal_X7_stay : jCV yX7_stay cX7_stay 6 (some .int) 1 := ⟨(jl33_in _ (List.mem_of_getElem? (i := 13) rfl)), (jl33_in _ (List.mem_of_getElem? (i := 11) rfl)), (jl33_in _ (List.mem_of_getElem? (i := 12) rfl)), (jl0_in _ (List.mem_of_getElem? (i := 10) rfl)), ⟨by decide, by decide, by decide +kernel⟩⟩
theorem cal_X7_sides : jCV yX7_sides cX7_sides 6 (some .int) 2 := ⟨(jl33_in _ (List.mem_of_getElem? (i := 17) rfl)), (jl33_in _ (List.mem_of_getElem? (i := 15) rfl)), (jl33_in _ (List.mem_of_getElem? (i := 16) rfl)), (jl0_in _ (List.mem_of_getElem? (i := 10) rfl)), ⟨by decide, by decide, by decide +kernel⟩⟩
theorem cal_X7_facing : jCV yX7_facing cX7_facing 5 (some .int) 2 := ⟨(jl33_in _ (List.mem_of_getElem? (i := 21) rfl)), (jl33_in _ (List.mem_of_getElem? (i := 19) rfl)), (jl33_in _ (List.mem_of_getElem? (i := 20) rfl)), (jl0_in _ (List.mem_of_getElem? (i := 10) rfl)), ⟨by decide, by decide, by decide +kernel⟩⟩
theorem cal_X7_agree : jCV yX7_agree cX7_agree 6 (some .int) 3 := ⟨(jl33_in _ (List.mem_of_getElem? (i := 25) rfl)), (jl33_in _ (List.mem_of_getElem? (i := 23) rfl)), (jl33_in _ (List.mem_of_getElem? (i := 24) rfl)), (jl0_in _ (List.mem_of_getElem? (i := 10) rfl)), ⟨by decide, by decide, by decide +kernel⟩⟩
theorem cal_X7_toSet : jCV yX7_toSet cX7_toSet 7 (some .int) 2 := ⟨(jl33_in _ (List.mem_of_getElem? (i := 29) rfl)), (jl33_in _ (List.mem_of_getElem? (i := 27) rfl)), (jl33_in _ (List.mem_of_getElem? (i := 28) rfl)), (jl0_in _ (List.mem_of_getElem? (i := 10) rfl)), ⟨by decide, by decide, by decide +kernel⟩⟩
theorem cal_X7_toSpin : jCV yX7_toSpin cX7_toSpin 8 (some .int) 3 := ⟨(jl33_in _ (List.mem_of_getElem? (i := 34) rfl)), (jl33_in _ (List.mem_of_getElem? (i := 32) rfl)), (jl33_in _ (List.mem_of_getElem? (i := 33) rfl)), (jl0_in _ (List.mem_of_getElem? (i := 10) rfl)), ⟨by decide, by decide, by decide +kernel⟩⟩
theorem cal_X7_toCall : jCV yX7_toCall cX7_toCall 6 (some .int) 1 := ⟨(jl33_in _ (List.mem_of_getElem? (i := 38) rfl)), (jl33_in _ (List.mem_of_getElem? (i := 36) rfl)), (jl33_in _ (List.mem_of_getElem? (i := 37) rfl)), (jl0_in _ (List.mem_of_getElem? (i := 10) rfl)), ⟨by decide, by decide, by decide +kernel⟩⟩
theorem cal_X7_goesOn : jCV yX7_goesOn cX7_goesOn 3 (some .int) 2 := ⟨(jl34_in _ (List.mem_of_getElem? (i := 8) rfl)), (jl34_in _ (List.mem_of_getElem? (i := 7) rfl)), (js2_in _ (List.mem_of_getElem? (i := 14) rfl)), (jl0_in _ (List.mem_of_getElem? (i := 10) rfl)), ⟨by decide, by decide, by decide +kernel⟩⟩
theorem cal_X7_may : jCV yX7_may cX7_may 4 (some .boolean) 3 := ⟨(jl34_in _ (List.mem_of_getElem? (i := 11) rfl)), (jl34_in _ (List.mem_of_getElem? (i := 10) rfl)), (js2_in _ (List.mem_of_getElem? (i := 15) rfl)), (jl0_in _ (List.mem_of_getElem? (i := 10) rfl)), ⟨by decide, by decide, by decide +kernel⟩⟩
theorem cal_X7_tellPanel : jCV yX7_tellPanel cX7_tellPanel 6 none 0 := ⟨(jl34_in _ (List.mem_of_getElem? (i := 5) rfl)), (jl34_in _ (List.mem_of_getElem? (i := 4) rfl)), (js2_in _ (List.mem_of_getElem? (i := 13) rfl)), (jl0_in _ (List.mem_of_getElem? (i := 10) rfl)), ⟨by decide, by decide, by decide +kernel⟩⟩
theorem cal_X7_panel : jCV yX7_panel cX7_panel 2 (some .int) 1 := ⟨(jl34_in _ (List.mem_of_getElem? (i := 2) rfl)), (jl34_in _ (List.mem_of_getElem? (i := 0) rfl)), (jl34_in _ (List.mem_of_getElem? (i := 1) rfl)), (jl0_in _ (List.mem_of_getElem? (i := 10) rfl)), ⟨by decide, by decide, by decide +kernel⟩⟩
theorem cal_X7_seat : jCV yX7_seat cX7_seat 6 (some .int) 1 := ⟨(jl35_in _ (List.mem_of_getElem? (i := 3) rfl)), (jl35_in _ (List.mem_of_getElem? (i := 1) rfl)), (jl35_in _ (List.mem_of_getElem? (i := 2) rfl)), (jl0_in _ (List.mem_of_getElem? (i := 10) rfl)), ⟨by decide, by decide, by decide +kernel⟩⟩
theorem cal_X7_unlike : jCV yX7_unlike cX7_unlike 3 (some .int) 2 := ⟨(jl35_in _ (List.mem_of_getElem? (i := 7) rfl)), (jl35_in _ (List.mem_of_getElem? (i := 5) rfl)), (jl35_in _ (List.mem_of_getElem? (i := 6) rfl)), (jl0_in _ (List.mem_of_getElem? (i := 10) rfl)), ⟨by decide, by decide, by decide +kernel⟩⟩
theorem cal_X7_see : jCV yX7_see cX7_see 4 (some .int) 3 := ⟨(jl35_in _ (List.mem_of_getElem? (i := 11) rfl)), (jl35_in _ (List.mem_of_getElem? (i := 9) rfl)), (jl35_in _ (List.mem_of_getElem? (i := 10) rfl)), (jl0_in _ (List.mem_of_getElem? (i := 10) rfl)), ⟨by decide, by decide, by decide +kernel⟩⟩
theorem cal_X7_isAsSeen : jCV yX7_isAsSeen cX7_isAsSeen 5 (some .boolean) 0 := ⟨(jl35_in _ (List.mem_of_getElem? (i := 18) rfl)), (jl35_in _ (List.mem_of_getElem? (i := 17) rfl)), (js2_in _ (List.mem_of_getElem? (i := 16) rfl)), (jl0_in _ (List.mem_of_getElem? (i := 10) rfl)), ⟨by decide, by decide, by decide +kernel⟩⟩
theorem cal_X7_tellFits : jCV yX7_tellFits cX7_tellFits 4 none 0 := ⟨(jl35_in _ (List.mem_of_getElem? (i := 21) rfl)), (jl35_in _ (List.mem_of_getElem? (i := 20) rfl)), (js2_in _ (List.mem_of_getElem? (i := 17) rfl)), (jl0_in _ (List.mem_of_getElem? (i := 10) rfl)), ⟨by decide, by decide, by decide +kernel⟩⟩
theorem cal_X7_leans : jCV yX7_leans cX7_leans 2 (some .int) 1 := ⟨(jl35_in _ (List.mem_of_getElem? (i := 15) rfl)), (jl35_in _ (List.mem_of_getElem? (i := 13) rfl)), (jl35_in _ (List.mem_of_getElem? (i := 14) rfl)), (jl0_in _ (List.mem_of_getElem? (i := 10) rfl)), ⟨by decide, by decide, by decide +kernel⟩⟩
theorem cal_X7_watch : jCV yX7_watch cX7_watch 6 (some .int) 1 := ⟨(jl35_in _ (List.mem_of_getElem? (i := 25) rfl)), (jl35_in _ (List.mem_of_getElem? (i := 23) rfl)), (jl35_in _ (List.mem_of_getElem? (i := 24) rfl)), (jl0_in _ (List.mem_of_getElem? (i := 10) rfl)), ⟨by decide, by decide, by decide +kernel⟩⟩
theorem cal_X7_forget : jCV yX7_forget cX7_forget 1 none 0 := ⟨(jl35_in _ (List.mem_of_getElem? (i := 29) rfl)), (jl35_in _ (List.mem_of_getElem? (i := 27) rfl)), (jl35_in _ (List.mem_of_getElem? (i := 28) rfl)), (jl0_in _ (List.mem_of_getElem? (i := 10) rfl)), ⟨by decide, by decide, by decide +kernel⟩⟩
theorem cal_X7_floods : jCV yX7_floods cX7_floods 8 (some .int) 3 := ⟨(jl35_in _ (List.mem_of_getElem? (i := 33) rfl)), (jl35_in _ (List.mem_of_getElem? (i := 31) rfl)), (jl35_in _ (List.mem_of_getElem? (i := 32) rfl)), (jl0_in _ (List.mem_of_getElem? (i := 10) rfl)), ⟨by decide, by decide, by decide +kernel⟩⟩
theorem cal_X7_tellGains : jCV yX7_tellGains cX7_tellGains 4 none 2 := ⟨(jl36_in _ (List.mem_of_getElem? (i := 2) rfl)), (jl36_in _ (List.mem_of_getElem? (i := 1) rfl)), (js2_in _ (List.mem_of_getElem? (i := 18) rfl)), (jl0_in _ (List.mem_of_getElem? (i := 10) rfl)), ⟨by decide, by decide, by decide +kernel⟩⟩
theorem cal_X7_game : jCV yX7_game cX7_game 9 (some .int) 3 := ⟨(jl35_in _ (List.mem_of_getElem? (i := 39) rfl)), (jl35_in _ (List.mem_of_getElem? (i := 37) rfl)), (jl35_in _ (List.mem_of_getElem? (i := 38) rfl)), (jl0_in _ (List.mem_of_getElem? (i := 10) rfl)), ⟨by decide, by decide, by decide +kernel⟩⟩
theorem cal_X7_drawOf : jCV yX7_drawOf cX7_drawOf 2 (some .int) 1 := ⟨(jl36_in _ (List.mem_of_getElem? (i := 12) rfl)), (jl36_in _ (List.mem_of_getElem? (i := 11) rfl)), (js2_in _ (List.mem_of_getElem? (i := 20) rfl)), (jl0_in _ (List.mem_of_getElem? (i := 10) rfl)), ⟨by decide, by decide, by decide +kernel⟩⟩
theorem cal_X7_something : jCV yX7_something cX7_something 4 none 0 := ⟨(jl36_in _ (List.mem_of_getElem? (i := 9) rfl)), (jl36_in _ (List.mem_of_getElem? (i := 8) rfl)), (js2_in _ (List.mem_of_getElem? (i := 19) rfl)), (jl0_in _ (List.mem_of_getElem? (i := 10) rfl)), ⟨by decide, by decide, by decide +kernel⟩⟩
theorem cal_X7_years : jCV yX7_years cX7_years 6 (some .int) 3 := ⟨(jl36_in _ (List.mem_of_getElem? (i := 6) rfl)), (jl36_in _ (List.mem_of_getElem? (i := 4) rfl)), (jl36_in _ (List.mem_of_getElem? (i := 5) rfl)), (jl0_in _ (List.mem_of_getElem? (i := 10) rfl)), ⟨by decide, by decide, by decide +kernel⟩⟩
theorem cal_X7_copyTo : jCS yX7_copyTo cX7_copyTo 3 none 2 := ⟨(jl36_in _ (List.mem_of_getElem? (i := 20) rfl)), (jl36_in _ (List.mem_of_getElem? (i := 19) rfl)), (jl0_in _ (List.mem_of_getElem? (i := 10) rfl)), ⟨by decide, by decide, by decide +kernel⟩⟩
theorem cal_X7_image : jCV yX7_image cX7_image 1 none 0 := ⟨(jl36_in _ (List.mem_of_getElem? (i := 17) rfl)), (jl36_in _ (List.mem_of_getElem? (i := 15) rfl)), (jl36_in _ (List.mem_of_getElem? (i := 16) rfl)), (jl0_in _ (List.mem_of_getElem? (i := 10) rfl)), ⟨by decide, by decide, by decide +kernel⟩⟩
theorem cal_X7_restore : jCV yX7_restore cX7_restore 1 (some .boolean) 0 := ⟨(jl36_in _ (List.mem_of_getElem? (i := 24) rfl)), (jl36_in _ (List.mem_of_getElem? (i := 22) rfl)), (jl36_in _ (List.mem_of_getElem? (i := 23) rfl)), (jl0_in _ (List.mem_of_getElem? (i := 10) rfl)), ⟨by decide, by decide, by decide +kernel⟩⟩
theorem cal_J6_numberOfTrailingZeros_0f7a4 : jCS yJ6_numberOfTrailingZeros_0f7a4 cJ6_numberOfTrailingZeros_0f7a4 2 (some .int) 1 := ⟨(jl9_in _ (List.mem_of_getElem? (i := 2) rfl)), (jl9_in _ (List.mem_of_getElem? (i := 1) rfl)), (jl0_in _ (List.mem_of_getElem? (i := 20) rfl)), ⟨by decide, by decide, by decide +kernel⟩⟩
theorem cal_J6_bitCount_0f7a4 : jCS yJ6_bitCount_0f7a4 cJ6_bitCount_0f7a4 1 (some .int) 1 := ⟨(jl6_in _ (List.mem_of_getElem? (i := 18) rfl)), (jl6_in _ (List.mem_of_getElem? (i := 17) rfl)), (jl0_in _ (List.mem_of_getElem? (i := 20) rfl)), ⟨by decide, by decide, by decide +kernel⟩⟩
theorem cal_J9_max_7cf53 : jCS yJ9_max_7cf53 cJ9_max_7cf53 2 (some .int) 2 := ⟨(jl6_in _ (List.mem_of_getElem? (i := 32) rfl)), (jl6_in _ (List.mem_of_getElem? (i := 31) rfl)), (jl0_in _ (List.mem_of_getElem? (i := 15) rfl)), ⟨by decide, by decide, by decide +kernel⟩⟩
theorem cal_J9_min_7cf53 : jCS yJ9_min_7cf53 cJ9_min_7cf53 2 (some .int) 2 := ⟨(jl7_in _ (List.mem_of_getElem? (i := 1) rfl)), (jl7_in _ (List.mem_of_getElem? (i := 0) rfl)), (jl0_in _ (List.mem_of_getElem? (i := 15) rfl)), ⟨by decide, by decide, by decide +kernel⟩⟩
theorem cal_J7_fill_53178 : jCS yJ7_fill_53178 cJ7_fill_53178 4 none 2 := ⟨(jl4_in _ (List.mem_of_getElem? (i := 34) rfl)), (jl4_in _ (List.mem_of_getElem? (i := 33) rfl)), (jl0_in _ (List.mem_of_getElem? (i := 8) rfl)), ⟨by decide, by decide, by decide +kernel⟩⟩
theorem cpw : Cond.native arraycopyName ∈ jT ∧ Cond.static arraycopyName ∈ jT ∧ Cond.initialized "java/lang/System" ∈ jT := ⟨(jl4_in _ (List.mem_of_getElem? (i := 37) rfl)), (jl4_in _ (List.mem_of_getElem? (i := 36) rfl)), (jl0_in _ (List.mem_of_getElem? (i := 9) rfl))⟩
theorem thr_2 : jThr RX6 80 84 (jexc 2) := ⟨(jl9_in _ (List.mem_of_getElem? (i := 30) rfl)), (jl0_in _ (List.mem_of_getElem? (i := 14) rfl)), by decide +kernel, fun w hw => jT_of ((by decide +kernel : ∀ w ∈ (vx_atS RX6 84 "java/lang/IllegalArgumentException" ["java/lang/RuntimeException", "java/lang/Exception"]).filter goodWord, w ∈ lw_tbl) w hw) (List.mem_filter.mp hw).2, by decide +kernel, by decide +kernel⟩
theorem thr_1 : jThrN RX6 142 146 (jexc 1) prog_26_method_4_code 13 := ⟨(jl15_in _ (List.mem_of_getElem? (i := 3) rfl)), (jl0_in _ (List.mem_of_getElem? (i := 21) rfl)), by decide +kernel, fun w hw => jT_of ((by decide +kernel : ∀ w ∈ (xt_at RX6 146 "java/util/NoSuchElementException" prog_26_method_4_code 13 "java/lang/RuntimeException" ["java/lang/Exception"]).filter goodWord, w ∈ lw_tbl) w hw) (List.mem_filter.mp hw).2, by decide +kernel, by decide +kernel, ⟨by decide +kernel, by decide +kernel, by decide +kernel, by decide +kernel⟩⟩
