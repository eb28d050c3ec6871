theorem fl_RX11_12 : vm_FL RX11 12 11 0 2 := ⟨_, _, _, _, vm_cl11, by decide, rfl, Or.inl (List.mem_of_getElem? (i := 422) (by decide +kernel))⟩
theorem fl_RX11_19 : vm_FL RX11 19 11 1 3 := ⟨_, _, _, _, vm_cl11, by decide, rfl, Or.inl (List.mem_of_getElem? (i := 423) (by decide +kernel))⟩
theorem fp_RX11_19 : vm_FP RX11 19 11 1 3 (.object "FewKeys$Reckoner") := ⟨_, _, _, _, vm_cl11, by decide, rfl, rfl, rfl, Or.inl (List.mem_of_getElem? (i := 423) (by decide +kernel))⟩
theorem fl_RX11_23 : vm_FL RX11 23 11 2 3 := ⟨_, _, _, _, vm_cl11, by decide, rfl, Or.inl (List.mem_of_getElem? (i := 424) (by decide +kernel))⟩
theorem fp_RX11_23 : vm_FP RX11 23 11 2 3 (.object "FewKeys$Reckoner") := ⟨_, _, _, _, vm_cl11, by decide, rfl, rfl, rfl, Or.inl (List.mem_of_getElem? (i := 424) (by decide +kernel))⟩
theorem fl_RX11_29 : vm_FL RX11 29 11 3 2 := ⟨_, _, _, _, vm_cl11, by decide, rfl, Or.inl (List.mem_of_getElem? (i := 425) (by decide +kernel))⟩
theorem fl_RX11_33 : vm_FL RX11 33 11 4 2 := ⟨_, _, _, _, vm_cl11, by decide, rfl, Or.inl (List.mem_of_getElem? (i := 426) (by decide +kernel))⟩
theorem fl_RX11_36 : vm_FL RX11 36 11 5 2 := ⟨_, _, _, _, vm_cl11, by decide, rfl, Or.inl (List.mem_of_getElem? (i := 427) (by decide +kernel))⟩
theorem fl_RX11_42 : vm_FL RX11 42 11 6 2 := ⟨_, _, _, _, vm_cl11, by decide, rfl, Or.inl (List.mem_of_getElem? (i := 428) (by decide +kernel))⟩
theorem fl_RX11_58 : vm_FL RX11 58 11 8 2 := ⟨_, _, _, _, vm_cl11, by decide, rfl, Or.inl (List.mem_of_getElem? (i := 430) (by decide +kernel))⟩
theorem fl_RX11_65 : vm_FL RX11 65 11 9 2 := ⟨_, _, _, _, vm_cl11, by decide, rfl, Or.inl (List.mem_of_getElem? (i := 431) (by decide +kernel))⟩
theorem fl_RX11_72 : vm_FL RX11 72 11 10 2 := ⟨_, _, _, _, vm_cl11, by decide, rfl, Or.inl (List.mem_of_getElem? (i := 432) (by decide +kernel))⟩
theorem fl_RX11_79 : vm_FL RX11 79 11 11 2 := ⟨_, _, _, _, vm_cl11, by decide, rfl, Or.inl (List.mem_of_getElem? (i := 433) (by decide +kernel))⟩
theorem fl_RX11_86 : vm_FL RX11 86 11 12 2 := ⟨_, _, _, _, vm_cl11, by decide, rfl, Or.inl (List.mem_of_getElem? (i := 434) (by decide +kernel))⟩
theorem fl_RX11_93 : vm_FL RX11 93 11 13 2 := ⟨_, _, _, _, vm_cl11, by decide, rfl, Or.inl (List.mem_of_getElem? (i := 435) (by decide +kernel))⟩
theorem fl_RX11_98 : vm_FL RX11 98 9 1 0 := ⟨_, _, _, _, vm_cl9, by decide, rfl, Or.inr ⟨"FewKeys", List.mem_of_getElem? (i := 101) (by decide +kernel)⟩⟩
theorem fp_RX11_98 : vm_FP RX11 98 9 1 0 .int := ⟨_, _, _, _, vm_cl9, by decide, rfl, rfl, rfl, Or.inr ⟨"FewKeys", List.mem_of_getElem? (i := 101) (by decide +kernel)⟩⟩
theorem fl_RX11_111 : vm_FL RX11 111 9 2 0 := ⟨_, _, _, _, vm_cl9, by decide, rfl, Or.inr ⟨"FewKeys", List.mem_of_getElem? (i := 103) (by decide +kernel)⟩⟩
theorem fl_RX11_114 : vm_FL RX11 114 5 0 0 := ⟨_, _, _, _, vm_cl5, by decide, rfl, Or.inr ⟨"FewKeys", List.mem_of_getElem? (i := 193) (by decide +kernel)⟩⟩
theorem fp_RX11_114 : vm_FP RX11 114 5 0 0 .int := ⟨_, _, _, _, vm_cl5, by decide, rfl, rfl, rfl, Or.inr ⟨"FewKeys", List.mem_of_getElem? (i := 193) (by decide +kernel)⟩⟩
theorem fl_RX11_117 : vm_FL RX11 117 5 1 0 := ⟨_, _, _, _, vm_cl5, by decide, rfl, Or.inr ⟨"FewKeys", List.mem_of_getElem? (i := 196) (by decide +kernel)⟩⟩
theorem fp_RX11_117 : vm_FP RX11 117 5 1 0 .int := ⟨_, _, _, _, vm_cl5, by decide, rfl, rfl, rfl, Or.inr ⟨"FewKeys", List.mem_of_getElem? (i := 196) (by decide +kernel)⟩⟩
theorem fl_RX11_120 : vm_FL RX11 120 5 3 0 := ⟨_, _, _, _, vm_cl5, by decide, rfl, Or.inr ⟨"FewKeys", List.mem_of_getElem? (i := 201) (by decide +kernel)⟩⟩
theorem fp_RX11_120 : vm_FP RX11 120 5 3 0 .int := ⟨_, _, _, _, vm_cl5, by decide, rfl, rfl, rfl, Or.inr ⟨"FewKeys", List.mem_of_getElem? (i := 201) (by decide +kernel)⟩⟩
theorem fl_RX11_123 : vm_FL RX11 123 0 2 0 := ⟨_, _, _, _, vm_cl0, by decide, rfl, Or.inr ⟨"FewKeys", List.mem_of_getElem? (i := 231) (by decide +kernel)⟩⟩
theorem fp_RX11_123 : vm_FP RX11 123 0 2 0 .int := ⟨_, _, _, _, vm_cl0, by decide, rfl, rfl, rfl, Or.inr ⟨"FewKeys", List.mem_of_getElem? (i := 231) (by decide +kernel)⟩⟩
theorem fl_RX11_124 : vm_FL RX11 124 5 4 0 := ⟨_, _, _, _, vm_cl5, by decide, rfl, Or.inr ⟨"FewKeys", List.mem_of_getElem? (i := 204) (by decide +kernel)⟩⟩
theorem fp_RX11_124 : vm_FP RX11 124 5 4 0 .boolean := ⟨_, _, _, _, vm_cl5, by decide, rfl, rfl, rfl, Or.inr ⟨"FewKeys", List.mem_of_getElem? (i := 204) (by decide +kernel)⟩⟩
theorem fl_RX11_131 : vm_FL RX11 131 6 3 0 := ⟨_, _, _, _, vm_cl6, by decide, rfl, Or.inr ⟨"FewKeys", List.mem_of_getElem? (i := 144) (by decide +kernel)⟩⟩
theorem fl_RX11_134 : vm_FL RX11 134 9 3 0 := ⟨_, _, _, _, vm_cl9, by decide, rfl, Or.inr ⟨"FewKeys", List.mem_of_getElem? (i := 105) (by decide +kernel)⟩⟩
theorem fl_RX11_137 : vm_FL RX11 137 6 0 0 := ⟨_, _, _, _, vm_cl6, by decide, rfl, Or.inr ⟨"FewKeys", List.mem_of_getElem? (i := 135) (by decide +kernel)⟩⟩
theorem fl_RX11_140 : vm_FL RX11 140 6 1 0 := ⟨_, _, _, _, vm_cl6, by decide, rfl, Or.inr ⟨"FewKeys", List.mem_of_getElem? (i := 138) (by decide +kernel)⟩⟩
theorem fl_RX11_143 : vm_FL RX11 143 6 2 0 := ⟨_, _, _, _, vm_cl6, by decide, rfl, Or.inr ⟨"FewKeys", List.mem_of_getElem? (i := 141) (by decide +kernel)⟩⟩
theorem fl_RX11_146 : vm_FL RX11 146 6 4 0 := ⟨_, _, _, _, vm_cl6, by decide, rfl, Or.inr ⟨"FewKeys", List.mem_of_getElem? (i := 154) (by decide +kernel)⟩⟩
theorem fl_RX11_167 : vm_FL RX11 167 6 5 2 := ⟨_, _, _, _, vm_cl6, by decide, rfl, Or.inr ⟨"FewKeys", List.mem_of_getElem? (i := 157) (by decide +kernel)⟩⟩
theorem fl_RX11_175 : vm_FL RX11 175 6 6 2 := ⟨_, _, _, _, vm_cl6, by decide, rfl, Or.inr ⟨"FewKeys", List.mem_of_getElem? (i := 161) (by decide +kernel)⟩⟩
theorem fl_RX11_178 : vm_FL RX11 178 6 7 2 := ⟨_, _, _, _, vm_cl6, by decide, rfl, Or.inr ⟨"FewKeys", List.mem_of_getElem? (i := 163) (by decide +kernel)⟩⟩
theorem fl_RX11_181 : vm_FL RX11 181 6 8 2 := ⟨_, _, _, _, vm_cl6, by decide, rfl, Or.inr ⟨"FewKeys", List.mem_of_getElem? (i := 165) (by decide +kernel)⟩⟩
theorem fl_RX11_205 : vm_FL RX11 205 2 1 2 := ⟨_, _, _, _, vm_cl2, by decide, rfl, Or.inr ⟨"FewKeys", List.mem_of_getElem? (i := 323) (by decide +kernel)⟩⟩
theorem fl_RX11_209 : vm_FL RX11 209 5 5 2 := ⟨_, _, _, _, vm_cl5, by decide, rfl, Or.inr ⟨"FewKeys", List.mem_of_getElem? (i := 208) (by decide +kernel)⟩⟩
theorem fl_RX11_223 : vm_FL RX11 223 8 9 0 := ⟨_, _, _, _, vm_cl8, by decide, rfl, Or.inr ⟨"FewKeys", List.mem_of_getElem? (i := 293) (by decide +kernel)⟩⟩
theorem fl_RX11_226 : vm_FL RX11 226 8 7 0 := ⟨_, _, _, _, vm_cl8, by decide, rfl, Or.inr ⟨"FewKeys", List.mem_of_getElem? (i := 289) (by decide +kernel)⟩⟩
theorem fl_RX11_229 : vm_FL RX11 229 8 8 0 := ⟨_, _, _, _, vm_cl8, by decide, rfl, Or.inr ⟨"FewKeys", List.mem_of_getElem? (i := 291) (by decide +kernel)⟩⟩
theorem fl_RX11_249 : vm_FL RX11 249 4 1 0 := ⟨_, _, _, _, vm_cl4, by decide, rfl, Or.inr ⟨"FewKeys", List.mem_of_getElem? (i := 378) (by decide +kernel)⟩⟩
theorem fl_RX11_252 : vm_FL RX11 252 4 2 0 := ⟨_, _, _, _, vm_cl4, by decide, rfl, Or.inr ⟨"FewKeys", List.mem_of_getElem? (i := 380) (by decide +kernel)⟩⟩
theorem fl_RX11_267 : vm_FL RX11 267 3 0 0 := ⟨_, _, _, _, vm_cl3, by decide, rfl, Or.inr ⟨"FewKeys", List.mem_of_getElem? (i := 414) (by decide +kernel)⟩⟩
theorem fl_RX11_270 : vm_FL RX11 270 3 1 0 := ⟨_, _, _, _, vm_cl3, by decide, rfl, Or.inr ⟨"FewKeys", List.mem_of_getElem? (i := 416) (by decide +kernel)⟩⟩
theorem fl_RX11_283 : vm_FL RX11 283 5 2 0 := ⟨_, _, _, _, vm_cl5, by decide, rfl, Or.inr ⟨"FewKeys", List.mem_of_getElem? (i := 198) (by decide +kernel)⟩⟩
theorem fp_RX11_283 : vm_FP RX11 283 5 2 0 .int := ⟨_, _, _, _, vm_cl5, by decide, rfl, rfl, rfl, Or.inr ⟨"FewKeys", List.mem_of_getElem? (i := 198) (by decide +kernel)⟩⟩
theorem fp_RX11_297 : vm_FP RX11 297 2 5 0 .boolean := ⟨_, _, _, _, vm_cl2, by decide, rfl, rfl, rfl, Or.inr ⟨"FewKeys", List.mem_of_getElem? (i := 328) (by decide +kernel)⟩⟩
theorem fl_RX0_9 : vm_FL RX0 9 0 0 2 := ⟨_, _, _, _, vm_cl0, by decide, rfl, Or.inl (List.mem_of_getElem? (i := 228) (by decide +kernel))⟩
theorem fl_RX0_15 : vm_FL RX0 15 0 1 2 := ⟨_, _, _, _, vm_cl0, by decide, rfl, Or.inl (List.mem_of_getElem? (i := 229) (by decide +kernel))⟩
theorem fl_RX0_18 : vm_FL RX0 18 0 2 0 := ⟨_, _, _, _, vm_cl0, by decide, rfl, Or.inl (List.mem_of_getElem? (i := 230) (by decide +kernel))⟩
theorem fp_RX0_18 : vm_FP RX0 18 0 2 0 .int := ⟨_, _, _, _, vm_cl0, by decide, rfl, rfl, rfl, Or.inl (List.mem_of_getElem? (i := 230) (by decide +kernel))⟩
theorem fl_RX1_9 : vm_FL RX1 9 1 1 3 := ⟨_, _, _, _, vm_cl1, by decide, rfl, Or.inl (List.mem_of_getElem? (i := 349) (by decide +kernel))⟩
theorem fp_RX1_9 : vm_FP RX1 9 1 1 3 (.array .int) := ⟨_, _, _, _, vm_cl1, by decide, rfl, rfl, rfl, Or.inl (List.mem_of_getElem? (i := 349) (by decide +kernel))⟩
theorem fl_RX1_15 : vm_FL RX1 15 1 2 3 := ⟨_, _, _, _, vm_cl1, by decide, rfl, Or.inl (List.mem_of_getElem? (i := 350) (by decide +kernel))⟩
theorem fp_RX1_15 : vm_FP RX1 15 1 2 3 (.array .int) := ⟨_, _, _, _, vm_cl1, by decide, rfl, rfl, rfl, Or.inl (List.mem_of_getElem? (i := 350) (by decide +kernel))⟩
theorem fl_RX1_18 : vm_FL RX1 18 1 3 0 := ⟨_, _, _, _, vm_cl1, by decide, rfl, Or.inl (List.mem_of_getElem? (i := 351) (by decide +kernel))⟩
theorem fp_RX1_18 : vm_FP RX1 18 1 3 0 .int := ⟨_, _, _, _, vm_cl1, by decide, rfl, rfl, rfl, Or.inl (List.mem_of_getElem? (i := 351) (by decide +kernel))⟩
theorem fl_RX1_22 : vm_FL RX1 22 1 4 3 := ⟨_, _, _, _, vm_cl1, by decide, rfl, Or.inl (List.mem_of_getElem? (i := 352) (by decide +kernel))⟩
theorem fp_RX1_22 : vm_FP RX1 22 1 4 3 (.array .int) := ⟨_, _, _, _, vm_cl1, by decide, rfl, rfl, rfl, Or.inl (List.mem_of_getElem? (i := 352) (by decide +kernel))⟩
theorem fl_RX1_25 : vm_FL RX1 25 1 5 3 := ⟨_, _, _, _, vm_cl1, by decide, rfl, Or.inl (List.mem_of_getElem? (i := 353) (by decide +kernel))⟩
theorem fp_RX1_25 : vm_FP RX1 25 1 5 3 (.array .int) := ⟨_, _, _, _, vm_cl1, by decide, rfl, rfl, rfl, Or.inl (List.mem_of_getElem? (i := 353) (by decide +kernel))⟩
theorem fl_RX1_28 : vm_FL RX1 28 1 6 0 := ⟨_, _, _, _, vm_cl1, by decide, rfl, Or.inl (List.mem_of_getElem? (i := 354) (by decide +kernel))⟩
theorem fp_RX1_28 : vm_FP RX1 28 1 6 0 .int := ⟨_, _, _, _, vm_cl1, by decide, rfl, rfl, rfl, Or.inl (List.mem_of_getElem? (i := 354) (by decide +kernel))⟩
theorem fl_RX1_31 : vm_FL RX1 31 1 0 2 := ⟨_, _, _, _, vm_cl1, by decide, rfl, Or.inl (List.mem_of_getElem? (i := 348) (by decide +kernel))⟩
theorem fl_RX1_35 : vm_FL RX1 35 5 0 0 := ⟨_, _, _, _, vm_cl5, by decide, rfl, Or.inr ⟨"FewKeys", List.mem_of_getElem? (i := 192) (by decide +kernel)⟩⟩
theorem fl_RX1_44 : vm_FL RX1 44 5 3 0 := ⟨_, _, _, _, vm_cl5, by decide, rfl, Or.inr ⟨"FewKeys", List.mem_of_getElem? (i := 200) (by decide +kernel)⟩⟩
theorem fl_RX1_47 : vm_FL RX1 47 5 5 2 := ⟨_, _, _, _, vm_cl5, by decide, rfl, Or.inr ⟨"FewKeys", List.mem_of_getElem? (i := 206) (by decide +kernel)⟩⟩
theorem fl_RX1_67 : vm_FL RX1 67 7 3 0 := ⟨_, _, _, _, vm_cl7, by decide, rfl, Or.inr ⟨"FewKeys", List.mem_of_getElem? (i := 259) (by decide +kernel)⟩⟩
theorem fl_RX1_70 : vm_FL RX1 70 7 2 2 := ⟨_, _, _, _, vm_cl7, by decide, rfl, Or.inr ⟨"FewKeys", List.mem_of_getElem? (i := 255) (by decide +kernel)⟩⟩
theorem fl_RX1_77 : vm_FL RX1 77 7 1 2 := ⟨_, _, _, _, vm_cl7, by decide, rfl, Or.inr ⟨"FewKeys", List.mem_of_getElem? (i := 250) (by decide +kernel)⟩⟩
theorem fl_RX1_80 : vm_FL RX1 80 6 4 0 := ⟨_, _, _, _, vm_cl6, by decide, rfl, Or.inr ⟨"FewKeys", List.mem_of_getElem? (i := 152) (by decide +kernel)⟩⟩
theorem fl_RX2_9 : vm_FL RX2 9 2 1 2 := ⟨_, _, _, _, vm_cl2, by decide, rfl, Or.inl (List.mem_of_getElem? (i := 322) (by decide +kernel))⟩
theorem fl_RX2_15 : vm_FL RX2 15 2 2 2 := ⟨_, _, _, _, vm_cl2, by decide, rfl, Or.inl (List.mem_of_getElem? (i := 324) (by decide +kernel))⟩
theorem fl_RX2_18 : vm_FL RX2 18 2 3 0 := ⟨_, _, _, _, vm_cl2, by decide, rfl, Or.inl (List.mem_of_getElem? (i := 325) (by decide +kernel))⟩
theorem fp_RX2_18 : vm_FP RX2 18 2 3 0 .int := ⟨_, _, _, _, vm_cl2, by decide, rfl, rfl, rfl, Or.inl (List.mem_of_getElem? (i := 325) (by decide +kernel))⟩
theorem fl_RX2_22 : vm_FL RX2 22 2 4 0 := ⟨_, _, _, _, vm_cl2, by decide, rfl, Or.inl (List.mem_of_getElem? (i := 326) (by decide +kernel))⟩
theorem fp_RX2_22 : vm_FP RX2 22 2 4 0 .int := ⟨_, _, _, _, vm_cl2, by decide, rfl, rfl, rfl, Or.inl (List.mem_of_getElem? (i := 326) (by decide +kernel))⟩
theorem fl_RX2_25 : vm_FL RX2 25 2 5 0 := ⟨_, _, _, _, vm_cl2, by decide, rfl, Or.inl (List.mem_of_getElem? (i := 327) (by decide +kernel))⟩
theorem fp_RX2_25 : vm_FP RX2 25 2 5 0 .boolean := ⟨_, _, _, _, vm_cl2, by decide, rfl, rfl, rfl, Or.inl (List.mem_of_getElem? (i := 327) (by decide +kernel))⟩
theorem fl_RX2_29 : vm_FL RX2 29 2 0 2 := ⟨_, _, _, _, vm_cl2, by decide, rfl, Or.inl (List.mem_of_getElem? (i := 321) (by decide +kernel))⟩
theorem fl_RX2_44 : vm_FL RX2 44 6 3 0 := ⟨_, _, _, _, vm_cl6, by decide, rfl, Or.inr ⟨"FewKeys", List.mem_of_getElem? (i := 143) (by decide +kernel)⟩⟩
theorem fl_RX2_58 : vm_FL RX2 58 7 1 2 := ⟨_, _, _, _, vm_cl7, by decide, rfl, Or.inr ⟨"FewKeys", List.mem_of_getElem? (i := 249) (by decide +kernel)⟩⟩
theorem fl_RX2_73 : vm_FL RX2 73 6 4 0 := ⟨_, _, _, _, vm_cl6, by decide, rfl, Or.inr ⟨"FewKeys", List.mem_of_getElem? (i := 149) (by decide +kernel)⟩⟩
theorem fl_RX2_76 : vm_FL RX2 76 7 3 0 := ⟨_, _, _, _, vm_cl7, by decide, rfl, Or.inr ⟨"FewKeys", List.mem_of_getElem? (i := 258) (by decide +kernel)⟩⟩
theorem fl_RX2_79 : vm_FL RX2 79 7 2 2 := ⟨_, _, _, _, vm_cl7, by decide, rfl, Or.inr ⟨"FewKeys", List.mem_of_getElem? (i := 254) (by decide +kernel)⟩⟩
theorem fl_RX2_82 : vm_FL RX2 82 6 6 2 := ⟨_, _, _, _, vm_cl6, by decide, rfl, Or.inr ⟨"FewKeys", List.mem_of_getElem? (i := 160) (by decide +kernel)⟩⟩
theorem fl_RX3_9 : vm_FL RX3 9 3 0 0 := ⟨_, _, _, _, vm_cl3, by decide, rfl, Or.inl (List.mem_of_getElem? (i := 413) (by decide +kernel))⟩
theorem fp_RX3_9 : vm_FP RX3 9 3 0 0 .int := ⟨_, _, _, _, vm_cl3, by decide, rfl, rfl, rfl, Or.inl (List.mem_of_getElem? (i := 413) (by decide +kernel))⟩
theorem fl_RX3_15 : vm_FL RX3 15 3 1 0 := ⟨_, _, _, _, vm_cl3, by decide, rfl, Or.inl (List.mem_of_getElem? (i := 415) (by decide +kernel))⟩
theorem fp_RX3_15 : vm_FP RX3 15 3 1 0 .int := ⟨_, _, _, _, vm_cl3, by decide, rfl, rfl, rfl, Or.inl (List.mem_of_getElem? (i := 415) (by decide +kernel))⟩
theorem fl_RX3_18 : vm_FL RX3 18 6 4 0 := ⟨_, _, _, _, vm_cl6, by decide, rfl, Or.inr ⟨"FewKeys", List.mem_of_getElem? (i := 148) (by decide +kernel)⟩⟩
theorem fl_RX4_9 : vm_FL RX4 9 4 1 0 := ⟨_, _, _, _, vm_cl4, by decide, rfl, Or.inl (List.mem_of_getElem? (i := 377) (by decide +kernel))⟩
theorem fp_RX4_9 : vm_FP RX4 9 4 1 0 .int := ⟨_, _, _, _, vm_cl4, by decide, rfl, rfl, rfl, Or.inl (List.mem_of_getElem? (i := 377) (by decide +kernel))⟩
theorem fl_RX4_15 : vm_FL RX4 15 4 2 0 := ⟨_, _, _, _, vm_cl4, by decide, rfl, Or.inl (List.mem_of_getElem? (i := 379) (by decide +kernel))⟩
theorem fp_RX4_15 : vm_FP RX4 15 4 2 0 .int := ⟨_, _, _, _, vm_cl4, by decide, rfl, rfl, rfl, Or.inl (List.mem_of_getElem? (i := 379) (by decide +kernel))⟩
theorem fl_RX4_18 : vm_FL RX4 18 4 0 2 := ⟨_, _, _, _, vm_cl4, by decide, rfl, Or.inl (List.mem_of_getElem? (i := 376) (by decide +kernel))⟩
theorem fl_RX4_27 : vm_FL RX4 27 7 1 2 := ⟨_, _, _, _, vm_cl7, by decide, rfl, Or.inr ⟨"FewKeys", List.mem_of_getElem? (i := 248) (by decide +kernel)⟩⟩
theorem fl_RX4_31 : vm_FL RX4 31 7 2 2 := ⟨_, _, _, _, vm_cl7, by decide, rfl, Or.inr ⟨"FewKeys", List.mem_of_getElem? (i := 253) (by decide +kernel)⟩⟩
theorem fl_RX4_74 : vm_FL RX4 74 6 4 0 := ⟨_, _, _, _, vm_cl6, by decide, rfl, Or.inr ⟨"FewKeys", List.mem_of_getElem? (i := 151) (by decide +kernel)⟩⟩
theorem fl_RX5_9 : vm_FL RX5 9 5 0 0 := ⟨_, _, _, _, vm_cl5, by decide, rfl, Or.inl (List.mem_of_getElem? (i := 191) (by decide +kernel))⟩
theorem fp_RX5_9 : vm_FP RX5 9 5 0 0 .int := ⟨_, _, _, _, vm_cl5, by decide, rfl, rfl, rfl, Or.inl (List.mem_of_getElem? (i := 191) (by decide +kernel))⟩
theorem fl_RX5_15 : vm_FL RX5 15 5 1 0 := ⟨_, _, _, _, vm_cl5, by decide, rfl, Or.inl (List.mem_of_getElem? (i := 195) (by decide +kernel))⟩
theorem fp_RX5_15 : vm_FP RX5 15 5 1 0 .int := ⟨_, _, _, _, vm_cl5, by decide, rfl, rfl, rfl, Or.inl (List.mem_of_getElem? (i := 195) (by decide +kernel))⟩
theorem fl_RX5_18 : vm_FL RX5 18 5 2 0 := ⟨_, _, _, _, vm_cl5, by decide, rfl, Or.inl (List.mem_of_getElem? (i := 197) (by decide +kernel))⟩
theorem fp_RX5_18 : vm_FP RX5 18 5 2 0 .int := ⟨_, _, _, _, vm_cl5, by decide, rfl, rfl, rfl, Or.inl (List.mem_of_getElem? (i := 197) (by decide +kernel))⟩
theorem fl_RX5_21 : vm_FL RX5 21 5 3 0 := ⟨_, _, _, _, vm_cl5, by decide, rfl, Or.inl (List.mem_of_getElem? (i := 199) (by decide +kernel))⟩
theorem fp_RX5_21 : vm_FP RX5 21 5 3 0 .int := ⟨_, _, _, _, vm_cl5, by decide, rfl, rfl, rfl, Or.inl (List.mem_of_getElem? (i := 199) (by decide +kernel))⟩
theorem fl_RX5_28 : vm_FL RX5 28 5 5 2 := ⟨_, _, _, _, vm_cl5, by decide, rfl, Or.inl (List.mem_of_getElem? (i := 205) (by decide +kernel))⟩
theorem fl_RX5_46 : vm_FL RX5 46 6 6 2 := ⟨_, _, _, _, vm_cl6, by decide, rfl, Or.inr ⟨"FewKeys", List.mem_of_getElem? (i := 159) (by decide +kernel)⟩⟩
theorem fl_RX6_9 : vm_FL RX6 9 6 0 0 := ⟨_, _, _, _, vm_cl6, by decide, rfl, Or.inl (List.mem_of_getElem? (i := 134) (by decide +kernel))⟩
theorem fp_RX6_9 : vm_FP RX6 9 6 0 0 .int := ⟨_, _, _, _, vm_cl6, by decide, rfl, rfl, rfl, Or.inl (List.mem_of_getElem? (i := 134) (by decide +kernel))⟩
theorem fl_RX6_15 : vm_FL RX6 15 6 1 0 := ⟨_, _, _, _, vm_cl6, by decide, rfl, Or.inl (List.mem_of_getElem? (i := 136) (by decide +kernel))⟩
theorem fp_RX6_15 : vm_FP RX6 15 6 1 0 .int := ⟨_, _, _, _, vm_cl6, by decide, rfl, rfl, rfl, Or.inl (List.mem_of_getElem? (i := 136) (by decide +kernel))⟩
theorem fp_RX6_18 : vm_FP RX6 18 6 2 0 .int := ⟨_, _, _, _, vm_cl6, by decide, rfl, rfl, rfl, Or.inl (List.mem_of_getElem? (i := 140) (by decide +kernel))⟩
theorem fl_RX6_21 : vm_FL RX6 21 6 3 0 := ⟨_, _, _, _, vm_cl6, by decide, rfl, Or.inl (List.mem_of_getElem? (i := 142) (by decide +kernel))⟩
theorem fp_RX6_21 : vm_FP RX6 21 6 3 0 .int := ⟨_, _, _, _, vm_cl6, by decide, rfl, rfl, rfl, Or.inl (List.mem_of_getElem? (i := 142) (by decide +kernel))⟩
theorem fl_RX6_24 : vm_FL RX6 24 6 4 0 := ⟨_, _, _, _, vm_cl6, by decide, rfl, Or.inl (List.mem_of_getElem? (i := 147) (by decide +kernel))⟩
theorem fp_RX6_24 : vm_FP RX6 24 6 4 0 .int := ⟨_, _, _, _, vm_cl6, by decide, rfl, rfl, rfl, Or.inl (List.mem_of_getElem? (i := 147) (by decide +kernel))⟩
theorem fl_RX6_27 : vm_FL RX6 27 6 5 2 := ⟨_, _, _, _, vm_cl6, by decide, rfl, Or.inl (List.mem_of_getElem? (i := 156) (by decide +kernel))⟩
theorem fl_RX6_31 : vm_FL RX6 31 6 6 2 := ⟨_, _, _, _, vm_cl6, by decide, rfl, Or.inl (List.mem_of_getElem? (i := 158) (by decide +kernel))⟩
theorem fl_RX6_34 : vm_FL RX6 34 6 7 2 := ⟨_, _, _, _, vm_cl6, by decide, rfl, Or.inl (List.mem_of_getElem? (i := 162) (by decide +kernel))⟩
theorem fl_RX6_37 : vm_FL RX6 37 6 8 2 := ⟨_, _, _, _, vm_cl6, by decide, rfl, Or.inl (List.mem_of_getElem? (i := 164) (by decide +kernel))⟩
theorem fl_RX7_9 : vm_FL RX7 9 7 0 2 := ⟨_, _, _, _, vm_cl7, by decide, rfl, Or.inl (List.mem_of_getElem? (i := 246) (by decide +kernel))⟩
theorem fl_RX7_16 : vm_FL RX7 16 7 1 2 := ⟨_, _, _, _, vm_cl7, by decide, rfl, Or.inl (List.mem_of_getElem? (i := 247) (by decide +kernel))⟩
theorem fl_RX7_20 : vm_FL RX7 20 7 2 2 := ⟨_, _, _, _, vm_cl7, by decide, rfl, Or.inl (List.mem_of_getElem? (i := 252) (by decide +kernel))⟩
theorem fl_RX7_23 : vm_FL RX7 23 7 3 0 := ⟨_, _, _, _, vm_cl7, by decide, rfl, Or.inl (List.mem_of_getElem? (i := 257) (by decide +kernel))⟩
theorem fp_RX7_23 : vm_FP RX7 23 7 3 0 .int := ⟨_, _, _, _, vm_cl7, by decide, rfl, rfl, rfl, Or.inl (List.mem_of_getElem? (i := 257) (by decide +kernel))⟩
theorem fp_RX7_27 : vm_FP RX7 27 7 4 0 .int := ⟨_, _, _, _, vm_cl7, by decide, rfl, rfl, rfl, Or.inl (List.mem_of_getElem? (i := 261) (by decide +kernel))⟩
theorem fl_RX8_9 : vm_FL RX8 9 8 1 2 := ⟨_, _, _, _, vm_cl8, by decide, rfl, Or.inl (List.mem_of_getElem? (i := 282) (by decide +kernel))⟩
theorem fl_RX8_15 : vm_FL RX8 15 8 2 2 := ⟨_, _, _, _, vm_cl8, by decide, rfl, Or.inl (List.mem_of_getElem? (i := 283) (by decide +kernel))⟩
theorem fl_RX8_18 : vm_FL RX8 18 8 3 2 := ⟨_, _, _, _, vm_cl8, by decide, rfl, Or.inl (List.mem_of_getElem? (i := 284) (by decide +kernel))⟩
theorem fl_RX8_21 : vm_FL RX8 21 8 4 0 := ⟨_, _, _, _, vm_cl8, by decide, rfl, Or.inl (List.mem_of_getElem? (i := 285) (by decide +kernel))⟩
theorem fp_RX8_21 : vm_FP RX8 21 8 4 0 .int := ⟨_, _, _, _, vm_cl8, by decide, rfl, rfl, rfl, Or.inl (List.mem_of_getElem? (i := 285) (by decide +kernel))⟩
theorem fl_RX8_25 : vm_FL RX8 25 8 5 0 := ⟨_, _, _, _, vm_cl8, by decide, rfl, Or.inl (List.mem_of_getElem? (i := 286) (by decide +kernel))⟩
theorem fp_RX8_25 : vm_FP RX8 25 8 5 0 .boolean := ⟨_, _, _, _, vm_cl8, by decide, rfl, rfl, rfl, Or.inl (List.mem_of_getElem? (i := 286) (by decide +kernel))⟩
theorem fl_RX8_29 : vm_FL RX8 29 8 6 0 := ⟨_, _, _, _, vm_cl8, by decide, rfl, Or.inl (List.mem_of_getElem? (i := 287) (by decide +kernel))⟩
theorem fp_RX8_29 : vm_FP RX8 29 8 6 0 .boolean := ⟨_, _, _, _, vm_cl8, by decide, rfl, rfl, rfl, Or.inl (List.mem_of_getElem? (i := 287) (by decide +kernel))⟩
theorem fp_RX8_32 : vm_FP RX8 32 8 7 0 .int := ⟨_, _, _, _, vm_cl8, by decide, rfl, rfl, rfl, Or.inl (List.mem_of_getElem? (i := 288) (by decide +kernel))⟩
theorem fp_RX8_35 : vm_FP RX8 35 8 8 0 .int := ⟨_, _, _, _, vm_cl8, by decide, rfl, rfl, rfl, Or.inl (List.mem_of_getElem? (i := 290) (by decide +kernel))⟩
theorem fl_RX8_38 : vm_FL RX8 38 8 9 0 := ⟨_, _, _, _, vm_cl8, by decide, rfl, Or.inl (List.mem_of_getElem? (i := 292) (by decide +kernel))⟩
theorem fp_RX8_38 : vm_FP RX8 38 8 9 0 .int := ⟨_, _, _, _, vm_cl8, by decide, rfl, rfl, rfl, Or.inl (List.mem_of_getElem? (i := 292) (by decide +kernel))⟩
theorem fl_RX8_41 : vm_FL RX8 41 8 0 2 := ⟨_, _, _, _, vm_cl8, by decide, rfl, Or.inl (List.mem_of_getElem? (i := 281) (by decide +kernel))⟩
theorem fl_RX8_47 : vm_FL RX8 47 7 4 0 := ⟨_, _, _, _, vm_cl7, by decide, rfl, Or.inr ⟨"FewKeys", List.mem_of_getElem? (i := 262) (by decide +kernel)⟩⟩
theorem fp_RX8_47 : vm_FP RX8 47 7 4 0 .int := ⟨_, _, _, _, vm_cl7, by decide, rfl, rfl, rfl, Or.inr ⟨"FewKeys", List.mem_of_getElem? (i := 262) (by decide +kernel)⟩⟩
theorem fl_RX8_56 : vm_FL RX8 56 6 3 0 := ⟨_, _, _, _, vm_cl6, by decide, rfl, Or.inr ⟨"FewKeys", List.mem_of_getElem? (i := 145) (by decide +kernel)⟩⟩
theorem fl_RX8_76 : vm_FL RX8 76 7 2 2 := ⟨_, _, _, _, vm_cl7, by decide, rfl, Or.inr ⟨"FewKeys", List.mem_of_getElem? (i := 256) (by decide +kernel)⟩⟩
theorem fl_RX8_87 : vm_FL RX8 87 7 3 0 := ⟨_, _, _, _, vm_cl7, by decide, rfl, Or.inr ⟨"FewKeys", List.mem_of_getElem? (i := 260) (by decide +kernel)⟩⟩
theorem fl_RX8_90 : vm_FL RX8 90 7 1 2 := ⟨_, _, _, _, vm_cl7, by decide, rfl, Or.inr ⟨"FewKeys", List.mem_of_getElem? (i := 251) (by decide +kernel)⟩⟩
theorem fl_RX8_93 : vm_FL RX8 93 6 4 0 := ⟨_, _, _, _, vm_cl6, by decide, rfl, Or.inr ⟨"FewKeys", List.mem_of_getElem? (i := 155) (by decide +kernel)⟩⟩
theorem fl_RX8_115 : vm_FL RX8 115 6 1 0 := ⟨_, _, _, _, vm_cl6, by decide, rfl, Or.inr ⟨"FewKeys", List.mem_of_getElem? (i := 139) (by decide +kernel)⟩⟩
theorem fl_RX8_129 : vm_FL RX8 129 5 3 0 := ⟨_, _, _, _, vm_cl5, by decide, rfl, Or.inr ⟨"FewKeys", List.mem_of_getElem? (i := 202) (by decide +kernel)⟩⟩
theorem fl_RX8_134 : vm_FL RX8 134 5 5 2 := ⟨_, _, _, _, vm_cl5, by decide, rfl, Or.inr ⟨"FewKeys", List.mem_of_getElem? (i := 207) (by decide +kernel)⟩⟩
theorem fl_RX8_141 : vm_FL RX8 141 5 0 0 := ⟨_, _, _, _, vm_cl5, by decide, rfl, Or.inr ⟨"FewKeys", List.mem_of_getElem? (i := 194) (by decide +kernel)⟩⟩
theorem fl_RX9_9 : vm_FL RX9 9 9 0 2 := ⟨_, _, _, _, vm_cl9, by decide, rfl, Or.inl (List.mem_of_getElem? (i := 99) (by decide +kernel))⟩
theorem fl_RX9_15 : vm_FL RX9 15 9 1 0 := ⟨_, _, _, _, vm_cl9, by decide, rfl, Or.inl (List.mem_of_getElem? (i := 100) (by decide +kernel))⟩
theorem fp_RX9_15 : vm_FP RX9 15 9 1 0 .int := ⟨_, _, _, _, vm_cl9, by decide, rfl, rfl, rfl, Or.inl (List.mem_of_getElem? (i := 100) (by decide +kernel))⟩
theorem fp_RX9_19 : vm_FP RX9 19 9 2 0 .int := ⟨_, _, _, _, vm_cl9, by decide, rfl, rfl, rfl, Or.inl (List.mem_of_getElem? (i := 102) (by decide +kernel))⟩
theorem fp_RX9_22 : vm_FP RX9 22 9 3 0 .int := ⟨_, _, _, _, vm_cl9, by decide, rfl, rfl, rfl, Or.inl (List.mem_of_getElem? (i := 104) (by decide +kernel))⟩
theorem fl_RX9_25 : vm_FL RX9 25 9 4 0 := ⟨_, _, _, _, vm_cl9, by decide, rfl, Or.inl (List.mem_of_getElem? (i := 106) (by decide +kernel))⟩
theorem fp_RX9_25 : vm_FP RX9 25 9 4 0 .int := ⟨_, _, _, _, vm_cl9, by decide, rfl, rfl, rfl, Or.inl (List.mem_of_getElem? (i := 106) (by decide +kernel))⟩
theorem fl_RX9_28 : vm_FL RX9 28 9 5 0 := ⟨_, _, _, _, vm_cl9, by decide, rfl, Or.inl (List.mem_of_getElem? (i := 107) (by decide +kernel))⟩
theorem fp_RX9_28 : vm_FP RX9 28 9 5 0 .int := ⟨_, _, _, _, vm_cl9, by decide, rfl, rfl, rfl, Or.inl (List.mem_of_getElem? (i := 107) (by decide +kernel))⟩
theorem fl_RX9_31 : vm_FL RX9 31 9 6 0 := ⟨_, _, _, _, vm_cl9, by decide, rfl, Or.inl (List.mem_of_getElem? (i := 108) (by decide +kernel))⟩
theorem fp_RX9_31 : vm_FP RX9 31 9 6 0 .int := ⟨_, _, _, _, vm_cl9, by decide, rfl, rfl, rfl, Or.inl (List.mem_of_getElem? (i := 108) (by decide +kernel))⟩
theorem fl_RX9_34 : vm_FL RX9 34 9 7 0 := ⟨_, _, _, _, vm_cl9, by decide, rfl, Or.inl (List.mem_of_getElem? (i := 109) (by decide +kernel))⟩
theorem fp_RX9_34 : vm_FP RX9 34 9 7 0 .int := ⟨_, _, _, _, vm_cl9, by decide, rfl, rfl, rfl, Or.inl (List.mem_of_getElem? (i := 109) (by decide +kernel))⟩
theorem fl_RX9_84 : vm_FL RX9 84 6 4 0 := ⟨_, _, _, _, vm_cl6, by decide, rfl, Or.inr ⟨"FewKeys", List.mem_of_getElem? (i := 153) (by decide +kernel)⟩⟩
theorem fl_RX9_87 : vm_FL RX9 87 6 1 0 := ⟨_, _, _, _, vm_cl6, by decide, rfl, Or.inr ⟨"FewKeys", List.mem_of_getElem? (i := 137) (by decide +kernel)⟩⟩
theorem fl_RX9_90 : vm_FL RX9 90 6 3 0 := ⟨_, _, _, _, vm_cl6, by decide, rfl, Or.inr ⟨"FewKeys", List.mem_of_getElem? (i := 146) (by decide +kernel)⟩⟩
theorem fl_RX10_9 : vm_FL RX10 9 10 0 2 := ⟨_, _, _, _, vm_cl10, by decide, rfl, Or.inl (List.mem_of_getElem? (i := 394) (by decide +kernel))⟩
theorem fl_RX10_15 : vm_FL RX10 15 10 1 2 := ⟨_, _, _, _, vm_cl10, by decide, rfl, Or.inl (List.mem_of_getElem? (i := 395) (by decide +kernel))⟩
theorem fl_RX10_18 : vm_FL RX10 18 10 2 2 := ⟨_, _, _, _, vm_cl10, by decide, rfl, Or.inl (List.mem_of_getElem? (i := 396) (by decide +kernel))⟩
theorem fl_RX10_21 : vm_FL RX10 21 10 3 0 := ⟨_, _, _, _, vm_cl10, by decide, rfl, Or.inl (List.mem_of_getElem? (i := 397) (by decide +kernel))⟩
theorem fp_RX10_21 : vm_FP RX10 21 10 3 0 .int := ⟨_, _, _, _, vm_cl10, by decide, rfl, rfl, rfl, Or.inl (List.mem_of_getElem? (i := 397) (by decide +kernel))⟩
theorem fl_RX10_37 : vm_FL RX10 37 6 4 0 := ⟨_, _, _, _, vm_cl6, by decide, rfl, Or.inr ⟨"FewKeys", List.mem_of_getElem? (i := 150) (by decide +kernel)⟩⟩
theorem fl_RX12_7 : vm_FL RX12 7 12 0 0 := ⟨_, _, _, _, vm_cl12, by decide, rfl, Or.inl (List.mem_of_getElem? (i := 1004) (by decide +kernel))⟩
theorem fp_RX12_7 : vm_FP RX12 7 12 0 0 .int := ⟨_, _, _, _, vm_cl12, by decide, rfl, rfl, rfl, Or.inl (List.mem_of_getElem? (i := 1004) (by decide +kernel))⟩
theorem fl_RX12_13 : vm_FL RX12 13 12 5 2 := ⟨_, _, _, _, vm_cl12, by decide, rfl, Or.inl (List.mem_of_getElem? (i := 1009) (by decide +kernel))⟩
theorem fl_RX12_17 : vm_FL RX12 17 12 7 2 := ⟨_, _, _, _, vm_cl12, by decide, rfl, Or.inl (List.mem_of_getElem? (i := 1011) (by decide +kernel))⟩
theorem fl_RX12_20 : vm_FL RX12 20 12 13 0 := ⟨_, _, _, _, vm_cl12, by decide, rfl, Or.inl (List.mem_of_getElem? (i := 1017) (by decide +kernel))⟩
theorem fp_RX12_20 : vm_FP RX12 20 12 13 0 .int := ⟨_, _, _, _, vm_cl12, by decide, rfl, rfl, rfl, Or.inl (List.mem_of_getElem? (i := 1017) (by decide +kernel))⟩
theorem fl_RX12_23 : vm_FL RX12 23 12 20 2 := ⟨_, _, _, _, vm_cl12, by decide, rfl, Or.inl (List.mem_of_getElem? (i := 1024) (by decide +kernel))⟩
theorem fl_RX12_26 : vm_FL RX12 26 12 28 2 := ⟨_, _, _, _, vm_cl12, by decide, rfl, Or.inl (List.mem_of_getElem? (i := 1032) (by decide +kernel))⟩
theorem fl_RX12_29 : vm_FL RX12 29 12 30 2 := ⟨_, _, _, _, vm_cl12, by decide, rfl, Or.inl (List.mem_of_getElem? (i := 1034) (by decide +kernel))⟩
theorem fl_RX12_32 : vm_FL RX12 32 12 31 2 := ⟨_, _, _, _, vm_cl12, by decide, rfl, Or.inl (List.mem_of_getElem? (i := 1035) (by decide +kernel))⟩
theorem fl_RX12_35 : vm_FL RX12 35 12 32 2 := ⟨_, _, _, _, vm_cl12, by decide, rfl, Or.inl (List.mem_of_getElem? (i := 1036) (by decide +kernel))⟩
theorem fl_RX12_39 : vm_FL RX12 39 12 33 2 := ⟨_, _, _, _, vm_cl12, by decide, rfl, Or.inl (List.mem_of_getElem? (i := 1037) (by decide +kernel))⟩
theorem fl_RX12_44 : vm_FL RX12 44 12 34 2 := ⟨_, _, _, _, vm_cl12, by decide, rfl, Or.inl (List.mem_of_getElem? (i := 1038) (by decide +kernel))⟩
theorem fl_RX12_47 : vm_FL RX12 47 12 35 2 := ⟨_, _, _, _, vm_cl12, by decide, rfl, Or.inl (List.mem_of_getElem? (i := 1039) (by decide +kernel))⟩
theorem fl_RX12_50 : vm_FL RX12 50 12 36 2 := ⟨_, _, _, _, vm_cl12, by decide, rfl, Or.inl (List.mem_of_getElem? (i := 1040) (by decide +kernel))⟩
theorem fl_RX12_53 : vm_FL RX12 53 12 37 2 := ⟨_, _, _, _, vm_cl12, by decide, rfl, Or.inl (List.mem_of_getElem? (i := 1041) (by decide +kernel))⟩
theorem fl_RX12_56 : vm_FL RX12 56 12 38 2 := ⟨_, _, _, _, vm_cl12, by decide, rfl, Or.inl (List.mem_of_getElem? (i := 1042) (by decide +kernel))⟩
theorem fl_RX12_59 : vm_FL RX12 59 12 39 2 := ⟨_, _, _, _, vm_cl12, by decide, rfl, Or.inl (List.mem_of_getElem? (i := 1043) (by decide +kernel))⟩
theorem fl_RX12_62 : vm_FL RX12 62 12 40 2 := ⟨_, _, _, _, vm_cl12, by decide, rfl, Or.inl (List.mem_of_getElem? (i := 1044) (by decide +kernel))⟩
theorem fl_RX12_65 : vm_FL RX12 65 12 3 0 := ⟨_, _, _, _, vm_cl12, by decide, rfl, Or.inl (List.mem_of_getElem? (i := 1007) (by decide +kernel))⟩
theorem fp_RX12_65 : vm_FP RX12 65 12 3 0 .int := ⟨_, _, _, _, vm_cl12, by decide, rfl, rfl, rfl, Or.inl (List.mem_of_getElem? (i := 1007) (by decide +kernel))⟩
theorem fl_RX12_73 : vm_FL RX12 73 12 6 0 := ⟨_, _, _, _, vm_cl12, by decide, rfl, Or.inl (List.mem_of_getElem? (i := 1010) (by decide +kernel))⟩
theorem fp_RX12_73 : vm_FP RX12 73 12 6 0 .int := ⟨_, _, _, _, vm_cl12, by decide, rfl, rfl, rfl, Or.inl (List.mem_of_getElem? (i := 1010) (by decide +kernel))⟩
theorem fl_RX12_79 : vm_FL RX12 79 12 8 0 := ⟨_, _, _, _, vm_cl12, by decide, rfl, Or.inl (List.mem_of_getElem? (i := 1012) (by decide +kernel))⟩
theorem fp_RX12_79 : vm_FP RX12 79 12 8 0 .int := ⟨_, _, _, _, vm_cl12, by decide, rfl, rfl, rfl, Or.inl (List.mem_of_getElem? (i := 1012) (by decide +kernel))⟩
theorem fl_RX12_82 : vm_FL RX12 82 12 9 0 := ⟨_, _, _, _, vm_cl12, by decide, rfl, Or.inl (List.mem_of_getElem? (i := 1013) (by decide +kernel))⟩
theorem fp_RX12_82 : vm_FP RX12 82 12 9 0 .int := ⟨_, _, _, _, vm_cl12, by decide, rfl, rfl, rfl, Or.inl (List.mem_of_getElem? (i := 1013) (by decide +kernel))⟩
theorem fl_RX12_85 : vm_FL RX12 85 12 11 0 := ⟨_, _, _, _, vm_cl12, by decide, rfl, Or.inl (List.mem_of_getElem? (i := 1015) (by decide +kernel))⟩
theorem fp_RX12_85 : vm_FP RX12 85 12 11 0 .int := ⟨_, _, _, _, vm_cl12, by decide, rfl, rfl, rfl, Or.inl (List.mem_of_getElem? (i := 1015) (by decide +kernel))⟩
theorem fl_RX12_88 : vm_FL RX12 88 12 12 0 := ⟨_, _, _, _, vm_cl12, by decide, rfl, Or.inl (List.mem_of_getElem? (i := 1016) (by decide +kernel))⟩
theorem fp_RX12_88 : vm_FP RX12 88 12 12 0 .int := ⟨_, _, _, _, vm_cl12, by decide, rfl, rfl, rfl, Or.inl (List.mem_of_getElem? (i := 1016) (by decide +kernel))⟩
theorem fl_RX12_93 : vm_FL RX12 93 12 10 1 := ⟨_, _, _, _, vm_cl12, by decide, rfl, Or.inl (List.mem_of_getElem? (i := 1014) (by decide +kernel))⟩
theorem fp_RX12_93 : vm_FP RX12 93 12 10 1 .long := ⟨_, _, _, _, vm_cl12, by decide, rfl, rfl, rfl, Or.inl (List.mem_of_getElem? (i := 1014) (by decide +kernel))⟩
theorem fl_RX12_107 : vm_FL RX12 107 12 14 0 := ⟨_, _, _, _, vm_cl12, by decide, rfl, Or.inl (List.mem_of_getElem? (i := 1018) (by decide +kernel))⟩
theorem fp_RX12_107 : vm_FP RX12 107 12 14 0 .int := ⟨_, _, _, _, vm_cl12, by decide, rfl, rfl, rfl, Or.inl (List.mem_of_getElem? (i := 1018) (by decide +kernel))⟩
theorem fl_RX12_121 : vm_FL RX12 121 12 15 0 := ⟨_, _, _, _, vm_cl12, by decide, rfl, Or.inl (List.mem_of_getElem? (i := 1019) (by decide +kernel))⟩
theorem fp_RX12_121 : vm_FP RX12 121 12 15 0 .int := ⟨_, _, _, _, vm_cl12, by decide, rfl, rfl, rfl, Or.inl (List.mem_of_getElem? (i := 1019) (by decide +kernel))⟩
theorem fl_RX12_127 : vm_FL RX12 127 12 16 0 := ⟨_, _, _, _, vm_cl12, by decide, rfl, Or.inl (List.mem_of_getElem? (i := 1020) (by decide +kernel))⟩
theorem fp_RX12_127 : vm_FP RX12 127 12 16 0 .int := ⟨_, _, _, _, vm_cl12, by decide, rfl, rfl, rfl, Or.inl (List.mem_of_getElem? (i := 1020) (by decide +kernel))⟩
theorem fl_RX12_130 : vm_FL RX12 130 12 17 0 := ⟨_, _, _, _, vm_cl12, by decide, rfl, Or.inl (List.mem_of_getElem? (i := 1021) (by decide +kernel))⟩
theorem fp_RX12_130 : vm_FP RX12 130 12 17 0 .int := ⟨_, _, _, _, vm_cl12, by decide, rfl, rfl, rfl, Or.inl (List.mem_of_getElem? (i := 1021) (by decide +kernel))⟩
theorem fl_RX12_133 : vm_FL RX12 133 12 18 0 := ⟨_, _, _, _, vm_cl12, by decide, rfl, Or.inl (List.mem_of_getElem? (i := 1022) (by decide +kernel))⟩
theorem fp_RX12_133 : vm_FP RX12 133 12 18 0 .int := ⟨_, _, _, _, vm_cl12, by decide, rfl, rfl, rfl, Or.inl (List.mem_of_getElem? (i := 1022) (by decide +kernel))⟩
theorem fl_RX12_161 : vm_FL RX12 161 12 19 0 := ⟨_, _, _, _, vm_cl12, by decide, rfl, Or.inl (List.mem_of_getElem? (i := 1023) (by decide +kernel))⟩
theorem fp_RX12_161 : vm_FP RX12 161 12 19 0 .int := ⟨_, _, _, _, vm_cl12, by decide, rfl, rfl, rfl, Or.inl (List.mem_of_getElem? (i := 1023) (by decide +kernel))⟩
theorem fl_RX12_176 : vm_FL RX12 176 12 1 0 := ⟨_, _, _, _, vm_cl12, by decide, rfl, Or.inl (List.mem_of_getElem? (i := 1005) (by decide +kernel))⟩
theorem fp_RX12_176 : vm_FP RX12 176 12 1 0 .int := ⟨_, _, _, _, vm_cl12, by decide, rfl, rfl, rfl, Or.inl (List.mem_of_getElem? (i := 1005) (by decide +kernel))⟩
theorem fl_RX12_179 : vm_FL RX12 179 12 2 0 := ⟨_, _, _, _, vm_cl12, by decide, rfl, Or.inl (List.mem_of_getElem? (i := 1006) (by decide +kernel))⟩
theorem fp_RX12_179 : vm_FP RX12 179 12 2 0 .int := ⟨_, _, _, _, vm_cl12, by decide, rfl, rfl, rfl, Or.inl (List.mem_of_getElem? (i := 1006) (by decide +kernel))⟩
theorem fl_RX12_182 : vm_FL RX12 182 12 4 0 := ⟨_, _, _, _, vm_cl12, by decide, rfl, Or.inl (List.mem_of_getElem? (i := 1008) (by decide +kernel))⟩
theorem fp_RX12_182 : vm_FP RX12 182 12 4 0 .int := ⟨_, _, _, _, vm_cl12, by decide, rfl, rfl, rfl, Or.inl (List.mem_of_getElem? (i := 1008) (by decide +kernel))⟩
theorem fl_RX12_188 : vm_FL RX12 188 12 25 0 := ⟨_, _, _, _, vm_cl12, by decide, rfl, Or.inl (List.mem_of_getElem? (i := 1029) (by decide +kernel))⟩
theorem fp_RX12_188 : vm_FP RX12 188 12 25 0 .int := ⟨_, _, _, _, vm_cl12, by decide, rfl, rfl, rfl, Or.inl (List.mem_of_getElem? (i := 1029) (by decide +kernel))⟩
theorem fl_RX12_191 : vm_FL RX12 191 12 27 0 := ⟨_, _, _, _, vm_cl12, by decide, rfl, Or.inl (List.mem_of_getElem? (i := 1031) (by decide +kernel))⟩
theorem fp_RX12_191 : vm_FP RX12 191 12 27 0 .int := ⟨_, _, _, _, vm_cl12, by decide, rfl, rfl, rfl, Or.inl (List.mem_of_getElem? (i := 1031) (by decide +kernel))⟩
theorem fl_RX12_194 : vm_FL RX12 194 12 29 0 := ⟨_, _, _, _, vm_cl12, by decide, rfl, Or.inl (List.mem_of_getElem? (i := 1033) (by decide +kernel))⟩
theorem fp_RX12_194 : vm_FP RX12 194 12 29 0 .int := ⟨_, _, _, _, vm_cl12, by decide, rfl, rfl, rfl, Or.inl (List.mem_of_getElem? (i := 1033) (by decide +kernel))⟩
theorem fl_RX12_197 : vm_FL RX12 197 12 21 0 := ⟨_, _, _, _, vm_cl12, by decide, rfl, Or.inl (List.mem_of_getElem? (i := 1025) (by decide +kernel))⟩
theorem fp_RX12_197 : vm_FP RX12 197 12 21 0 .int := ⟨_, _, _, _, vm_cl12, by decide, rfl, rfl, rfl, Or.inl (List.mem_of_getElem? (i := 1025) (by decide +kernel))⟩
theorem fl_RX12_200 : vm_FL RX12 200 12 22 0 := ⟨_, _, _, _, vm_cl12, by decide, rfl, Or.inl (List.mem_of_getElem? (i := 1026) (by decide +kernel))⟩
theorem fp_RX12_200 : vm_FP RX12 200 12 22 0 .int := ⟨_, _, _, _, vm_cl12, by decide, rfl, rfl, rfl, Or.inl (List.mem_of_getElem? (i := 1026) (by decide +kernel))⟩
theorem fl_RX12_203 : vm_FL RX12 203 12 23 0 := ⟨_, _, _, _, vm_cl12, by decide, rfl, Or.inl (List.mem_of_getElem? (i := 1027) (by decide +kernel))⟩
theorem fp_RX12_203 : vm_FP RX12 203 12 23 0 .int := ⟨_, _, _, _, vm_cl12, by decide, rfl, rfl, rfl, Or.inl (List.mem_of_getElem? (i := 1027) (by decide +kernel))⟩
theorem fl_RX12_206 : vm_FL RX12 206 12 24 0 := ⟨_, _, _, _, vm_cl12, by decide, rfl, Or.inl (List.mem_of_getElem? (i := 1028) (by decide +kernel))⟩
theorem fp_RX12_206 : vm_FP RX12 206 12 24 0 .boolean := ⟨_, _, _, _, vm_cl12, by decide, rfl, rfl, rfl, Or.inl (List.mem_of_getElem? (i := 1028) (by decide +kernel))⟩
theorem fl_RX12_299 : vm_FL RX12 299 12 26 1 := ⟨_, _, _, _, vm_cl12, by decide, rfl, Or.inl (List.mem_of_getElem? (i := 1030) (by decide +kernel))⟩
theorem fp_RX12_299 : vm_FP RX12 299 12 26 1 .long := ⟨_, _, _, _, vm_cl12, by decide, rfl, rfl, rfl, Or.inl (List.mem_of_getElem? (i := 1030) (by decide +kernel))⟩
-- java/lang/String 9 java/lang/String.value
-- java/lang/String 15 java/lang/String.coder
theorem ck_X9_append : vm_cok mX9_append 1 := ⟨List.mem_of_getElem? (i := 66) (by decide +kernel), List.mem_of_getElem? (i := 474) (by decide +kernel), by decide +kernel, by decide⟩
theorem mv_RX11_103 : vm_MV RX11 103 mX9_append 1 := ⟨Or.inl (List.mem_of_getElem? (i := 471) (by decide +kernel)), ck_X9_append, List.mem_of_getElem? (i := 472) (by decide +kernel), List.mem_of_getElem? (i := 473) (by decide +kernel)⟩
theorem ck_X9_read : vm_cok mX9_read 1 := ⟨List.mem_of_getElem? (i := 66) (by decide +kernel), List.mem_of_getElem? (i := 482) (by decide +kernel), by decide +kernel, by decide⟩
theorem mv_RX11_107 : vm_MV RX11 107 mX9_read 1 := ⟨Or.inl (List.mem_of_getElem? (i := 479) (by decide +kernel)), ck_X9_read, List.mem_of_getElem? (i := 480) (by decide +kernel), List.mem_of_getElem? (i := 481) (by decide +kernel)⟩
theorem ck_X11_stateChanged : vm_cok mX11_stateChanged 0 := ⟨List.mem_of_getElem? (i := 65) (by decide +kernel), List.mem_of_getElem? (i := 604) (by decide +kernel), by decide +kernel, by decide⟩
theorem mv_RX11_128 : vm_MV RX11 128 mX11_stateChanged 0 := ⟨Or.inl (List.mem_of_getElem? (i := 601) (by decide +kernel)), ck_X11_stateChanged, List.mem_of_getElem? (i := 603) (by decide +kernel), List.mem_of_getElem? (i := 10) (by decide +kernel)⟩
theorem ck_X11_shownIn : vm_cok mX11_shownIn 1 := ⟨List.mem_of_getElem? (i := 65) (by decide +kernel), List.mem_of_getElem? (i := 624) (by decide +kernel), by decide +kernel, by decide⟩
theorem ms_RX11_149 : vm_MS RX11 149 mX11_shownIn 1 := ⟨Or.inl (List.mem_of_getElem? (i := 622) (by decide +kernel)), ck_X11_shownIn, List.mem_of_getElem? (i := 623) (by decide +kernel)⟩
theorem ck_X11_signIn : vm_cok mX11_signIn 1 := ⟨List.mem_of_getElem? (i := 65) (by decide +kernel), List.mem_of_getElem? (i := 627) (by decide +kernel), by decide +kernel, by decide⟩
theorem ms_RX11_153 : vm_MS RX11 153 mX11_signIn 1 := ⟨Or.inl (List.mem_of_getElem? (i := 625) (by decide +kernel)), ck_X11_signIn, List.mem_of_getElem? (i := 626) (by decide +kernel)⟩
theorem ck_X11_heldIn : vm_cok mX11_heldIn 1 := ⟨List.mem_of_getElem? (i := 65) (by decide +kernel), List.mem_of_getElem? (i := 630) (by decide +kernel), by decide +kernel, by decide⟩
theorem ms_RX11_156 : vm_MS RX11 156 mX11_heldIn 1 := ⟨Or.inl (List.mem_of_getElem? (i := 628) (by decide +kernel)), ck_X11_heldIn, List.mem_of_getElem? (i := 629) (by decide +kernel)⟩
theorem ck_X11_isTyped : vm_cok mX11_isTyped 1 := ⟨List.mem_of_getElem? (i := 65) (by decide +kernel), List.mem_of_getElem? (i := 633) (by decide +kernel), by decide +kernel, by decide⟩
theorem ms_RX11_159 : vm_MS RX11 159 mX11_isTyped 1 := ⟨Or.inl (List.mem_of_getElem? (i := 631) (by decide +kernel)), ck_X11_isTyped, List.mem_of_getElem? (i := 632) (by decide +kernel)⟩
theorem ck_X11_isKey : vm_cok mX11_isKey 1 := ⟨List.mem_of_getElem? (i := 65) (by decide +kernel), List.mem_of_getElem? (i := 642) (by decide +kernel), by decide +kernel, by decide⟩
theorem mv_RX11_163 : vm_MV RX11 163 mX11_isKey 1 := ⟨Or.inl (List.mem_of_getElem? (i := 639) (by decide +kernel)), ck_X11_isKey, List.mem_of_getElem? (i := 641) (by decide +kernel), List.mem_of_getElem? (i := 11) (by decide +kernel)⟩
theorem ck_X11_at : vm_cok mX11_at 2 := ⟨List.mem_of_getElem? (i := 65) (by decide +kernel), List.mem_of_getElem? (i := 497) (by decide +kernel), by decide +kernel, by decide⟩
theorem ms_RX11_171 : vm_MS RX11 171 mX11_at 2 := ⟨Or.inl (List.mem_of_getElem? (i := 644) (by decide +kernel)), ck_X11_at, List.mem_of_getElem? (i := 496) (by decide +kernel)⟩
theorem ck_X5_strikeOnce : vm_cok mX5_strikeOnce 2 := ⟨List.mem_of_getElem? (i := 68) (by decide +kernel), List.mem_of_getElem? (i := 652) (by decide +kernel), by decide +kernel, by decide⟩
theorem mv_RX11_184 : vm_MV RX11 184 mX5_strikeOnce 2 := ⟨Or.inl (List.mem_of_getElem? (i := 649) (by decide +kernel)), ck_X5_strikeOnce, List.mem_of_getElem? (i := 650) (by decide +kernel), List.mem_of_getElem? (i := 651) (by decide +kernel)⟩
theorem ck_X11_isOnDial : vm_cok mX11_isOnDial 1 := ⟨List.mem_of_getElem? (i := 65) (by decide +kernel), List.mem_of_getElem? (i := 690) (by decide +kernel), by decide +kernel, by decide⟩
theorem mv_RX11_188 : vm_MV RX11 188 mX11_isOnDial 1 := ⟨Or.inl (List.mem_of_getElem? (i := 687) (by decide +kernel)), ck_X11_isOnDial, List.mem_of_getElem? (i := 689) (by decide +kernel), List.mem_of_getElem? (i := 15) (by decide +kernel)⟩
theorem ck_X8_learn : vm_cok mX8_learn 2 := ⟨List.mem_of_getElem? (i := 71) (by decide +kernel), List.mem_of_getElem? (i := 694) (by decide +kernel), by decide +kernel, by decide⟩
theorem mv_RX11_191 : vm_MV RX11 191 mX8_learn 2 := ⟨Or.inl (List.mem_of_getElem? (i := 691) (by decide +kernel)), ck_X8_learn, List.mem_of_getElem? (i := 692) (by decide +kernel), List.mem_of_getElem? (i := 693) (by decide +kernel)⟩
theorem ck_X8_to : vm_cok mX8_to 1 := ⟨List.mem_of_getElem? (i := 71) (by decide +kernel), List.mem_of_getElem? (i := 728) (by decide +kernel), by decide +kernel, by decide⟩
theorem mv_RX11_194 : vm_MV RX11 194 mX8_to 1 := ⟨Or.inl (List.mem_of_getElem? (i := 725) (by decide +kernel)), ck_X8_to, List.mem_of_getElem? (i := 726) (by decide +kernel), List.mem_of_getElem? (i := 727) (by decide +kernel)⟩
theorem ck_X8_learnWays : vm_cok mX8_learnWays 2 := ⟨List.mem_of_getElem? (i := 71) (by decide +kernel), List.mem_of_getElem? (i := 736) (by decide +kernel), by decide +kernel, by decide⟩
theorem mv_RX11_197 : vm_MV RX11 197 mX8_learnWays 2 := ⟨Or.inl (List.mem_of_getElem? (i := 733) (by decide +kernel)), ck_X8_learnWays, List.mem_of_getElem? (i := 734) (by decide +kernel), List.mem_of_getElem? (i := 735) (by decide +kernel)⟩
theorem ck_X8_keyOfWay : vm_cok mX8_keyOfWay 2 := ⟨List.mem_of_getElem? (i := 71) (by decide +kernel), List.mem_of_getElem? (i := 741) (by decide +kernel), by decide +kernel, by decide⟩
theorem mv_RX11_200 : vm_MV RX11 200 mX8_keyOfWay 2 := ⟨Or.inl (List.mem_of_getElem? (i := 738) (by decide +kernel)), ck_X8_keyOfWay, List.mem_of_getElem? (i := 739) (by decide +kernel), List.mem_of_getElem? (i := 740) (by decide +kernel)⟩
theorem ck_X2_learn : vm_cok mX2_learn 2 := ⟨List.mem_of_getElem? (i := 72) (by decide +kernel), List.mem_of_getElem? (i := 750) (by decide +kernel), by decide +kernel, by decide⟩
theorem mv_RX11_204 : vm_MV RX11 204 mX2_learn 2 := ⟨Or.inl (List.mem_of_getElem? (i := 747) (by decide +kernel)), ck_X2_learn, List.mem_of_getElem? (i := 748) (by decide +kernel), List.mem_of_getElem? (i := 749) (by decide +kernel)⟩
theorem ck_X11_put : vm_cok mX11_put 3 := ⟨List.mem_of_getElem? (i := 65) (by decide +kernel), List.mem_of_getElem? (i := 600) (by decide +kernel), by decide +kernel, by decide⟩
theorem ms_RX11_212 : vm_MS RX11 212 mX11_put 3 := ⟨Or.inl (List.mem_of_getElem? (i := 781) (by decide +kernel)), ck_X11_put, List.mem_of_getElem? (i := 599) (by decide +kernel)⟩
theorem ck_X8_forgetMore : vm_cok mX8_forgetMore 0 := ⟨List.mem_of_getElem? (i := 71) (by decide +kernel), List.mem_of_getElem? (i := 612) (by decide +kernel), by decide +kernel, by decide⟩
theorem mv_RX11_216 : vm_MV RX11 216 mX8_forgetMore 0 := ⟨Or.inl (List.mem_of_getElem? (i := 609) (by decide +kernel)), ck_X8_forgetMore, List.mem_of_getElem? (i := 610) (by decide +kernel), List.mem_of_getElem? (i := 611) (by decide +kernel)⟩
theorem ck_X8_learnMore : vm_cok mX8_learnMore 2 := ⟨List.mem_of_getElem? (i := 71) (by decide +kernel), List.mem_of_getElem? (i := 797) (by decide +kernel), by decide +kernel, by decide⟩
theorem mv_RX11_219 : vm_MV RX11 219 mX8_learnMore 2 := ⟨Or.inl (List.mem_of_getElem? (i := 794) (by decide +kernel)), ck_X8_learnMore, List.mem_of_getElem? (i := 795) (by decide +kernel), List.mem_of_getElem? (i := 796) (by decide +kernel)⟩
theorem ck_X1_fewestForAll : vm_cok mX1_fewestForAll 2 := ⟨List.mem_of_getElem? (i := 73) (by decide +kernel), List.mem_of_getElem? (i := 820) (by decide +kernel), by decide +kernel, by decide⟩
theorem mv_RX11_232 : vm_MV RX11 232 mX1_fewestForAll 2 := ⟨Or.inl (List.mem_of_getElem? (i := 817) (by decide +kernel)), ck_X1_fewestForAll, List.mem_of_getElem? (i := 818) (by decide +kernel), List.mem_of_getElem? (i := 819) (by decide +kernel)⟩
theorem ck_J9_abs_0f7a4 : vm_cok mJ9_abs_0f7a4 1 := ⟨List.mem_of_getElem? (i := 82) (by decide +kernel), List.mem_of_getElem? (i := 847) (by decide +kernel), by decide +kernel, by decide⟩
theorem ms_RX11_236 : vm_MS RX11 236 mJ9_abs_0f7a4 1 := ⟨Or.inl (List.mem_of_getElem? (i := 845) (by decide +kernel)), ck_J9_abs_0f7a4, List.mem_of_getElem? (i := 846) (by decide +kernel)⟩
theorem ck_X11_isQuicker : vm_cok mX11_isQuicker 3 := ⟨List.mem_of_getElem? (i := 65) (by decide +kernel), List.mem_of_getElem? (i := 851) (by decide +kernel), by decide +kernel, by decide⟩
theorem mv_RX11_241 : vm_MV RX11 241 mX11_isQuicker 3 := ⟨Or.inl (List.mem_of_getElem? (i := 848) (by decide +kernel)), ck_X11_isQuicker, List.mem_of_getElem? (i := 850) (by decide +kernel), List.mem_of_getElem? (i := 24) (by decide +kernel)⟩
theorem ck_X4_count : vm_cok mX4_count 4 := ⟨List.mem_of_getElem? (i := 74) (by decide +kernel), List.mem_of_getElem? (i := 859) (by decide +kernel), by decide +kernel, by decide⟩
theorem mv_RX11_245 : vm_MV RX11 245 mX4_count 4 := ⟨Or.inl (List.mem_of_getElem? (i := 856) (by decide +kernel)), ck_X4_count, List.mem_of_getElem? (i := 857) (by decide +kernel), List.mem_of_getElem? (i := 858) (by decide +kernel)⟩
theorem ck_J6_bitCount_0f7a4 : vm_cok mJ6_bitCount_0f7a4 1 := ⟨List.mem_of_getElem? (i := 84) (by decide +kernel), List.mem_of_getElem? (i := 899) (by decide +kernel), by decide +kernel, by decide⟩
theorem ms_RX11_255 : vm_MS RX11 255 mJ6_bitCount_0f7a4 1 := ⟨Or.inl (List.mem_of_getElem? (i := 897) (by decide +kernel)), ck_J6_bitCount_0f7a4, List.mem_of_getElem? (i := 898) (by decide +kernel)⟩
theorem ck_X10_fewestToTell : vm_cok mX10_fewestToTell 3 := ⟨List.mem_of_getElem? (i := 75) (by decide +kernel), List.mem_of_getElem? (i := 906) (by decide +kernel), by decide +kernel, by decide⟩
theorem mv_RX11_260 : vm_MV RX11 260 mX10_fewestToTell 3 := ⟨Or.inl (List.mem_of_getElem? (i := 903) (by decide +kernel)), ck_X10_fewestToTell, List.mem_of_getElem? (i := 904) (by decide +kernel), List.mem_of_getElem? (i := 905) (by decide +kernel)⟩
theorem ck_X3_play : vm_cok mX3_play 4 := ⟨List.mem_of_getElem? (i := 76) (by decide +kernel), List.mem_of_getElem? (i := 929) (by decide +kernel), by decide +kernel, by decide⟩
theorem mv_RX11_264 : vm_MV RX11 264 mX3_play 4 := ⟨Or.inl (List.mem_of_getElem? (i := 926) (by decide +kernel)), ck_X3_play, List.mem_of_getElem? (i := 927) (by decide +kernel), List.mem_of_getElem? (i := 928) (by decide +kernel)⟩
theorem ck_X0_append : vm_cok mX0_append 2 := ⟨List.mem_of_getElem? (i := 69) (by decide +kernel), List.mem_of_getElem? (i := 948) (by decide +kernel), by decide +kernel, by decide⟩
theorem mv_RX11_273 : vm_MV RX11 273 mX0_append 2 := ⟨Or.inl (List.mem_of_getElem? (i := 945) (by decide +kernel)), ck_X0_append, List.mem_of_getElem? (i := 946) (by decide +kernel), List.mem_of_getElem? (i := 947) (by decide +kernel)⟩
theorem ck_X0_firstWrong : vm_cok mX0_firstWrong 2 := ⟨List.mem_of_getElem? (i := 69) (by decide +kernel), List.mem_of_getElem? (i := 960) (by decide +kernel), by decide +kernel, by decide⟩
theorem mv_RX11_276 : vm_MV RX11 276 mX0_firstWrong 2 := ⟨Or.inl (List.mem_of_getElem? (i := 957) (by decide +kernel)), ck_X0_firstWrong, List.mem_of_getElem? (i := 958) (by decide +kernel), List.mem_of_getElem? (i := 959) (by decide +kernel)⟩
theorem ck_X5_draw : vm_cok mX5_draw 1 := ⟨List.mem_of_getElem? (i := 68) (by decide +kernel), List.mem_of_getElem? (i := 971) (by decide +kernel), by decide +kernel, by decide⟩
theorem mv_RX11_280 : vm_MV RX11 280 mX5_draw 1 := ⟨Or.inl (List.mem_of_getElem? (i := 968) (by decide +kernel)), ck_X5_draw, List.mem_of_getElem? (i := 969) (by decide +kernel), List.mem_of_getElem? (i := 970) (by decide +kernel)⟩
theorem ck_X11_imageAt : vm_cok mX11_imageAt 1 := ⟨List.mem_of_getElem? (i := 65) (by decide +kernel), List.mem_of_getElem? (i := 987) (by decide +kernel), by decide +kernel, by decide⟩
theorem mv_RX11_286 : vm_MV RX11 286 mX11_imageAt 1 := ⟨Or.inl (List.mem_of_getElem? (i := 984) (by decide +kernel)), ck_X11_imageAt, List.mem_of_getElem? (i := 986) (by decide +kernel), List.mem_of_getElem? (i := 30) (by decide +kernel)⟩
theorem ck_X5_become : vm_cok mX5_become 1 := ⟨List.mem_of_getElem? (i := 68) (by decide +kernel), List.mem_of_getElem? (i := 991) (by decide +kernel), by decide +kernel, by decide⟩
theorem mv_RX11_290 : vm_MV RX11 290 mX5_become 1 := ⟨Or.inl (List.mem_of_getElem? (i := 988) (by decide +kernel)), ck_X5_become, List.mem_of_getElem? (i := 989) (by decide +kernel), List.mem_of_getElem? (i := 990) (by decide +kernel)⟩
theorem ck_X8_forgetSteps : vm_cok mX8_forgetSteps 0 := ⟨List.mem_of_getElem? (i := 71) (by decide +kernel), List.mem_of_getElem? (i := 608) (by decide +kernel), by decide +kernel, by decide⟩
theorem mv_RX11_294 : vm_MV RX11 294 mX8_forgetSteps 0 := ⟨Or.inl (List.mem_of_getElem? (i := 605) (by decide +kernel)), ck_X8_forgetSteps, List.mem_of_getElem? (i := 606) (by decide +kernel), List.mem_of_getElem? (i := 607) (by decide +kernel)⟩
theorem ms_RX0_22 : vm_MS RX0 22 mX11_at 2 := ⟨Or.inr ⟨"FewKeys", List.mem_of_getElem? (i := 961) (by decide +kernel)⟩, ck_X11_at, List.mem_of_getElem? (i := 496) (by decide +kernel)⟩
theorem ck_X6_afterStroke : vm_cok mX6_afterStroke 2 := ⟨List.mem_of_getElem? (i := 67) (by decide +kernel), List.mem_of_getElem? (i := 656) (by decide +kernel), by decide +kernel, by decide⟩
theorem mv_RX0_26 : vm_MV RX0 26 mX6_afterStroke 2 := ⟨Or.inl (List.mem_of_getElem? (i := 962) (by decide +kernel)), ck_X6_afterStroke, List.mem_of_getElem? (i := 654) (by decide +kernel), List.mem_of_getElem? (i := 655) (by decide +kernel)⟩
theorem ms_RX0_32 : vm_MS RX0 32 mX11_shownIn 1 := ⟨Or.inr ⟨"FewKeys", List.mem_of_getElem? (i := 963) (by decide +kernel)⟩, ck_X11_shownIn, List.mem_of_getElem? (i := 623) (by decide +kernel)⟩
theorem ms_RX1_40 : vm_MS RX1 40 mX11_put 3 := ⟨Or.inr ⟨"FewKeys", List.mem_of_getElem? (i := 821) (by decide +kernel)⟩, ck_X11_put, List.mem_of_getElem? (i := 599) (by decide +kernel)⟩
theorem ms_RX1_50 : vm_MS RX1 50 mX11_at 2 := ⟨Or.inr ⟨"FewKeys", List.mem_of_getElem? (i := 822) (by decide +kernel)⟩, ck_X11_at, List.mem_of_getElem? (i := 496) (by decide +kernel)⟩
theorem ck_X1_spread : vm_cok mX1_spread 3 := ⟨List.mem_of_getElem? (i := 73) (by decide +kernel), List.mem_of_getElem? (i := 826) (by decide +kernel), by decide +kernel, by decide⟩
theorem mv_RX1_54 : vm_MV RX1 54 mX1_spread 3 := ⟨Or.inl (List.mem_of_getElem? (i := 823) (by decide +kernel)), ck_X1_spread, List.mem_of_getElem? (i := 825) (by decide +kernel), List.mem_of_getElem? (i := 21) (by decide +kernel)⟩
theorem ck_X1_endsBecomeStarts : vm_cok mX1_endsBecomeStarts 0 := ⟨List.mem_of_getElem? (i := 73) (by decide +kernel), List.mem_of_getElem? (i := 840) (by decide +kernel), by decide +kernel, by decide⟩
theorem mv_RX1_58 : vm_MV RX1 58 mX1_endsBecomeStarts 0 := ⟨Or.inl (List.mem_of_getElem? (i := 837) (by decide +kernel)), ck_X1_endsBecomeStarts, List.mem_of_getElem? (i := 839) (by decide +kernel), List.mem_of_getElem? (i := 23) (by decide +kernel)⟩
theorem ck_X7_empty : vm_cok mX7_empty 0 := ⟨List.mem_of_getElem? (i := 70) (by decide +kernel), List.mem_of_getElem? (i := 705) (by decide +kernel), by decide +kernel, by decide⟩
theorem mv_RX1_61 : vm_MV RX1 61 mX7_empty 0 := ⟨Or.inl (List.mem_of_getElem? (i := 827) (by decide +kernel)), ck_X7_empty, List.mem_of_getElem? (i := 703) (by decide +kernel), List.mem_of_getElem? (i := 704) (by decide +kernel)⟩
theorem ck_X1_meet : vm_cok mX1_meet 3 := ⟨List.mem_of_getElem? (i := 73) (by decide +kernel), List.mem_of_getElem? (i := 832) (by decide +kernel), by decide +kernel, by decide⟩
theorem mv_RX1_73 : vm_MV RX1 73 mX1_meet 3 := ⟨Or.inl (List.mem_of_getElem? (i := 829) (by decide +kernel)), ck_X1_meet, List.mem_of_getElem? (i := 831) (by decide +kernel), List.mem_of_getElem? (i := 22) (by decide +kernel)⟩
theorem mv_RX1_85 : vm_MV RX1 85 mX6_afterStroke 2 := ⟨Or.inl (List.mem_of_getElem? (i := 836) (by decide +kernel)), ck_X6_afterStroke, List.mem_of_getElem? (i := 654) (by decide +kernel), List.mem_of_getElem? (i := 655) (by decide +kernel)⟩
theorem ck_X7_mark : vm_cok mX7_mark 1 := ⟨List.mem_of_getElem? (i := 70) (by decide +kernel), List.mem_of_getElem? (i := 716) (by decide +kernel), by decide +kernel, by decide⟩
theorem mv_RX1_89 : vm_MV RX1 89 mX7_mark 1 := ⟨Or.inl (List.mem_of_getElem? (i := 833) (by decide +kernel)), ck_X7_mark, List.mem_of_getElem? (i := 714) (by decide +kernel), List.mem_of_getElem? (i := 715) (by decide +kernel)⟩
theorem ms_RX1_93 : vm_MS RX1 93 mX11_shownIn 1 := ⟨Or.inr ⟨"FewKeys", List.mem_of_getElem? (i := 834) (by decide +kernel)⟩, ck_X11_shownIn, List.mem_of_getElem? (i := 623) (by decide +kernel)⟩
theorem ck_X7_append : vm_cok mX7_append 2 := ⟨List.mem_of_getElem? (i := 70) (by decide +kernel), List.mem_of_getElem? (i := 720) (by decide +kernel), by decide +kernel, by decide⟩
theorem mv_RX1_97 : vm_MV RX1 97 mX7_append 2 := ⟨Or.inl (List.mem_of_getElem? (i := 835) (by decide +kernel)), ck_X7_append, List.mem_of_getElem? (i := 718) (by decide +kernel), List.mem_of_getElem? (i := 719) (by decide +kernel)⟩
theorem mv_RX2_33 : vm_MV RX2 33 mX7_empty 0 := ⟨Or.inl (List.mem_of_getElem? (i := 751) (by decide +kernel)), ck_X7_empty, List.mem_of_getElem? (i := 703) (by decide +kernel), List.mem_of_getElem? (i := 704) (by decide +kernel)⟩
theorem ck_J7_fill_53178 : vm_cok mJ7_fill_53178 2 := ⟨List.mem_of_getElem? (i := 83) (by decide +kernel), List.mem_of_getElem? (i := 697) (by decide +kernel), by decide +kernel, by decide⟩
theorem ms_RX2_38 : vm_MS RX2 38 mJ7_fill_53178 2 := ⟨Or.inl (List.mem_of_getElem? (i := 752) (by decide +kernel)), ck_J7_fill_53178, List.mem_of_getElem? (i := 696) (by decide +kernel)⟩
theorem ck_X2_meet : vm_cok mX2_meet 2 := ⟨List.mem_of_getElem? (i := 72) (by decide +kernel), List.mem_of_getElem? (i := 756) (by decide +kernel), by decide +kernel, by decide⟩
theorem mv_RX2_49 : vm_MV RX2 49 mX2_meet 2 := ⟨Or.inl (List.mem_of_getElem? (i := 753) (by decide +kernel)), ck_X2_meet, List.mem_of_getElem? (i := 755) (by decide +kernel), List.mem_of_getElem? (i := 18) (by decide +kernel)⟩
theorem ck_X2_cheapestKey : vm_cok mX2_cheapestKey 1 := ⟨List.mem_of_getElem? (i := 72) (by decide +kernel), List.mem_of_getElem? (i := 766) (by decide +kernel), by decide +kernel, by decide⟩
theorem mv_RX2_54 : vm_MV RX2 54 mX2_cheapestKey 1 := ⟨Or.inl (List.mem_of_getElem? (i := 763) (by decide +kernel)), ck_X2_cheapestKey, List.mem_of_getElem? (i := 765) (by decide +kernel), List.mem_of_getElem? (i := 19) (by decide +kernel)⟩
theorem ms_RX2_61 : vm_MS RX2 61 mX11_at 2 := ⟨Or.inr ⟨"FewKeys", List.mem_of_getElem? (i := 760) (by decide +kernel)⟩, ck_X11_at, List.mem_of_getElem? (i := 496) (by decide +kernel)⟩
theorem ms_RX2_65 : vm_MS RX2 65 mX11_put 3 := ⟨Or.inr ⟨"FewKeys", List.mem_of_getElem? (i := 761) (by decide +kernel)⟩, ck_X11_put, List.mem_of_getElem? (i := 599) (by decide +kernel)⟩
theorem mv_RX2_69 : vm_MV RX2 69 mX6_afterStroke 2 := ⟨Or.inl (List.mem_of_getElem? (i := 767) (by decide +kernel)), ck_X6_afterStroke, List.mem_of_getElem? (i := 654) (by decide +kernel), List.mem_of_getElem? (i := 655) (by decide +kernel)⟩
theorem mv_RX2_85 : vm_MV RX2 85 mX7_mark 1 := ⟨Or.inl (List.mem_of_getElem? (i := 757) (by decide +kernel)), ck_X7_mark, List.mem_of_getElem? (i := 714) (by decide +kernel), List.mem_of_getElem? (i := 715) (by decide +kernel)⟩
theorem mv_RX2_89 : vm_MV RX2 89 mX7_append 2 := ⟨Or.inl (List.mem_of_getElem? (i := 758) (by decide +kernel)), ck_X7_append, List.mem_of_getElem? (i := 718) (by decide +kernel), List.mem_of_getElem? (i := 719) (by decide +kernel)⟩
theorem ms_RX2_92 : vm_MS RX2 92 mX11_shownIn 1 := ⟨Or.inr ⟨"FewKeys", List.mem_of_getElem? (i := 759) (by decide +kernel)⟩, ck_X11_shownIn, List.mem_of_getElem? (i := 623) (by decide +kernel)⟩
theorem ck_X3_worthOfKey : vm_cok mX3_worthOfKey 5 := ⟨List.mem_of_getElem? (i := 76) (by decide +kernel), List.mem_of_getElem? (i := 932) (by decide +kernel), by decide +kernel, by decide⟩
theorem ms_RX3_23 : vm_MS RX3 23 mX3_worthOfKey 5 := ⟨Or.inl (List.mem_of_getElem? (i := 930) (by decide +kernel)), ck_X3_worthOfKey, List.mem_of_getElem? (i := 931) (by decide +kernel)⟩
theorem ck_J9_max_7cf53 : vm_cok mJ9_max_7cf53 2 := ⟨List.mem_of_getElem? (i := 82) (by decide +kernel), List.mem_of_getElem? (i := 940) (by decide +kernel), by decide +kernel, by decide⟩
theorem ms_RX3_27 : vm_MS RX3 27 mJ9_max_7cf53 2 := ⟨Or.inl (List.mem_of_getElem? (i := 938) (by decide +kernel)), ck_J9_max_7cf53, List.mem_of_getElem? (i := 939) (by decide +kernel)⟩
theorem mv_RX3_33 : vm_MV RX3 33 mX6_afterStroke 2 := ⟨Or.inl (List.mem_of_getElem? (i := 933) (by decide +kernel)), ck_X6_afterStroke, List.mem_of_getElem? (i := 654) (by decide +kernel), List.mem_of_getElem? (i := 655) (by decide +kernel)⟩
theorem ms_RX3_36 : vm_MS RX3 36 mX11_shownIn 1 := ⟨Or.inr ⟨"FewKeys", List.mem_of_getElem? (i := 934) (by decide +kernel)⟩, ck_X11_shownIn, List.mem_of_getElem? (i := 623) (by decide +kernel)⟩
theorem ck_X3_worth : vm_cok mX3_worth 4 := ⟨List.mem_of_getElem? (i := 76) (by decide +kernel), List.mem_of_getElem? (i := 937) (by decide +kernel), by decide +kernel, by decide⟩
theorem ms_RX3_40 : vm_MS RX3 40 mX3_worth 4 := ⟨Or.inl (List.mem_of_getElem? (i := 935) (by decide +kernel)), ck_X3_worth, List.mem_of_getElem? (i := 936) (by decide +kernel)⟩
theorem mv_RX4_22 : vm_MV RX4 22 mX7_empty 0 := ⟨Or.inl (List.mem_of_getElem? (i := 860) (by decide +kernel)), ck_X7_empty, List.mem_of_getElem? (i := 703) (by decide +kernel), List.mem_of_getElem? (i := 704) (by decide +kernel)⟩
theorem ms_RX4_34 : vm_MS RX4 34 mJ7_fill_53178 2 := ⟨Or.inl (List.mem_of_getElem? (i := 861) (by decide +kernel)), ck_J7_fill_53178, List.mem_of_getElem? (i := 696) (by decide +kernel)⟩
theorem ck_X6_placeOf : vm_cok mX6_placeOf 1 := ⟨List.mem_of_getElem? (i := 67) (by decide +kernel), List.mem_of_getElem? (i := 865) (by decide +kernel), by decide +kernel, by decide⟩
theorem mv_RX4_40 : vm_MV RX4 40 mX6_placeOf 1 := ⟨Or.inl (List.mem_of_getElem? (i := 862) (by decide +kernel)), ck_X6_placeOf, List.mem_of_getElem? (i := 863) (by decide +kernel), List.mem_of_getElem? (i := 864) (by decide +kernel)⟩
theorem ms_RX4_46 : vm_MS RX4 46 mX11_put 3 := ⟨Or.inr ⟨"FewKeys", List.mem_of_getElem? (i := 866) (by decide +kernel)⟩, ck_X11_put, List.mem_of_getElem? (i := 599) (by decide +kernel)⟩
theorem ck_X4_goOn : vm_cok mX4_goOn 3 := ⟨List.mem_of_getElem? (i := 74) (by decide +kernel), List.mem_of_getElem? (i := 870) (by decide +kernel), by decide +kernel, by decide⟩
theorem mv_RX4_50 : vm_MV RX4 50 mX4_goOn 3 := ⟨Or.inl (List.mem_of_getElem? (i := 867) (by decide +kernel)), ck_X4_goOn, List.mem_of_getElem? (i := 869) (by decide +kernel), List.mem_of_getElem? (i := 25) (by decide +kernel)⟩
theorem ms_RX4_54 : vm_MS RX4 54 mX11_shownIn 1 := ⟨Or.inr ⟨"FewKeys", List.mem_of_getElem? (i := 888) (by decide +kernel)⟩, ck_X11_shownIn, List.mem_of_getElem? (i := 623) (by decide +kernel)⟩
theorem ck_X4_countLast : vm_cok mX4_countLast 3 := ⟨List.mem_of_getElem? (i := 74) (by decide +kernel), List.mem_of_getElem? (i := 892) (by decide +kernel), by decide +kernel, by decide⟩
theorem mv_RX4_57 : vm_MV RX4 57 mX4_countLast 3 := ⟨Or.inl (List.mem_of_getElem? (i := 889) (by decide +kernel)), ck_X4_countLast, List.mem_of_getElem? (i := 891) (by decide +kernel), List.mem_of_getElem? (i := 27) (by decide +kernel)⟩
theorem ck_X6_places : vm_cok mX6_places 0 := ⟨List.mem_of_getElem? (i := 67) (by decide +kernel), List.mem_of_getElem? (i := 874) (by decide +kernel), by decide +kernel, by decide⟩
theorem mv_RX4_61 : vm_MV RX4 61 mX6_places 0 := ⟨Or.inl (List.mem_of_getElem? (i := 871) (by decide +kernel)), ck_X6_places, List.mem_of_getElem? (i := 872) (by decide +kernel), List.mem_of_getElem? (i := 873) (by decide +kernel)⟩
theorem ck_J9_min_7cf53 : vm_cok mJ9_min_7cf53 2 := ⟨List.mem_of_getElem? (i := 82) (by decide +kernel), List.mem_of_getElem? (i := 877) (by decide +kernel), by decide +kernel, by decide⟩
theorem ms_RX4_65 : vm_MS RX4 65 mJ9_min_7cf53 2 := ⟨Or.inl (List.mem_of_getElem? (i := 875) (by decide +kernel)), ck_J9_min_7cf53, List.mem_of_getElem? (i := 876) (by decide +kernel)⟩
theorem ck_X6_stateAt : vm_cok mX6_stateAt 1 := ⟨List.mem_of_getElem? (i := 67) (by decide +kernel), List.mem_of_getElem? (i := 881) (by decide +kernel), by decide +kernel, by decide⟩
theorem mv_RX4_71 : vm_MV RX4 71 mX6_stateAt 1 := ⟨Or.inl (List.mem_of_getElem? (i := 878) (by decide +kernel)), ck_X6_stateAt, List.mem_of_getElem? (i := 879) (by decide +kernel), List.mem_of_getElem? (i := 880) (by decide +kernel)⟩
theorem mv_RX4_77 : vm_MV RX4 77 mX6_afterStroke 2 := ⟨Or.inl (List.mem_of_getElem? (i := 882) (by decide +kernel)), ck_X6_afterStroke, List.mem_of_getElem? (i := 654) (by decide +kernel), List.mem_of_getElem? (i := 655) (by decide +kernel)⟩
theorem ck_X4_join : vm_cok mX4_join 3 := ⟨List.mem_of_getElem? (i := 74) (by decide +kernel), List.mem_of_getElem? (i := 886) (by decide +kernel), by decide +kernel, by decide⟩
theorem mv_RX4_80 : vm_MV RX4 80 mX4_join 3 := ⟨Or.inl (List.mem_of_getElem? (i := 883) (by decide +kernel)), ck_X4_join, List.mem_of_getElem? (i := 885) (by decide +kernel), List.mem_of_getElem? (i := 26) (by decide +kernel)⟩
theorem ms_RX4_83 : vm_MS RX4 83 mX11_at 2 := ⟨Or.inr ⟨"FewKeys", List.mem_of_getElem? (i := 887) (by decide +kernel)⟩, ck_X11_at, List.mem_of_getElem? (i := 496) (by decide +kernel)⟩
theorem ms_RX5_32 : vm_MS RX5 32 mX11_at 2 := ⟨Or.inr ⟨"FewKeys", List.mem_of_getElem? (i := 678) (by decide +kernel)⟩, ck_X11_at, List.mem_of_getElem? (i := 496) (by decide +kernel)⟩
theorem ms_RX5_36 : vm_MS RX5 36 mX11_put 3 := ⟨Or.inr ⟨"FewKeys", List.mem_of_getElem? (i := 992) (by decide +kernel)⟩, ck_X11_put, List.mem_of_getElem? (i := 599) (by decide +kernel)⟩
theorem mv_RX5_40 : vm_MV RX5 40 mX6_afterStroke 2 := ⟨Or.inl (List.mem_of_getElem? (i := 653) (by decide +kernel)), ck_X6_afterStroke, List.mem_of_getElem? (i := 654) (by decide +kernel), List.mem_of_getElem? (i := 655) (by decide +kernel)⟩
theorem ck_X6_setDial : vm_cok mX6_setDial 4 := ⟨List.mem_of_getElem? (i := 67) (by decide +kernel), List.mem_of_getElem? (i := 490) (by decide +kernel), by decide +kernel, by decide⟩
theorem mv_RX6_40 : vm_MV RX6 40 mX6_setDial 4 := ⟨Or.inl (List.mem_of_getElem? (i := 487) (by decide +kernel)), ck_X6_setDial, List.mem_of_getElem? (i := 488) (by decide +kernel), List.mem_of_getElem? (i := 489) (by decide +kernel)⟩
theorem ms_RX6_44 : vm_MS RX6 44 mX11_put 3 := ⟨Or.inr ⟨"FewKeys", List.mem_of_getElem? (i := 598) (by decide +kernel)⟩, ck_X11_put, List.mem_of_getElem? (i := 599) (by decide +kernel)⟩
theorem ms_RX6_48 : vm_MS RX6 48 mX11_at 2 := ⟨Or.inr ⟨"FewKeys", List.mem_of_getElem? (i := 807) (by decide +kernel)⟩, ck_X11_at, List.mem_of_getElem? (i := 496) (by decide +kernel)⟩
theorem ck_X6_afterFigure : vm_cok mX6_afterFigure 2 := ⟨List.mem_of_getElem? (i := 67) (by decide +kernel), List.mem_of_getElem? (i := 660) (by decide +kernel), by decide +kernel, by decide⟩
theorem mv_RX6_52 : vm_MV RX6 52 mX6_afterFigure 2 := ⟨Or.inl (List.mem_of_getElem? (i := 657) (by decide +kernel)), ck_X6_afterFigure, List.mem_of_getElem? (i := 659) (by decide +kernel), List.mem_of_getElem? (i := 12) (by decide +kernel)⟩
theorem ck_X6_afterSign : vm_cok mX6_afterSign 2 := ⟨List.mem_of_getElem? (i := 67) (by decide +kernel), List.mem_of_getElem? (i := 667) (by decide +kernel), by decide +kernel, by decide⟩
theorem mv_RX6_56 : vm_MV RX6 56 mX6_afterSign 2 := ⟨Or.inl (List.mem_of_getElem? (i := 664) (by decide +kernel)), ck_X6_afterSign, List.mem_of_getElem? (i := 666) (by decide +kernel), List.mem_of_getElem? (i := 13) (by decide +kernel)⟩
theorem ms_RX6_59 : vm_MS RX6 59 mX11_signIn 1 := ⟨Or.inr ⟨"FewKeys", List.mem_of_getElem? (i := 668) (by decide +kernel)⟩, ck_X11_signIn, List.mem_of_getElem? (i := 626) (by decide +kernel)⟩
theorem ms_RX6_63 : vm_MS RX6 63 mX11_shownIn 1 := ⟨Or.inr ⟨"FewKeys", List.mem_of_getElem? (i := 662) (by decide +kernel)⟩, ck_X11_shownIn, List.mem_of_getElem? (i := 623) (by decide +kernel)⟩
theorem ms_RX6_66 : vm_MS RX6 66 mX11_heldIn 1 := ⟨Or.inr ⟨"FewKeys", List.mem_of_getElem? (i := 669) (by decide +kernel)⟩, ck_X11_heldIn, List.mem_of_getElem? (i := 629) (by decide +kernel)⟩
theorem ck_X6_reckon : vm_cok mX6_reckon 3 := ⟨List.mem_of_getElem? (i := 67) (by decide +kernel), List.mem_of_getElem? (i := 673) (by decide +kernel), by decide +kernel, by decide⟩
theorem mv_RX6_69 : vm_MV RX6 69 mX6_reckon 3 := ⟨Or.inl (List.mem_of_getElem? (i := 670) (by decide +kernel)), ck_X6_reckon, List.mem_of_getElem? (i := 672) (by decide +kernel), List.mem_of_getElem? (i := 14) (by decide +kernel)⟩
theorem ms_RX6_74 : vm_MS RX6 74 mX11_isTyped 1 := ⟨Or.inr ⟨"FewKeys", List.mem_of_getElem? (i := 661) (by decide +kernel)⟩, ck_X11_isTyped, List.mem_of_getElem? (i := 632) (by decide +kernel)⟩
theorem ck_J9_floorMod_7cf53 : vm_cok mJ9_floorMod_7cf53 2 := ⟨List.mem_of_getElem? (i := 82) (by decide +kernel), List.mem_of_getElem? (i := 676) (by decide +kernel), by decide +kernel, by decide⟩
theorem ms_RX6_79 : vm_MS RX6 79 mJ9_floorMod_7cf53 2 := ⟨Or.inl (List.mem_of_getElem? (i := 674) (by decide +kernel)), ck_J9_floorMod_7cf53, List.mem_of_getElem? (i := 675) (by decide +kernel)⟩
theorem ck_J7_fill_d0a16 : vm_cok mJ7_fill_d0a16 2 := ⟨List.mem_of_getElem? (i := 83) (by decide +kernel), List.mem_of_getElem? (i := 708) (by decide +kernel), by decide +kernel, by decide⟩
theorem ms_RX7_30 : vm_MS RX7 30 mJ7_fill_d0a16 2 := ⟨Or.inl (List.mem_of_getElem? (i := 706) (by decide +kernel)), ck_J7_fill_d0a16, List.mem_of_getElem? (i := 707) (by decide +kernel)⟩
theorem ms_RX8_50 : vm_MS RX8 50 mJ7_fill_53178 2 := ⟨Or.inl (List.mem_of_getElem? (i := 695) (by decide +kernel)), ck_J7_fill_53178, List.mem_of_getElem? (i := 696) (by decide +kernel)⟩
theorem ck_X8_spread : vm_cok mX8_spread 2 := ⟨List.mem_of_getElem? (i := 71) (by decide +kernel), List.mem_of_getElem? (i := 701) (by decide +kernel), by decide +kernel, by decide⟩
theorem mv_RX8_61 : vm_MV RX8 61 mX8_spread 2 := ⟨Or.inl (List.mem_of_getElem? (i := 698) (by decide +kernel)), ck_X8_spread, List.mem_of_getElem? (i := 700) (by decide +kernel), List.mem_of_getElem? (i := 16) (by decide +kernel)⟩
theorem mv_RX8_65 : vm_MV RX8 65 mX8_learn 2 := ⟨Or.inl (List.mem_of_getElem? (i := 737) (by decide +kernel)), ck_X8_learn, List.mem_of_getElem? (i := 692) (by decide +kernel), List.mem_of_getElem? (i := 693) (by decide +kernel)⟩
theorem ms_RX8_68 : vm_MS RX8 68 mX11_at 2 := ⟨Or.inr ⟨"FewKeys", List.mem_of_getElem? (i := 723) (by decide +kernel)⟩, ck_X11_at, List.mem_of_getElem? (i := 496) (by decide +kernel)⟩
theorem mv_RX8_72 : vm_MV RX8 72 mX8_to 1 := ⟨Or.inl (List.mem_of_getElem? (i := 742) (by decide +kernel)), ck_X8_to, List.mem_of_getElem? (i := 726) (by decide +kernel), List.mem_of_getElem? (i := 727) (by decide +kernel)⟩
theorem mv_RX8_79 : vm_MV RX8 79 mX7_empty 0 := ⟨Or.inl (List.mem_of_getElem? (i := 702) (by decide +kernel)), ck_X7_empty, List.mem_of_getElem? (i := 703) (by decide +kernel), List.mem_of_getElem? (i := 704) (by decide +kernel)⟩
theorem ck_X8_meet : vm_cok mX8_meet 3 := ⟨List.mem_of_getElem? (i := 71) (by decide +kernel), List.mem_of_getElem? (i := 712) (by decide +kernel), by decide +kernel, by decide⟩
theorem mv_RX8_82 : vm_MV RX8 82 mX8_meet 3 := ⟨Or.inl (List.mem_of_getElem? (i := 709) (by decide +kernel)), ck_X8_meet, List.mem_of_getElem? (i := 711) (by decide +kernel), List.mem_of_getElem? (i := 17) (by decide +kernel)⟩
theorem mv_RX8_96 : vm_MV RX8 96 mX6_afterStroke 2 := ⟨Or.inl (List.mem_of_getElem? (i := 724) (by decide +kernel)), ck_X6_afterStroke, List.mem_of_getElem? (i := 654) (by decide +kernel), List.mem_of_getElem? (i := 655) (by decide +kernel)⟩
theorem mv_RX8_100 : vm_MV RX8 100 mX7_mark 1 := ⟨Or.inl (List.mem_of_getElem? (i := 713) (by decide +kernel)), ck_X7_mark, List.mem_of_getElem? (i := 714) (by decide +kernel), List.mem_of_getElem? (i := 715) (by decide +kernel)⟩
theorem mv_RX8_104 : vm_MV RX8 104 mX7_append 2 := ⟨Or.inl (List.mem_of_getElem? (i := 717) (by decide +kernel)), ck_X7_append, List.mem_of_getElem? (i := 718) (by decide +kernel), List.mem_of_getElem? (i := 719) (by decide +kernel)⟩
theorem ms_RX8_108 : vm_MS RX8 108 mX11_shownIn 1 := ⟨Or.inr ⟨"FewKeys", List.mem_of_getElem? (i := 721) (by decide +kernel)⟩, ck_X11_shownIn, List.mem_of_getElem? (i := 623) (by decide +kernel)⟩
theorem ck_X8_together : vm_cok mX8_together 2 := ⟨List.mem_of_getElem? (i := 71) (by decide +kernel), List.mem_of_getElem? (i := 801) (by decide +kernel), by decide +kernel, by decide⟩
theorem mv_RX8_111 : vm_MV RX8 111 mX8_together 2 := ⟨Or.inl (List.mem_of_getElem? (i := 798) (by decide +kernel)), ck_X8_together, List.mem_of_getElem? (i := 800) (by decide +kernel), List.mem_of_getElem? (i := 20) (by decide +kernel)⟩
theorem ck_X6_hasKey : vm_cok mX6_hasKey 2 := ⟨List.mem_of_getElem? (i := 67) (by decide +kernel), List.mem_of_getElem? (i := 806) (by decide +kernel), by decide +kernel, by decide⟩
theorem mv_RX8_118 : vm_MV RX8 118 mX6_hasKey 2 := ⟨Or.inl (List.mem_of_getElem? (i := 803) (by decide +kernel)), ck_X6_hasKey, List.mem_of_getElem? (i := 804) (by decide +kernel), List.mem_of_getElem? (i := 805) (by decide +kernel)⟩
theorem ck_X6_addKey : vm_cok mX6_addKey 4 := ⟨List.mem_of_getElem? (i := 67) (by decide +kernel), List.mem_of_getElem? (i := 597) (by decide +kernel), by decide +kernel, by decide⟩
theorem mv_RX8_122 : vm_MV RX8 122 mX6_addKey 4 := ⟨Or.inl (List.mem_of_getElem? (i := 808) (by decide +kernel)), ck_X6_addKey, List.mem_of_getElem? (i := 595) (by decide +kernel), List.mem_of_getElem? (i := 596) (by decide +kernel)⟩
theorem ck_X6_dropKey : vm_cok mX6_dropKey 0 := ⟨List.mem_of_getElem? (i := 67) (by decide +kernel), List.mem_of_getElem? (i := 812) (by decide +kernel), by decide +kernel, by decide⟩
theorem mv_RX8_126 : vm_MV RX8 126 mX6_dropKey 0 := ⟨Or.inl (List.mem_of_getElem? (i := 809) (by decide +kernel)), ck_X6_dropKey, List.mem_of_getElem? (i := 810) (by decide +kernel), List.mem_of_getElem? (i := 811) (by decide +kernel)⟩
theorem ms_RX8_137 : vm_MS RX8 137 mX11_put 3 := ⟨Or.inr ⟨"FewKeys", List.mem_of_getElem? (i := 802) (by decide +kernel)⟩, ck_X11_put, List.mem_of_getElem? (i := 599) (by decide +kernel)⟩
theorem ck_X6_empty : vm_cok mX6_empty 0 := ⟨List.mem_of_getElem? (i := 67) (by decide +kernel), List.mem_of_getElem? (i := 486) (by decide +kernel), by decide +kernel, by decide⟩
theorem mv_RX9_37 : vm_MV RX9 37 mX6_empty 0 := ⟨Or.inl (List.mem_of_getElem? (i := 483) (by decide +kernel)), ck_X6_empty, List.mem_of_getElem? (i := 484) (by decide +kernel), List.mem_of_getElem? (i := 485) (by decide +kernel)⟩
theorem ck_X9_skipBlanks : vm_cok mX9_skipBlanks 0 := ⟨List.mem_of_getElem? (i := 66) (by decide +kernel), List.mem_of_getElem? (i := 494) (by decide +kernel), by decide +kernel, by decide⟩
theorem mv_RX9_42 : vm_MV RX9 42 mX9_skipBlanks 0 := ⟨Or.inl (List.mem_of_getElem? (i := 491) (by decide +kernel)), ck_X9_skipBlanks, List.mem_of_getElem? (i := 493) (by decide +kernel), List.mem_of_getElem? (i := 0) (by decide +kernel)⟩
theorem ck_X9_readDial : vm_cok mX9_readDial 1 := ⟨List.mem_of_getElem? (i := 66) (by decide +kernel), List.mem_of_getElem? (i := 501) (by decide +kernel), by decide +kernel, by decide⟩
theorem mv_RX9_45 : vm_MV RX9 45 mX9_readDial 1 := ⟨Or.inl (List.mem_of_getElem? (i := 498) (by decide +kernel)), ck_X9_readDial, List.mem_of_getElem? (i := 500) (by decide +kernel), List.mem_of_getElem? (i := 1) (by decide +kernel)⟩
theorem ck_X9_readKey : vm_cok mX9_readKey 1 := ⟨List.mem_of_getElem? (i := 66) (by decide +kernel), List.mem_of_getElem? (i := 581) (by decide +kernel), by decide +kernel, by decide⟩
theorem mv_RX9_49 : vm_MV RX9 49 mX9_readKey 1 := ⟨Or.inl (List.mem_of_getElem? (i := 578) (by decide +kernel)), ck_X9_readKey, List.mem_of_getElem? (i := 580) (by decide +kernel), List.mem_of_getElem? (i := 8) (by decide +kernel)⟩
theorem ck_X9_takeWord : vm_cok mX9_takeWord 0 := ⟨List.mem_of_getElem? (i := 66) (by decide +kernel), List.mem_of_getElem? (i := 505) (by decide +kernel), by decide +kernel, by decide⟩
theorem mv_RX9_52 : vm_MV RX9 52 mX9_takeWord 0 := ⟨Or.inl (List.mem_of_getElem? (i := 502) (by decide +kernel)), ck_X9_takeWord, List.mem_of_getElem? (i := 504) (by decide +kernel), List.mem_of_getElem? (i := 2) (by decide +kernel)⟩
theorem ck_X9_wordIs : vm_cok mX9_wordIs 1 := ⟨List.mem_of_getElem? (i := 66) (by decide +kernel), List.mem_of_getElem? (i := 514) (by decide +kernel), by decide +kernel, by decide⟩
theorem mv_RX9_57 : vm_MV RX9 57 mX9_wordIs 1 := ⟨Or.inl (List.mem_of_getElem? (i := 511) (by decide +kernel)), ck_X9_wordIs, List.mem_of_getElem? (i := 513) (by decide +kernel), List.mem_of_getElem? (i := 4) (by decide +kernel)⟩
theorem ck_X9_refuse : vm_cok mX9_refuse 2 := ⟨List.mem_of_getElem? (i := 66) (by decide +kernel), List.mem_of_getElem? (i := 566) (by decide +kernel), by decide +kernel, by decide⟩
theorem mv_RX9_61 : vm_MV RX9 61 mX9_refuse 2 := ⟨Or.inl (List.mem_of_getElem? (i := 563) (by decide +kernel)), ck_X9_refuse, List.mem_of_getElem? (i := 565) (by decide +kernel), List.mem_of_getElem? (i := 5) (by decide +kernel)⟩
theorem ck_X9_takeNumber : vm_cok mX9_takeNumber 2 := ⟨List.mem_of_getElem? (i := 66) (by decide +kernel), List.mem_of_getElem? (i := 572) (by decide +kernel), by decide +kernel, by decide⟩
theorem mv_RX9_69 : vm_MV RX9 69 mX9_takeNumber 2 := ⟨Or.inl (List.mem_of_getElem? (i := 569) (by decide +kernel)), ck_X9_takeNumber, List.mem_of_getElem? (i := 571) (by decide +kernel), List.mem_of_getElem? (i := 6) (by decide +kernel)⟩
theorem mv_RX9_72 : vm_MV RX9 72 mX6_setDial 4 := ⟨Or.inl (List.mem_of_getElem? (i := 573) (by decide +kernel)), ck_X6_setDial, List.mem_of_getElem? (i := 488) (by decide +kernel), List.mem_of_getElem? (i := 489) (by decide +kernel)⟩
theorem ck_X9_takeEnd : vm_cok mX9_takeEnd 0 := ⟨List.mem_of_getElem? (i := 66) (by decide +kernel), List.mem_of_getElem? (i := 577) (by decide +kernel), by decide +kernel, by decide⟩
theorem mv_RX9_76 : vm_MV RX9 76 mX9_takeEnd 0 := ⟨Or.inl (List.mem_of_getElem? (i := 574) (by decide +kernel)), ck_X9_takeEnd, List.mem_of_getElem? (i := 576) (by decide +kernel), List.mem_of_getElem? (i := 7) (by decide +kernel)⟩
theorem ck_X9_kindOfWord : vm_cok mX9_kindOfWord 0 := ⟨List.mem_of_getElem? (i := 66) (by decide +kernel), List.mem_of_getElem? (i := 585) (by decide +kernel), by decide +kernel, by decide⟩
theorem mv_RX9_80 : vm_MV RX9 80 mX9_kindOfWord 0 := ⟨Or.inl (List.mem_of_getElem? (i := 582) (by decide +kernel)), ck_X9_kindOfWord, List.mem_of_getElem? (i := 584) (by decide +kernel), List.mem_of_getElem? (i := 9) (by decide +kernel)⟩
theorem mv_RX9_93 : vm_MV RX9 93 mX6_addKey 4 := ⟨Or.inl (List.mem_of_getElem? (i := 594) (by decide +kernel)), ck_X6_addKey, List.mem_of_getElem? (i := 595) (by decide +kernel), List.mem_of_getElem? (i := 596) (by decide +kernel)⟩
theorem ms_RX9_96 : vm_MS RX9 96 mX11_at 2 := ⟨Or.inr ⟨"FewKeys", List.mem_of_getElem? (i := 495) (by decide +kernel)⟩, ck_X11_at, List.mem_of_getElem? (i := 496) (by decide +kernel)⟩
theorem ck_X9_isBetween : vm_cok mX9_isBetween 3 := ⟨List.mem_of_getElem? (i := 66) (by decide +kernel), List.mem_of_getElem? (i := 509) (by decide +kernel), by decide +kernel, by decide⟩
theorem mv_RX9_100 : vm_MV RX9 100 mX9_isBetween 3 := ⟨Or.inl (List.mem_of_getElem? (i := 506) (by decide +kernel)), ck_X9_isBetween, List.mem_of_getElem? (i := 508) (by decide +kernel), List.mem_of_getElem? (i := 3) (by decide +kernel)⟩
theorem ck_J0_length_8abf5 : vm_cok mJ0_length_8abf5 0 := ⟨List.mem_of_getElem? (i := 78) (by decide +kernel), List.mem_of_getElem? (i := 518) (by decide +kernel), by decide +kernel, by decide⟩
theorem mv_RX9_104 : vm_MV RX9 104 mJ0_length_8abf5 0 := ⟨Or.inl (List.mem_of_getElem? (i := 515) (by decide +kernel)), ck_J0_length_8abf5, List.mem_of_getElem? (i := 516) (by decide +kernel), List.mem_of_getElem? (i := 517) (by decide +kernel)⟩
theorem ck_J0_charAt_5068e : vm_cok mJ0_charAt_5068e 1 := ⟨List.mem_of_getElem? (i := 78) (by decide +kernel), List.mem_of_getElem? (i := 528) (by decide +kernel), by decide +kernel, by decide⟩
theorem mv_RX9_109 : vm_MV RX9 109 mJ0_charAt_5068e 1 := ⟨Or.inl (List.mem_of_getElem? (i := 525) (by decide +kernel)), ck_J0_charAt_5068e, List.mem_of_getElem? (i := 526) (by decide +kernel), List.mem_of_getElem? (i := 527) (by decide +kernel)⟩
theorem ms_RX10_25 : vm_MS RX10 25 mX11_put 3 := ⟨Or.inr ⟨"FewKeys", List.mem_of_getElem? (i := 907) (by decide +kernel)⟩, ck_X11_put, List.mem_of_getElem? (i := 599) (by decide +kernel)⟩
theorem ck_X10_canTell : vm_cok mX10_canTell 4 := ⟨List.mem_of_getElem? (i := 75) (by decide +kernel), List.mem_of_getElem? (i := 910) (by decide +kernel), by decide +kernel, by decide⟩
theorem ms_RX10_29 : vm_MS RX10 29 mX10_canTell 4 := ⟨Or.inl (List.mem_of_getElem? (i := 908) (by decide +kernel)), ck_X10_canTell, List.mem_of_getElem? (i := 909) (by decide +kernel)⟩
theorem ck_X10_allDiffer : vm_cok mX10_allDiffer 1 := ⟨List.mem_of_getElem? (i := 75) (by decide +kernel), List.mem_of_getElem? (i := 914) (by decide +kernel), by decide +kernel, by decide⟩
theorem mv_RX10_33 : vm_MV RX10 33 mX10_allDiffer 1 := ⟨Or.inl (List.mem_of_getElem? (i := 911) (by decide +kernel)), ck_X10_allDiffer, List.mem_of_getElem? (i := 913) (by decide +kernel), List.mem_of_getElem? (i := 28) (by decide +kernel)⟩
theorem ck_X10_strokeAll : vm_cok mX10_strokeAll 3 := ⟨List.mem_of_getElem? (i := 75) (by decide +kernel), List.mem_of_getElem? (i := 919) (by decide +kernel), by decide +kernel, by decide⟩
theorem mv_RX10_42 : vm_MV RX10 42 mX10_strokeAll 3 := ⟨Or.inl (List.mem_of_getElem? (i := 916) (by decide +kernel)), ck_X10_strokeAll, List.mem_of_getElem? (i := 918) (by decide +kernel), List.mem_of_getElem? (i := 29) (by decide +kernel)⟩
theorem ms_RX10_46 : vm_MS RX10 46 mX11_at 2 := ⟨Or.inr ⟨"FewKeys", List.mem_of_getElem? (i := 915) (by decide +kernel)⟩, ck_X11_at, List.mem_of_getElem? (i := 496) (by decide +kernel)⟩
theorem mv_RX10_50 : vm_MV RX10 50 mX6_afterStroke 2 := ⟨Or.inl (List.mem_of_getElem? (i := 920) (by decide +kernel)), ck_X6_afterStroke, List.mem_of_getElem? (i := 654) (by decide +kernel), List.mem_of_getElem? (i := 655) (by decide +kernel)⟩
theorem ms_RX10_54 : vm_MS RX10 54 mX11_shownIn 1 := ⟨Or.inr ⟨"FewKeys", List.mem_of_getElem? (i := 921) (by decide +kernel)⟩, ck_X11_shownIn, List.mem_of_getElem? (i := 623) (by decide +kernel)⟩
theorem ck_X11_feed : vm_cok mX11_feed 2 := ⟨List.mem_of_getElem? (i := 65) (by decide +kernel), List.mem_of_getElem? (i := 468) (by decide +kernel), by decide +kernel, by decide⟩
theorem mv_RL_15 : vm_MV RL 15 mX11_feed 2 := ⟨Or.inl (List.mem_of_getElem? (i := 465) (by decide +kernel)), ck_X11_feed, List.mem_of_getElem? (i := 466) (by decide +kernel), List.mem_of_getElem? (i := 467) (by decide +kernel)⟩
theorem ck_X12_feed : vm_cok mX12_feed 2 := ⟨List.mem_of_getElem? (i := 77) (by decide +kernel), List.mem_of_getElem? (i := 1132) (by decide +kernel), by decide +kernel, by decide⟩
theorem mv_RL_19 : vm_MV RL 19 mX12_feed 2 := ⟨Or.inl (List.mem_of_getElem? (i := 1129) (by decide +kernel)), ck_X12_feed, List.mem_of_getElem? (i := 1130) (by decide +kernel), List.mem_of_getElem? (i := 1131) (by decide +kernel)⟩
theorem ck_X11_reckoner : vm_cok mX11_reckoner 0 := ⟨List.mem_of_getElem? (i := 65) (by decide +kernel), List.mem_of_getElem? (i := 478) (by decide +kernel), by decide +kernel, by decide⟩
theorem mv_RL_20 : vm_MV RL 20 mX11_reckoner 0 := ⟨Or.inl (List.mem_of_getElem? (i := 475) (by decide +kernel)), ck_X11_reckoner, List.mem_of_getElem? (i := 476) (by decide +kernel), List.mem_of_getElem? (i := 477) (by decide +kernel)⟩
theorem ck_X12_reckoner : vm_cok mX12_reckoner 0 := ⟨List.mem_of_getElem? (i := 77) (by decide +kernel), List.mem_of_getElem? (i := 1142) (by decide +kernel), by decide +kernel, by decide⟩
theorem mv_RL_24 : vm_MV RL 24 mX12_reckoner 0 := ⟨Or.inl (List.mem_of_getElem? (i := 1139) (by decide +kernel)), ck_X12_reckoner, List.mem_of_getElem? (i := 1140) (by decide +kernel), List.mem_of_getElem? (i := 1141) (by decide +kernel)⟩
theorem ck_X11_fault : vm_cok mX11_fault 0 := ⟨List.mem_of_getElem? (i := 65) (by decide +kernel), List.mem_of_getElem? (i := 617) (by decide +kernel), by decide +kernel, by decide⟩
theorem mv_RL_25 : vm_MV RL 25 mX11_fault 0 := ⟨Or.inl (List.mem_of_getElem? (i := 614) (by decide +kernel)), ck_X11_fault, List.mem_of_getElem? (i := 615) (by decide +kernel), List.mem_of_getElem? (i := 616) (by decide +kernel)⟩
theorem ck_X12_fault : vm_cok mX12_fault 0 := ⟨List.mem_of_getElem? (i := 77) (by decide +kernel), List.mem_of_getElem? (i := 1203) (by decide +kernel), by decide +kernel, by decide⟩
theorem mv_RL_28 : vm_MV RL 28 mX12_fault 0 := ⟨Or.inl (List.mem_of_getElem? (i := 1200) (by decide +kernel)), ck_X12_fault, List.mem_of_getElem? (i := 1201) (by decide +kernel), List.mem_of_getElem? (i := 1202) (by decide +kernel)⟩
theorem ck_X11_told : vm_cok mX11_told 1 := ⟨List.mem_of_getElem? (i := 65) (by decide +kernel), List.mem_of_getElem? (i := 621) (by decide +kernel), by decide +kernel, by decide⟩
theorem mv_RL_29 : vm_MV RL 29 mX11_told 1 := ⟨Or.inl (List.mem_of_getElem? (i := 618) (by decide +kernel)), ck_X11_told, List.mem_of_getElem? (i := 619) (by decide +kernel), List.mem_of_getElem? (i := 620) (by decide +kernel)⟩
theorem ck_X12_told : vm_cok mX12_told 1 := ⟨List.mem_of_getElem? (i := 77) (by decide +kernel), List.mem_of_getElem? (i := 1207) (by decide +kernel), by decide +kernel, by decide⟩
theorem mv_RL_33 : vm_MV RL 33 mX12_told 1 := ⟨Or.inl (List.mem_of_getElem? (i := 1204) (by decide +kernel)), ck_X12_told, List.mem_of_getElem? (i := 1205) (by decide +kernel), List.mem_of_getElem? (i := 1206) (by decide +kernel)⟩
theorem ck_X11_key : vm_cok mX11_key 2 := ⟨List.mem_of_getElem? (i := 65) (by decide +kernel), List.mem_of_getElem? (i := 638) (by decide +kernel), by decide +kernel, by decide⟩
theorem mv_RL_34 : vm_MV RL 34 mX11_key 2 := ⟨Or.inl (List.mem_of_getElem? (i := 635) (by decide +kernel)), ck_X11_key, List.mem_of_getElem? (i := 636) (by decide +kernel), List.mem_of_getElem? (i := 637) (by decide +kernel)⟩
theorem ck_X12_key : vm_cok mX12_key 2 := ⟨List.mem_of_getElem? (i := 77) (by decide +kernel), List.mem_of_getElem? (i := 1211) (by decide +kernel), by decide +kernel, by decide⟩
theorem mv_RL_38 : vm_MV RL 38 mX12_key 2 := ⟨Or.inl (List.mem_of_getElem? (i := 1208) (by decide +kernel)), ck_X12_key, List.mem_of_getElem? (i := 1209) (by decide +kernel), List.mem_of_getElem? (i := 1210) (by decide +kernel)⟩
theorem ck_X11_strike : vm_cok mX11_strike 1 := ⟨List.mem_of_getElem? (i := 65) (by decide +kernel), List.mem_of_getElem? (i := 648) (by decide +kernel), by decide +kernel, by decide⟩
theorem mv_RL_39 : vm_MV RL 39 mX11_strike 1 := ⟨Or.inl (List.mem_of_getElem? (i := 645) (by decide +kernel)), ck_X11_strike, List.mem_of_getElem? (i := 646) (by decide +kernel), List.mem_of_getElem? (i := 647) (by decide +kernel)⟩
theorem ck_X12_strike : vm_cok mX12_strike 1 := ⟨List.mem_of_getElem? (i := 77) (by decide +kernel), List.mem_of_getElem? (i := 1216) (by decide +kernel), by decide +kernel, by decide⟩
theorem mv_RL_42 : vm_MV RL 42 mX12_strike 1 := ⟨Or.inl (List.mem_of_getElem? (i := 1213) (by decide +kernel)), ck_X12_strike, List.mem_of_getElem? (i := 1214) (by decide +kernel), List.mem_of_getElem? (i := 1215) (by decide +kernel)⟩
theorem ck_X11_begin : vm_cok mX11_begin 0 := ⟨List.mem_of_getElem? (i := 65) (by decide +kernel), List.mem_of_getElem? (i := 682) (by decide +kernel), by decide +kernel, by decide⟩
theorem mv_RL_43 : vm_MV RL 43 mX11_begin 0 := ⟨Or.inl (List.mem_of_getElem? (i := 679) (by decide +kernel)), ck_X11_begin, List.mem_of_getElem? (i := 680) (by decide +kernel), List.mem_of_getElem? (i := 681) (by decide +kernel)⟩
theorem ck_X12_begin : vm_cok mX12_begin 0 := ⟨List.mem_of_getElem? (i := 77) (by decide +kernel), List.mem_of_getElem? (i := 1236) (by decide +kernel), by decide +kernel, by decide⟩
theorem mv_RL_46 : vm_MV RL 46 mX12_begin 0 := ⟨Or.inl (List.mem_of_getElem? (i := 1233) (by decide +kernel)), ck_X12_begin, List.mem_of_getElem? (i := 1234) (by decide +kernel), List.mem_of_getElem? (i := 1235) (by decide +kernel)⟩
theorem ck_X11_fewest : vm_cok mX11_fewest 1 := ⟨List.mem_of_getElem? (i := 65) (by decide +kernel), List.mem_of_getElem? (i := 686) (by decide +kernel), by decide +kernel, by decide⟩
theorem mv_RL_47 : vm_MV RL 47 mX11_fewest 1 := ⟨Or.inl (List.mem_of_getElem? (i := 683) (by decide +kernel)), ck_X11_fewest, List.mem_of_getElem? (i := 684) (by decide +kernel), List.mem_of_getElem? (i := 685) (by decide +kernel)⟩
theorem ck_X12_fewest : vm_cok mX12_fewest 1 := ⟨List.mem_of_getElem? (i := 77) (by decide +kernel), List.mem_of_getElem? (i := 1240) (by decide +kernel), by decide +kernel, by decide⟩
theorem mv_RL_50 : vm_MV RL 50 mX12_fewest 1 := ⟨Or.inl (List.mem_of_getElem? (i := 1237) (by decide +kernel)), ck_X12_fewest, List.mem_of_getElem? (i := 1238) (by decide +kernel), List.mem_of_getElem? (i := 1239) (by decide +kernel)⟩
theorem ck_X11_way : vm_cok mX11_way 2 := ⟨List.mem_of_getElem? (i := 65) (by decide +kernel), List.mem_of_getElem? (i := 732) (by decide +kernel), by decide +kernel, by decide⟩
theorem mv_RL_51 : vm_MV RL 51 mX11_way 2 := ⟨Or.inl (List.mem_of_getElem? (i := 729) (by decide +kernel)), ck_X11_way, List.mem_of_getElem? (i := 730) (by decide +kernel), List.mem_of_getElem? (i := 731) (by decide +kernel)⟩
theorem ck_X12_way : vm_cok mX12_way 2 := ⟨List.mem_of_getElem? (i := 77) (by decide +kernel), List.mem_of_getElem? (i := 1272) (by decide +kernel), by decide +kernel, by decide⟩
theorem mv_RL_54 : vm_MV RL 54 mX12_way 2 := ⟨Or.inl (List.mem_of_getElem? (i := 1269) (by decide +kernel)), ck_X12_way, List.mem_of_getElem? (i := 1270) (by decide +kernel), List.mem_of_getElem? (i := 1271) (by decide +kernel)⟩
theorem ck_X11_least : vm_cok mX11_least 1 := ⟨List.mem_of_getElem? (i := 65) (by decide +kernel), List.mem_of_getElem? (i := 746) (by decide +kernel), by decide +kernel, by decide⟩
theorem mv_RL_55 : vm_MV RL 55 mX11_least 1 := ⟨Or.inl (List.mem_of_getElem? (i := 743) (by decide +kernel)), ck_X11_least, List.mem_of_getElem? (i := 744) (by decide +kernel), List.mem_of_getElem? (i := 745) (by decide +kernel)⟩
theorem ck_X12_least : vm_cok mX12_least 1 := ⟨List.mem_of_getElem? (i := 77) (by decide +kernel), List.mem_of_getElem? (i := 1276) (by decide +kernel), by decide +kernel, by decide⟩
theorem mv_RL_58 : vm_MV RL 58 mX12_least 1 := ⟨Or.inl (List.mem_of_getElem? (i := 1273) (by decide +kernel)), ck_X12_least, List.mem_of_getElem? (i := 1274) (by decide +kernel), List.mem_of_getElem? (i := 1275) (by decide +kernel)⟩
theorem ck_X11_never : vm_cok mX11_never 1 := ⟨List.mem_of_getElem? (i := 65) (by decide +kernel), List.mem_of_getElem? (i := 771) (by decide +kernel), by decide +kernel, by decide⟩
theorem mv_RL_59 : vm_MV RL 59 mX11_never 1 := ⟨Or.inl (List.mem_of_getElem? (i := 768) (by decide +kernel)), ck_X11_never, List.mem_of_getElem? (i := 769) (by decide +kernel), List.mem_of_getElem? (i := 770) (by decide +kernel)⟩
theorem ck_X12_never : vm_cok mX12_never 1 := ⟨List.mem_of_getElem? (i := 77) (by decide +kernel), List.mem_of_getElem? (i := 1292) (by decide +kernel), by decide +kernel, by decide⟩
theorem mv_RL_62 : vm_MV RL 62 mX12_never 1 := ⟨Or.inl (List.mem_of_getElem? (i := 1289) (by decide +kernel)), ck_X12_never, List.mem_of_getElem? (i := 1290) (by decide +kernel), List.mem_of_getElem? (i := 1291) (by decide +kernel)⟩
theorem ck_X11_farthest : vm_cok mX11_farthest 1 := ⟨List.mem_of_getElem? (i := 65) (by decide +kernel), List.mem_of_getElem? (i := 775) (by decide +kernel), by decide +kernel, by decide⟩
theorem mv_RL_63 : vm_MV RL 63 mX11_farthest 1 := ⟨Or.inl (List.mem_of_getElem? (i := 772) (by decide +kernel)), ck_X11_farthest, List.mem_of_getElem? (i := 773) (by decide +kernel), List.mem_of_getElem? (i := 774) (by decide +kernel)⟩
theorem ck_X12_farthest : vm_cok mX12_farthest 1 := ⟨List.mem_of_getElem? (i := 77) (by decide +kernel), List.mem_of_getElem? (i := 1296) (by decide +kernel), by decide +kernel, by decide⟩
theorem mv_RL_66 : vm_MV RL 66 mX12_farthest 1 := ⟨Or.inl (List.mem_of_getElem? (i := 1293) (by decide +kernel)), ck_X12_farthest, List.mem_of_getElem? (i := 1294) (by decide +kernel), List.mem_of_getElem? (i := 1295) (by decide +kernel)⟩
theorem ck_X11_target : vm_cok mX11_target 1 := ⟨List.mem_of_getElem? (i := 65) (by decide +kernel), List.mem_of_getElem? (i := 780) (by decide +kernel), by decide +kernel, by decide⟩
theorem mv_RL_67 : vm_MV RL 67 mX11_target 1 := ⟨Or.inl (List.mem_of_getElem? (i := 777) (by decide +kernel)), ck_X11_target, List.mem_of_getElem? (i := 778) (by decide +kernel), List.mem_of_getElem? (i := 779) (by decide +kernel)⟩
theorem ck_X12_target : vm_cok mX12_target 1 := ⟨List.mem_of_getElem? (i := 77) (by decide +kernel), List.mem_of_getElem? (i := 1301) (by decide +kernel), by decide +kernel, by decide⟩
theorem mv_RL_70 : vm_MV RL 70 mX12_target 1 := ⟨Or.inl (List.mem_of_getElem? (i := 1298) (by decide +kernel)), ck_X12_target, List.mem_of_getElem? (i := 1299) (by decide +kernel), List.mem_of_getElem? (i := 1300) (by decide +kernel)⟩
theorem ck_X11_targetAt : vm_cok mX11_targetAt 1 := ⟨List.mem_of_getElem? (i := 65) (by decide +kernel), List.mem_of_getElem? (i := 785) (by decide +kernel), by decide +kernel, by decide⟩
theorem mv_RL_71 : vm_MV RL 71 mX11_targetAt 1 := ⟨Or.inl (List.mem_of_getElem? (i := 782) (by decide +kernel)), ck_X11_targetAt, List.mem_of_getElem? (i := 783) (by decide +kernel), List.mem_of_getElem? (i := 784) (by decide +kernel)⟩
theorem ck_X12_targetAt : vm_cok mX12_targetAt 1 := ⟨List.mem_of_getElem? (i := 77) (by decide +kernel), List.mem_of_getElem? (i := 1305) (by decide +kernel), by decide +kernel, by decide⟩
theorem mv_RL_74 : vm_MV RL 74 mX12_targetAt 1 := ⟨Or.inl (List.mem_of_getElem? (i := 1302) (by decide +kernel)), ck_X12_targetAt, List.mem_of_getElem? (i := 1303) (by decide +kernel), List.mem_of_getElem? (i := 1304) (by decide +kernel)⟩
theorem ck_X11_forget : vm_cok mX11_forget 0 := ⟨List.mem_of_getElem? (i := 65) (by decide +kernel), List.mem_of_getElem? (i := 789) (by decide +kernel), by decide +kernel, by decide⟩
theorem mv_RL_75 : vm_MV RL 75 mX11_forget 0 := ⟨Or.inl (List.mem_of_getElem? (i := 786) (by decide +kernel)), ck_X11_forget, List.mem_of_getElem? (i := 787) (by decide +kernel), List.mem_of_getElem? (i := 788) (by decide +kernel)⟩
theorem ck_X12_forget : vm_cok mX12_forget 0 := ⟨List.mem_of_getElem? (i := 77) (by decide +kernel), List.mem_of_getElem? (i := 1309) (by decide +kernel), by decide +kernel, by decide⟩
theorem mv_RL_78 : vm_MV RL 78 mX12_forget 0 := ⟨Or.inl (List.mem_of_getElem? (i := 1306) (by decide +kernel)), ck_X12_forget, List.mem_of_getElem? (i := 1307) (by decide +kernel), List.mem_of_getElem? (i := 1308) (by decide +kernel)⟩
theorem ck_X11_more : vm_cok mX11_more 1 := ⟨List.mem_of_getElem? (i := 65) (by decide +kernel), List.mem_of_getElem? (i := 793) (by decide +kernel), by decide +kernel, by decide⟩
theorem mv_RL_79 : vm_MV RL 79 mX11_more 1 := ⟨Or.inl (List.mem_of_getElem? (i := 790) (by decide +kernel)), ck_X11_more, List.mem_of_getElem? (i := 791) (by decide +kernel), List.mem_of_getElem? (i := 792) (by decide +kernel)⟩
theorem ck_X12_more : vm_cok mX12_more 1 := ⟨List.mem_of_getElem? (i := 77) (by decide +kernel), List.mem_of_getElem? (i := 1313) (by decide +kernel), by decide +kernel, by decide⟩
theorem mv_RL_82 : vm_MV RL 82 mX12_more 1 := ⟨Or.inl (List.mem_of_getElem? (i := 1310) (by decide +kernel)), ck_X12_more, List.mem_of_getElem? (i := 1311) (by decide +kernel), List.mem_of_getElem? (i := 1312) (by decide +kernel)⟩
theorem ck_X11_list : vm_cok mX11_list 0 := ⟨List.mem_of_getElem? (i := 65) (by decide +kernel), List.mem_of_getElem? (i := 816) (by decide +kernel), by decide +kernel, by decide⟩
theorem mv_RL_83 : vm_MV RL 83 mX11_list 0 := ⟨Or.inl (List.mem_of_getElem? (i := 813) (by decide +kernel)), ck_X11_list, List.mem_of_getElem? (i := 814) (by decide +kernel), List.mem_of_getElem? (i := 815) (by decide +kernel)⟩
theorem ck_X12_list : vm_cok mX12_list 0 := ⟨List.mem_of_getElem? (i := 77) (by decide +kernel), List.mem_of_getElem? (i := 1321) (by decide +kernel), by decide +kernel, by decide⟩
theorem mv_RL_86 : vm_MV RL 86 mX12_list 0 := ⟨Or.inl (List.mem_of_getElem? (i := 1318) (by decide +kernel)), ck_X12_list, List.mem_of_getElem? (i := 1319) (by decide +kernel), List.mem_of_getElem? (i := 1320) (by decide +kernel)⟩
theorem ck_X11_quick : vm_cok mX11_quick 2 := ⟨List.mem_of_getElem? (i := 65) (by decide +kernel), List.mem_of_getElem? (i := 844) (by decide +kernel), by decide +kernel, by decide⟩
theorem mv_RL_87 : vm_MV RL 87 mX11_quick 2 := ⟨Or.inl (List.mem_of_getElem? (i := 841) (by decide +kernel)), ck_X11_quick, List.mem_of_getElem? (i := 842) (by decide +kernel), List.mem_of_getElem? (i := 843) (by decide +kernel)⟩
theorem ck_X12_quick : vm_cok mX12_quick 2 := ⟨List.mem_of_getElem? (i := 77) (by decide +kernel), List.mem_of_getElem? (i := 1337) (by decide +kernel), by decide +kernel, by decide⟩
theorem mv_RL_90 : vm_MV RL 90 mX12_quick 2 := ⟨Or.inl (List.mem_of_getElem? (i := 1334) (by decide +kernel)), ck_X12_quick, List.mem_of_getElem? (i := 1335) (by decide +kernel), List.mem_of_getElem? (i := 1336) (by decide +kernel)⟩
theorem ck_X11_struck : vm_cok mX11_struck 3 := ⟨List.mem_of_getElem? (i := 65) (by decide +kernel), List.mem_of_getElem? (i := 855) (by decide +kernel), by decide +kernel, by decide⟩
theorem mv_RL_91 : vm_MV RL 91 mX11_struck 3 := ⟨Or.inl (List.mem_of_getElem? (i := 852) (by decide +kernel)), ck_X11_struck, List.mem_of_getElem? (i := 853) (by decide +kernel), List.mem_of_getElem? (i := 854) (by decide +kernel)⟩
theorem ck_X12_struck : vm_cok mX12_struck 3 := ⟨List.mem_of_getElem? (i := 77) (by decide +kernel), List.mem_of_getElem? (i := 1341) (by decide +kernel), by decide +kernel, by decide⟩
theorem mv_RL_95 : vm_MV RL 95 mX12_struck 3 := ⟨Or.inl (List.mem_of_getElem? (i := 1338) (by decide +kernel)), ck_X12_struck, List.mem_of_getElem? (i := 1339) (by decide +kernel), List.mem_of_getElem? (i := 1340) (by decide +kernel)⟩
theorem ck_X11_lost : vm_cok mX11_lost 1 := ⟨List.mem_of_getElem? (i := 65) (by decide +kernel), List.mem_of_getElem? (i := 896) (by decide +kernel), by decide +kernel, by decide⟩
theorem mv_RL_96 : vm_MV RL 96 mX11_lost 1 := ⟨Or.inl (List.mem_of_getElem? (i := 893) (by decide +kernel)), ck_X11_lost, List.mem_of_getElem? (i := 894) (by decide +kernel), List.mem_of_getElem? (i := 895) (by decide +kernel)⟩
theorem ck_X12_lost : vm_cok mX12_lost 1 := ⟨List.mem_of_getElem? (i := 77) (by decide +kernel), List.mem_of_getElem? (i := 1349) (by decide +kernel), by decide +kernel, by decide⟩
theorem mv_RL_99 : vm_MV RL 99 mX12_lost 1 := ⟨Or.inl (List.mem_of_getElem? (i := 1346) (by decide +kernel)), ck_X12_lost, List.mem_of_getElem? (i := 1347) (by decide +kernel), List.mem_of_getElem? (i := 1348) (by decide +kernel)⟩
theorem ck_X11_game : vm_cok mX11_game 3 := ⟨List.mem_of_getElem? (i := 65) (by decide +kernel), List.mem_of_getElem? (i := 925) (by decide +kernel), by decide +kernel, by decide⟩
theorem mv_RL_100 : vm_MV RL 100 mX11_game 3 := ⟨Or.inl (List.mem_of_getElem? (i := 922) (by decide +kernel)), ck_X11_game, List.mem_of_getElem? (i := 923) (by decide +kernel), List.mem_of_getElem? (i := 924) (by decide +kernel)⟩
theorem ck_X12_game : vm_cok mX12_game 3 := ⟨List.mem_of_getElem? (i := 77) (by decide +kernel), List.mem_of_getElem? (i := 1368) (by decide +kernel), by decide +kernel, by decide⟩
theorem mv_RL_103 : vm_MV RL 103 mX12_game 3 := ⟨Or.inl (List.mem_of_getElem? (i := 1365) (by decide +kernel)), ck_X12_game, List.mem_of_getElem? (i := 1366) (by decide +kernel), List.mem_of_getElem? (i := 1367) (by decide +kernel)⟩
theorem ck_X11_write : vm_cok mX11_write 2 := ⟨List.mem_of_getElem? (i := 65) (by decide +kernel), List.mem_of_getElem? (i := 944) (by decide +kernel), by decide +kernel, by decide⟩
theorem mv_RL_104 : vm_MV RL 104 mX11_write 2 := ⟨Or.inl (List.mem_of_getElem? (i := 941) (by decide +kernel)), ck_X11_write, List.mem_of_getElem? (i := 942) (by decide +kernel), List.mem_of_getElem? (i := 943) (by decide +kernel)⟩
theorem ck_X12_write : vm_cok mX12_write 2 := ⟨List.mem_of_getElem? (i := 77) (by decide +kernel), List.mem_of_getElem? (i := 1380) (by decide +kernel), by decide +kernel, by decide⟩
theorem mv_RL_107 : vm_MV RL 107 mX12_write 2 := ⟨Or.inl (List.mem_of_getElem? (i := 1377) (by decide +kernel)), ck_X12_write, List.mem_of_getElem? (i := 1378) (by decide +kernel), List.mem_of_getElem? (i := 1379) (by decide +kernel)⟩
theorem ck_X11_tear : vm_cok mX11_tear 0 := ⟨List.mem_of_getElem? (i := 65) (by decide +kernel), List.mem_of_getElem? (i := 952) (by decide +kernel), by decide +kernel, by decide⟩
theorem mv_RL_108 : vm_MV RL 108 mX11_tear 0 := ⟨Or.inl (List.mem_of_getElem? (i := 949) (by decide +kernel)), ck_X11_tear, List.mem_of_getElem? (i := 950) (by decide +kernel), List.mem_of_getElem? (i := 951) (by decide +kernel)⟩
theorem ck_X12_tear : vm_cok mX12_tear 0 := ⟨List.mem_of_getElem? (i := 77) (by decide +kernel), List.mem_of_getElem? (i := 1384) (by decide +kernel), by decide +kernel, by decide⟩
theorem mv_RL_111 : vm_MV RL 111 mX12_tear 0 := ⟨Or.inl (List.mem_of_getElem? (i := 1381) (by decide +kernel)), ck_X12_tear, List.mem_of_getElem? (i := 1382) (by decide +kernel), List.mem_of_getElem? (i := 1383) (by decide +kernel)⟩
theorem ck_X11_judge : vm_cok mX11_judge 0 := ⟨List.mem_of_getElem? (i := 65) (by decide +kernel), List.mem_of_getElem? (i := 956) (by decide +kernel), by decide +kernel, by decide⟩
theorem mv_RL_112 : vm_MV RL 112 mX11_judge 0 := ⟨Or.inl (List.mem_of_getElem? (i := 953) (by decide +kernel)), ck_X11_judge, List.mem_of_getElem? (i := 954) (by decide +kernel), List.mem_of_getElem? (i := 955) (by decide +kernel)⟩
theorem ck_X12_judge : vm_cok mX12_judge 0 := ⟨List.mem_of_getElem? (i := 77) (by decide +kernel), List.mem_of_getElem? (i := 1388) (by decide +kernel), by decide +kernel, by decide⟩
theorem mv_RL_115 : vm_MV RL 115 mX12_judge 0 := ⟨Or.inl (List.mem_of_getElem? (i := 1385) (by decide +kernel)), ck_X12_judge, List.mem_of_getElem? (i := 1386) (by decide +kernel), List.mem_of_getElem? (i := 1387) (by decide +kernel)⟩
theorem ck_X11_drift : vm_cok mX11_drift 1 := ⟨List.mem_of_getElem? (i := 65) (by decide +kernel), List.mem_of_getElem? (i := 967) (by decide +kernel), by decide +kernel, by decide⟩
theorem mv_RL_116 : vm_MV RL 116 mX11_drift 1 := ⟨Or.inl (List.mem_of_getElem? (i := 964) (by decide +kernel)), ck_X11_drift, List.mem_of_getElem? (i := 965) (by decide +kernel), List.mem_of_getElem? (i := 966) (by decide +kernel)⟩
theorem ck_X12_drift : vm_cok mX12_drift 1 := ⟨List.mem_of_getElem? (i := 77) (by decide +kernel), List.mem_of_getElem? (i := 1392) (by decide +kernel), by decide +kernel, by decide⟩
theorem mv_RL_119 : vm_MV RL 119 mX12_drift 1 := ⟨Or.inl (List.mem_of_getElem? (i := 1389) (by decide +kernel)), ck_X12_drift, List.mem_of_getElem? (i := 1390) (by decide +kernel), List.mem_of_getElem? (i := 1391) (by decide +kernel)⟩
theorem ck_X11_seed : vm_cok mX11_seed 1 := ⟨List.mem_of_getElem? (i := 65) (by decide +kernel), List.mem_of_getElem? (i := 979) (by decide +kernel), by decide +kernel, by decide⟩
theorem mv_RL_120 : vm_MV RL 120 mX11_seed 1 := ⟨Or.inl (List.mem_of_getElem? (i := 976) (by decide +kernel)), ck_X11_seed, List.mem_of_getElem? (i := 977) (by decide +kernel), List.mem_of_getElem? (i := 978) (by decide +kernel)⟩
theorem ck_X12_seed : vm_cok mX12_seed 1 := ⟨List.mem_of_getElem? (i := 77) (by decide +kernel), List.mem_of_getElem? (i := 1400) (by decide +kernel), by decide +kernel, by decide⟩
theorem mv_RL_123 : vm_MV RL 123 mX12_seed 1 := ⟨Or.inl (List.mem_of_getElem? (i := 1397) (by decide +kernel)), ck_X12_seed, List.mem_of_getElem? (i := 1398) (by decide +kernel), List.mem_of_getElem? (i := 1399) (by decide +kernel)⟩
theorem ck_X11_keep : vm_cok mX11_keep 1 := ⟨List.mem_of_getElem? (i := 65) (by decide +kernel), List.mem_of_getElem? (i := 983) (by decide +kernel), by decide +kernel, by decide⟩
theorem mv_RL_124 : vm_MV RL 124 mX11_keep 1 := ⟨Or.inl (List.mem_of_getElem? (i := 980) (by decide +kernel)), ck_X11_keep, List.mem_of_getElem? (i := 981) (by decide +kernel), List.mem_of_getElem? (i := 982) (by decide +kernel)⟩
theorem ck_X12_keep : vm_cok mX12_keep 1 := ⟨List.mem_of_getElem? (i := 77) (by decide +kernel), List.mem_of_getElem? (i := 1404) (by decide +kernel), by decide +kernel, by decide⟩
theorem mv_RL_127 : vm_MV RL 127 mX12_keep 1 := ⟨Or.inl (List.mem_of_getElem? (i := 1401) (by decide +kernel)), ck_X12_keep, List.mem_of_getElem? (i := 1402) (by decide +kernel), List.mem_of_getElem? (i := 1403) (by decide +kernel)⟩
theorem ck_X11_goBack : vm_cok mX11_goBack 1 := ⟨List.mem_of_getElem? (i := 65) (by decide +kernel), List.mem_of_getElem? (i := 996) (by decide +kernel), by decide +kernel, by decide⟩
theorem mv_RL_128 : vm_MV RL 128 mX11_goBack 1 := ⟨Or.inl (List.mem_of_getElem? (i := 993) (by decide +kernel)), ck_X11_goBack, List.mem_of_getElem? (i := 994) (by decide +kernel), List.mem_of_getElem? (i := 995) (by decide +kernel)⟩
theorem ck_X12_goBack : vm_cok mX12_goBack 1 := ⟨List.mem_of_getElem? (i := 77) (by decide +kernel), List.mem_of_getElem? (i := 1408) (by decide +kernel), by decide +kernel, by decide⟩
theorem mv_RL_131 : vm_MV RL 131 mX12_goBack 1 := ⟨Or.inl (List.mem_of_getElem? (i := 1405) (by decide +kernel)), ck_X12_goBack, List.mem_of_getElem? (i := 1406) (by decide +kernel), List.mem_of_getElem? (i := 1407) (by decide +kernel)⟩
theorem ck_X12_in : vm_cok mX12_in 3 := ⟨List.mem_of_getElem? (i := 77) (by decide +kernel), List.mem_of_getElem? (i := 1135) (by decide +kernel), by decide +kernel, by decide⟩
theorem ms_RX12_68 : vm_MS RX12 68 mX12_in 3 := ⟨Or.inl (List.mem_of_getElem? (i := 1133) (by decide +kernel)), ck_X12_in, List.mem_of_getElem? (i := 1134) (by decide +kernel)⟩
theorem ck_X12_nextToken : vm_cok mX12_nextToken 0 := ⟨List.mem_of_getElem? (i := 77) (by decide +kernel), List.mem_of_getElem? (i := 1150) (by decide +kernel), by decide +kernel, by decide⟩
theorem mv_RX12_110 : vm_MV RX12 110 mX12_nextToken 0 := ⟨Or.inl (List.mem_of_getElem? (i := 1147) (by decide +kernel)), ck_X12_nextToken, List.mem_of_getElem? (i := 1149) (by decide +kernel), List.mem_of_getElem? (i := 32) (by decide +kernel)⟩
theorem ck_X12_fails : vm_cok mX12_fails 1 := ⟨List.mem_of_getElem? (i := 77) (by decide +kernel), List.mem_of_getElem? (i := 1161) (by decide +kernel), by decide +kernel, by decide⟩
theorem mv_RX12_113 : vm_MV RX12 113 mX12_fails 1 := ⟨Or.inl (List.mem_of_getElem? (i := 1158) (by decide +kernel)), ck_X12_fails, List.mem_of_getElem? (i := 1160) (by decide +kernel), List.mem_of_getElem? (i := 33) (by decide +kernel)⟩
theorem ck_X12_isNext : vm_cok mX12_isNext 3 := ⟨List.mem_of_getElem? (i := 77) (by decide +kernel), List.mem_of_getElem? (i := 1171) (by decide +kernel), by decide +kernel, by decide⟩
theorem mv_RX12_124 : vm_MV RX12 124 mX12_isNext 3 := ⟨Or.inl (List.mem_of_getElem? (i := 1168) (by decide +kernel)), ck_X12_isNext, List.mem_of_getElem? (i := 1170) (by decide +kernel), List.mem_of_getElem? (i := 35) (by decide +kernel)⟩
theorem ck_X12_ends : vm_cok mX12_ends 0 := ⟨List.mem_of_getElem? (i := 77) (by decide +kernel), List.mem_of_getElem? (i := 1175) (by decide +kernel), by decide +kernel, by decide⟩
theorem mv_RX12_136 : vm_MV RX12 136 mX12_ends 0 := ⟨Or.inl (List.mem_of_getElem? (i := 1172) (by decide +kernel)), ck_X12_ends, List.mem_of_getElem? (i := 1174) (by decide +kernel), List.mem_of_getElem? (i := 36) (by decide +kernel)⟩
theorem ck_X12_isCost : vm_cok mX12_isCost 1 := ⟨List.mem_of_getElem? (i := 77) (by decide +kernel), List.mem_of_getElem? (i := 1195) (by decide +kernel), by decide +kernel, by decide⟩
theorem mv_RX12_146 : vm_MV RX12 146 mX12_isCost 1 := ⟨Or.inl (List.mem_of_getElem? (i := 1192) (by decide +kernel)), ck_X12_isCost, List.mem_of_getElem? (i := 1194) (by decide +kernel), List.mem_of_getElem? (i := 39) (by decide +kernel)⟩
theorem ck_X12_isNow : vm_cok mX12_isNow 1 := ⟨List.mem_of_getElem? (i := 77) (by decide +kernel), List.mem_of_getElem? (i := 1191) (by decide +kernel), by decide +kernel, by decide⟩
theorem mv_RX12_164 : vm_MV RX12 164 mX12_isNow 1 := ⟨Or.inl (List.mem_of_getElem? (i := 1188) (by decide +kernel)), ck_X12_isNow, List.mem_of_getElem? (i := 1190) (by decide +kernel), List.mem_of_getElem? (i := 38) (by decide +kernel)⟩
theorem ck_X12_isDial : vm_cok mX12_isDial 0 := ⟨List.mem_of_getElem? (i := 77) (by decide +kernel), List.mem_of_getElem? (i := 1165) (by decide +kernel), by decide +kernel, by decide⟩
theorem mv_RX12_167 : vm_MV RX12 167 mX12_isDial 0 := ⟨Or.inl (List.mem_of_getElem? (i := 1162) (by decide +kernel)), ck_X12_isDial, List.mem_of_getElem? (i := 1164) (by decide +kernel), List.mem_of_getElem? (i := 34) (by decide +kernel)⟩
theorem ck_X12_isKey : vm_cok mX12_isKey 0 := ⟨List.mem_of_getElem? (i := 77) (by decide +kernel), List.mem_of_getElem? (i := 1179) (by decide +kernel), by decide +kernel, by decide⟩
theorem mv_RX12_170 : vm_MV RX12 170 mX12_isKey 0 := ⟨Or.inl (List.mem_of_getElem? (i := 1176) (by decide +kernel)), ck_X12_isKey, List.mem_of_getElem? (i := 1178) (by decide +kernel), List.mem_of_getElem? (i := 37) (by decide +kernel)⟩
theorem ck_X12_isRead : vm_cok mX12_isRead 0 := ⟨List.mem_of_getElem? (i := 77) (by decide +kernel), List.mem_of_getElem? (i := 1146) (by decide +kernel), by decide +kernel, by decide⟩
theorem mv_RX12_173 : vm_MV RX12 173 mX12_isRead 0 := ⟨Or.inl (List.mem_of_getElem? (i := 1143) (by decide +kernel)), ck_X12_isRead, List.mem_of_getElem? (i := 1145) (by decide +kernel), List.mem_of_getElem? (i := 31) (by decide +kernel)⟩
theorem ck_X12_start : vm_cok mX12_start 0 := ⟨List.mem_of_getElem? (i := 77) (by decide +kernel), List.mem_of_getElem? (i := 1199) (by decide +kernel), by decide +kernel, by decide⟩
theorem mv_RX12_185 : vm_MV RX12 185 mX12_start 0 := ⟨Or.inl (List.mem_of_getElem? (i := 1196) (by decide +kernel)), ck_X12_start, List.mem_of_getElem? (i := 1198) (by decide +kernel), List.mem_of_getElem? (i := 40) (by decide +kernel)⟩
theorem ck_X12_bound : vm_cok mX12_bound 1 := ⟨List.mem_of_getElem? (i := 77) (by decide +kernel), List.mem_of_getElem? (i := 1232) (by decide +kernel), by decide +kernel, by decide⟩
theorem mv_RX12_211 : vm_MV RX12 211 mX12_bound 1 := ⟨Or.inl (List.mem_of_getElem? (i := 1229) (by decide +kernel)), ck_X12_bound, List.mem_of_getElem? (i := 1231) (by decide +kernel), List.mem_of_getElem? (i := 44) (by decide +kernel)⟩
theorem ck_X12_figure : vm_cok mX12_figure 1 := ⟨List.mem_of_getElem? (i := 77) (by decide +kernel), List.mem_of_getElem? (i := 1224) (by decide +kernel), by decide +kernel, by decide⟩
theorem mv_RX12_215 : vm_MV RX12 215 mX12_figure 1 := ⟨Or.inl (List.mem_of_getElem? (i := 1221) (by decide +kernel)), ck_X12_figure, List.mem_of_getElem? (i := 1223) (by decide +kernel), List.mem_of_getElem? (i := 42) (by decide +kernel)⟩
theorem ck_X12_reckon : vm_cok mX12_reckon 3 := ⟨List.mem_of_getElem? (i := 77) (by decide +kernel), List.mem_of_getElem? (i := 1228) (by decide +kernel), by decide +kernel, by decide⟩
theorem mv_RX12_219 : vm_MV RX12 219 mX12_reckon 3 := ⟨Or.inl (List.mem_of_getElem? (i := 1225) (by decide +kernel)), ck_X12_reckon, List.mem_of_getElem? (i := 1227) (by decide +kernel), List.mem_of_getElem? (i := 43) (by decide +kernel)⟩
theorem ck_X12_setState : vm_cok mX12_setState 1 := ⟨List.mem_of_getElem? (i := 77) (by decide +kernel), List.mem_of_getElem? (i := 1268) (by decide +kernel), by decide +kernel, by decide⟩
theorem mv_RX12_223 : vm_MV RX12 223 mX12_setState 1 := ⟨Or.inl (List.mem_of_getElem? (i := 1265) (by decide +kernel)), ck_X12_setState, List.mem_of_getElem? (i := 1267) (by decide +kernel), List.mem_of_getElem? (i := 51) (by decide +kernel)⟩
theorem ck_X12_doStroke : vm_cok mX12_doStroke 1 := ⟨List.mem_of_getElem? (i := 77) (by decide +kernel), List.mem_of_getElem? (i := 1220) (by decide +kernel), by decide +kernel, by decide⟩
theorem mv_RX12_226 : vm_MV RX12 226 mX12_doStroke 1 := ⟨Or.inl (List.mem_of_getElem? (i := 1217) (by decide +kernel)), ck_X12_doStroke, List.mem_of_getElem? (i := 1219) (by decide +kernel), List.mem_of_getElem? (i := 41) (by decide +kernel)⟩
theorem ck_X12_stateNow : vm_cok mX12_stateNow 0 := ⟨List.mem_of_getElem? (i := 77) (by decide +kernel), List.mem_of_getElem? (i := 1252) (by decide +kernel), by decide +kernel, by decide⟩
theorem mv_RX12_229 : vm_MV RX12 229 mX12_stateNow 0 := ⟨Or.inl (List.mem_of_getElem? (i := 1249) (by decide +kernel)), ck_X12_stateNow, List.mem_of_getElem? (i := 1251) (by decide +kernel), List.mem_of_getElem? (i := 47) (by decide +kernel)⟩
theorem ck_X12_states : vm_cok mX12_states 0 := ⟨List.mem_of_getElem? (i := 77) (by decide +kernel), List.mem_of_getElem? (i := 1256) (by decide +kernel), by decide +kernel, by decide⟩
theorem mv_RX12_233 : vm_MV RX12 233 mX12_states 0 := ⟨Or.inl (List.mem_of_getElem? (i := 1253) (by decide +kernel)), ck_X12_states, List.mem_of_getElem? (i := 1255) (by decide +kernel), List.mem_of_getElem? (i := 48) (by decide +kernel)⟩
theorem ck_X12_shownIn : vm_cok mX12_shownIn 1 := ⟨List.mem_of_getElem? (i := 77) (by decide +kernel), List.mem_of_getElem? (i := 1260) (by decide +kernel), by decide +kernel, by decide⟩
theorem mv_RX12_236 : vm_MV RX12 236 mX12_shownIn 1 := ⟨Or.inl (List.mem_of_getElem? (i := 1257) (by decide +kernel)), ck_X12_shownIn, List.mem_of_getElem? (i := 1259) (by decide +kernel), List.mem_of_getElem? (i := 49) (by decide +kernel)⟩
theorem ck_X12_behind : vm_cok mX12_behind 2 := ⟨List.mem_of_getElem? (i := 77) (by decide +kernel), List.mem_of_getElem? (i := 1264) (by decide +kernel), by decide +kernel, by decide⟩
theorem mv_RX12_239 : vm_MV RX12 239 mX12_behind 2 := ⟨Or.inl (List.mem_of_getElem? (i := 1261) (by decide +kernel)), ck_X12_behind, List.mem_of_getElem? (i := 1263) (by decide +kernel), List.mem_of_getElem? (i := 50) (by decide +kernel)⟩
theorem ck_X12_isNumber : vm_cok mX12_isNumber 1 := ⟨List.mem_of_getElem? (i := 77) (by decide +kernel), List.mem_of_getElem? (i := 1244) (by decide +kernel), by decide +kernel, by decide⟩
theorem mv_RX12_243 : vm_MV RX12 243 mX12_isNumber 1 := ⟨Or.inl (List.mem_of_getElem? (i := 1241) (by decide +kernel)), ck_X12_isNumber, List.mem_of_getElem? (i := 1243) (by decide +kernel), List.mem_of_getElem? (i := 45) (by decide +kernel)⟩
theorem ck_X12_layFewest : vm_cok mX12_layFewest 1 := ⟨List.mem_of_getElem? (i := 77) (by decide +kernel), List.mem_of_getElem? (i := 1248) (by decide +kernel), by decide +kernel, by decide⟩
theorem mv_RX12_246 : vm_MV RX12 246 mX12_layFewest 1 := ⟨Or.inl (List.mem_of_getElem? (i := 1245) (by decide +kernel)), ck_X12_layFewest, List.mem_of_getElem? (i := 1247) (by decide +kernel), List.mem_of_getElem? (i := 46) (by decide +kernel)⟩
theorem ck_X12_putIn : vm_cok mX12_putIn 1 := ⟨List.mem_of_getElem? (i := 77) (by decide +kernel), List.mem_of_getElem? (i := 1284) (by decide +kernel), by decide +kernel, by decide⟩
theorem mv_RX12_249 : vm_MV RX12 249 mX12_putIn 1 := ⟨Or.inl (List.mem_of_getElem? (i := 1281) (by decide +kernel)), ck_X12_putIn, List.mem_of_getElem? (i := 1283) (by decide +kernel), List.mem_of_getElem? (i := 53) (by decide +kernel)⟩
theorem ck_X12_takeOut : vm_cok mX12_takeOut 1 := ⟨List.mem_of_getElem? (i := 77) (by decide +kernel), List.mem_of_getElem? (i := 1288) (by decide +kernel), by decide +kernel, by decide⟩
theorem mv_RX12_252 : vm_MV RX12 252 mX12_takeOut 1 := ⟨Or.inl (List.mem_of_getElem? (i := 1285) (by decide +kernel)), ck_X12_takeOut, List.mem_of_getElem? (i := 1287) (by decide +kernel), List.mem_of_getElem? (i := 54) (by decide +kernel)⟩
theorem ck_X12_leastOf : vm_cok mX12_leastOf 1 := ⟨List.mem_of_getElem? (i := 77) (by decide +kernel), List.mem_of_getElem? (i := 1280) (by decide +kernel), by decide +kernel, by decide⟩
theorem mv_RX12_255 : vm_MV RX12 255 mX12_leastOf 1 := ⟨Or.inl (List.mem_of_getElem? (i := 1277) (by decide +kernel)), ck_X12_leastOf, List.mem_of_getElem? (i := 1279) (by decide +kernel), List.mem_of_getElem? (i := 52) (by decide +kernel)⟩
theorem ck_X12_allFewest : vm_cok mX12_allFewest 1 := ⟨List.mem_of_getElem? (i := 77) (by decide +kernel), List.mem_of_getElem? (i := 1317) (by decide +kernel), by decide +kernel, by decide⟩
theorem mv_RX12_259 : vm_MV RX12 259 mX12_allFewest 1 := ⟨Or.inl (List.mem_of_getElem? (i := 1314) (by decide +kernel)), ck_X12_allFewest, List.mem_of_getElem? (i := 1316) (by decide +kernel), List.mem_of_getElem? (i := 55) (by decide +kernel)⟩
theorem ck_X12_goOn : vm_cok mX12_goOn 2 := ⟨List.mem_of_getElem? (i := 77) (by decide +kernel), List.mem_of_getElem? (i := 1329) (by decide +kernel), by decide +kernel, by decide⟩
theorem mv_RX12_262 : vm_MV RX12 262 mX12_goOn 2 := ⟨Or.inl (List.mem_of_getElem? (i := 1326) (by decide +kernel)), ck_X12_goOn, List.mem_of_getElem? (i := 1328) (by decide +kernel), List.mem_of_getElem? (i := 57) (by decide +kernel)⟩
theorem ck_X12_insert : vm_cok mX12_insert 3 := ⟨List.mem_of_getElem? (i := 77) (by decide +kernel), List.mem_of_getElem? (i := 1333) (by decide +kernel), by decide +kernel, by decide⟩
theorem mv_RX12_265 : vm_MV RX12 265 mX12_insert 3 := ⟨Or.inl (List.mem_of_getElem? (i := 1330) (by decide +kernel)), ck_X12_insert, List.mem_of_getElem? (i := 1332) (by decide +kernel), List.mem_of_getElem? (i := 58) (by decide +kernel)⟩
theorem ck_X12_listOf : vm_cok mX12_listOf 0 := ⟨List.mem_of_getElem? (i := 77) (by decide +kernel), List.mem_of_getElem? (i := 1325) (by decide +kernel), by decide +kernel, by decide⟩
theorem mv_RX12_269 : vm_MV RX12 269 mX12_listOf 0 := ⟨Or.inl (List.mem_of_getElem? (i := 1322) (by decide +kernel)), ck_X12_listOf, List.mem_of_getElem? (i := 1324) (by decide +kernel), List.mem_of_getElem? (i := 56) (by decide +kernel)⟩
theorem ck_X12_rowsTo : vm_cok mX12_rowsTo 3 := ⟨List.mem_of_getElem? (i := 77) (by decide +kernel), List.mem_of_getElem? (i := 1345) (by decide +kernel), by decide +kernel, by decide⟩
theorem mv_RX12_272 : vm_MV RX12 272 mX12_rowsTo 3 := ⟨Or.inl (List.mem_of_getElem? (i := 1342) (by decide +kernel)), ck_X12_rowsTo, List.mem_of_getElem? (i := 1344) (by decide +kernel), List.mem_of_getElem? (i := 59) (by decide +kernel)⟩
theorem ck_X12_has : vm_cok mX12_has 2 := ⟨List.mem_of_getElem? (i := 77) (by decide +kernel), List.mem_of_getElem? (i := 1359) (by decide +kernel), by decide +kernel, by decide⟩
theorem ms_RX12_277 : vm_MS RX12 277 mX12_has 2 := ⟨Or.inl (List.mem_of_getElem? (i := 1357) (by decide +kernel)), ck_X12_has, List.mem_of_getElem? (i := 1358) (by decide +kernel)⟩
theorem ck_X12_shownBy : vm_cok mX12_shownBy 3 := ⟨List.mem_of_getElem? (i := 77) (by decide +kernel), List.mem_of_getElem? (i := 1363) (by decide +kernel), by decide +kernel, by decide⟩
theorem mv_RX12_281 : vm_MV RX12 281 mX12_shownBy 3 := ⟨Or.inl (List.mem_of_getElem? (i := 1360) (by decide +kernel)), ck_X12_shownBy, List.mem_of_getElem? (i := 1362) (by decide +kernel), List.mem_of_getElem? (i := 61) (by decide +kernel)⟩
theorem ck_X12_bits : vm_cok mX12_bits 1 := ⟨List.mem_of_getElem? (i := 77) (by decide +kernel), List.mem_of_getElem? (i := 1352) (by decide +kernel), by decide +kernel, by decide⟩
theorem ms_RX12_285 : vm_MS RX12 285 mX12_bits 1 := ⟨Or.inl (List.mem_of_getElem? (i := 1350) (by decide +kernel)), ck_X12_bits, List.mem_of_getElem? (i := 1351) (by decide +kernel)⟩
theorem ck_X12_tells : vm_cok mX12_tells 4 := ⟨List.mem_of_getElem? (i := 77) (by decide +kernel), List.mem_of_getElem? (i := 1356) (by decide +kernel), by decide +kernel, by decide⟩
theorem mv_RX12_288 : vm_MV RX12 288 mX12_tells 4 := ⟨Or.inl (List.mem_of_getElem? (i := 1353) (by decide +kernel)), ck_X12_tells, List.mem_of_getElem? (i := 1355) (by decide +kernel), List.mem_of_getElem? (i := 60) (by decide +kernel)⟩
theorem ck_X12_worth : vm_cok mX12_worth 2 := ⟨List.mem_of_getElem? (i := 77) (by decide +kernel), List.mem_of_getElem? (i := 1376) (by decide +kernel), by decide +kernel, by decide⟩
theorem mv_RX12_292 : vm_MV RX12 292 mX12_worth 2 := ⟨Or.inl (List.mem_of_getElem? (i := 1373) (by decide +kernel)), ck_X12_worth, List.mem_of_getElem? (i := 1375) (by decide +kernel), List.mem_of_getElem? (i := 63) (by decide +kernel)⟩
theorem ck_X12_layGame : vm_cok mX12_layGame 2 := ⟨List.mem_of_getElem? (i := 77) (by decide +kernel), List.mem_of_getElem? (i := 1372) (by decide +kernel), by decide +kernel, by decide⟩
theorem mv_RX12_295 : vm_MV RX12 295 mX12_layGame 2 := ⟨Or.inl (List.mem_of_getElem? (i := 1369) (by decide +kernel)), ck_X12_layGame, List.mem_of_getElem? (i := 1371) (by decide +kernel), List.mem_of_getElem? (i := 62) (by decide +kernel)⟩
theorem ck_J0_coder_7d493 : vm_cok mJ0_coder_7d493 0 := ⟨List.mem_of_getElem? (i := 78) (by decide +kernel), List.mem_of_getElem? (i := 522) (by decide +kernel), by decide +kernel, by decide⟩
theorem mv_RJ0_335 : vm_MV RJ0 335 mJ0_coder_7d493 0 := ⟨Or.inl (List.mem_of_getElem? (i := 519) (by decide +kernel)), ck_J0_coder_7d493, List.mem_of_getElem? (i := 520) (by decide +kernel), List.mem_of_getElem? (i := 521) (by decide +kernel)⟩
theorem ck_J0_isLatin1_aae02 : vm_cok mJ0_isLatin1_aae02 0 := ⟨List.mem_of_getElem? (i := 78) (by decide +kernel), List.mem_of_getElem? (i := 532) (by decide +kernel), by decide +kernel, by decide⟩
theorem mv_RJ0_492 : vm_MV RJ0 492 mJ0_isLatin1_aae02 0 := ⟨Or.inl (List.mem_of_getElem? (i := 529) (by decide +kernel)), ck_J0_isLatin1_aae02, List.mem_of_getElem? (i := 530) (by decide +kernel), List.mem_of_getElem? (i := 531) (by decide +kernel)⟩
theorem ck_J1_charAt_3b067 : vm_cok mJ1_charAt_3b067 2 := ⟨List.mem_of_getElem? (i := 79) (by decide +kernel), List.mem_of_getElem? (i := 535) (by decide +kernel), by decide +kernel, by decide⟩
theorem ms_RJ0_495 : vm_MS RJ0 495 mJ1_charAt_3b067 2 := ⟨Or.inl (List.mem_of_getElem? (i := 533) (by decide +kernel)), ck_J1_charAt_3b067, List.mem_of_getElem? (i := 534) (by decide +kernel)⟩
theorem ck_J2_charAt_3b067 : vm_cok mJ2_charAt_3b067 2 := ⟨List.mem_of_getElem? (i := 81) (by decide +kernel), List.mem_of_getElem? (i := 546) (by decide +kernel), by decide +kernel, by decide⟩
theorem ms_RJ0_498 : vm_MS RJ0 498 mJ2_charAt_3b067 2 := ⟨Or.inl (List.mem_of_getElem? (i := 544) (by decide +kernel)), ck_J2_charAt_3b067, List.mem_of_getElem? (i := 545) (by decide +kernel)⟩
theorem ck_J3_checkIndex_8e157 : vm_cok mJ3_checkIndex_8e157 3 := ⟨List.mem_of_getElem? (i := 80) (by decide +kernel), List.mem_of_getElem? (i := 543) (by decide +kernel), by decide +kernel, by decide⟩
theorem ms_RJ0_1059 : vm_MS RJ0 1059 mJ3_checkIndex_8e157 3 := ⟨Or.inl (List.mem_of_getElem? (i := 541) (by decide +kernel)), ck_J3_checkIndex_8e157, List.mem_of_getElem? (i := 542) (by decide +kernel)⟩
theorem ck_J0_checkIndex_df160 : vm_cok mJ0_checkIndex_df160 2 := ⟨List.mem_of_getElem? (i := 78) (by decide +kernel), List.mem_of_getElem? (i := 538) (by decide +kernel), by decide +kernel, by decide⟩
theorem ms_RJ1_9 : vm_MS RJ1 9 mJ0_checkIndex_df160 2 := ⟨Or.inl (List.mem_of_getElem? (i := 536) (by decide +kernel)), ck_J0_checkIndex_df160, List.mem_of_getElem? (i := 537) (by decide +kernel)⟩
theorem ck_J2_length_9d52b : vm_cok mJ2_length_9d52b 1 := ⟨List.mem_of_getElem? (i := 81) (by decide +kernel), List.mem_of_getElem? (i := 552) (by decide +kernel), by decide +kernel, by decide⟩
theorem ms_RJ2_48 : vm_MS RJ2 48 mJ2_length_9d52b 1 := ⟨Or.inl (List.mem_of_getElem? (i := 550) (by decide +kernel)), ck_J2_length_9d52b, List.mem_of_getElem? (i := 551) (by decide +kernel)⟩
theorem ck_J2_checkIndex_2214a : vm_cok mJ2_checkIndex_2214a 2 := ⟨List.mem_of_getElem? (i := 81) (by decide +kernel), List.mem_of_getElem? (i := 549) (by decide +kernel), by decide +kernel, by decide⟩
theorem ms_RJ2_67 : vm_MS RJ2 67 mJ2_checkIndex_2214a 2 := ⟨Or.inl (List.mem_of_getElem? (i := 547) (by decide +kernel)), ck_J2_checkIndex_2214a, List.mem_of_getElem? (i := 548) (by decide +kernel)⟩
theorem ck_J2_getChar_3b067 : vm_cok mJ2_getChar_3b067 2 := ⟨List.mem_of_getElem? (i := 81) (by decide +kernel), List.mem_of_getElem? (i := 556) (by decide +kernel), by decide +kernel, by decide⟩
theorem ms_RJ2_71 : vm_MS RJ2 71 mJ2_getChar_3b067 2 := ⟨Or.inl (List.mem_of_getElem? (i := 554) (by decide +kernel)), ck_J2_getChar_3b067, List.mem_of_getElem? (i := 555) (by decide +kernel)⟩
theorem ms_RJ2_414 : vm_MS RJ2 414 mJ0_checkIndex_df160 2 := ⟨Or.inl (List.mem_of_getElem? (i := 553) (by decide +kernel)), ck_J0_checkIndex_df160, List.mem_of_getElem? (i := 537) (by decide +kernel)⟩
-- no mlink jdk/internal/util/Preconditions 95
theorem cn_RX11_97 : Cond.constant RX11 97 (-1000000002) ∈ lw_tbl := List.mem_of_getElem? (i := 469) (by decide +kernel)
theorem cn_RX11_102 : Cond.constant RX11 102 (-1000000004) ∈ lw_tbl := List.mem_of_getElem? (i := 470) (by decide +kernel)
theorem cn_RX11_166 : Cond.constant RX11 166 (-1000000001) ∈ lw_tbl := List.mem_of_getElem? (i := 643) (by decide +kernel)
theorem cn_RX11_208 : Cond.constant RX11 208 (-1000000003) ∈ lw_tbl := List.mem_of_getElem? (i := 776) (by decide +kernel)
theorem cn_RX11_300 : Cond.constant RX11 300 (65536) ∈ lw_tbl := List.mem_of_getElem? (i := 634) (by decide +kernel)
theorem cn_RX1_66 : Cond.constant RX1 66 (60802) ∈ lw_tbl := List.mem_of_getElem? (i := 828) (by decide +kernel)
theorem cn_RX2_53 : Cond.constant RX2 53 (481600) ∈ lw_tbl := List.mem_of_getElem? (i := 762) (by decide +kernel)
theorem cn_RX5_49 : Cond.constantLong RX5 49 (1103515245) ∈ lw_tbl := List.mem_of_getElem? (i := 972) (by decide +kernel)
theorem cn_RX5_51 : Cond.constantLong RX5 51 (12345) ∈ lw_tbl := List.mem_of_getElem? (i := 973) (by decide +kernel)
theorem cn_RX5_53 : Cond.constantLong RX5 53 (2147483647) ∈ lw_tbl := List.mem_of_getElem? (i := 974) (by decide +kernel)
theorem cn_RX5_55 : Cond.constant RX5 55 (65536) ∈ lw_tbl := List.mem_of_getElem? (i := 975) (by decide +kernel)
theorem cn_RX6_73 : Cond.constant RX6 73 (-65664) ∈ lw_tbl := List.mem_of_getElem? (i := 677) (by decide +kernel)
theorem cn_RX6_78 : Cond.constant RX6 78 (65536) ∈ lw_tbl := List.mem_of_getElem? (i := 663) (by decide +kernel)
theorem cn_RX7_15 : Cond.constant RX7 15 (60200) ∈ lw_tbl := List.mem_of_getElem? (i := 245) (by decide +kernel)
theorem cn_RX8_86 : Cond.constant RX8 86 (60200) ∈ lw_tbl := List.mem_of_getElem? (i := 722) (by decide +kernel)
-- no const FewKeys$Text 55
-- no const FewKeys$Text 65
-- no const FewKeys$Text 67
-- no const FewKeys$Text 113
-- no const FewKeys$Text 115
-- no const FewKeys$Text 117
-- no const FewKeys$Text 119
-- no const FewKeys$Text 121
-- no const FewKeys$Text 123
-- no const FewKeys$Text 125
-- no const FewKeys$Text 127
theorem cn_RL_13 : Cond.constantLong RL 13 (4294967295) ∈ lw_tbl := List.mem_of_getElem? (i := 1409) (by decide +kernel)
theorem cn_RX12_43 : Cond.constant RX12 43 (80000) ∈ lw_tbl := List.mem_of_getElem? (i := 1003) (by decide +kernel)
theorem cn_RX12_72 : Cond.constant RX12 72 (-1000000002) ∈ lw_tbl := List.mem_of_getElem? (i := 1136) (by decide +kernel)
theorem cn_RX12_76 : Cond.constant RX12 76 (-1000000004) ∈ lw_tbl := List.mem_of_getElem? (i := 1137) (by decide +kernel)
theorem cn_RX12_77 : Cond.constantLong RX12 77 (255) ∈ lw_tbl := List.mem_of_getElem? (i := 1138) (by decide +kernel)
theorem cn_RX12_91 : Cond.constantLong RX12 91 (-2) ∈ lw_tbl := List.mem_of_getElem? (i := 1151) (by decide +kernel)
theorem cn_RX12_97 : Cond.constantLong RX12 97 (27) ∈ lw_tbl := List.mem_of_getElem? (i := 1152) (by decide +kernel)
theorem cn_RX12_99 : Cond.constantLong RX12 99 (96) ∈ lw_tbl := List.mem_of_getElem? (i := 1153) (by decide +kernel)
theorem cn_RX12_101 : Cond.constantLong RX12 101 (-4) ∈ lw_tbl := List.mem_of_getElem? (i := 1154) (by decide +kernel)
theorem cn_RX12_103 : Cond.constantLong RX12 103 (-1) ∈ lw_tbl := List.mem_of_getElem? (i := 1155) (by decide +kernel)
theorem cn_RX12_105 : Cond.constantLong RX12 105 (-3) ∈ lw_tbl := List.mem_of_getElem? (i := 1156) (by decide +kernel)
theorem cn_RX12_117 : Cond.constantLong RX12 117 (9876874) ∈ lw_tbl := List.mem_of_getElem? (i := 1166) (by decide +kernel)
theorem cn_RX12_119 : Cond.constantLong RX12 119 (388978) ∈ lw_tbl := List.mem_of_getElem? (i := 1167) (by decide +kernel)
theorem cn_RX12_140 : Cond.constantLong RX12 140 (324262) ∈ lw_tbl := List.mem_of_getElem? (i := 1181) (by decide +kernel)
theorem cn_RX12_142 : Cond.constantLong RX12 142 (240373) ∈ lw_tbl := List.mem_of_getElem? (i := 1182) (by decide +kernel)
theorem cn_RX12_144 : Cond.constantLong RX12 144 (10815598) ∈ lw_tbl := List.mem_of_getElem? (i := 1183) (by decide +kernel)
theorem cn_RX12_149 : Cond.constantLong RX12 149 (91029992) ∈ lw_tbl := List.mem_of_getElem? (i := 1180) (by decide +kernel)
theorem cn_RX12_151 : Cond.constantLong RX12 151 (262) ∈ lw_tbl := List.mem_of_getElem? (i := 1184) (by decide +kernel)
theorem cn_RX12_153 : Cond.constantLong RX12 153 (1834209) ∈ lw_tbl := List.mem_of_getElem? (i := 1185) (by decide +kernel)
theorem cn_RX12_155 : Cond.constantLong RX12 155 (10634) ∈ lw_tbl := List.mem_of_getElem? (i := 1186) (by decide +kernel)
theorem cn_RX12_157 : Cond.constantLong RX12 157 (10506440) ∈ lw_tbl := List.mem_of_getElem? (i := 1187) (by decide +kernel)
theorem cn_RX12_159 : Cond.constantLong RX12 159 (85332) ∈ lw_tbl := List.mem_of_getElem? (i := 1157) (by decide +kernel)
theorem cn_RX12_210 : Cond.constant RX12 210 (-1000000001) ∈ lw_tbl := List.mem_of_getElem? (i := 1212) (by decide +kernel)
theorem cn_RX12_258 : Cond.constant RX12 258 (-1000000003) ∈ lw_tbl := List.mem_of_getElem? (i := 1297) (by decide +kernel)
theorem cn_RX12_275 : Cond.constantLong RX12 275 (100) ∈ lw_tbl := List.mem_of_getElem? (i := 1364) (by decide +kernel)
theorem cn_RX12_302 : Cond.constantLong RX12 302 (1103515245) ∈ lw_tbl := List.mem_of_getElem? (i := 1393) (by decide +kernel)
theorem cn_RX12_304 : Cond.constantLong RX12 304 (12345) ∈ lw_tbl := List.mem_of_getElem? (i := 1394) (by decide +kernel)
theorem cn_RX12_306 : Cond.constantLong RX12 306 (2147483648) ∈ lw_tbl := List.mem_of_getElem? (i := 1395) (by decide +kernel)
theorem cn_RX12_308 : Cond.constantLong RX12 308 (65536) ∈ lw_tbl := List.mem_of_getElem? (i := 1396) (by decide +kernel)
theorem cn_RJ6_265 : Cond.constant RJ6 265 (1431655765) ∈ lw_tbl := List.mem_of_getElem? (i := 900) (by decide +kernel)
theorem cn_RJ6_266 : Cond.constant RJ6 266 (858993459) ∈ lw_tbl := List.mem_of_getElem? (i := 901) (by decide +kernel)
theorem cn_RJ6_267 : Cond.constant RJ6 267 (252645135) ∈ lw_tbl := List.mem_of_getElem? (i := 902) (by decide +kernel)
-- no const java/lang/StringUTF16 54
