theorem k_10_207 : (Jvm.Cond.fieldLink "StaveHouseModel" (99 : Nat) "StaveHouseModel" "KEY" "J") ∈ wAll := wA_10 (j := 207) rfl rfl
theorem k_10_213 : (Jvm.Cond.fieldLink "StaveHouseModel" (108 : Nat) "StaveHouseModel" "TIME" "J") ∈ wAll := wA_10 (j := 213) rfl rfl
theorem k_10_215 : (Jvm.Cond.fieldLink "StaveHouseModel" (111 : Nat) "StaveHouseModel" "TEMPO" "J") ∈ wAll := wA_10 (j := 215) rfl rfl
theorem k_14_148 : (Jvm.Cond.methodLink "StaveHouseModel" (430 : Nat) ({ cls := "StaveHouseModel", name := "headLet", desc := "()V" } : Jvm.MethodName)) ∈ wAll := wA_14 (j := 148) rfl rfl
theorem k_14_150 : (Jvm.Cond.instanceMethod ({ cls := "StaveHouseModel", name := "headLet", desc := "()V" } : Jvm.MethodName)) ∈ wAll := wA_14 (j := 150) rfl rfl
theorem ks_209 : (Jvm.Cond.selects "StaveHouseModel" ({ cls := "StaveHouseModel", name := "headLet", desc := "()V" } : Jvm.MethodName) ({ cls := "StaveHouseModel", name := "headLet", desc := "()V" } : Jvm.MethodName)) ∈ wAll := wA_s (j := 209) rfl rfl
theorem k_14_151 : (Jvm.Cond.code ({ cls := "StaveHouseModel", name := "headLet", desc := "()V" } : Jvm.MethodName) prog_15_method_43_code (1 : Nat) (Option.none : Option Jvm.ClassFile.FieldType)) ∈ wAll := wA_14 (j := 151) rfl rfl
theorem k_11_22 : (Jvm.Cond.fieldLink "StaveHouseModel" (401 : Nat) "StaveHouseModel" "hadTempo" "Z") ∈ wAll := wA_11 (j := 22) rfl rfl
theorem k_11_21 : (Jvm.Cond.fieldLink "StaveHouseModel" (398 : Nat) "StaveHouseModel" "hadTime" "Z") ∈ wAll := wA_11 (j := 21) rfl rfl
theorem k_14_120 : (Jvm.Cond.methodLink "StaveHouseModel" (423 : Nat) ({ cls := "StaveHouseModel", name := "headKey", desc := "()V" } : Jvm.MethodName)) ∈ wAll := wA_14 (j := 120) rfl rfl
theorem k_14_122 : (Jvm.Cond.instanceMethod ({ cls := "StaveHouseModel", name := "headKey", desc := "()V" } : Jvm.MethodName)) ∈ wAll := wA_14 (j := 122) rfl rfl
theorem ks_202 : (Jvm.Cond.selects "StaveHouseModel" ({ cls := "StaveHouseModel", name := "headKey", desc := "()V" } : Jvm.MethodName) ({ cls := "StaveHouseModel", name := "headKey", desc := "()V" } : Jvm.MethodName)) ∈ wAll := wA_s (j := 202) rfl rfl
theorem k_14_123 : (Jvm.Cond.code ({ cls := "StaveHouseModel", name := "headKey", desc := "()V" } : Jvm.MethodName) prog_15_method_42_code (3 : Nat) (Option.none : Option Jvm.ClassFile.FieldType)) ∈ wAll := wA_14 (j := 123) rfl rfl
theorem k_10_217 : (Jvm.Cond.fieldLink "StaveHouseModel" (114 : Nat) "StaveHouseModel" "LET" "J") ∈ wAll := wA_10 (j := 217) rfl rfl
theorem k_14_116 : (Jvm.Cond.methodLink "StaveHouseModel" (417 : Nat) ({ cls := "StaveHouseModel", name := "head", desc := "()V" } : Jvm.MethodName)) ∈ wAll := wA_14 (j := 116) rfl rfl
theorem k_14_118 : (Jvm.Cond.instanceMethod ({ cls := "StaveHouseModel", name := "head", desc := "()V" } : Jvm.MethodName)) ∈ wAll := wA_14 (j := 118) rfl rfl
theorem ks_201 : (Jvm.Cond.selects "StaveHouseModel" ({ cls := "StaveHouseModel", name := "head", desc := "()V" } : Jvm.MethodName) ({ cls := "StaveHouseModel", name := "head", desc := "()V" } : Jvm.MethodName)) ∈ wAll := wA_s (j := 201) rfl rfl
theorem k_14_119 : (Jvm.Cond.code ({ cls := "StaveHouseModel", name := "head", desc := "()V" } : Jvm.MethodName) prog_15_method_41_code (1 : Nat) (Option.none : Option Jvm.ClassFile.FieldType)) ∈ wAll := wA_14 (j := 119) rfl rfl
theorem k_10_219 : (Jvm.Cond.fieldLink "StaveHouseModel" (117 : Nat) "StaveHouseModel" "VOICE" "J") ∈ wAll := wA_10 (j := 219) rfl rfl
theorem k_14_199 : (Jvm.Cond.methodLink "StaveHouseModel" (420 : Nat) ({ cls := "StaveHouseModel", name := "voiceText", desc := "()V" } : Jvm.MethodName)) ∈ wAll := wA_14 (j := 199) rfl rfl
theorem k_14_201 : (Jvm.Cond.instanceMethod ({ cls := "StaveHouseModel", name := "voiceText", desc := "()V" } : Jvm.MethodName)) ∈ wAll := wA_14 (j := 201) rfl rfl
theorem ks_221 : (Jvm.Cond.selects "StaveHouseModel" ({ cls := "StaveHouseModel", name := "voiceText", desc := "()V" } : Jvm.MethodName) ({ cls := "StaveHouseModel", name := "voiceText", desc := "()V" } : Jvm.MethodName)) ∈ wAll := wA_s (j := 221) rfl rfl
theorem k_14_202 : (Jvm.Cond.code ({ cls := "StaveHouseModel", name := "voiceText", desc := "()V" } : Jvm.MethodName) prog_15_method_44_code (5 : Nat) (Option.none : Option Jvm.ClassFile.FieldType)) ∈ wAll := wA_14 (j := 202) rfl rfl
theorem k_14_211 : (Jvm.Cond.methodLink "StaveHouseModel" (541 : Nat) ({ cls := "StaveHouseModel", name := "counts", desc := "(I)V" } : Jvm.MethodName)) ∈ wAll := wA_14 (j := 211) rfl rfl
theorem k_14_213 : (Jvm.Cond.instanceMethod ({ cls := "StaveHouseModel", name := "counts", desc := "(I)V" } : Jvm.MethodName)) ∈ wAll := wA_14 (j := 213) rfl rfl
theorem ks_224 : (Jvm.Cond.selects "StaveHouseModel" ({ cls := "StaveHouseModel", name := "counts", desc := "(I)V" } : Jvm.MethodName) ({ cls := "StaveHouseModel", name := "counts", desc := "(I)V" } : Jvm.MethodName)) ∈ wAll := wA_s (j := 224) rfl rfl
theorem k_14_214 : (Jvm.Cond.code ({ cls := "StaveHouseModel", name := "counts", desc := "(I)V" } : Jvm.MethodName) prog_15_method_55_code (2 : Nat) (Option.none : Option Jvm.ClassFile.FieldType)) ∈ wAll := wA_14 (j := 214) rfl rfl
theorem k_14_215 : (Jvm.Cond.methodLink "StaveHouseModel" (544 : Nat) ({ cls := "StaveHouseModel", name := "go", desc := "(I)V" } : Jvm.MethodName)) ∈ wAll := wA_14 (j := 215) rfl rfl
theorem k_14_217 : (Jvm.Cond.instanceMethod ({ cls := "StaveHouseModel", name := "go", desc := "(I)V" } : Jvm.MethodName)) ∈ wAll := wA_14 (j := 217) rfl rfl
theorem ks_225 : (Jvm.Cond.selects "StaveHouseModel" ({ cls := "StaveHouseModel", name := "go", desc := "(I)V" } : Jvm.MethodName) ({ cls := "StaveHouseModel", name := "go", desc := "(I)V" } : Jvm.MethodName)) ∈ wAll := wA_s (j := 225) rfl rfl
theorem k_14_218 : (Jvm.Cond.code ({ cls := "StaveHouseModel", name := "go", desc := "(I)V" } : Jvm.MethodName) prog_15_method_56_code (2 : Nat) (Option.none : Option Jvm.ClassFile.FieldType)) ∈ wAll := wA_14 (j := 218) rfl rfl
theorem k_14_219 : (Jvm.Cond.methodLink "StaveHouseModel" (547 : Nat) ({ cls := "StaveHouseModel", name := "event", desc := "(I)V" } : Jvm.MethodName)) ∈ wAll := wA_14 (j := 219) rfl rfl
theorem k_14_221 : (Jvm.Cond.instanceMethod ({ cls := "StaveHouseModel", name := "event", desc := "(I)V" } : Jvm.MethodName)) ∈ wAll := wA_14 (j := 221) rfl rfl
theorem ks_226 : (Jvm.Cond.selects "StaveHouseModel" ({ cls := "StaveHouseModel", name := "event", desc := "(I)V" } : Jvm.MethodName) ({ cls := "StaveHouseModel", name := "event", desc := "(I)V" } : Jvm.MethodName)) ∈ wAll := wA_s (j := 226) rfl rfl
theorem k_14_222 : (Jvm.Cond.code ({ cls := "StaveHouseModel", name := "event", desc := "(I)V" } : Jvm.MethodName) prog_15_method_68_code (12 : Nat) (Option.none : Option Jvm.ClassFile.FieldType)) ∈ wAll := wA_14 (j := 222) rfl rfl
theorem k_15_26 : (Jvm.Cond.methodLink "StaveHouseModel" (565 : Nat) ({ cls := "StaveHouseModel", name := "goSlow", desc := "(I)V" } : Jvm.MethodName)) ∈ wAll := wA_15 (j := 26) rfl rfl
theorem k_15_28 : (Jvm.Cond.instanceMethod ({ cls := "StaveHouseModel", name := "goSlow", desc := "(I)V" } : Jvm.MethodName)) ∈ wAll := wA_15 (j := 28) rfl rfl
theorem ks_236 : (Jvm.Cond.selects "StaveHouseModel" ({ cls := "StaveHouseModel", name := "goSlow", desc := "(I)V" } : Jvm.MethodName) ({ cls := "StaveHouseModel", name := "goSlow", desc := "(I)V" } : Jvm.MethodName)) ∈ wAll := wA_s (j := 236) rfl rfl
theorem k_15_29 : (Jvm.Cond.code ({ cls := "StaveHouseModel", name := "goSlow", desc := "(I)V" } : Jvm.MethodName) prog_15_method_61_code (3 : Nat) (Option.none : Option Jvm.ClassFile.FieldType)) ∈ wAll := wA_15 (j := 29) rfl rfl
theorem k_15_12 : (Jvm.Cond.methodLink "StaveHouseModel" (562 : Nat) ({ cls := "StaveHouseModel", name := "goBack", desc := "(I)V" } : Jvm.MethodName)) ∈ wAll := wA_15 (j := 12) rfl rfl
theorem k_15_14 : (Jvm.Cond.instanceMethod ({ cls := "StaveHouseModel", name := "goBack", desc := "(I)V" } : Jvm.MethodName)) ∈ wAll := wA_15 (j := 14) rfl rfl
theorem ks_234 : (Jvm.Cond.selects "StaveHouseModel" ({ cls := "StaveHouseModel", name := "goBack", desc := "(I)V" } : Jvm.MethodName) ({ cls := "StaveHouseModel", name := "goBack", desc := "(I)V" } : Jvm.MethodName)) ∈ wAll := wA_s (j := 234) rfl rfl
theorem k_15_15 : (Jvm.Cond.code ({ cls := "StaveHouseModel", name := "goBack", desc := "(I)V" } : Jvm.MethodName) prog_15_method_63_code (9 : Nat) (Option.none : Option Jvm.ClassFile.FieldType)) ∈ wAll := wA_15 (j := 15) rfl rfl
theorem k_15_4 : (Jvm.Cond.methodLink "StaveHouseModel" (556 : Nat) ({ cls := "StaveHouseModel", name := "goUse", desc := "(I)V" } : Jvm.MethodName)) ∈ wAll := wA_15 (j := 4) rfl rfl
theorem k_15_6 : (Jvm.Cond.instanceMethod ({ cls := "StaveHouseModel", name := "goUse", desc := "(I)V" } : Jvm.MethodName)) ∈ wAll := wA_15 (j := 6) rfl rfl
theorem ks_232 : (Jvm.Cond.selects "StaveHouseModel" ({ cls := "StaveHouseModel", name := "goUse", desc := "(I)V" } : Jvm.MethodName) ({ cls := "StaveHouseModel", name := "goUse", desc := "(I)V" } : Jvm.MethodName)) ∈ wAll := wA_s (j := 232) rfl rfl
theorem k_15_7 : (Jvm.Cond.code ({ cls := "StaveHouseModel", name := "goUse", desc := "(I)V" } : Jvm.MethodName) prog_15_method_59_code (3 : Nat) (Option.none : Option Jvm.ClassFile.FieldType)) ∈ wAll := wA_15 (j := 7) rfl rfl
theorem k_15_0 : (Jvm.Cond.methodLink "StaveHouseModel" (553 : Nat) ({ cls := "StaveHouseModel", name := "goRepeat", desc := "(I)V" } : Jvm.MethodName)) ∈ wAll := wA_15 (j := 0) rfl rfl
theorem k_15_2 : (Jvm.Cond.instanceMethod ({ cls := "StaveHouseModel", name := "goRepeat", desc := "(I)V" } : Jvm.MethodName)) ∈ wAll := wA_15 (j := 2) rfl rfl
theorem ks_231 : (Jvm.Cond.selects "StaveHouseModel" ({ cls := "StaveHouseModel", name := "goRepeat", desc := "(I)V" } : Jvm.MethodName) ({ cls := "StaveHouseModel", name := "goRepeat", desc := "(I)V" } : Jvm.MethodName)) ∈ wAll := wA_s (j := 231) rfl rfl
theorem k_15_3 : (Jvm.Cond.code ({ cls := "StaveHouseModel", name := "goRepeat", desc := "(I)V" } : Jvm.MethodName) prog_15_method_58_code (9 : Nat) (Option.none : Option Jvm.ClassFile.FieldType)) ∈ wAll := wA_15 (j := 3) rfl rfl
theorem k_14_236 : (Jvm.Cond.methodLink "StaveHouseModel" (550 : Nat) ({ cls := "StaveHouseModel", name := "goSign", desc := "(I)V" } : Jvm.MethodName)) ∈ wAll := wA_14 (j := 236) rfl rfl
theorem k_14_238 : (Jvm.Cond.instanceMethod ({ cls := "StaveHouseModel", name := "goSign", desc := "(I)V" } : Jvm.MethodName)) ∈ wAll := wA_14 (j := 238) rfl rfl
theorem ks_230 : (Jvm.Cond.selects "StaveHouseModel" ({ cls := "StaveHouseModel", name := "goSign", desc := "(I)V" } : Jvm.MethodName) ({ cls := "StaveHouseModel", name := "goSign", desc := "(I)V" } : Jvm.MethodName)) ∈ wAll := wA_s (j := 230) rfl rfl
theorem k_14_239 : (Jvm.Cond.code ({ cls := "StaveHouseModel", name := "goSign", desc := "(I)V" } : Jvm.MethodName) prog_15_method_57_code (2 : Nat) (Option.none : Option Jvm.ClassFile.FieldType)) ∈ wAll := wA_14 (j := 239) rfl rfl
theorem k_15_8 : (Jvm.Cond.methodLink "StaveHouseModel" (559 : Nat) ({ cls := "StaveHouseModel", name := "goChange", desc := "(I)V" } : Jvm.MethodName)) ∈ wAll := wA_15 (j := 8) rfl rfl
theorem k_15_10 : (Jvm.Cond.instanceMethod ({ cls := "StaveHouseModel", name := "goChange", desc := "(I)V" } : Jvm.MethodName)) ∈ wAll := wA_15 (j := 10) rfl rfl
theorem ks_233 : (Jvm.Cond.selects "StaveHouseModel" ({ cls := "StaveHouseModel", name := "goChange", desc := "(I)V" } : Jvm.MethodName) ({ cls := "StaveHouseModel", name := "goChange", desc := "(I)V" } : Jvm.MethodName)) ∈ wAll := wA_s (j := 233) rfl rfl
theorem k_15_11 : (Jvm.Cond.code ({ cls := "StaveHouseModel", name := "goChange", desc := "(I)V" } : Jvm.MethodName) prog_15_method_60_code (5 : Nat) (Option.none : Option Jvm.ClassFile.FieldType)) ∈ wAll := wA_15 (j := 11) rfl rfl
theorem k_11_39 : (Jvm.Cond.fieldLink "StaveHouseModel" (500 : Nat) "StaveHouseModel" "backs" "I") ∈ wAll := wA_11 (j := 39) rfl rfl
theorem k_14_207 : (Jvm.Cond.methodLink "StaveHouseModel" (512 : Nat) ({ cls := "StaveHouseModel", name := "walk", desc := "(II)V" } : Jvm.MethodName)) ∈ wAll := wA_14 (j := 207) rfl rfl
theorem k_14_209 : (Jvm.Cond.instanceMethod ({ cls := "StaveHouseModel", name := "walk", desc := "(II)V" } : Jvm.MethodName)) ∈ wAll := wA_14 (j := 209) rfl rfl
theorem ks_223 : (Jvm.Cond.selects "StaveHouseModel" ({ cls := "StaveHouseModel", name := "walk", desc := "(II)V" } : Jvm.MethodName) ({ cls := "StaveHouseModel", name := "walk", desc := "(II)V" } : Jvm.MethodName)) ∈ wAll := wA_s (j := 223) rfl rfl
theorem k_14_210 : (Jvm.Cond.code ({ cls := "StaveHouseModel", name := "walk", desc := "(II)V" } : Jvm.MethodName) prog_15_method_54_code (4 : Nat) (Option.none : Option Jvm.ClassFile.FieldType)) ∈ wAll := wA_14 (j := 210) rfl rfl
theorem k_15_16 : (Jvm.Cond.methodLink "StaveHouseModel" (581 : Nat) ({ cls := "StaveHouseModel", name := "exchange", desc := "(II)V" } : Jvm.MethodName)) ∈ wAll := wA_15 (j := 16) rfl rfl
theorem k_15_18 : (Jvm.Cond.instanceMethod ({ cls := "StaveHouseModel", name := "exchange", desc := "(II)V" } : Jvm.MethodName)) ∈ wAll := wA_15 (j := 18) rfl rfl
theorem ks_235 : (Jvm.Cond.selects "StaveHouseModel" ({ cls := "StaveHouseModel", name := "exchange", desc := "(II)V" } : Jvm.MethodName) ({ cls := "StaveHouseModel", name := "exchange", desc := "(II)V" } : Jvm.MethodName)) ∈ wAll := wA_s (j := 235) rfl rfl
theorem k_15_19 : (Jvm.Cond.code ({ cls := "StaveHouseModel", name := "exchange", desc := "(II)V" } : Jvm.MethodName) prog_15_method_66_code (4 : Nat) (Option.none : Option Jvm.ClassFile.FieldType)) ∈ wAll := wA_15 (j := 19) rfl rfl
theorem k_15_30 : (Jvm.Cond.methodLink "StaveHouseModel" (578 : Nat) ({ cls := "StaveHouseModel", name := "power", desc := "(II)V" } : Jvm.MethodName)) ∈ wAll := wA_15 (j := 30) rfl rfl
theorem k_15_32 : (Jvm.Cond.instanceMethod ({ cls := "StaveHouseModel", name := "power", desc := "(II)V" } : Jvm.MethodName)) ∈ wAll := wA_15 (j := 32) rfl rfl
theorem ks_237 : (Jvm.Cond.selects "StaveHouseModel" ({ cls := "StaveHouseModel", name := "power", desc := "(II)V" } : Jvm.MethodName) ({ cls := "StaveHouseModel", name := "power", desc := "(II)V" } : Jvm.MethodName)) ∈ wAll := wA_s (j := 237) rfl rfl
theorem k_15_33 : (Jvm.Cond.code ({ cls := "StaveHouseModel", name := "power", desc := "(II)V" } : Jvm.MethodName) prog_15_method_62_code (5 : Nat) (Option.none : Option Jvm.ClassFile.FieldType)) ∈ wAll := wA_15 (j := 33) rfl rfl
theorem k_15_34 : (Jvm.Cond.methodLink "StaveHouseModel" (518 : Nat) ({ cls := "StaveHouseModel", name := "judge", desc := "()V" } : Jvm.MethodName)) ∈ wAll := wA_15 (j := 34) rfl rfl
theorem k_15_36 : (Jvm.Cond.instanceMethod ({ cls := "StaveHouseModel", name := "judge", desc := "()V" } : Jvm.MethodName)) ∈ wAll := wA_15 (j := 36) rfl rfl
theorem ks_238 : (Jvm.Cond.selects "StaveHouseModel" ({ cls := "StaveHouseModel", name := "judge", desc := "()V" } : Jvm.MethodName) ({ cls := "StaveHouseModel", name := "judge", desc := "()V" } : Jvm.MethodName)) ∈ wAll := wA_s (j := 238) rfl rfl
theorem k_15_37 : (Jvm.Cond.code ({ cls := "StaveHouseModel", name := "judge", desc := "()V" } : Jvm.MethodName) prog_15_method_73_code (6 : Nat) (Option.none : Option Jvm.ClassFile.FieldType)) ∈ wAll := wA_15 (j := 37) rfl rfl
theorem W_prog_15_method_41_code_0 : chW prog_15_method_41_code 0 [42, 178, 0, 99, 182, 1, 157, 153, 0, 10, 42, 182, 1, 167, 167, 0, 138, 42, 178, 0, 108, 182, 1, 157, 153, 0, 68, 42, 180, 1, 142, 153, 0, 7, 42, 182] := chW_of (by decide +kernel)
theorem d_15_41_0 : decode prog_15_method_41_code 0 = .ok (.aload_n 0, 1) := D_42 W_prog_15_method_41_code_0 0 rfl rfl
theorem d_15_41_1 : decode prog_15_method_41_code 1 = .ok (.getstatic 99, 3) := D_178 W_prog_15_method_41_code_0 1 rfl rfl rfl
theorem d_15_41_4 : decode prog_15_method_41_code 4 = .ok (.invokevirtual 413, 3) := D_182 W_prog_15_method_41_code_0 4 rfl rfl rfl
theorem d_15_41_7 : decode prog_15_method_41_code 7 = .ok (.ifCond .eq 10, 3) := D_153 W_prog_15_method_41_code_0 7 rfl rfl rfl
theorem d_15_41_17 : decode prog_15_method_41_code 17 = .ok (.aload_n 0, 1) := D_42 W_prog_15_method_41_code_0 17 rfl rfl
theorem d_15_41_18 : decode prog_15_method_41_code 18 = .ok (.getstatic 108, 3) := D_178 W_prog_15_method_41_code_0 18 rfl rfl rfl
theorem d_15_41_21 : decode prog_15_method_41_code 21 = .ok (.invokevirtual 413, 3) := D_182 W_prog_15_method_41_code_0 21 rfl rfl rfl
theorem d_15_41_24 : decode prog_15_method_41_code 24 = .ok (.ifCond .eq 68, 3) := D_153 W_prog_15_method_41_code_0 24 rfl rfl rfl
theorem W_prog_15_method_41_code_64 : chW prog_15_method_41_code 64 [170, 181, 1, 148, 42, 16, 47, 182, 1, 133, 42, 180, 0, 44, 42, 5, 16, 16, 4, 182, 1, 170, 181, 1, 151, 167, 0, 63, 42, 178, 0, 111, 182, 1, 157, 153] := chW_of (by decide +kernel)
theorem d_15_41_92 : decode prog_15_method_41_code 92 = .ok (.aload_n 0, 1) := D_42 W_prog_15_method_41_code_64 28 rfl rfl
theorem d_15_41_93 : decode prog_15_method_41_code 93 = .ok (.getstatic 111, 3) := D_178 W_prog_15_method_41_code_64 29 rfl rfl rfl
theorem W_prog_15_method_41_code_96 : chW prog_15_method_41_code 96 [182, 1, 157, 153, 0, 49, 42, 180, 1, 145, 153, 0, 7, 42, 182, 1, 127, 42, 4, 181, 1, 145, 42, 89, 180, 1, 106, 4, 96, 181, 1, 106, 42, 180, 0, 44] := chW_of (by decide +kernel)
theorem d_15_41_96 : decode prog_15_method_41_code 96 = .ok (.invokevirtual 413, 3) := D_182 W_prog_15_method_41_code_96 0 rfl rfl rfl
theorem d_15_41_99 : decode prog_15_method_41_code 99 = .ok (.ifCond .eq 49, 3) := D_153 W_prog_15_method_41_code_96 3 rfl rfl rfl
theorem W_prog_15_method_41_code_128 : chW prog_15_method_41_code 128 [42, 180, 0, 44, 42, 16, 20, 17, 1, 44, 3, 182, 1, 170, 181, 1, 154, 167, 0, 7, 42, 182, 1, 174, 177] := chW_of (by decide +kernel)
theorem d_15_41_148 : decode prog_15_method_41_code 148 = .ok (.aload_n 0, 1) := D_42 W_prog_15_method_41_code_128 20 rfl rfl
theorem d_15_41_149 : decode prog_15_method_41_code 149 = .ok (.invokevirtual 430, 3) := D_182 W_prog_15_method_41_code_128 21 rfl rfl rfl
theorem d_15_41_102 : decode prog_15_method_41_code 102 = .ok (.aload_n 0, 1) := D_42 W_prog_15_method_41_code_96 6 rfl rfl
theorem d_15_41_103 : decode prog_15_method_41_code 103 = .ok (.getfield 401, 3) := D_180 W_prog_15_method_41_code_96 7 rfl rfl rfl
theorem d_15_41_106 : decode prog_15_method_41_code 106 = .ok (.ifCond .eq 7, 3) := D_153 W_prog_15_method_41_code_96 10 rfl rfl rfl
theorem d_15_41_109 : decode prog_15_method_41_code 109 = .ok (.aload_n 0, 1) := D_42 W_prog_15_method_41_code_96 13 rfl rfl
theorem d_15_41_110 : decode prog_15_method_41_code 110 = .ok (.invokevirtual 383, 3) := D_182 W_prog_15_method_41_code_96 14 rfl rfl rfl
theorem d_15_41_27 : decode prog_15_method_41_code 27 = .ok (.aload_n 0, 1) := D_42 W_prog_15_method_41_code_0 27 rfl rfl
theorem d_15_41_28 : decode prog_15_method_41_code 28 = .ok (.getfield 398, 3) := D_180 W_prog_15_method_41_code_0 28 rfl rfl rfl
theorem d_15_41_31 : decode prog_15_method_41_code 31 = .ok (.ifCond .eq 7, 3) := D_153 W_prog_15_method_41_code_0 31 rfl rfl rfl
theorem W_prog_15_method_41_code_32 : chW prog_15_method_41_code 32 [0, 7, 42, 182, 1, 127, 42, 4, 181, 1, 142, 42, 89, 180, 1, 106, 4, 96, 181, 1, 106, 42, 180, 0, 44, 42, 4, 16, 12, 3, 182, 1, 170, 181, 1, 148] := chW_of (by decide +kernel)
theorem d_15_41_34 : decode prog_15_method_41_code 34 = .ok (.aload_n 0, 1) := D_42 W_prog_15_method_41_code_32 2 rfl rfl
theorem d_15_41_35 : decode prog_15_method_41_code 35 = .ok (.invokevirtual 383, 3) := D_182 W_prog_15_method_41_code_32 3 rfl rfl rfl
theorem d_15_41_10 : decode prog_15_method_41_code 10 = .ok (.aload_n 0, 1) := D_42 W_prog_15_method_41_code_0 10 rfl rfl
theorem d_15_41_11 : decode prog_15_method_41_code 11 = .ok (.invokevirtual 423, 3) := D_182 W_prog_15_method_41_code_0 11 rfl rfl rfl
theorem d_15_41_14 : decode prog_15_method_41_code 14 = .ok (.goto 138, 3) := D_167 W_prog_15_method_41_code_0 14 rfl rfl rfl
theorem d_15_41_152 : decode prog_15_method_41_code 152 = .ok (.return_, 1) := D_177 W_prog_15_method_41_code_128 24 rfl rfl
theorem d_15_41_38 : decode prog_15_method_41_code 38 = .ok (.aload_n 0, 1) := D_42 W_prog_15_method_41_code_32 6 rfl rfl
theorem d_15_41_39 : decode prog_15_method_41_code 39 = .ok (.iconst 1, 1) := D_4 W_prog_15_method_41_code_32 7 rfl rfl
theorem d_15_41_40 : decode prog_15_method_41_code 40 = .ok (.putfield 398, 3) := D_181 W_prog_15_method_41_code_32 8 rfl rfl rfl
theorem d_15_41_43 : decode prog_15_method_41_code 43 = .ok (.aload_n 0, 1) := D_42 W_prog_15_method_41_code_32 11 rfl rfl
theorem d_15_41_44 : decode prog_15_method_41_code 44 = .ok (.dup, 1) := D_89 W_prog_15_method_41_code_32 12 rfl rfl
theorem d_15_41_45 : decode prog_15_method_41_code 45 = .ok (.getfield 362, 3) := D_180 W_prog_15_method_41_code_32 13 rfl rfl rfl
theorem d_15_41_48 : decode prog_15_method_41_code 48 = .ok (.iconst 1, 1) := D_4 W_prog_15_method_41_code_32 16 rfl rfl
theorem d_15_41_49 : decode prog_15_method_41_code 49 = .ok (.iadd, 1) := D_96 W_prog_15_method_41_code_32 17 rfl rfl
theorem d_15_41_50 : decode prog_15_method_41_code 50 = .ok (.putfield 362, 3) := D_181 W_prog_15_method_41_code_32 18 rfl rfl rfl
theorem d_15_41_53 : decode prog_15_method_41_code 53 = .ok (.aload_n 0, 1) := D_42 W_prog_15_method_41_code_32 21 rfl rfl
theorem d_15_41_54 : decode prog_15_method_41_code 54 = .ok (.getfield 44, 3) := D_180 W_prog_15_method_41_code_32 22 rfl rfl rfl
theorem d_15_41_57 : decode prog_15_method_41_code 57 = .ok (.aload_n 0, 1) := D_42 W_prog_15_method_41_code_32 25 rfl rfl
theorem d_15_41_58 : decode prog_15_method_41_code 58 = .ok (.iconst 1, 1) := D_4 W_prog_15_method_41_code_32 26 rfl rfl
theorem d_15_41_59 : decode prog_15_method_41_code 59 = .ok (.bipush 12, 2) := D_16 W_prog_15_method_41_code_32 27 rfl rfl rfl
theorem d_15_41_61 : decode prog_15_method_41_code 61 = .ok (.iconst 0, 1) := D_3 W_prog_15_method_41_code_32 29 rfl rfl
theorem d_15_41_62 : decode prog_15_method_41_code 62 = .ok (.invokevirtual 426, 3) := D_182 W_prog_15_method_41_code_32 30 rfl rfl rfl
theorem d_15_41_65 : decode prog_15_method_41_code 65 = .ok (.putfield 404, 3) := D_181 W_prog_15_method_41_code_64 1 rfl rfl rfl
theorem d_15_41_68 : decode prog_15_method_41_code 68 = .ok (.aload_n 0, 1) := D_42 W_prog_15_method_41_code_64 4 rfl rfl
theorem d_15_41_69 : decode prog_15_method_41_code 69 = .ok (.bipush 47, 2) := D_16 W_prog_15_method_41_code_64 5 rfl rfl rfl
theorem d_15_41_71 : decode prog_15_method_41_code 71 = .ok (.invokevirtual 389, 3) := D_182 W_prog_15_method_41_code_64 7 rfl rfl rfl
theorem d_15_41_74 : decode prog_15_method_41_code 74 = .ok (.aload_n 0, 1) := D_42 W_prog_15_method_41_code_64 10 rfl rfl
theorem d_15_41_75 : decode prog_15_method_41_code 75 = .ok (.getfield 44, 3) := D_180 W_prog_15_method_41_code_64 11 rfl rfl rfl
theorem d_15_41_78 : decode prog_15_method_41_code 78 = .ok (.aload_n 0, 1) := D_42 W_prog_15_method_41_code_64 14 rfl rfl
theorem d_15_41_79 : decode prog_15_method_41_code 79 = .ok (.iconst 2, 1) := D_5 W_prog_15_method_41_code_64 15 rfl rfl
theorem d_15_41_80 : decode prog_15_method_41_code 80 = .ok (.bipush 16, 2) := D_16 W_prog_15_method_41_code_64 16 rfl rfl rfl
theorem d_15_41_82 : decode prog_15_method_41_code 82 = .ok (.iconst 1, 1) := D_4 W_prog_15_method_41_code_64 18 rfl rfl
theorem d_15_41_83 : decode prog_15_method_41_code 83 = .ok (.invokevirtual 426, 3) := D_182 W_prog_15_method_41_code_64 19 rfl rfl rfl
theorem d_15_41_86 : decode prog_15_method_41_code 86 = .ok (.putfield 407, 3) := D_181 W_prog_15_method_41_code_64 22 rfl rfl rfl
theorem d_15_41_89 : decode prog_15_method_41_code 89 = .ok (.goto 63, 3) := D_167 W_prog_15_method_41_code_64 25 rfl rfl rfl
theorem d_15_41_113 : decode prog_15_method_41_code 113 = .ok (.aload_n 0, 1) := D_42 W_prog_15_method_41_code_96 17 rfl rfl
theorem d_15_41_114 : decode prog_15_method_41_code 114 = .ok (.iconst 1, 1) := D_4 W_prog_15_method_41_code_96 18 rfl rfl
theorem d_15_41_115 : decode prog_15_method_41_code 115 = .ok (.putfield 401, 3) := D_181 W_prog_15_method_41_code_96 19 rfl rfl rfl
theorem d_15_41_118 : decode prog_15_method_41_code 118 = .ok (.aload_n 0, 1) := D_42 W_prog_15_method_41_code_96 22 rfl rfl
theorem d_15_41_119 : decode prog_15_method_41_code 119 = .ok (.dup, 1) := D_89 W_prog_15_method_41_code_96 23 rfl rfl
theorem d_15_41_120 : decode prog_15_method_41_code 120 = .ok (.getfield 362, 3) := D_180 W_prog_15_method_41_code_96 24 rfl rfl rfl
theorem d_15_41_123 : decode prog_15_method_41_code 123 = .ok (.iconst 1, 1) := D_4 W_prog_15_method_41_code_96 27 rfl rfl
theorem d_15_41_124 : decode prog_15_method_41_code 124 = .ok (.iadd, 1) := D_96 W_prog_15_method_41_code_96 28 rfl rfl
theorem d_15_41_125 : decode prog_15_method_41_code 125 = .ok (.putfield 362, 3) := D_181 W_prog_15_method_41_code_96 29 rfl rfl rfl
theorem d_15_41_128 : decode prog_15_method_41_code 128 = .ok (.aload_n 0, 1) := D_42 W_prog_15_method_41_code_128 0 rfl rfl
theorem d_15_41_129 : decode prog_15_method_41_code 129 = .ok (.getfield 44, 3) := D_180 W_prog_15_method_41_code_128 1 rfl rfl rfl
theorem d_15_41_132 : decode prog_15_method_41_code 132 = .ok (.aload_n 0, 1) := D_42 W_prog_15_method_41_code_128 4 rfl rfl
theorem d_15_41_133 : decode prog_15_method_41_code 133 = .ok (.bipush 20, 2) := D_16 W_prog_15_method_41_code_128 5 rfl rfl rfl
theorem d_15_41_135 : decode prog_15_method_41_code 135 = .ok (.sipush 300, 3) := D_17 W_prog_15_method_41_code_128 7 rfl rfl rfl
theorem d_15_41_138 : decode prog_15_method_41_code 138 = .ok (.iconst 0, 1) := D_3 W_prog_15_method_41_code_128 10 rfl rfl
theorem d_15_41_139 : decode prog_15_method_41_code 139 = .ok (.invokevirtual 426, 3) := D_182 W_prog_15_method_41_code_128 11 rfl rfl rfl
theorem d_15_41_142 : decode prog_15_method_41_code 142 = .ok (.putfield 410, 3) := D_181 W_prog_15_method_41_code_128 14 rfl rfl rfl
theorem d_15_41_145 : decode prog_15_method_41_code 145 = .ok (.goto 7, 3) := D_167 W_prog_15_method_41_code_128 17 rfl rfl rfl
theorem W_prog_15_method_40_code_0 : chW prog_15_method_40_code 0 [42, 3, 181, 1, 106, 42, 3, 181, 1, 100, 42, 3, 181, 1, 130, 42, 3, 181, 1, 136, 42, 3, 181, 1, 139, 42, 3, 181, 1, 142, 42, 3, 181, 1, 145, 42] := chW_of (by decide +kernel)
theorem d_15_40_0 : decode prog_15_method_40_code 0 = .ok (.aload_n 0, 1) := D_42 W_prog_15_method_40_code_0 0 rfl rfl
theorem d_15_40_1 : decode prog_15_method_40_code 1 = .ok (.iconst 0, 1) := D_3 W_prog_15_method_40_code_0 1 rfl rfl
theorem d_15_40_2 : decode prog_15_method_40_code 2 = .ok (.putfield 362, 3) := D_181 W_prog_15_method_40_code_0 2 rfl rfl rfl
theorem d_15_40_5 : decode prog_15_method_40_code 5 = .ok (.aload_n 0, 1) := D_42 W_prog_15_method_40_code_0 5 rfl rfl
theorem d_15_40_6 : decode prog_15_method_40_code 6 = .ok (.iconst 0, 1) := D_3 W_prog_15_method_40_code_0 6 rfl rfl
theorem d_15_40_7 : decode prog_15_method_40_code 7 = .ok (.putfield 356, 3) := D_181 W_prog_15_method_40_code_0 7 rfl rfl rfl
theorem d_15_40_10 : decode prog_15_method_40_code 10 = .ok (.aload_n 0, 1) := D_42 W_prog_15_method_40_code_0 10 rfl rfl
theorem d_15_40_11 : decode prog_15_method_40_code 11 = .ok (.iconst 0, 1) := D_3 W_prog_15_method_40_code_0 11 rfl rfl
theorem d_15_40_12 : decode prog_15_method_40_code 12 = .ok (.putfield 386, 3) := D_181 W_prog_15_method_40_code_0 12 rfl rfl rfl
theorem d_15_40_15 : decode prog_15_method_40_code 15 = .ok (.aload_n 0, 1) := D_42 W_prog_15_method_40_code_0 15 rfl rfl
theorem d_15_40_16 : decode prog_15_method_40_code 16 = .ok (.iconst 0, 1) := D_3 W_prog_15_method_40_code_0 16 rfl rfl
theorem d_15_40_17 : decode prog_15_method_40_code 17 = .ok (.putfield 392, 3) := D_181 W_prog_15_method_40_code_0 17 rfl rfl rfl
theorem d_15_40_20 : decode prog_15_method_40_code 20 = .ok (.aload_n 0, 1) := D_42 W_prog_15_method_40_code_0 20 rfl rfl
theorem d_15_40_21 : decode prog_15_method_40_code 21 = .ok (.iconst 0, 1) := D_3 W_prog_15_method_40_code_0 21 rfl rfl
theorem d_15_40_22 : decode prog_15_method_40_code 22 = .ok (.putfield 395, 3) := D_181 W_prog_15_method_40_code_0 22 rfl rfl rfl
theorem d_15_40_25 : decode prog_15_method_40_code 25 = .ok (.aload_n 0, 1) := D_42 W_prog_15_method_40_code_0 25 rfl rfl
theorem d_15_40_26 : decode prog_15_method_40_code 26 = .ok (.iconst 0, 1) := D_3 W_prog_15_method_40_code_0 26 rfl rfl
theorem d_15_40_27 : decode prog_15_method_40_code 27 = .ok (.putfield 398, 3) := D_181 W_prog_15_method_40_code_0 27 rfl rfl rfl
theorem d_15_40_30 : decode prog_15_method_40_code 30 = .ok (.aload_n 0, 1) := D_42 W_prog_15_method_40_code_0 30 rfl rfl
theorem d_15_40_31 : decode prog_15_method_40_code 31 = .ok (.iconst 0, 1) := D_3 W_prog_15_method_40_code_0 31 rfl rfl
theorem W_prog_15_method_40_code_32 : chW prog_15_method_40_code 32 [181, 1, 145, 42, 180, 0, 44, 3, 181, 1, 48, 42, 180, 0, 44, 3, 181, 1, 54, 42, 180, 0, 44, 3, 181, 1, 57, 42, 180, 0, 44, 7, 181, 1, 148, 42] := chW_of (by decide +kernel)
theorem d_15_40_32 : decode prog_15_method_40_code 32 = .ok (.putfield 401, 3) := D_181 W_prog_15_method_40_code_32 0 rfl rfl rfl
theorem d_15_40_35 : decode prog_15_method_40_code 35 = .ok (.aload_n 0, 1) := D_42 W_prog_15_method_40_code_32 3 rfl rfl
theorem d_15_40_36 : decode prog_15_method_40_code 36 = .ok (.getfield 44, 3) := D_180 W_prog_15_method_40_code_32 4 rfl rfl rfl
theorem d_15_40_39 : decode prog_15_method_40_code 39 = .ok (.iconst 0, 1) := D_3 W_prog_15_method_40_code_32 7 rfl rfl
theorem d_15_40_40 : decode prog_15_method_40_code 40 = .ok (.putfield 304, 3) := D_181 W_prog_15_method_40_code_32 8 rfl rfl rfl
theorem d_15_40_43 : decode prog_15_method_40_code 43 = .ok (.aload_n 0, 1) := D_42 W_prog_15_method_40_code_32 11 rfl rfl
theorem d_15_40_44 : decode prog_15_method_40_code 44 = .ok (.getfield 44, 3) := D_180 W_prog_15_method_40_code_32 12 rfl rfl rfl
theorem d_15_40_47 : decode prog_15_method_40_code 47 = .ok (.iconst 0, 1) := D_3 W_prog_15_method_40_code_32 15 rfl rfl
theorem d_15_40_48 : decode prog_15_method_40_code 48 = .ok (.putfield 310, 3) := D_181 W_prog_15_method_40_code_32 16 rfl rfl rfl
theorem d_15_40_51 : decode prog_15_method_40_code 51 = .ok (.aload_n 0, 1) := D_42 W_prog_15_method_40_code_32 19 rfl rfl
theorem d_15_40_52 : decode prog_15_method_40_code 52 = .ok (.getfield 44, 3) := D_180 W_prog_15_method_40_code_32 20 rfl rfl rfl
theorem d_15_40_55 : decode prog_15_method_40_code 55 = .ok (.iconst 0, 1) := D_3 W_prog_15_method_40_code_32 23 rfl rfl
theorem d_15_40_56 : decode prog_15_method_40_code 56 = .ok (.putfield 313, 3) := D_181 W_prog_15_method_40_code_32 24 rfl rfl rfl
theorem d_15_40_59 : decode prog_15_method_40_code 59 = .ok (.aload_n 0, 1) := D_42 W_prog_15_method_40_code_32 27 rfl rfl
theorem d_15_40_60 : decode prog_15_method_40_code 60 = .ok (.getfield 44, 3) := D_180 W_prog_15_method_40_code_32 28 rfl rfl rfl
theorem d_15_40_63 : decode prog_15_method_40_code 63 = .ok (.iconst 4, 1) := D_7 W_prog_15_method_40_code_32 31 rfl rfl
theorem W_prog_15_method_40_code_64 : chW prog_15_method_40_code 64 [181, 1, 148, 42, 180, 0, 44, 7, 181, 1, 151, 42, 180, 0, 44, 16, 120, 181, 1, 154, 42, 182, 1, 120, 153, 0, 50, 42, 178, 0, 99, 182, 1, 157, 154, 0] := chW_of (by decide +kernel)
theorem d_15_40_64 : decode prog_15_method_40_code 64 = .ok (.putfield 404, 3) := D_181 W_prog_15_method_40_code_64 0 rfl rfl rfl
theorem d_15_40_67 : decode prog_15_method_40_code 67 = .ok (.aload_n 0, 1) := D_42 W_prog_15_method_40_code_64 3 rfl rfl
theorem d_15_40_68 : decode prog_15_method_40_code 68 = .ok (.getfield 44, 3) := D_180 W_prog_15_method_40_code_64 4 rfl rfl rfl
theorem d_15_40_71 : decode prog_15_method_40_code 71 = .ok (.iconst 4, 1) := D_7 W_prog_15_method_40_code_64 7 rfl rfl
theorem d_15_40_72 : decode prog_15_method_40_code 72 = .ok (.putfield 407, 3) := D_181 W_prog_15_method_40_code_64 8 rfl rfl rfl
theorem d_15_40_75 : decode prog_15_method_40_code 75 = .ok (.aload_n 0, 1) := D_42 W_prog_15_method_40_code_64 11 rfl rfl
theorem d_15_40_76 : decode prog_15_method_40_code 76 = .ok (.getfield 44, 3) := D_180 W_prog_15_method_40_code_64 12 rfl rfl rfl
theorem d_15_40_79 : decode prog_15_method_40_code 79 = .ok (.bipush 120, 2) := D_16 W_prog_15_method_40_code_64 15 rfl rfl rfl
theorem d_15_40_81 : decode prog_15_method_40_code 81 = .ok (.putfield 410, 3) := D_181 W_prog_15_method_40_code_64 17 rfl rfl rfl
theorem d_15_40_84 : decode prog_15_method_40_code 84 = .ok (.aload_n 0, 1) := D_42 W_prog_15_method_40_code_64 20 rfl rfl
theorem d_15_40_85 : decode prog_15_method_40_code 85 = .ok (.invokevirtual 376, 3) := D_182 W_prog_15_method_40_code_64 21 rfl rfl rfl
theorem d_15_40_88 : decode prog_15_method_40_code 88 = .ok (.ifCond .eq 50, 3) := D_153 W_prog_15_method_40_code_64 24 rfl rfl rfl
theorem d_15_40_91 : decode prog_15_method_40_code 91 = .ok (.aload_n 0, 1) := D_42 W_prog_15_method_40_code_64 27 rfl rfl
theorem d_15_40_92 : decode prog_15_method_40_code 92 = .ok (.getstatic 99, 3) := D_178 W_prog_15_method_40_code_64 28 rfl rfl rfl
theorem d_15_40_95 : decode prog_15_method_40_code 95 = .ok (.invokevirtual 413, 3) := D_182 W_prog_15_method_40_code_64 31 rfl rfl rfl
theorem W_prog_15_method_40_code_96 : chW prog_15_method_40_code 96 [1, 157, 154, 0, 33, 42, 178, 0, 108, 182, 1, 157, 154, 0, 23, 42, 178, 0, 111, 182, 1, 157, 154, 0, 13, 42, 178, 0, 114, 182, 1, 157, 153, 0, 10, 42] := chW_of (by decide +kernel)
theorem d_15_40_98 : decode prog_15_method_40_code 98 = .ok (.ifCond .ne 33, 3) := D_154 W_prog_15_method_40_code_96 2 rfl rfl rfl
theorem d_15_40_101 : decode prog_15_method_40_code 101 = .ok (.aload_n 0, 1) := D_42 W_prog_15_method_40_code_96 5 rfl rfl
theorem d_15_40_102 : decode prog_15_method_40_code 102 = .ok (.getstatic 108, 3) := D_178 W_prog_15_method_40_code_96 6 rfl rfl rfl
theorem d_15_40_105 : decode prog_15_method_40_code 105 = .ok (.invokevirtual 413, 3) := D_182 W_prog_15_method_40_code_96 9 rfl rfl rfl
theorem d_15_40_108 : decode prog_15_method_40_code 108 = .ok (.ifCond .ne 23, 3) := D_154 W_prog_15_method_40_code_96 12 rfl rfl rfl
theorem d_15_40_111 : decode prog_15_method_40_code 111 = .ok (.aload_n 0, 1) := D_42 W_prog_15_method_40_code_96 15 rfl rfl
theorem d_15_40_112 : decode prog_15_method_40_code 112 = .ok (.getstatic 111, 3) := D_178 W_prog_15_method_40_code_96 16 rfl rfl rfl
theorem d_15_40_115 : decode prog_15_method_40_code 115 = .ok (.invokevirtual 413, 3) := D_182 W_prog_15_method_40_code_96 19 rfl rfl rfl
theorem d_15_40_118 : decode prog_15_method_40_code 118 = .ok (.ifCond .ne 13, 3) := D_154 W_prog_15_method_40_code_96 22 rfl rfl rfl
theorem d_15_40_121 : decode prog_15_method_40_code 121 = .ok (.aload_n 0, 1) := D_42 W_prog_15_method_40_code_96 25 rfl rfl
theorem d_15_40_122 : decode prog_15_method_40_code 122 = .ok (.getstatic 114, 3) := D_178 W_prog_15_method_40_code_96 26 rfl rfl rfl
theorem d_15_40_125 : decode prog_15_method_40_code 125 = .ok (.invokevirtual 413, 3) := D_182 W_prog_15_method_40_code_96 29 rfl rfl rfl
theorem W_prog_15_method_40_code_128 : chW prog_15_method_40_code 128 [153, 0, 10, 42, 182, 1, 161, 167, 255, 205, 4, 60, 42, 182, 1, 120, 153, 0, 67, 27, 153, 0, 63, 42, 178, 0, 117, 182, 1, 157, 153, 0, 21, 42, 180, 0] := chW_of (by decide +kernel)
theorem d_15_40_128 : decode prog_15_method_40_code 128 = .ok (.ifCond .eq 10, 3) := D_153 W_prog_15_method_40_code_128 0 rfl rfl rfl
theorem d_15_40_131 : decode prog_15_method_40_code 131 = .ok (.aload_n 0, 1) := D_42 W_prog_15_method_40_code_128 3 rfl rfl
theorem d_15_40_132 : decode prog_15_method_40_code 132 = .ok (.invokevirtual 417, 3) := D_182 W_prog_15_method_40_code_128 4 rfl rfl rfl
theorem d_15_40_135 : decode prog_15_method_40_code 135 = .ok (.goto (-51), 3) := D_167 W_prog_15_method_40_code_128 7 rfl rfl rfl
theorem d_15_40_138 : decode prog_15_method_40_code 138 = .ok (.iconst 1, 1) := D_4 W_prog_15_method_40_code_128 10 rfl rfl
theorem d_15_40_139 : decode prog_15_method_40_code 139 = .ok (.istore_n 1, 1) := D_60 W_prog_15_method_40_code_128 11 rfl rfl
theorem d_15_40_140 : decode prog_15_method_40_code 140 = .ok (.aload_n 0, 1) := D_42 W_prog_15_method_40_code_128 12 rfl rfl
theorem d_15_40_141 : decode prog_15_method_40_code 141 = .ok (.invokevirtual 376, 3) := D_182 W_prog_15_method_40_code_128 13 rfl rfl rfl
theorem d_15_40_144 : decode prog_15_method_40_code 144 = .ok (.ifCond .eq 67, 3) := D_153 W_prog_15_method_40_code_128 16 rfl rfl rfl
theorem d_15_40_147 : decode prog_15_method_40_code 147 = .ok (.iload_n 1, 1) := D_27 W_prog_15_method_40_code_128 19 rfl rfl
theorem d_15_40_148 : decode prog_15_method_40_code 148 = .ok (.ifCond .eq 63, 3) := D_153 W_prog_15_method_40_code_128 20 rfl rfl rfl
theorem d_15_40_151 : decode prog_15_method_40_code 151 = .ok (.aload_n 0, 1) := D_42 W_prog_15_method_40_code_128 23 rfl rfl
theorem d_15_40_152 : decode prog_15_method_40_code 152 = .ok (.getstatic 117, 3) := D_178 W_prog_15_method_40_code_128 24 rfl rfl rfl
theorem d_15_40_155 : decode prog_15_method_40_code 155 = .ok (.invokevirtual 413, 3) := D_182 W_prog_15_method_40_code_128 27 rfl rfl rfl
theorem d_15_40_158 : decode prog_15_method_40_code 158 = .ok (.ifCond .eq 21, 3) := D_153 W_prog_15_method_40_code_128 30 rfl rfl rfl
theorem W_prog_15_method_40_code_160 : chW prog_15_method_40_code 160 [21, 42, 180, 0, 44, 180, 1, 48, 7, 162, 0, 10, 42, 182, 1, 164, 167, 0, 7, 42, 182, 1, 127, 42, 182, 1, 120, 153, 0, 19, 42, 180, 0, 48, 42, 180] := chW_of (by decide +kernel)
theorem d_15_40_161 : decode prog_15_method_40_code 161 = .ok (.aload_n 0, 1) := D_42 W_prog_15_method_40_code_160 1 rfl rfl
theorem d_15_40_162 : decode prog_15_method_40_code 162 = .ok (.getfield 44, 3) := D_180 W_prog_15_method_40_code_160 2 rfl rfl rfl
theorem d_15_40_165 : decode prog_15_method_40_code 165 = .ok (.getfield 304, 3) := D_180 W_prog_15_method_40_code_160 5 rfl rfl rfl
theorem d_15_40_168 : decode prog_15_method_40_code 168 = .ok (.iconst 4, 1) := D_7 W_prog_15_method_40_code_160 8 rfl rfl
theorem d_15_40_169 : decode prog_15_method_40_code 169 = .ok (.if_icmp .ge 10, 3) := D_162 W_prog_15_method_40_code_160 9 rfl rfl rfl
theorem d_15_40_172 : decode prog_15_method_40_code 172 = .ok (.aload_n 0, 1) := D_42 W_prog_15_method_40_code_160 12 rfl rfl
theorem d_15_40_173 : decode prog_15_method_40_code 173 = .ok (.invokevirtual 420, 3) := D_182 W_prog_15_method_40_code_160 13 rfl rfl rfl
theorem d_15_40_176 : decode prog_15_method_40_code 176 = .ok (.goto 7, 3) := D_167 W_prog_15_method_40_code_160 16 rfl rfl rfl
theorem d_15_40_183 : decode prog_15_method_40_code 183 = .ok (.aload_n 0, 1) := D_42 W_prog_15_method_40_code_160 23 rfl rfl
theorem d_15_40_184 : decode prog_15_method_40_code 184 = .ok (.invokevirtual 376, 3) := D_182 W_prog_15_method_40_code_160 24 rfl rfl rfl
theorem d_15_40_187 : decode prog_15_method_40_code 187 = .ok (.ifCond .eq 19, 3) := D_153 W_prog_15_method_40_code_160 27 rfl rfl rfl
theorem d_15_40_190 : decode prog_15_method_40_code 190 = .ok (.aload_n 0, 1) := D_42 W_prog_15_method_40_code_160 30 rfl rfl
theorem d_15_40_191 : decode prog_15_method_40_code 191 = .ok (.getfield 48, 3) := D_180 W_prog_15_method_40_code_160 31 rfl rfl rfl
theorem W_prog_15_method_40_code_192 : chW prog_15_method_40_code 192 [0, 48, 42, 180, 1, 106, 46, 153, 0, 7, 4, 167, 0, 4, 3, 60, 167, 255, 188, 177] := chW_of (by decide +kernel)
theorem d_15_40_194 : decode prog_15_method_40_code 194 = .ok (.aload_n 0, 1) := D_42 W_prog_15_method_40_code_192 2 rfl rfl
theorem d_15_40_195 : decode prog_15_method_40_code 195 = .ok (.getfield 362, 3) := D_180 W_prog_15_method_40_code_192 3 rfl rfl rfl
theorem d_15_40_198 : decode prog_15_method_40_code 198 = .ok (.iaload, 1) := D_46 W_prog_15_method_40_code_192 6 rfl rfl
theorem d_15_40_199 : decode prog_15_method_40_code 199 = .ok (.ifCond .eq 7, 3) := D_153 W_prog_15_method_40_code_192 7 rfl rfl rfl
theorem d_15_40_202 : decode prog_15_method_40_code 202 = .ok (.iconst 1, 1) := D_4 W_prog_15_method_40_code_192 10 rfl rfl
theorem d_15_40_203 : decode prog_15_method_40_code 203 = .ok (.goto 4, 3) := D_167 W_prog_15_method_40_code_192 11 rfl rfl rfl
theorem d_15_40_207 : decode prog_15_method_40_code 207 = .ok (.istore_n 1, 1) := D_60 W_prog_15_method_40_code_192 15 rfl rfl
theorem d_15_40_208 : decode prog_15_method_40_code 208 = .ok (.goto (-68), 3) := D_167 W_prog_15_method_40_code_192 16 rfl rfl rfl
theorem d_15_40_206 : decode prog_15_method_40_code 206 = .ok (.iconst 0, 1) := D_3 W_prog_15_method_40_code_192 14 rfl rfl
theorem d_15_40_179 : decode prog_15_method_40_code 179 = .ok (.aload_n 0, 1) := D_42 W_prog_15_method_40_code_160 19 rfl rfl
theorem d_15_40_180 : decode prog_15_method_40_code 180 = .ok (.invokevirtual 383, 3) := D_182 W_prog_15_method_40_code_160 20 rfl rfl rfl
theorem d_15_40_211 : decode prog_15_method_40_code 211 = .ok (.return_, 1) := D_177 W_prog_15_method_40_code_192 19 rfl rfl
theorem W_prog_15_method_54_code_0 : chW prog_15_method_54_code 0 [27, 62, 42, 182, 1, 120, 153, 0, 35, 29, 28, 162, 0, 30, 42, 29, 182, 2, 29, 42, 182, 1, 120, 153, 0, 8, 42, 29, 182, 2, 32, 42, 180, 0, 162, 29] := chW_of (by decide +kernel)
theorem d_15_54_0 : decode prog_15_method_54_code 0 = .ok (.iload_n 1, 1) := D_27 W_prog_15_method_54_code_0 0 rfl rfl
theorem d_15_54_1 : decode prog_15_method_54_code 1 = .ok (.istore_n 3, 1) := D_62 W_prog_15_method_54_code_0 1 rfl rfl
theorem d_15_54_2 : decode prog_15_method_54_code 2 = .ok (.aload_n 0, 1) := D_42 W_prog_15_method_54_code_0 2 rfl rfl
theorem d_15_54_3 : decode prog_15_method_54_code 3 = .ok (.invokevirtual 376, 3) := D_182 W_prog_15_method_54_code_0 3 rfl rfl rfl
theorem d_15_54_6 : decode prog_15_method_54_code 6 = .ok (.ifCond .eq 35, 3) := D_153 W_prog_15_method_54_code_0 6 rfl rfl rfl
theorem d_15_54_9 : decode prog_15_method_54_code 9 = .ok (.iload_n 3, 1) := D_29 W_prog_15_method_54_code_0 9 rfl rfl
theorem d_15_54_10 : decode prog_15_method_54_code 10 = .ok (.iload_n 2, 1) := D_28 W_prog_15_method_54_code_0 10 rfl rfl
theorem d_15_54_11 : decode prog_15_method_54_code 11 = .ok (.if_icmp .ge 30, 3) := D_162 W_prog_15_method_54_code_0 11 rfl rfl rfl
theorem d_15_54_14 : decode prog_15_method_54_code 14 = .ok (.aload_n 0, 1) := D_42 W_prog_15_method_54_code_0 14 rfl rfl
theorem d_15_54_15 : decode prog_15_method_54_code 15 = .ok (.iload_n 3, 1) := D_29 W_prog_15_method_54_code_0 15 rfl rfl
theorem d_15_54_16 : decode prog_15_method_54_code 16 = .ok (.invokevirtual 541, 3) := D_182 W_prog_15_method_54_code_0 16 rfl rfl rfl
theorem d_15_54_19 : decode prog_15_method_54_code 19 = .ok (.aload_n 0, 1) := D_42 W_prog_15_method_54_code_0 19 rfl rfl
theorem d_15_54_20 : decode prog_15_method_54_code 20 = .ok (.invokevirtual 376, 3) := D_182 W_prog_15_method_54_code_0 20 rfl rfl rfl
theorem d_15_54_23 : decode prog_15_method_54_code 23 = .ok (.ifCond .eq 8, 3) := D_153 W_prog_15_method_54_code_0 23 rfl rfl rfl
theorem d_15_54_26 : decode prog_15_method_54_code 26 = .ok (.aload_n 0, 1) := D_42 W_prog_15_method_54_code_0 26 rfl rfl
theorem d_15_54_27 : decode prog_15_method_54_code 27 = .ok (.iload_n 3, 1) := D_29 W_prog_15_method_54_code_0 27 rfl rfl
theorem d_15_54_28 : decode prog_15_method_54_code 28 = .ok (.invokevirtual 544, 3) := D_182 W_prog_15_method_54_code_0 28 rfl rfl rfl
theorem d_15_54_31 : decode prog_15_method_54_code 31 = .ok (.aload_n 0, 1) := D_42 W_prog_15_method_54_code_0 31 rfl rfl
theorem W_prog_15_method_54_code_32 : chW prog_15_method_54_code 32 [180, 0, 162, 29, 46, 62, 167, 255, 220, 177] := chW_of (by decide +kernel)
theorem d_15_54_32 : decode prog_15_method_54_code 32 = .ok (.getfield 162, 3) := D_180 W_prog_15_method_54_code_32 0 rfl rfl rfl
theorem d_15_54_35 : decode prog_15_method_54_code 35 = .ok (.iload_n 3, 1) := D_29 W_prog_15_method_54_code_32 3 rfl rfl
theorem d_15_54_36 : decode prog_15_method_54_code 36 = .ok (.iaload, 1) := D_46 W_prog_15_method_54_code_32 4 rfl rfl
theorem d_15_54_37 : decode prog_15_method_54_code 37 = .ok (.istore_n 3, 1) := D_62 W_prog_15_method_54_code_32 5 rfl rfl
theorem d_15_54_38 : decode prog_15_method_54_code 38 = .ok (.goto (-36), 3) := D_167 W_prog_15_method_54_code_32 6 rfl rfl rfl
theorem d_15_54_41 : decode prog_15_method_54_code 41 = .ok (.return_, 1) := D_177 W_prog_15_method_54_code_32 9 rfl rfl
theorem W_prog_15_method_56_code_0 : chW prog_15_method_56_code 0 [42, 180, 0, 48, 27, 46, 5, 159, 0, 47, 42, 180, 0, 48, 27, 46, 8, 160, 0, 14, 42, 180, 0, 55, 27, 46, 16, 60, 159, 0, 26, 42, 180, 0, 48, 27] := chW_of (by decide +kernel)
theorem d_15_56_0 : decode prog_15_method_56_code 0 = .ok (.aload_n 0, 1) := D_42 W_prog_15_method_56_code_0 0 rfl rfl
theorem d_15_56_1 : decode prog_15_method_56_code 1 = .ok (.getfield 48, 3) := D_180 W_prog_15_method_56_code_0 1 rfl rfl rfl
theorem d_15_56_4 : decode prog_15_method_56_code 4 = .ok (.iload_n 1, 1) := D_27 W_prog_15_method_56_code_0 4 rfl rfl
theorem d_15_56_5 : decode prog_15_method_56_code 5 = .ok (.iaload, 1) := D_46 W_prog_15_method_56_code_0 5 rfl rfl
theorem d_15_56_6 : decode prog_15_method_56_code 6 = .ok (.iconst 2, 1) := D_5 W_prog_15_method_56_code_0 6 rfl rfl
theorem d_15_56_7 : decode prog_15_method_56_code 7 = .ok (.if_icmp .eq 47, 3) := D_159 W_prog_15_method_56_code_0 7 rfl rfl rfl
theorem d_15_56_10 : decode prog_15_method_56_code 10 = .ok (.aload_n 0, 1) := D_42 W_prog_15_method_56_code_0 10 rfl rfl
theorem d_15_56_11 : decode prog_15_method_56_code 11 = .ok (.getfield 48, 3) := D_180 W_prog_15_method_56_code_0 11 rfl rfl rfl
theorem d_15_56_14 : decode prog_15_method_56_code 14 = .ok (.iload_n 1, 1) := D_27 W_prog_15_method_56_code_0 14 rfl rfl
theorem d_15_56_15 : decode prog_15_method_56_code 15 = .ok (.iaload, 1) := D_46 W_prog_15_method_56_code_0 15 rfl rfl
theorem d_15_56_16 : decode prog_15_method_56_code 16 = .ok (.iconst 5, 1) := D_8 W_prog_15_method_56_code_0 16 rfl rfl
theorem d_15_56_17 : decode prog_15_method_56_code 17 = .ok (.if_icmp .ne 14, 3) := D_160 W_prog_15_method_56_code_0 17 rfl rfl rfl
theorem d_15_56_20 : decode prog_15_method_56_code 20 = .ok (.aload_n 0, 1) := D_42 W_prog_15_method_56_code_0 20 rfl rfl
theorem d_15_56_21 : decode prog_15_method_56_code 21 = .ok (.getfield 55, 3) := D_180 W_prog_15_method_56_code_0 21 rfl rfl rfl
theorem d_15_56_24 : decode prog_15_method_56_code 24 = .ok (.iload_n 1, 1) := D_27 W_prog_15_method_56_code_0 24 rfl rfl
theorem d_15_56_25 : decode prog_15_method_56_code 25 = .ok (.iaload, 1) := D_46 W_prog_15_method_56_code_0 25 rfl rfl
theorem d_15_56_26 : decode prog_15_method_56_code 26 = .ok (.bipush 60, 2) := D_16 W_prog_15_method_56_code_0 26 rfl rfl rfl
theorem d_15_56_28 : decode prog_15_method_56_code 28 = .ok (.if_icmp .eq 26, 3) := D_159 W_prog_15_method_56_code_0 28 rfl rfl rfl
theorem d_15_56_31 : decode prog_15_method_56_code 31 = .ok (.aload_n 0, 1) := D_42 W_prog_15_method_56_code_0 31 rfl rfl
theorem W_prog_15_method_56_code_32 : chW prog_15_method_56_code 32 [180, 0, 48, 27, 46, 7, 160, 0, 24, 42, 180, 0, 61, 27, 47, 178, 0, 141, 148, 154, 0, 11, 42, 27, 182, 2, 35, 167, 0, 123, 42, 180, 0, 48, 27, 46] := chW_of (by decide +kernel)
theorem d_15_56_32 : decode prog_15_method_56_code 32 = .ok (.getfield 48, 3) := D_180 W_prog_15_method_56_code_32 0 rfl rfl rfl
theorem d_15_56_35 : decode prog_15_method_56_code 35 = .ok (.iload_n 1, 1) := D_27 W_prog_15_method_56_code_32 3 rfl rfl
theorem d_15_56_36 : decode prog_15_method_56_code 36 = .ok (.iaload, 1) := D_46 W_prog_15_method_56_code_32 4 rfl rfl
theorem d_15_56_37 : decode prog_15_method_56_code 37 = .ok (.iconst 4, 1) := D_7 W_prog_15_method_56_code_32 5 rfl rfl
theorem d_15_56_38 : decode prog_15_method_56_code 38 = .ok (.if_icmp .ne 24, 3) := D_160 W_prog_15_method_56_code_32 6 rfl rfl rfl
theorem d_15_56_41 : decode prog_15_method_56_code 41 = .ok (.aload_n 0, 1) := D_42 W_prog_15_method_56_code_32 9 rfl rfl
theorem d_15_56_42 : decode prog_15_method_56_code 42 = .ok (.getfield 61, 3) := D_180 W_prog_15_method_56_code_32 10 rfl rfl rfl
theorem d_15_56_45 : decode prog_15_method_56_code 45 = .ok (.iload_n 1, 1) := D_27 W_prog_15_method_56_code_32 13 rfl rfl
theorem d_15_56_46 : decode prog_15_method_56_code 46 = .ok (.laload, 1) := D_47 W_prog_15_method_56_code_32 14 rfl rfl
theorem d_15_56_47 : decode prog_15_method_56_code 47 = .ok (.getstatic 141, 3) := D_178 W_prog_15_method_56_code_32 15 rfl rfl rfl
theorem d_15_56_50 : decode prog_15_method_56_code 50 = .ok (.lcmp, 1) := D_148 W_prog_15_method_56_code_32 18 rfl rfl
theorem d_15_56_51 : decode prog_15_method_56_code 51 = .ok (.ifCond .ne 11, 3) := D_154 W_prog_15_method_56_code_32 19 rfl rfl rfl
theorem d_15_56_54 : decode prog_15_method_56_code 54 = .ok (.aload_n 0, 1) := D_42 W_prog_15_method_56_code_32 22 rfl rfl
theorem d_15_56_55 : decode prog_15_method_56_code 55 = .ok (.iload_n 1, 1) := D_27 W_prog_15_method_56_code_32 23 rfl rfl
theorem d_15_56_56 : decode prog_15_method_56_code 56 = .ok (.invokevirtual 547, 3) := D_182 W_prog_15_method_56_code_32 24 rfl rfl rfl
theorem d_15_56_59 : decode prog_15_method_56_code 59 = .ok (.goto 123, 3) := D_167 W_prog_15_method_56_code_32 27 rfl rfl rfl
theorem W_prog_15_method_56_code_160 : chW prog_15_method_56_code 160 [27, 47, 178, 0, 135, 148, 154, 0, 11, 42, 27, 182, 2, 50, 167, 0, 8, 42, 27, 182, 2, 53, 177] := chW_of (by decide +kernel)
theorem d_15_56_182 : decode prog_15_method_56_code 182 = .ok (.return_, 1) := D_177 W_prog_15_method_56_code_160 22 rfl rfl
theorem d_15_56_62 : decode prog_15_method_56_code 62 = .ok (.aload_n 0, 1) := D_42 W_prog_15_method_56_code_32 30 rfl rfl
theorem d_15_56_63 : decode prog_15_method_56_code 63 = .ok (.getfield 48, 3) := D_180 W_prog_15_method_56_code_32 31 rfl rfl rfl
theorem W_prog_15_method_56_code_64 : chW prog_15_method_56_code 64 [0, 48, 27, 46, 8, 160, 0, 11, 42, 27, 182, 2, 38, 167, 0, 105, 42, 180, 0, 61, 27, 47, 178, 0, 120, 148, 154, 0, 11, 42, 27, 182, 2, 41, 167, 0] := chW_of (by decide +kernel)
theorem d_15_56_66 : decode prog_15_method_56_code 66 = .ok (.iload_n 1, 1) := D_27 W_prog_15_method_56_code_64 2 rfl rfl
theorem d_15_56_67 : decode prog_15_method_56_code 67 = .ok (.iaload, 1) := D_46 W_prog_15_method_56_code_64 3 rfl rfl
theorem d_15_56_68 : decode prog_15_method_56_code 68 = .ok (.iconst 5, 1) := D_8 W_prog_15_method_56_code_64 4 rfl rfl
theorem d_15_56_69 : decode prog_15_method_56_code 69 = .ok (.if_icmp .ne 11, 3) := D_160 W_prog_15_method_56_code_64 5 rfl rfl rfl
theorem d_15_56_80 : decode prog_15_method_56_code 80 = .ok (.aload_n 0, 1) := D_42 W_prog_15_method_56_code_64 16 rfl rfl
theorem d_15_56_81 : decode prog_15_method_56_code 81 = .ok (.getfield 61, 3) := D_180 W_prog_15_method_56_code_64 17 rfl rfl rfl
theorem d_15_56_84 : decode prog_15_method_56_code 84 = .ok (.iload_n 1, 1) := D_27 W_prog_15_method_56_code_64 20 rfl rfl
theorem d_15_56_85 : decode prog_15_method_56_code 85 = .ok (.laload, 1) := D_47 W_prog_15_method_56_code_64 21 rfl rfl
theorem d_15_56_86 : decode prog_15_method_56_code 86 = .ok (.getstatic 120, 3) := D_178 W_prog_15_method_56_code_64 22 rfl rfl rfl
theorem d_15_56_89 : decode prog_15_method_56_code 89 = .ok (.lcmp, 1) := D_148 W_prog_15_method_56_code_64 25 rfl rfl
theorem d_15_56_90 : decode prog_15_method_56_code 90 = .ok (.ifCond .ne 11, 3) := D_154 W_prog_15_method_56_code_64 26 rfl rfl rfl
theorem W_prog_15_method_56_code_96 : chW prog_15_method_56_code 96 [2, 41, 167, 0, 84, 42, 180, 0, 61, 27, 47, 178, 0, 126, 148, 154, 0, 11, 42, 27, 182, 2, 44, 167, 0, 63, 42, 180, 0, 61, 27, 47, 178, 0, 129, 148] := chW_of (by decide +kernel)
theorem d_15_56_101 : decode prog_15_method_56_code 101 = .ok (.aload_n 0, 1) := D_42 W_prog_15_method_56_code_96 5 rfl rfl
theorem d_15_56_102 : decode prog_15_method_56_code 102 = .ok (.getfield 61, 3) := D_180 W_prog_15_method_56_code_96 6 rfl rfl rfl
theorem d_15_56_105 : decode prog_15_method_56_code 105 = .ok (.iload_n 1, 1) := D_27 W_prog_15_method_56_code_96 9 rfl rfl
theorem d_15_56_106 : decode prog_15_method_56_code 106 = .ok (.laload, 1) := D_47 W_prog_15_method_56_code_96 10 rfl rfl
theorem d_15_56_107 : decode prog_15_method_56_code 107 = .ok (.getstatic 126, 3) := D_178 W_prog_15_method_56_code_96 11 rfl rfl rfl
theorem d_15_56_110 : decode prog_15_method_56_code 110 = .ok (.lcmp, 1) := D_148 W_prog_15_method_56_code_96 14 rfl rfl
theorem d_15_56_111 : decode prog_15_method_56_code 111 = .ok (.ifCond .ne 11, 3) := D_154 W_prog_15_method_56_code_96 15 rfl rfl rfl
theorem d_15_56_122 : decode prog_15_method_56_code 122 = .ok (.aload_n 0, 1) := D_42 W_prog_15_method_56_code_96 26 rfl rfl
theorem d_15_56_123 : decode prog_15_method_56_code 123 = .ok (.getfield 61, 3) := D_180 W_prog_15_method_56_code_96 27 rfl rfl rfl
theorem d_15_56_126 : decode prog_15_method_56_code 126 = .ok (.iload_n 1, 1) := D_27 W_prog_15_method_56_code_96 30 rfl rfl
theorem d_15_56_127 : decode prog_15_method_56_code 127 = .ok (.laload, 1) := D_47 W_prog_15_method_56_code_96 31 rfl rfl
theorem W_prog_15_method_56_code_128 : chW prog_15_method_56_code 128 [178, 0, 129, 148, 153, 0, 16, 42, 180, 0, 61, 27, 47, 178, 0, 132, 148, 154, 0, 11, 42, 27, 182, 2, 47, 167, 0, 29, 42, 180, 0, 61, 27, 47, 178, 0] := chW_of (by decide +kernel)
theorem d_15_56_128 : decode prog_15_method_56_code 128 = .ok (.getstatic 129, 3) := D_178 W_prog_15_method_56_code_128 0 rfl rfl rfl
theorem d_15_56_131 : decode prog_15_method_56_code 131 = .ok (.lcmp, 1) := D_148 W_prog_15_method_56_code_128 3 rfl rfl
theorem d_15_56_132 : decode prog_15_method_56_code 132 = .ok (.ifCond .eq 16, 3) := D_153 W_prog_15_method_56_code_128 4 rfl rfl rfl
theorem d_15_56_135 : decode prog_15_method_56_code 135 = .ok (.aload_n 0, 1) := D_42 W_prog_15_method_56_code_128 7 rfl rfl
theorem d_15_56_136 : decode prog_15_method_56_code 136 = .ok (.getfield 61, 3) := D_180 W_prog_15_method_56_code_128 8 rfl rfl rfl
theorem d_15_56_139 : decode prog_15_method_56_code 139 = .ok (.iload_n 1, 1) := D_27 W_prog_15_method_56_code_128 11 rfl rfl
theorem d_15_56_140 : decode prog_15_method_56_code 140 = .ok (.laload, 1) := D_47 W_prog_15_method_56_code_128 12 rfl rfl
theorem d_15_56_141 : decode prog_15_method_56_code 141 = .ok (.getstatic 132, 3) := D_178 W_prog_15_method_56_code_128 13 rfl rfl rfl
theorem d_15_56_144 : decode prog_15_method_56_code 144 = .ok (.lcmp, 1) := D_148 W_prog_15_method_56_code_128 16 rfl rfl
theorem d_15_56_145 : decode prog_15_method_56_code 145 = .ok (.ifCond .ne 11, 3) := D_154 W_prog_15_method_56_code_128 17 rfl rfl rfl
theorem d_15_56_156 : decode prog_15_method_56_code 156 = .ok (.aload_n 0, 1) := D_42 W_prog_15_method_56_code_128 28 rfl rfl
theorem d_15_56_157 : decode prog_15_method_56_code 157 = .ok (.getfield 61, 3) := D_180 W_prog_15_method_56_code_128 29 rfl rfl rfl
theorem d_15_56_160 : decode prog_15_method_56_code 160 = .ok (.iload_n 1, 1) := D_27 W_prog_15_method_56_code_160 0 rfl rfl
theorem d_15_56_161 : decode prog_15_method_56_code 161 = .ok (.laload, 1) := D_47 W_prog_15_method_56_code_160 1 rfl rfl
theorem d_15_56_162 : decode prog_15_method_56_code 162 = .ok (.getstatic 135, 3) := D_178 W_prog_15_method_56_code_160 2 rfl rfl rfl
theorem d_15_56_165 : decode prog_15_method_56_code 165 = .ok (.lcmp, 1) := D_148 W_prog_15_method_56_code_160 5 rfl rfl
theorem d_15_56_166 : decode prog_15_method_56_code 166 = .ok (.ifCond .ne 11, 3) := D_154 W_prog_15_method_56_code_160 6 rfl rfl rfl
theorem d_15_56_177 : decode prog_15_method_56_code 177 = .ok (.aload_n 0, 1) := D_42 W_prog_15_method_56_code_160 17 rfl rfl
theorem d_15_56_178 : decode prog_15_method_56_code 178 = .ok (.iload_n 1, 1) := D_27 W_prog_15_method_56_code_160 18 rfl rfl
theorem d_15_56_179 : decode prog_15_method_56_code 179 = .ok (.invokevirtual 565, 3) := D_182 W_prog_15_method_56_code_160 19 rfl rfl rfl
theorem d_15_56_169 : decode prog_15_method_56_code 169 = .ok (.aload_n 0, 1) := D_42 W_prog_15_method_56_code_160 9 rfl rfl
theorem d_15_56_170 : decode prog_15_method_56_code 170 = .ok (.iload_n 1, 1) := D_27 W_prog_15_method_56_code_160 10 rfl rfl
theorem d_15_56_171 : decode prog_15_method_56_code 171 = .ok (.invokevirtual 562, 3) := D_182 W_prog_15_method_56_code_160 11 rfl rfl rfl
theorem d_15_56_174 : decode prog_15_method_56_code 174 = .ok (.goto 8, 3) := D_167 W_prog_15_method_56_code_160 14 rfl rfl rfl
theorem d_15_56_114 : decode prog_15_method_56_code 114 = .ok (.aload_n 0, 1) := D_42 W_prog_15_method_56_code_96 18 rfl rfl
theorem d_15_56_115 : decode prog_15_method_56_code 115 = .ok (.iload_n 1, 1) := D_27 W_prog_15_method_56_code_96 19 rfl rfl
theorem d_15_56_116 : decode prog_15_method_56_code 116 = .ok (.invokevirtual 556, 3) := D_182 W_prog_15_method_56_code_96 20 rfl rfl rfl
theorem d_15_56_119 : decode prog_15_method_56_code 119 = .ok (.goto 63, 3) := D_167 W_prog_15_method_56_code_96 23 rfl rfl rfl
theorem d_15_56_93 : decode prog_15_method_56_code 93 = .ok (.aload_n 0, 1) := D_42 W_prog_15_method_56_code_64 29 rfl rfl
theorem d_15_56_94 : decode prog_15_method_56_code 94 = .ok (.iload_n 1, 1) := D_27 W_prog_15_method_56_code_64 30 rfl rfl
theorem d_15_56_95 : decode prog_15_method_56_code 95 = .ok (.invokevirtual 553, 3) := D_182 W_prog_15_method_56_code_64 31 rfl rfl rfl
theorem d_15_56_98 : decode prog_15_method_56_code 98 = .ok (.goto 84, 3) := D_167 W_prog_15_method_56_code_96 2 rfl rfl rfl
theorem d_15_56_72 : decode prog_15_method_56_code 72 = .ok (.aload_n 0, 1) := D_42 W_prog_15_method_56_code_64 8 rfl rfl
theorem d_15_56_73 : decode prog_15_method_56_code 73 = .ok (.iload_n 1, 1) := D_27 W_prog_15_method_56_code_64 9 rfl rfl
theorem d_15_56_74 : decode prog_15_method_56_code 74 = .ok (.invokevirtual 550, 3) := D_182 W_prog_15_method_56_code_64 10 rfl rfl rfl
theorem d_15_56_77 : decode prog_15_method_56_code 77 = .ok (.goto 105, 3) := D_167 W_prog_15_method_56_code_64 13 rfl rfl rfl
theorem d_15_56_148 : decode prog_15_method_56_code 148 = .ok (.aload_n 0, 1) := D_42 W_prog_15_method_56_code_128 20 rfl rfl
theorem d_15_56_149 : decode prog_15_method_56_code 149 = .ok (.iload_n 1, 1) := D_27 W_prog_15_method_56_code_128 21 rfl rfl
theorem d_15_56_150 : decode prog_15_method_56_code 150 = .ok (.invokevirtual 559, 3) := D_182 W_prog_15_method_56_code_128 22 rfl rfl rfl
theorem d_15_56_153 : decode prog_15_method_56_code 153 = .ok (.goto 29, 3) := D_167 W_prog_15_method_56_code_128 25 rfl rfl rfl
theorem W_prog_15_method_57_code_0 : chW prog_15_method_57_code 0 [42, 180, 0, 55, 27, 46, 16, 33, 160, 0, 27, 42, 42, 180, 0, 96, 16, 8, 42, 180, 0, 61, 27, 4, 96, 47, 184, 1, 116, 181, 1, 241, 167, 0, 150, 42] := chW_of (by decide +kernel)
theorem d_15_57_0 : decode prog_15_method_57_code 0 = .ok (.aload_n 0, 1) := D_42 W_prog_15_method_57_code_0 0 rfl rfl
theorem d_15_57_1 : decode prog_15_method_57_code 1 = .ok (.getfield 55, 3) := D_180 W_prog_15_method_57_code_0 1 rfl rfl rfl
theorem d_15_57_4 : decode prog_15_method_57_code 4 = .ok (.iload_n 1, 1) := D_27 W_prog_15_method_57_code_0 4 rfl rfl
theorem d_15_57_5 : decode prog_15_method_57_code 5 = .ok (.iaload, 1) := D_46 W_prog_15_method_57_code_0 5 rfl rfl
theorem d_15_57_6 : decode prog_15_method_57_code 6 = .ok (.bipush 33, 2) := D_16 W_prog_15_method_57_code_0 6 rfl rfl rfl
theorem d_15_57_8 : decode prog_15_method_57_code 8 = .ok (.if_icmp .ne 27, 3) := D_160 W_prog_15_method_57_code_0 8 rfl rfl rfl
theorem W_prog_15_method_57_code_32 : chW prog_15_method_57_code 32 [167, 0, 150, 42, 180, 0, 55, 27, 46, 16, 124, 160, 0, 50, 42, 180, 1, 244, 154, 0, 132, 42, 180, 1, 235, 42, 180, 1, 238, 42, 180, 0, 44, 180, 1, 148] := chW_of (by decide +kernel)
theorem d_15_57_35 : decode prog_15_method_57_code 35 = .ok (.aload_n 0, 1) := D_42 W_prog_15_method_57_code_32 3 rfl rfl
theorem d_15_57_36 : decode prog_15_method_57_code 36 = .ok (.getfield 55, 3) := D_180 W_prog_15_method_57_code_32 4 rfl rfl rfl
theorem d_15_57_39 : decode prog_15_method_57_code 39 = .ok (.iload_n 1, 1) := D_27 W_prog_15_method_57_code_32 7 rfl rfl
theorem d_15_57_40 : decode prog_15_method_57_code 40 = .ok (.iaload, 1) := D_46 W_prog_15_method_57_code_32 8 rfl rfl
theorem d_15_57_41 : decode prog_15_method_57_code 41 = .ok (.bipush 124, 2) := D_16 W_prog_15_method_57_code_32 9 rfl rfl rfl
theorem d_15_57_43 : decode prog_15_method_57_code 43 = .ok (.if_icmp .ne 50, 3) := D_160 W_prog_15_method_57_code_32 11 rfl rfl rfl
theorem W_prog_15_method_57_code_64 : chW prog_15_method_57_code 64 [44, 180, 1, 148, 133, 42, 180, 0, 44, 180, 1, 151, 133, 184, 2, 56, 154, 0, 102, 42, 16, 7, 27, 182, 1, 109, 167, 0, 92, 42, 180, 1, 250, 154, 0, 18] := chW_of (by decide +kernel)
theorem d_15_57_93 : decode prog_15_method_57_code 93 = .ok (.aload_n 0, 1) := D_42 W_prog_15_method_57_code_64 29 rfl rfl
theorem d_15_57_94 : decode prog_15_method_57_code 94 = .ok (.getfield 506, 3) := D_180 W_prog_15_method_57_code_64 30 rfl rfl rfl
theorem W_prog_15_method_57_code_96 : chW prog_15_method_57_code 96 [250, 154, 0, 18, 42, 27, 181, 2, 60, 42, 89, 180, 1, 253, 4, 96, 181, 1, 253, 42, 180, 0, 184, 42, 180, 1, 250, 42, 180, 0, 55, 27, 4, 96, 46, 79] := chW_of (by decide +kernel)
theorem d_15_57_97 : decode prog_15_method_57_code 97 = .ok (.ifCond .ne 18, 3) := D_154 W_prog_15_method_57_code_96 1 rfl rfl rfl
theorem d_15_57_100 : decode prog_15_method_57_code 100 = .ok (.aload_n 0, 1) := D_42 W_prog_15_method_57_code_96 4 rfl rfl
theorem d_15_57_101 : decode prog_15_method_57_code 101 = .ok (.iload_n 1, 1) := D_27 W_prog_15_method_57_code_96 5 rfl rfl
theorem d_15_57_102 : decode prog_15_method_57_code 102 = .ok (.putfield 572, 3) := D_181 W_prog_15_method_57_code_96 6 rfl rfl rfl
theorem d_15_57_105 : decode prog_15_method_57_code 105 = .ok (.aload_n 0, 1) := D_42 W_prog_15_method_57_code_96 9 rfl rfl
theorem d_15_57_106 : decode prog_15_method_57_code 106 = .ok (.dup, 1) := D_89 W_prog_15_method_57_code_96 10 rfl rfl
theorem d_15_57_107 : decode prog_15_method_57_code 107 = .ok (.getfield 509, 3) := D_180 W_prog_15_method_57_code_96 11 rfl rfl rfl
theorem d_15_57_110 : decode prog_15_method_57_code 110 = .ok (.iconst 1, 1) := D_4 W_prog_15_method_57_code_96 14 rfl rfl
theorem d_15_57_111 : decode prog_15_method_57_code 111 = .ok (.iadd, 1) := D_96 W_prog_15_method_57_code_96 15 rfl rfl
theorem d_15_57_112 : decode prog_15_method_57_code 112 = .ok (.putfield 509, 3) := D_181 W_prog_15_method_57_code_96 16 rfl rfl rfl
theorem d_15_57_46 : decode prog_15_method_57_code 46 = .ok (.aload_n 0, 1) := D_42 W_prog_15_method_57_code_32 14 rfl rfl
theorem d_15_57_47 : decode prog_15_method_57_code 47 = .ok (.getfield 500, 3) := D_180 W_prog_15_method_57_code_32 15 rfl rfl rfl
theorem d_15_57_50 : decode prog_15_method_57_code 50 = .ok (.ifCond .ne 132, 3) := D_154 W_prog_15_method_57_code_32 18 rfl rfl rfl
theorem d_15_57_53 : decode prog_15_method_57_code 53 = .ok (.aload_n 0, 1) := D_42 W_prog_15_method_57_code_32 21 rfl rfl
theorem d_15_57_54 : decode prog_15_method_57_code 54 = .ok (.getfield 491, 3) := D_180 W_prog_15_method_57_code_32 22 rfl rfl rfl
theorem d_15_57_57 : decode prog_15_method_57_code 57 = .ok (.aload_n 0, 1) := D_42 W_prog_15_method_57_code_32 25 rfl rfl
theorem d_15_57_58 : decode prog_15_method_57_code 58 = .ok (.getfield 494, 3) := D_180 W_prog_15_method_57_code_32 26 rfl rfl rfl
theorem d_15_57_61 : decode prog_15_method_57_code 61 = .ok (.aload_n 0, 1) := D_42 W_prog_15_method_57_code_32 29 rfl rfl
theorem d_15_57_62 : decode prog_15_method_57_code 62 = .ok (.getfield 44, 3) := D_180 W_prog_15_method_57_code_32 30 rfl rfl rfl
theorem d_15_57_65 : decode prog_15_method_57_code 65 = .ok (.getfield 404, 3) := D_180 W_prog_15_method_57_code_64 1 rfl rfl rfl
theorem d_15_57_68 : decode prog_15_method_57_code 68 = .ok (.i2l, 1) := D_133 W_prog_15_method_57_code_64 4 rfl rfl
theorem d_15_57_69 : decode prog_15_method_57_code 69 = .ok (.aload_n 0, 1) := D_42 W_prog_15_method_57_code_64 5 rfl rfl
theorem d_15_57_70 : decode prog_15_method_57_code 70 = .ok (.getfield 44, 3) := D_180 W_prog_15_method_57_code_64 6 rfl rfl rfl
theorem d_15_57_73 : decode prog_15_method_57_code 73 = .ok (.getfield 407, 3) := D_180 W_prog_15_method_57_code_64 9 rfl rfl rfl
theorem d_15_57_76 : decode prog_15_method_57_code 76 = .ok (.i2l, 1) := D_133 W_prog_15_method_57_code_64 12 rfl rfl
theorem d_15_57_77 : decode prog_15_method_57_code 77 = .ok (.invokestatic 568, 3) := D_184 W_prog_15_method_57_code_64 13 rfl rfl rfl
theorem d_15_57_80 : decode prog_15_method_57_code 80 = .ok (.ifCond .ne 102, 3) := D_154 W_prog_15_method_57_code_64 16 rfl rfl rfl
theorem d_15_57_83 : decode prog_15_method_57_code 83 = .ok (.aload_n 0, 1) := D_42 W_prog_15_method_57_code_64 19 rfl rfl
theorem d_15_57_84 : decode prog_15_method_57_code 84 = .ok (.bipush 7, 2) := D_16 W_prog_15_method_57_code_64 20 rfl rfl rfl
theorem d_15_57_86 : decode prog_15_method_57_code 86 = .ok (.iload_n 1, 1) := D_27 W_prog_15_method_57_code_64 22 rfl rfl
theorem d_15_57_87 : decode prog_15_method_57_code 87 = .ok (.invokevirtual 365, 3) := D_182 W_prog_15_method_57_code_64 23 rfl rfl rfl
theorem d_15_57_90 : decode prog_15_method_57_code 90 = .ok (.goto 92, 3) := D_167 W_prog_15_method_57_code_64 26 rfl rfl rfl
theorem d_15_57_11 : decode prog_15_method_57_code 11 = .ok (.aload_n 0, 1) := D_42 W_prog_15_method_57_code_0 11 rfl rfl
theorem d_15_57_12 : decode prog_15_method_57_code 12 = .ok (.aload_n 0, 1) := D_42 W_prog_15_method_57_code_0 12 rfl rfl
theorem d_15_57_13 : decode prog_15_method_57_code 13 = .ok (.getfield 96, 3) := D_180 W_prog_15_method_57_code_0 13 rfl rfl rfl
theorem d_15_57_16 : decode prog_15_method_57_code 16 = .ok (.bipush 8, 2) := D_16 W_prog_15_method_57_code_0 16 rfl rfl rfl
theorem d_15_57_18 : decode prog_15_method_57_code 18 = .ok (.aload_n 0, 1) := D_42 W_prog_15_method_57_code_0 18 rfl rfl
theorem d_15_57_19 : decode prog_15_method_57_code 19 = .ok (.getfield 61, 3) := D_180 W_prog_15_method_57_code_0 19 rfl rfl rfl
theorem d_15_57_22 : decode prog_15_method_57_code 22 = .ok (.iload_n 1, 1) := D_27 W_prog_15_method_57_code_0 22 rfl rfl
theorem d_15_57_23 : decode prog_15_method_57_code 23 = .ok (.iconst 1, 1) := D_4 W_prog_15_method_57_code_0 23 rfl rfl
theorem d_15_57_24 : decode prog_15_method_57_code 24 = .ok (.iadd, 1) := D_96 W_prog_15_method_57_code_0 24 rfl rfl
theorem d_15_57_25 : decode prog_15_method_57_code 25 = .ok (.laload, 1) := D_47 W_prog_15_method_57_code_0 25 rfl rfl
theorem d_15_57_26 : decode prog_15_method_57_code 26 = .ok (.invokestatic 372, 3) := D_184 W_prog_15_method_57_code_0 26 rfl rfl rfl
theorem d_15_57_29 : decode prog_15_method_57_code 29 = .ok (.putfield 497, 3) := D_181 W_prog_15_method_57_code_0 29 rfl rfl rfl
theorem d_15_57_32 : decode prog_15_method_57_code 32 = .ok (.goto 150, 3) := D_167 W_prog_15_method_57_code_32 0 rfl rfl rfl
theorem W_prog_15_method_57_code_160 : chW prog_15_method_57_code 160 [27, 8, 96, 42, 180, 0, 159, 27, 46, 182, 2, 0, 42, 89, 180, 1, 250, 4, 100, 181, 1, 250, 177] := chW_of (by decide +kernel)
theorem d_15_57_182 : decode prog_15_method_57_code 182 = .ok (.return_, 1) := D_177 W_prog_15_method_57_code_160 22 rfl rfl
theorem d_15_57_115 : decode prog_15_method_57_code 115 = .ok (.aload_n 0, 1) := D_42 W_prog_15_method_57_code_96 19 rfl rfl
theorem d_15_57_116 : decode prog_15_method_57_code 116 = .ok (.getfield 184, 3) := D_180 W_prog_15_method_57_code_96 20 rfl rfl rfl
theorem d_15_57_119 : decode prog_15_method_57_code 119 = .ok (.aload_n 0, 1) := D_42 W_prog_15_method_57_code_96 23 rfl rfl
theorem d_15_57_120 : decode prog_15_method_57_code 120 = .ok (.getfield 506, 3) := D_180 W_prog_15_method_57_code_96 24 rfl rfl rfl
theorem d_15_57_123 : decode prog_15_method_57_code 123 = .ok (.aload_n 0, 1) := D_42 W_prog_15_method_57_code_96 27 rfl rfl
theorem d_15_57_124 : decode prog_15_method_57_code 124 = .ok (.getfield 55, 3) := D_180 W_prog_15_method_57_code_96 28 rfl rfl rfl
theorem d_15_57_127 : decode prog_15_method_57_code 127 = .ok (.iload_n 1, 1) := D_27 W_prog_15_method_57_code_96 31 rfl rfl
theorem W_prog_15_method_57_code_128 : chW prog_15_method_57_code 128 [4, 96, 46, 79, 42, 180, 0, 187, 42, 180, 1, 250, 42, 180, 0, 55, 27, 6, 96, 46, 79, 42, 89, 180, 1, 250, 4, 96, 181, 1, 250, 42, 27, 8, 96, 42] := chW_of (by decide +kernel)
theorem d_15_57_128 : decode prog_15_method_57_code 128 = .ok (.iconst 1, 1) := D_4 W_prog_15_method_57_code_128 0 rfl rfl
theorem d_15_57_129 : decode prog_15_method_57_code 129 = .ok (.iadd, 1) := D_96 W_prog_15_method_57_code_128 1 rfl rfl
theorem d_15_57_130 : decode prog_15_method_57_code 130 = .ok (.iaload, 1) := D_46 W_prog_15_method_57_code_128 2 rfl rfl
theorem d_15_57_131 : decode prog_15_method_57_code 131 = .ok (.iastore, 1) := D_79 W_prog_15_method_57_code_128 3 rfl rfl
theorem d_15_57_132 : decode prog_15_method_57_code 132 = .ok (.aload_n 0, 1) := D_42 W_prog_15_method_57_code_128 4 rfl rfl
theorem d_15_57_133 : decode prog_15_method_57_code 133 = .ok (.getfield 187, 3) := D_180 W_prog_15_method_57_code_128 5 rfl rfl rfl
theorem d_15_57_136 : decode prog_15_method_57_code 136 = .ok (.aload_n 0, 1) := D_42 W_prog_15_method_57_code_128 8 rfl rfl
theorem d_15_57_137 : decode prog_15_method_57_code 137 = .ok (.getfield 506, 3) := D_180 W_prog_15_method_57_code_128 9 rfl rfl rfl
theorem d_15_57_140 : decode prog_15_method_57_code 140 = .ok (.aload_n 0, 1) := D_42 W_prog_15_method_57_code_128 12 rfl rfl
theorem d_15_57_141 : decode prog_15_method_57_code 141 = .ok (.getfield 55, 3) := D_180 W_prog_15_method_57_code_128 13 rfl rfl rfl
theorem d_15_57_144 : decode prog_15_method_57_code 144 = .ok (.iload_n 1, 1) := D_27 W_prog_15_method_57_code_128 16 rfl rfl
theorem d_15_57_145 : decode prog_15_method_57_code 145 = .ok (.iconst 3, 1) := D_6 W_prog_15_method_57_code_128 17 rfl rfl
theorem d_15_57_146 : decode prog_15_method_57_code 146 = .ok (.iadd, 1) := D_96 W_prog_15_method_57_code_128 18 rfl rfl
theorem d_15_57_147 : decode prog_15_method_57_code 147 = .ok (.iaload, 1) := D_46 W_prog_15_method_57_code_128 19 rfl rfl
theorem d_15_57_148 : decode prog_15_method_57_code 148 = .ok (.iastore, 1) := D_79 W_prog_15_method_57_code_128 20 rfl rfl
theorem d_15_57_149 : decode prog_15_method_57_code 149 = .ok (.aload_n 0, 1) := D_42 W_prog_15_method_57_code_128 21 rfl rfl
theorem d_15_57_150 : decode prog_15_method_57_code 150 = .ok (.dup, 1) := D_89 W_prog_15_method_57_code_128 22 rfl rfl
theorem d_15_57_151 : decode prog_15_method_57_code 151 = .ok (.getfield 506, 3) := D_180 W_prog_15_method_57_code_128 23 rfl rfl rfl
theorem d_15_57_154 : decode prog_15_method_57_code 154 = .ok (.iconst 1, 1) := D_4 W_prog_15_method_57_code_128 26 rfl rfl
theorem d_15_57_155 : decode prog_15_method_57_code 155 = .ok (.iadd, 1) := D_96 W_prog_15_method_57_code_128 27 rfl rfl
theorem d_15_57_156 : decode prog_15_method_57_code 156 = .ok (.putfield 506, 3) := D_181 W_prog_15_method_57_code_128 28 rfl rfl rfl
theorem d_15_57_159 : decode prog_15_method_57_code 159 = .ok (.aload_n 0, 1) := D_42 W_prog_15_method_57_code_128 31 rfl rfl
theorem d_15_57_160 : decode prog_15_method_57_code 160 = .ok (.iload_n 1, 1) := D_27 W_prog_15_method_57_code_160 0 rfl rfl
theorem d_15_57_161 : decode prog_15_method_57_code 161 = .ok (.iconst 5, 1) := D_8 W_prog_15_method_57_code_160 1 rfl rfl
theorem d_15_57_162 : decode prog_15_method_57_code 162 = .ok (.iadd, 1) := D_96 W_prog_15_method_57_code_160 2 rfl rfl
theorem d_15_57_163 : decode prog_15_method_57_code 163 = .ok (.aload_n 0, 1) := D_42 W_prog_15_method_57_code_160 3 rfl rfl
theorem d_15_57_164 : decode prog_15_method_57_code 164 = .ok (.getfield 159, 3) := D_180 W_prog_15_method_57_code_160 4 rfl rfl rfl
theorem d_15_57_167 : decode prog_15_method_57_code 167 = .ok (.iload_n 1, 1) := D_27 W_prog_15_method_57_code_160 7 rfl rfl
theorem d_15_57_168 : decode prog_15_method_57_code 168 = .ok (.iaload, 1) := D_46 W_prog_15_method_57_code_160 8 rfl rfl
theorem d_15_57_169 : decode prog_15_method_57_code 169 = .ok (.invokevirtual 512, 3) := D_182 W_prog_15_method_57_code_160 9 rfl rfl rfl
theorem d_15_57_172 : decode prog_15_method_57_code 172 = .ok (.aload_n 0, 1) := D_42 W_prog_15_method_57_code_160 12 rfl rfl
theorem d_15_57_173 : decode prog_15_method_57_code 173 = .ok (.dup, 1) := D_89 W_prog_15_method_57_code_160 13 rfl rfl
theorem d_15_57_174 : decode prog_15_method_57_code 174 = .ok (.getfield 506, 3) := D_180 W_prog_15_method_57_code_160 14 rfl rfl rfl
theorem d_15_57_177 : decode prog_15_method_57_code 177 = .ok (.iconst 1, 1) := D_4 W_prog_15_method_57_code_160 17 rfl rfl
theorem d_15_57_178 : decode prog_15_method_57_code 178 = .ok (.isub, 1) := D_100 W_prog_15_method_57_code_160 18 rfl rfl
theorem d_15_57_179 : decode prog_15_method_57_code 179 = .ok (.putfield 506, 3) := D_181 W_prog_15_method_57_code_160 19 rfl rfl rfl
theorem W_prog_15_method_58_code_0 : chW prog_15_method_58_code 0 [27, 5, 96, 61, 42, 180, 0, 159, 28, 46, 4, 96, 62, 29, 42, 180, 0, 162, 27, 46, 162, 0, 7, 4, 167, 0, 4, 3, 54, 4, 3, 54, 5, 29, 4, 96] := chW_of (by decide +kernel)
theorem d_15_58_0 : decode prog_15_method_58_code 0 = .ok (.iload_n 1, 1) := D_27 W_prog_15_method_58_code_0 0 rfl rfl
theorem d_15_58_1 : decode prog_15_method_58_code 1 = .ok (.iconst 2, 1) := D_5 W_prog_15_method_58_code_0 1 rfl rfl
theorem d_15_58_2 : decode prog_15_method_58_code 2 = .ok (.iadd, 1) := D_96 W_prog_15_method_58_code_0 2 rfl rfl
theorem d_15_58_3 : decode prog_15_method_58_code 3 = .ok (.istore_n 2, 1) := D_61 W_prog_15_method_58_code_0 3 rfl rfl
theorem d_15_58_4 : decode prog_15_method_58_code 4 = .ok (.aload_n 0, 1) := D_42 W_prog_15_method_58_code_0 4 rfl rfl
theorem d_15_58_5 : decode prog_15_method_58_code 5 = .ok (.getfield 159, 3) := D_180 W_prog_15_method_58_code_0 5 rfl rfl rfl
theorem d_15_58_8 : decode prog_15_method_58_code 8 = .ok (.iload_n 2, 1) := D_28 W_prog_15_method_58_code_0 8 rfl rfl
theorem d_15_58_9 : decode prog_15_method_58_code 9 = .ok (.iaload, 1) := D_46 W_prog_15_method_58_code_0 9 rfl rfl
theorem d_15_58_10 : decode prog_15_method_58_code 10 = .ok (.iconst 1, 1) := D_4 W_prog_15_method_58_code_0 10 rfl rfl
theorem d_15_58_11 : decode prog_15_method_58_code 11 = .ok (.iadd, 1) := D_96 W_prog_15_method_58_code_0 11 rfl rfl
theorem d_15_58_12 : decode prog_15_method_58_code 12 = .ok (.istore_n 3, 1) := D_62 W_prog_15_method_58_code_0 12 rfl rfl
theorem d_15_58_13 : decode prog_15_method_58_code 13 = .ok (.iload_n 3, 1) := D_29 W_prog_15_method_58_code_0 13 rfl rfl
theorem d_15_58_14 : decode prog_15_method_58_code 14 = .ok (.aload_n 0, 1) := D_42 W_prog_15_method_58_code_0 14 rfl rfl
theorem d_15_58_15 : decode prog_15_method_58_code 15 = .ok (.getfield 162, 3) := D_180 W_prog_15_method_58_code_0 15 rfl rfl rfl
theorem d_15_58_18 : decode prog_15_method_58_code 18 = .ok (.iload_n 1, 1) := D_27 W_prog_15_method_58_code_0 18 rfl rfl
theorem d_15_58_19 : decode prog_15_method_58_code 19 = .ok (.iaload, 1) := D_46 W_prog_15_method_58_code_0 19 rfl rfl
theorem d_15_58_20 : decode prog_15_method_58_code 20 = .ok (.if_icmp .ge 7, 3) := D_162 W_prog_15_method_58_code_0 20 rfl rfl rfl
theorem d_15_58_27 : decode prog_15_method_58_code 27 = .ok (.iconst 0, 1) := D_3 W_prog_15_method_58_code_0 27 rfl rfl
theorem d_15_58_23 : decode prog_15_method_58_code 23 = .ok (.iconst 1, 1) := D_4 W_prog_15_method_58_code_0 23 rfl rfl
theorem d_15_58_24 : decode prog_15_method_58_code 24 = .ok (.goto 4, 3) := D_167 W_prog_15_method_58_code_0 24 rfl rfl rfl
theorem d_15_58_28 : decode prog_15_method_58_code 28 = .ok (.istore 4, 2) := D_54 W_prog_15_method_58_code_0 28 rfl rfl
theorem d_15_58_30 : decode prog_15_method_58_code 30 = .ok (.iconst 0, 1) := D_3 W_prog_15_method_58_code_0 30 rfl rfl
theorem d_15_58_31 : decode prog_15_method_58_code 31 = .ok (.istore 5, 2) := D_54 W_prog_15_method_58_code_0 31 rfl rfl
theorem W_prog_15_method_58_code_32 : chW prog_15_method_58_code 32 [5, 29, 4, 96, 54, 6, 21, 4, 153, 0, 31, 21, 6, 42, 180, 0, 162, 27, 46, 162, 0, 20, 132, 5, 1, 42, 180, 0, 159, 21, 6, 46, 4, 96, 54, 6] := chW_of (by decide +kernel)
theorem d_15_58_33 : decode prog_15_method_58_code 33 = .ok (.iload_n 3, 1) := D_29 W_prog_15_method_58_code_32 1 rfl rfl
theorem d_15_58_34 : decode prog_15_method_58_code 34 = .ok (.iconst 1, 1) := D_4 W_prog_15_method_58_code_32 2 rfl rfl
theorem d_15_58_35 : decode prog_15_method_58_code 35 = .ok (.iadd, 1) := D_96 W_prog_15_method_58_code_32 3 rfl rfl
theorem d_15_58_36 : decode prog_15_method_58_code 36 = .ok (.istore 6, 2) := D_54 W_prog_15_method_58_code_32 4 rfl rfl
theorem d_15_58_38 : decode prog_15_method_58_code 38 = .ok (.iload 4, 2) := D_21 W_prog_15_method_58_code_32 6 rfl rfl
theorem d_15_58_40 : decode prog_15_method_58_code 40 = .ok (.ifCond .eq 31, 3) := D_153 W_prog_15_method_58_code_32 8 rfl rfl rfl
theorem d_15_58_43 : decode prog_15_method_58_code 43 = .ok (.iload 6, 2) := D_21 W_prog_15_method_58_code_32 11 rfl rfl
theorem d_15_58_45 : decode prog_15_method_58_code 45 = .ok (.aload_n 0, 1) := D_42 W_prog_15_method_58_code_32 13 rfl rfl
theorem d_15_58_46 : decode prog_15_method_58_code 46 = .ok (.getfield 162, 3) := D_180 W_prog_15_method_58_code_32 14 rfl rfl rfl
theorem d_15_58_49 : decode prog_15_method_58_code 49 = .ok (.iload_n 1, 1) := D_27 W_prog_15_method_58_code_32 17 rfl rfl
theorem d_15_58_50 : decode prog_15_method_58_code 50 = .ok (.iaload, 1) := D_46 W_prog_15_method_58_code_32 18 rfl rfl
theorem d_15_58_51 : decode prog_15_method_58_code 51 = .ok (.if_icmp .ge 20, 3) := D_162 W_prog_15_method_58_code_32 19 rfl rfl rfl
theorem d_15_58_54 : decode prog_15_method_58_code 54 = .ok (.iinc 5 1, 3) := D_132 W_prog_15_method_58_code_32 22 rfl rfl rfl
theorem d_15_58_57 : decode prog_15_method_58_code 57 = .ok (.aload_n 0, 1) := D_42 W_prog_15_method_58_code_32 25 rfl rfl
theorem d_15_58_58 : decode prog_15_method_58_code 58 = .ok (.getfield 159, 3) := D_180 W_prog_15_method_58_code_32 26 rfl rfl rfl
theorem d_15_58_61 : decode prog_15_method_58_code 61 = .ok (.iload 6, 2) := D_21 W_prog_15_method_58_code_32 29 rfl rfl
theorem d_15_58_63 : decode prog_15_method_58_code 63 = .ok (.iaload, 1) := D_46 W_prog_15_method_58_code_32 31 rfl rfl
theorem W_prog_15_method_58_code_64 : chW prog_15_method_58_code 64 [4, 96, 54, 6, 167, 255, 226, 4, 54, 6, 21, 6, 42, 180, 0, 55, 27, 4, 96, 46, 163, 0, 108, 42, 182, 1, 120, 153, 0, 101, 42, 27, 182, 2, 29, 42] := chW_of (by decide +kernel)
theorem d_15_58_64 : decode prog_15_method_58_code 64 = .ok (.iconst 1, 1) := D_4 W_prog_15_method_58_code_64 0 rfl rfl
theorem d_15_58_65 : decode prog_15_method_58_code 65 = .ok (.iadd, 1) := D_96 W_prog_15_method_58_code_64 1 rfl rfl
theorem d_15_58_66 : decode prog_15_method_58_code 66 = .ok (.istore 6, 2) := D_54 W_prog_15_method_58_code_64 2 rfl rfl
theorem d_15_58_68 : decode prog_15_method_58_code 68 = .ok (.goto (-30), 3) := D_167 W_prog_15_method_58_code_64 4 rfl rfl rfl
theorem d_15_58_71 : decode prog_15_method_58_code 71 = .ok (.iconst 1, 1) := D_4 W_prog_15_method_58_code_64 7 rfl rfl
theorem d_15_58_72 : decode prog_15_method_58_code 72 = .ok (.istore 6, 2) := D_54 W_prog_15_method_58_code_64 8 rfl rfl
theorem d_15_58_74 : decode prog_15_method_58_code 74 = .ok (.iload 6, 2) := D_21 W_prog_15_method_58_code_64 10 rfl rfl
theorem d_15_58_76 : decode prog_15_method_58_code 76 = .ok (.aload_n 0, 1) := D_42 W_prog_15_method_58_code_64 12 rfl rfl
theorem d_15_58_77 : decode prog_15_method_58_code 77 = .ok (.getfield 55, 3) := D_180 W_prog_15_method_58_code_64 13 rfl rfl rfl
theorem d_15_58_80 : decode prog_15_method_58_code 80 = .ok (.iload_n 1, 1) := D_27 W_prog_15_method_58_code_64 16 rfl rfl
theorem d_15_58_81 : decode prog_15_method_58_code 81 = .ok (.iconst 1, 1) := D_4 W_prog_15_method_58_code_64 17 rfl rfl
theorem d_15_58_82 : decode prog_15_method_58_code 82 = .ok (.iadd, 1) := D_96 W_prog_15_method_58_code_64 18 rfl rfl
theorem d_15_58_83 : decode prog_15_method_58_code 83 = .ok (.iaload, 1) := D_46 W_prog_15_method_58_code_64 19 rfl rfl
theorem d_15_58_84 : decode prog_15_method_58_code 84 = .ok (.if_icmp .gt 108, 3) := D_163 W_prog_15_method_58_code_64 20 rfl rfl rfl
theorem d_15_58_87 : decode prog_15_method_58_code 87 = .ok (.aload_n 0, 1) := D_42 W_prog_15_method_58_code_64 23 rfl rfl
theorem d_15_58_88 : decode prog_15_method_58_code 88 = .ok (.invokevirtual 376, 3) := D_182 W_prog_15_method_58_code_64 24 rfl rfl rfl
theorem d_15_58_91 : decode prog_15_method_58_code 91 = .ok (.ifCond .eq 101, 3) := D_153 W_prog_15_method_58_code_64 27 rfl rfl rfl
theorem d_15_58_94 : decode prog_15_method_58_code 94 = .ok (.aload_n 0, 1) := D_42 W_prog_15_method_58_code_64 30 rfl rfl
theorem d_15_58_95 : decode prog_15_method_58_code 95 = .ok (.iload_n 1, 1) := D_27 W_prog_15_method_58_code_64 31 rfl rfl
theorem W_prog_15_method_58_code_96 : chW prog_15_method_58_code 96 [182, 2, 29, 42, 28, 4, 96, 42, 180, 0, 159, 28, 46, 182, 2, 0, 21, 5, 153, 0, 72, 42, 182, 1, 120, 154, 0, 6, 167, 0, 62, 29, 4, 96, 54, 7] := chW_of (by decide +kernel)
theorem d_15_58_96 : decode prog_15_method_58_code 96 = .ok (.invokevirtual 541, 3) := D_182 W_prog_15_method_58_code_96 0 rfl rfl rfl
theorem d_15_58_99 : decode prog_15_method_58_code 99 = .ok (.aload_n 0, 1) := D_42 W_prog_15_method_58_code_96 3 rfl rfl
theorem d_15_58_100 : decode prog_15_method_58_code 100 = .ok (.iload_n 2, 1) := D_28 W_prog_15_method_58_code_96 4 rfl rfl
theorem d_15_58_101 : decode prog_15_method_58_code 101 = .ok (.iconst 1, 1) := D_4 W_prog_15_method_58_code_96 5 rfl rfl
theorem d_15_58_102 : decode prog_15_method_58_code 102 = .ok (.iadd, 1) := D_96 W_prog_15_method_58_code_96 6 rfl rfl
theorem d_15_58_103 : decode prog_15_method_58_code 103 = .ok (.aload_n 0, 1) := D_42 W_prog_15_method_58_code_96 7 rfl rfl
theorem d_15_58_104 : decode prog_15_method_58_code 104 = .ok (.getfield 159, 3) := D_180 W_prog_15_method_58_code_96 8 rfl rfl rfl
theorem d_15_58_107 : decode prog_15_method_58_code 107 = .ok (.iload_n 2, 1) := D_28 W_prog_15_method_58_code_96 11 rfl rfl
theorem d_15_58_108 : decode prog_15_method_58_code 108 = .ok (.iaload, 1) := D_46 W_prog_15_method_58_code_96 12 rfl rfl
theorem d_15_58_109 : decode prog_15_method_58_code 109 = .ok (.invokevirtual 512, 3) := D_182 W_prog_15_method_58_code_96 13 rfl rfl rfl
theorem d_15_58_112 : decode prog_15_method_58_code 112 = .ok (.iload 5, 2) := D_21 W_prog_15_method_58_code_96 16 rfl rfl
theorem d_15_58_114 : decode prog_15_method_58_code 114 = .ok (.ifCond .eq 72, 3) := D_153 W_prog_15_method_58_code_96 18 rfl rfl rfl
theorem d_15_58_117 : decode prog_15_method_58_code 117 = .ok (.aload_n 0, 1) := D_42 W_prog_15_method_58_code_96 21 rfl rfl
theorem d_15_58_118 : decode prog_15_method_58_code 118 = .ok (.invokevirtual 376, 3) := D_182 W_prog_15_method_58_code_96 22 rfl rfl rfl
theorem d_15_58_121 : decode prog_15_method_58_code 121 = .ok (.ifCond .ne 6, 3) := D_154 W_prog_15_method_58_code_96 25 rfl rfl rfl
theorem d_15_58_127 : decode prog_15_method_58_code 127 = .ok (.iload_n 3, 1) := D_29 W_prog_15_method_58_code_96 31 rfl rfl
theorem W_prog_15_method_58_code_128 : chW prog_15_method_58_code 128 [4, 96, 54, 7, 4, 54, 8, 21, 8, 21, 6, 162, 0, 27, 21, 8, 21, 5, 162, 0, 20, 42, 180, 0, 159, 21, 7, 46, 4, 96, 54, 7, 132, 8, 1, 167] := chW_of (by decide +kernel)
theorem d_15_58_128 : decode prog_15_method_58_code 128 = .ok (.iconst 1, 1) := D_4 W_prog_15_method_58_code_128 0 rfl rfl
theorem d_15_58_129 : decode prog_15_method_58_code 129 = .ok (.iadd, 1) := D_96 W_prog_15_method_58_code_128 1 rfl rfl
theorem d_15_58_130 : decode prog_15_method_58_code 130 = .ok (.istore 7, 2) := D_54 W_prog_15_method_58_code_128 2 rfl rfl
theorem d_15_58_132 : decode prog_15_method_58_code 132 = .ok (.iconst 1, 1) := D_4 W_prog_15_method_58_code_128 4 rfl rfl
theorem d_15_58_133 : decode prog_15_method_58_code 133 = .ok (.istore 8, 2) := D_54 W_prog_15_method_58_code_128 5 rfl rfl
theorem d_15_58_124 : decode prog_15_method_58_code 124 = .ok (.goto 62, 3) := D_167 W_prog_15_method_58_code_96 28 rfl rfl rfl
theorem W_prog_15_method_58_code_160 : chW prog_15_method_58_code 160 [132, 8, 1, 167, 255, 228, 42, 27, 182, 2, 29, 42, 21, 7, 4, 96, 42, 180, 0, 159, 21, 7, 46, 182, 2, 0, 132, 6, 1, 167, 255, 141, 177] := chW_of (by decide +kernel)
theorem d_15_58_186 : decode prog_15_method_58_code 186 = .ok (.iinc 6 1, 3) := D_132 W_prog_15_method_58_code_160 26 rfl rfl rfl
theorem d_15_58_189 : decode prog_15_method_58_code 189 = .ok (.goto (-115), 3) := D_167 W_prog_15_method_58_code_160 29 rfl rfl rfl
theorem d_15_58_135 : decode prog_15_method_58_code 135 = .ok (.iload 8, 2) := D_21 W_prog_15_method_58_code_128 7 rfl rfl
theorem d_15_58_137 : decode prog_15_method_58_code 137 = .ok (.iload 6, 2) := D_21 W_prog_15_method_58_code_128 9 rfl rfl
theorem d_15_58_139 : decode prog_15_method_58_code 139 = .ok (.if_icmp .ge 27, 3) := D_162 W_prog_15_method_58_code_128 11 rfl rfl rfl
theorem d_15_58_142 : decode prog_15_method_58_code 142 = .ok (.iload 8, 2) := D_21 W_prog_15_method_58_code_128 14 rfl rfl
theorem d_15_58_144 : decode prog_15_method_58_code 144 = .ok (.iload 5, 2) := D_21 W_prog_15_method_58_code_128 16 rfl rfl
theorem d_15_58_146 : decode prog_15_method_58_code 146 = .ok (.if_icmp .ge 20, 3) := D_162 W_prog_15_method_58_code_128 18 rfl rfl rfl
theorem d_15_58_149 : decode prog_15_method_58_code 149 = .ok (.aload_n 0, 1) := D_42 W_prog_15_method_58_code_128 21 rfl rfl
theorem d_15_58_150 : decode prog_15_method_58_code 150 = .ok (.getfield 159, 3) := D_180 W_prog_15_method_58_code_128 22 rfl rfl rfl
theorem d_15_58_153 : decode prog_15_method_58_code 153 = .ok (.iload 7, 2) := D_21 W_prog_15_method_58_code_128 25 rfl rfl
theorem d_15_58_155 : decode prog_15_method_58_code 155 = .ok (.iaload, 1) := D_46 W_prog_15_method_58_code_128 27 rfl rfl
theorem d_15_58_156 : decode prog_15_method_58_code 156 = .ok (.iconst 1, 1) := D_4 W_prog_15_method_58_code_128 28 rfl rfl
theorem d_15_58_157 : decode prog_15_method_58_code 157 = .ok (.iadd, 1) := D_96 W_prog_15_method_58_code_128 29 rfl rfl
theorem d_15_58_158 : decode prog_15_method_58_code 158 = .ok (.istore 7, 2) := D_54 W_prog_15_method_58_code_128 30 rfl rfl
theorem d_15_58_160 : decode prog_15_method_58_code 160 = .ok (.iinc 8 1, 3) := D_132 W_prog_15_method_58_code_160 0 rfl rfl rfl
theorem d_15_58_163 : decode prog_15_method_58_code 163 = .ok (.goto (-28), 3) := D_167 W_prog_15_method_58_code_160 3 rfl rfl rfl
theorem d_15_58_166 : decode prog_15_method_58_code 166 = .ok (.aload_n 0, 1) := D_42 W_prog_15_method_58_code_160 6 rfl rfl
theorem d_15_58_167 : decode prog_15_method_58_code 167 = .ok (.iload_n 1, 1) := D_27 W_prog_15_method_58_code_160 7 rfl rfl
theorem d_15_58_168 : decode prog_15_method_58_code 168 = .ok (.invokevirtual 541, 3) := D_182 W_prog_15_method_58_code_160 8 rfl rfl rfl
theorem d_15_58_171 : decode prog_15_method_58_code 171 = .ok (.aload_n 0, 1) := D_42 W_prog_15_method_58_code_160 11 rfl rfl
theorem d_15_58_172 : decode prog_15_method_58_code 172 = .ok (.iload 7, 2) := D_21 W_prog_15_method_58_code_160 12 rfl rfl
theorem d_15_58_174 : decode prog_15_method_58_code 174 = .ok (.iconst 1, 1) := D_4 W_prog_15_method_58_code_160 14 rfl rfl
theorem d_15_58_175 : decode prog_15_method_58_code 175 = .ok (.iadd, 1) := D_96 W_prog_15_method_58_code_160 15 rfl rfl
theorem d_15_58_176 : decode prog_15_method_58_code 176 = .ok (.aload_n 0, 1) := D_42 W_prog_15_method_58_code_160 16 rfl rfl
theorem d_15_58_177 : decode prog_15_method_58_code 177 = .ok (.getfield 159, 3) := D_180 W_prog_15_method_58_code_160 17 rfl rfl rfl
theorem d_15_58_180 : decode prog_15_method_58_code 180 = .ok (.iload 7, 2) := D_21 W_prog_15_method_58_code_160 20 rfl rfl
theorem d_15_58_182 : decode prog_15_method_58_code 182 = .ok (.iaload, 1) := D_46 W_prog_15_method_58_code_160 22 rfl rfl
theorem d_15_58_183 : decode prog_15_method_58_code 183 = .ok (.invokevirtual 512, 3) := D_182 W_prog_15_method_58_code_160 23 rfl rfl rfl
theorem W_prog_15_method_58_code_192 : chW prog_15_method_58_code 192 [177] := chW_of (by decide +kernel)
theorem d_15_58_192 : decode prog_15_method_58_code 192 = .ok (.return_, 1) := D_177 W_prog_15_method_58_code_192 0 rfl rfl
theorem W_prog_15_method_59_code_0 : chW prog_15_method_59_code 0 [42, 180, 0, 150, 42, 180, 0, 147, 42, 180, 1, 136, 42, 180, 0, 61, 27, 4, 96, 47, 184, 1, 116, 46, 61, 42, 28, 4, 96, 42, 180, 0, 159, 28, 46, 182] := chW_of (by decide +kernel)
theorem d_15_59_0 : decode prog_15_method_59_code 0 = .ok (.aload_n 0, 1) := D_42 W_prog_15_method_59_code_0 0 rfl rfl
theorem d_15_59_1 : decode prog_15_method_59_code 1 = .ok (.getfield 150, 3) := D_180 W_prog_15_method_59_code_0 1 rfl rfl rfl
theorem d_15_59_4 : decode prog_15_method_59_code 4 = .ok (.aload_n 0, 1) := D_42 W_prog_15_method_59_code_0 4 rfl rfl
theorem d_15_59_5 : decode prog_15_method_59_code 5 = .ok (.getfield 147, 3) := D_180 W_prog_15_method_59_code_0 5 rfl rfl rfl
theorem d_15_59_8 : decode prog_15_method_59_code 8 = .ok (.aload_n 0, 1) := D_42 W_prog_15_method_59_code_0 8 rfl rfl
theorem d_15_59_9 : decode prog_15_method_59_code 9 = .ok (.getfield 392, 3) := D_180 W_prog_15_method_59_code_0 9 rfl rfl rfl
theorem d_15_59_12 : decode prog_15_method_59_code 12 = .ok (.aload_n 0, 1) := D_42 W_prog_15_method_59_code_0 12 rfl rfl
theorem d_15_59_13 : decode prog_15_method_59_code 13 = .ok (.getfield 61, 3) := D_180 W_prog_15_method_59_code_0 13 rfl rfl rfl
theorem d_15_59_16 : decode prog_15_method_59_code 16 = .ok (.iload_n 1, 1) := D_27 W_prog_15_method_59_code_0 16 rfl rfl
theorem d_15_59_17 : decode prog_15_method_59_code 17 = .ok (.iconst 1, 1) := D_4 W_prog_15_method_59_code_0 17 rfl rfl
theorem d_15_59_18 : decode prog_15_method_59_code 18 = .ok (.iadd, 1) := D_96 W_prog_15_method_59_code_0 18 rfl rfl
theorem d_15_59_19 : decode prog_15_method_59_code 19 = .ok (.laload, 1) := D_47 W_prog_15_method_59_code_0 19 rfl rfl
theorem d_15_59_20 : decode prog_15_method_59_code 20 = .ok (.invokestatic 372, 3) := D_184 W_prog_15_method_59_code_0 20 rfl rfl rfl
theorem d_15_59_23 : decode prog_15_method_59_code 23 = .ok (.iaload, 1) := D_46 W_prog_15_method_59_code_0 23 rfl rfl
theorem d_15_59_24 : decode prog_15_method_59_code 24 = .ok (.istore_n 2, 1) := D_61 W_prog_15_method_59_code_0 24 rfl rfl
theorem d_15_59_25 : decode prog_15_method_59_code 25 = .ok (.aload_n 0, 1) := D_42 W_prog_15_method_59_code_0 25 rfl rfl
theorem d_15_59_26 : decode prog_15_method_59_code 26 = .ok (.iload_n 2, 1) := D_28 W_prog_15_method_59_code_0 26 rfl rfl
theorem d_15_59_27 : decode prog_15_method_59_code 27 = .ok (.iconst 1, 1) := D_4 W_prog_15_method_59_code_0 27 rfl rfl
theorem d_15_59_28 : decode prog_15_method_59_code 28 = .ok (.iadd, 1) := D_96 W_prog_15_method_59_code_0 28 rfl rfl
theorem d_15_59_29 : decode prog_15_method_59_code 29 = .ok (.aload_n 0, 1) := D_42 W_prog_15_method_59_code_0 29 rfl rfl
theorem d_15_59_30 : decode prog_15_method_59_code 30 = .ok (.getfield 159, 3) := D_180 W_prog_15_method_59_code_0 30 rfl rfl rfl
theorem W_prog_15_method_59_code_32 : chW prog_15_method_59_code 32 [159, 28, 46, 182, 2, 0, 177] := chW_of (by decide +kernel)
theorem d_15_59_33 : decode prog_15_method_59_code 33 = .ok (.iload_n 2, 1) := D_28 W_prog_15_method_59_code_32 1 rfl rfl
theorem d_15_59_34 : decode prog_15_method_59_code 34 = .ok (.iaload, 1) := D_46 W_prog_15_method_59_code_32 2 rfl rfl
theorem d_15_59_35 : decode prog_15_method_59_code 35 = .ok (.invokevirtual 512, 3) := D_182 W_prog_15_method_59_code_32 3 rfl rfl rfl
theorem d_15_59_38 : decode prog_15_method_59_code 38 = .ok (.return_, 1) := D_177 W_prog_15_method_59_code_32 6 rfl rfl
theorem W_prog_15_method_60_code_0 : chW prog_15_method_60_code 0 [42, 180, 0, 61, 27, 47, 178, 0, 132, 148, 154, 0, 7, 4, 167, 0, 4, 3, 61, 27, 4, 96, 62, 28, 153, 0, 9, 27, 5, 96, 167, 0, 6, 27, 6, 96] := chW_of (by decide +kernel)
theorem d_15_60_0 : decode prog_15_method_60_code 0 = .ok (.aload_n 0, 1) := D_42 W_prog_15_method_60_code_0 0 rfl rfl
theorem d_15_60_1 : decode prog_15_method_60_code 1 = .ok (.getfield 61, 3) := D_180 W_prog_15_method_60_code_0 1 rfl rfl rfl
theorem d_15_60_4 : decode prog_15_method_60_code 4 = .ok (.iload_n 1, 1) := D_27 W_prog_15_method_60_code_0 4 rfl rfl
theorem d_15_60_5 : decode prog_15_method_60_code 5 = .ok (.laload, 1) := D_47 W_prog_15_method_60_code_0 5 rfl rfl
theorem d_15_60_6 : decode prog_15_method_60_code 6 = .ok (.getstatic 132, 3) := D_178 W_prog_15_method_60_code_0 6 rfl rfl rfl
theorem d_15_60_9 : decode prog_15_method_60_code 9 = .ok (.lcmp, 1) := D_148 W_prog_15_method_60_code_0 9 rfl rfl
theorem d_15_60_10 : decode prog_15_method_60_code 10 = .ok (.ifCond .ne 7, 3) := D_154 W_prog_15_method_60_code_0 10 rfl rfl rfl
theorem d_15_60_17 : decode prog_15_method_60_code 17 = .ok (.iconst 0, 1) := D_3 W_prog_15_method_60_code_0 17 rfl rfl
theorem d_15_60_13 : decode prog_15_method_60_code 13 = .ok (.iconst 1, 1) := D_4 W_prog_15_method_60_code_0 13 rfl rfl
theorem d_15_60_14 : decode prog_15_method_60_code 14 = .ok (.goto 4, 3) := D_167 W_prog_15_method_60_code_0 14 rfl rfl rfl
theorem d_15_60_18 : decode prog_15_method_60_code 18 = .ok (.istore_n 2, 1) := D_61 W_prog_15_method_60_code_0 18 rfl rfl
theorem d_15_60_19 : decode prog_15_method_60_code 19 = .ok (.iload_n 1, 1) := D_27 W_prog_15_method_60_code_0 19 rfl rfl
theorem d_15_60_20 : decode prog_15_method_60_code 20 = .ok (.iconst 1, 1) := D_4 W_prog_15_method_60_code_0 20 rfl rfl
theorem d_15_60_21 : decode prog_15_method_60_code 21 = .ok (.iadd, 1) := D_96 W_prog_15_method_60_code_0 21 rfl rfl
theorem d_15_60_22 : decode prog_15_method_60_code 22 = .ok (.istore_n 3, 1) := D_62 W_prog_15_method_60_code_0 22 rfl rfl
theorem d_15_60_23 : decode prog_15_method_60_code 23 = .ok (.iload_n 2, 1) := D_28 W_prog_15_method_60_code_0 23 rfl rfl
theorem d_15_60_24 : decode prog_15_method_60_code 24 = .ok (.ifCond .eq 9, 3) := D_153 W_prog_15_method_60_code_0 24 rfl rfl rfl
theorem W_prog_15_method_60_code_32 : chW prog_15_method_60_code 32 [6, 27, 6, 96, 54, 4, 42, 180, 0, 174, 42, 180, 1, 247, 28, 84, 42, 180, 0, 178, 42, 180, 1, 247, 28, 153, 0, 12, 42, 180, 0, 55, 29, 46, 167, 0] := chW_of (by decide +kernel)
theorem d_15_60_33 : decode prog_15_method_60_code 33 = .ok (.iload_n 1, 1) := D_27 W_prog_15_method_60_code_32 1 rfl rfl
theorem d_15_60_34 : decode prog_15_method_60_code 34 = .ok (.iconst 3, 1) := D_6 W_prog_15_method_60_code_32 2 rfl rfl
theorem d_15_60_35 : decode prog_15_method_60_code 35 = .ok (.iadd, 1) := D_96 W_prog_15_method_60_code_32 3 rfl rfl
theorem d_15_60_27 : decode prog_15_method_60_code 27 = .ok (.iload_n 1, 1) := D_27 W_prog_15_method_60_code_0 27 rfl rfl
theorem d_15_60_28 : decode prog_15_method_60_code 28 = .ok (.iconst 2, 1) := D_5 W_prog_15_method_60_code_0 28 rfl rfl
theorem d_15_60_29 : decode prog_15_method_60_code 29 = .ok (.iadd, 1) := D_96 W_prog_15_method_60_code_0 29 rfl rfl
theorem d_15_60_30 : decode prog_15_method_60_code 30 = .ok (.goto 6, 3) := D_167 W_prog_15_method_60_code_0 30 rfl rfl rfl
theorem d_15_60_36 : decode prog_15_method_60_code 36 = .ok (.istore 4, 2) := D_54 W_prog_15_method_60_code_32 4 rfl rfl
theorem d_15_60_38 : decode prog_15_method_60_code 38 = .ok (.aload_n 0, 1) := D_42 W_prog_15_method_60_code_32 6 rfl rfl
theorem d_15_60_39 : decode prog_15_method_60_code 39 = .ok (.getfield 174, 3) := D_180 W_prog_15_method_60_code_32 7 rfl rfl rfl
theorem d_15_60_42 : decode prog_15_method_60_code 42 = .ok (.aload_n 0, 1) := D_42 W_prog_15_method_60_code_32 10 rfl rfl
theorem d_15_60_43 : decode prog_15_method_60_code 43 = .ok (.getfield 503, 3) := D_180 W_prog_15_method_60_code_32 11 rfl rfl rfl
theorem d_15_60_46 : decode prog_15_method_60_code 46 = .ok (.iload_n 2, 1) := D_28 W_prog_15_method_60_code_32 14 rfl rfl
theorem d_15_60_47 : decode prog_15_method_60_code 47 = .ok (.bastore, 1) := D_84 W_prog_15_method_60_code_32 15 rfl rfl
theorem d_15_60_48 : decode prog_15_method_60_code 48 = .ok (.aload_n 0, 1) := D_42 W_prog_15_method_60_code_32 16 rfl rfl
theorem d_15_60_49 : decode prog_15_method_60_code 49 = .ok (.getfield 178, 3) := D_180 W_prog_15_method_60_code_32 17 rfl rfl rfl
theorem d_15_60_52 : decode prog_15_method_60_code 52 = .ok (.aload_n 0, 1) := D_42 W_prog_15_method_60_code_32 20 rfl rfl
theorem d_15_60_53 : decode prog_15_method_60_code 53 = .ok (.getfield 503, 3) := D_180 W_prog_15_method_60_code_32 21 rfl rfl rfl
theorem d_15_60_56 : decode prog_15_method_60_code 56 = .ok (.iload_n 2, 1) := D_28 W_prog_15_method_60_code_32 24 rfl rfl
theorem d_15_60_57 : decode prog_15_method_60_code 57 = .ok (.ifCond .eq 12, 3) := D_153 W_prog_15_method_60_code_32 25 rfl rfl rfl
theorem W_prog_15_method_60_code_64 : chW prog_15_method_60_code 64 [29, 46, 167, 0, 18, 42, 180, 0, 55, 29, 4, 96, 46, 42, 180, 0, 55, 29, 46, 100, 79, 42, 180, 0, 181, 42, 180, 1, 247, 28, 153, 0, 21, 42, 180, 0] := chW_of (by decide +kernel)
theorem d_15_60_69 : decode prog_15_method_60_code 69 = .ok (.aload_n 0, 1) := D_42 W_prog_15_method_60_code_64 5 rfl rfl
theorem d_15_60_70 : decode prog_15_method_60_code 70 = .ok (.getfield 55, 3) := D_180 W_prog_15_method_60_code_64 6 rfl rfl rfl
theorem d_15_60_73 : decode prog_15_method_60_code 73 = .ok (.iload_n 3, 1) := D_29 W_prog_15_method_60_code_64 9 rfl rfl
theorem d_15_60_74 : decode prog_15_method_60_code 74 = .ok (.iconst 1, 1) := D_4 W_prog_15_method_60_code_64 10 rfl rfl
theorem d_15_60_75 : decode prog_15_method_60_code 75 = .ok (.iadd, 1) := D_96 W_prog_15_method_60_code_64 11 rfl rfl
theorem d_15_60_76 : decode prog_15_method_60_code 76 = .ok (.iaload, 1) := D_46 W_prog_15_method_60_code_64 12 rfl rfl
theorem d_15_60_77 : decode prog_15_method_60_code 77 = .ok (.aload_n 0, 1) := D_42 W_prog_15_method_60_code_64 13 rfl rfl
theorem d_15_60_78 : decode prog_15_method_60_code 78 = .ok (.getfield 55, 3) := D_180 W_prog_15_method_60_code_64 14 rfl rfl rfl
theorem d_15_60_81 : decode prog_15_method_60_code 81 = .ok (.iload_n 3, 1) := D_29 W_prog_15_method_60_code_64 17 rfl rfl
theorem d_15_60_82 : decode prog_15_method_60_code 82 = .ok (.iaload, 1) := D_46 W_prog_15_method_60_code_64 18 rfl rfl
theorem d_15_60_83 : decode prog_15_method_60_code 83 = .ok (.isub, 1) := D_100 W_prog_15_method_60_code_64 19 rfl rfl
theorem d_15_60_60 : decode prog_15_method_60_code 60 = .ok (.aload_n 0, 1) := D_42 W_prog_15_method_60_code_32 28 rfl rfl
theorem d_15_60_61 : decode prog_15_method_60_code 61 = .ok (.getfield 55, 3) := D_180 W_prog_15_method_60_code_32 29 rfl rfl rfl
theorem d_15_60_64 : decode prog_15_method_60_code 64 = .ok (.iload_n 3, 1) := D_29 W_prog_15_method_60_code_64 0 rfl rfl
theorem d_15_60_65 : decode prog_15_method_60_code 65 = .ok (.iaload, 1) := D_46 W_prog_15_method_60_code_64 1 rfl rfl
theorem d_15_60_66 : decode prog_15_method_60_code 66 = .ok (.goto 18, 3) := D_167 W_prog_15_method_60_code_64 2 rfl rfl rfl
theorem d_15_60_84 : decode prog_15_method_60_code 84 = .ok (.iastore, 1) := D_79 W_prog_15_method_60_code_64 20 rfl rfl
theorem d_15_60_85 : decode prog_15_method_60_code 85 = .ok (.aload_n 0, 1) := D_42 W_prog_15_method_60_code_64 21 rfl rfl
theorem d_15_60_86 : decode prog_15_method_60_code 86 = .ok (.getfield 181, 3) := D_180 W_prog_15_method_60_code_64 22 rfl rfl rfl
theorem d_15_60_89 : decode prog_15_method_60_code 89 = .ok (.aload_n 0, 1) := D_42 W_prog_15_method_60_code_64 25 rfl rfl
theorem d_15_60_90 : decode prog_15_method_60_code 90 = .ok (.getfield 503, 3) := D_180 W_prog_15_method_60_code_64 26 rfl rfl rfl
theorem d_15_60_93 : decode prog_15_method_60_code 93 = .ok (.iload_n 2, 1) := D_28 W_prog_15_method_60_code_64 29 rfl rfl
theorem d_15_60_94 : decode prog_15_method_60_code 94 = .ok (.ifCond .eq 21, 3) := D_153 W_prog_15_method_60_code_64 30 rfl rfl rfl
theorem W_prog_15_method_60_code_96 : chW prog_15_method_60_code 96 [21, 42, 180, 0, 55, 29, 46, 42, 180, 0, 58, 29, 46, 184, 2, 63, 167, 0, 38, 42, 180, 0, 55, 29, 4, 96, 46, 42, 180, 0, 58, 29, 4, 96, 46, 184] := chW_of (by decide +kernel)
theorem d_15_60_115 : decode prog_15_method_60_code 115 = .ok (.aload_n 0, 1) := D_42 W_prog_15_method_60_code_96 19 rfl rfl
theorem d_15_60_116 : decode prog_15_method_60_code 116 = .ok (.getfield 55, 3) := D_180 W_prog_15_method_60_code_96 20 rfl rfl rfl
theorem d_15_60_119 : decode prog_15_method_60_code 119 = .ok (.iload_n 3, 1) := D_29 W_prog_15_method_60_code_96 23 rfl rfl
theorem d_15_60_120 : decode prog_15_method_60_code 120 = .ok (.iconst 1, 1) := D_4 W_prog_15_method_60_code_96 24 rfl rfl
theorem d_15_60_121 : decode prog_15_method_60_code 121 = .ok (.iadd, 1) := D_96 W_prog_15_method_60_code_96 25 rfl rfl
theorem d_15_60_122 : decode prog_15_method_60_code 122 = .ok (.iaload, 1) := D_46 W_prog_15_method_60_code_96 26 rfl rfl
theorem d_15_60_123 : decode prog_15_method_60_code 123 = .ok (.aload_n 0, 1) := D_42 W_prog_15_method_60_code_96 27 rfl rfl
theorem d_15_60_124 : decode prog_15_method_60_code 124 = .ok (.getfield 58, 3) := D_180 W_prog_15_method_60_code_96 28 rfl rfl rfl
theorem d_15_60_127 : decode prog_15_method_60_code 127 = .ok (.iload_n 3, 1) := D_29 W_prog_15_method_60_code_96 31 rfl rfl
theorem W_prog_15_method_60_code_128 : chW prog_15_method_60_code 128 [4, 96, 46, 184, 2, 63, 42, 180, 0, 55, 29, 46, 42, 180, 0, 58, 29, 46, 184, 2, 63, 100, 79, 42, 89, 180, 1, 247, 4, 96, 181, 1, 247, 42, 21, 4] := chW_of (by decide +kernel)
theorem d_15_60_128 : decode prog_15_method_60_code 128 = .ok (.iconst 1, 1) := D_4 W_prog_15_method_60_code_128 0 rfl rfl
theorem d_15_60_129 : decode prog_15_method_60_code 129 = .ok (.iadd, 1) := D_96 W_prog_15_method_60_code_128 1 rfl rfl
theorem d_15_60_130 : decode prog_15_method_60_code 130 = .ok (.iaload, 1) := D_46 W_prog_15_method_60_code_128 2 rfl rfl
theorem d_15_60_131 : decode prog_15_method_60_code 131 = .ok (.invokestatic 575, 3) := D_184 W_prog_15_method_60_code_128 3 rfl rfl rfl
theorem d_15_60_134 : decode prog_15_method_60_code 134 = .ok (.aload_n 0, 1) := D_42 W_prog_15_method_60_code_128 6 rfl rfl
theorem d_15_60_135 : decode prog_15_method_60_code 135 = .ok (.getfield 55, 3) := D_180 W_prog_15_method_60_code_128 7 rfl rfl rfl
theorem d_15_60_138 : decode prog_15_method_60_code 138 = .ok (.iload_n 3, 1) := D_29 W_prog_15_method_60_code_128 10 rfl rfl
theorem d_15_60_139 : decode prog_15_method_60_code 139 = .ok (.iaload, 1) := D_46 W_prog_15_method_60_code_128 11 rfl rfl
theorem d_15_60_140 : decode prog_15_method_60_code 140 = .ok (.aload_n 0, 1) := D_42 W_prog_15_method_60_code_128 12 rfl rfl
theorem d_15_60_141 : decode prog_15_method_60_code 141 = .ok (.getfield 58, 3) := D_180 W_prog_15_method_60_code_128 13 rfl rfl rfl
theorem d_15_60_144 : decode prog_15_method_60_code 144 = .ok (.iload_n 3, 1) := D_29 W_prog_15_method_60_code_128 16 rfl rfl
theorem d_15_60_145 : decode prog_15_method_60_code 145 = .ok (.iaload, 1) := D_46 W_prog_15_method_60_code_128 17 rfl rfl
theorem d_15_60_146 : decode prog_15_method_60_code 146 = .ok (.invokestatic 575, 3) := D_184 W_prog_15_method_60_code_128 18 rfl rfl rfl
theorem d_15_60_149 : decode prog_15_method_60_code 149 = .ok (.isub, 1) := D_100 W_prog_15_method_60_code_128 21 rfl rfl
theorem d_15_60_97 : decode prog_15_method_60_code 97 = .ok (.aload_n 0, 1) := D_42 W_prog_15_method_60_code_96 1 rfl rfl
theorem d_15_60_98 : decode prog_15_method_60_code 98 = .ok (.getfield 55, 3) := D_180 W_prog_15_method_60_code_96 2 rfl rfl rfl
theorem d_15_60_101 : decode prog_15_method_60_code 101 = .ok (.iload_n 3, 1) := D_29 W_prog_15_method_60_code_96 5 rfl rfl
theorem d_15_60_102 : decode prog_15_method_60_code 102 = .ok (.iaload, 1) := D_46 W_prog_15_method_60_code_96 6 rfl rfl
theorem d_15_60_103 : decode prog_15_method_60_code 103 = .ok (.aload_n 0, 1) := D_42 W_prog_15_method_60_code_96 7 rfl rfl
theorem d_15_60_104 : decode prog_15_method_60_code 104 = .ok (.getfield 58, 3) := D_180 W_prog_15_method_60_code_96 8 rfl rfl rfl
theorem d_15_60_107 : decode prog_15_method_60_code 107 = .ok (.iload_n 3, 1) := D_29 W_prog_15_method_60_code_96 11 rfl rfl
theorem d_15_60_108 : decode prog_15_method_60_code 108 = .ok (.iaload, 1) := D_46 W_prog_15_method_60_code_96 12 rfl rfl
theorem d_15_60_109 : decode prog_15_method_60_code 109 = .ok (.invokestatic 575, 3) := D_184 W_prog_15_method_60_code_96 13 rfl rfl rfl
theorem d_15_60_112 : decode prog_15_method_60_code 112 = .ok (.goto 38, 3) := D_167 W_prog_15_method_60_code_96 16 rfl rfl rfl
theorem d_15_60_150 : decode prog_15_method_60_code 150 = .ok (.iastore, 1) := D_79 W_prog_15_method_60_code_128 22 rfl rfl
theorem d_15_60_151 : decode prog_15_method_60_code 151 = .ok (.aload_n 0, 1) := D_42 W_prog_15_method_60_code_128 23 rfl rfl
theorem d_15_60_152 : decode prog_15_method_60_code 152 = .ok (.dup, 1) := D_89 W_prog_15_method_60_code_128 24 rfl rfl
theorem d_15_60_153 : decode prog_15_method_60_code 153 = .ok (.getfield 503, 3) := D_180 W_prog_15_method_60_code_128 25 rfl rfl rfl
theorem d_15_60_156 : decode prog_15_method_60_code 156 = .ok (.iconst 1, 1) := D_4 W_prog_15_method_60_code_128 28 rfl rfl
theorem d_15_60_157 : decode prog_15_method_60_code 157 = .ok (.iadd, 1) := D_96 W_prog_15_method_60_code_128 29 rfl rfl
theorem d_15_60_158 : decode prog_15_method_60_code 158 = .ok (.putfield 503, 3) := D_181 W_prog_15_method_60_code_128 30 rfl rfl rfl
theorem W_prog_15_method_60_code_160 : chW prog_15_method_60_code 160 [247, 42, 21, 4, 4, 96, 42, 180, 0, 159, 21, 4, 46, 182, 2, 0, 42, 89, 180, 1, 247, 4, 100, 181, 1, 247, 177] := chW_of (by decide +kernel)
theorem d_15_60_161 : decode prog_15_method_60_code 161 = .ok (.aload_n 0, 1) := D_42 W_prog_15_method_60_code_160 1 rfl rfl
theorem d_15_60_162 : decode prog_15_method_60_code 162 = .ok (.iload 4, 2) := D_21 W_prog_15_method_60_code_160 2 rfl rfl
theorem d_15_60_164 : decode prog_15_method_60_code 164 = .ok (.iconst 1, 1) := D_4 W_prog_15_method_60_code_160 4 rfl rfl
theorem d_15_60_165 : decode prog_15_method_60_code 165 = .ok (.iadd, 1) := D_96 W_prog_15_method_60_code_160 5 rfl rfl
theorem d_15_60_166 : decode prog_15_method_60_code 166 = .ok (.aload_n 0, 1) := D_42 W_prog_15_method_60_code_160 6 rfl rfl
theorem d_15_60_167 : decode prog_15_method_60_code 167 = .ok (.getfield 159, 3) := D_180 W_prog_15_method_60_code_160 7 rfl rfl rfl
theorem d_15_60_170 : decode prog_15_method_60_code 170 = .ok (.iload 4, 2) := D_21 W_prog_15_method_60_code_160 10 rfl rfl
theorem d_15_60_172 : decode prog_15_method_60_code 172 = .ok (.iaload, 1) := D_46 W_prog_15_method_60_code_160 12 rfl rfl
theorem d_15_60_173 : decode prog_15_method_60_code 173 = .ok (.invokevirtual 512, 3) := D_182 W_prog_15_method_60_code_160 13 rfl rfl rfl
theorem d_15_60_176 : decode prog_15_method_60_code 176 = .ok (.aload_n 0, 1) := D_42 W_prog_15_method_60_code_160 16 rfl rfl
theorem d_15_60_177 : decode prog_15_method_60_code 177 = .ok (.dup, 1) := D_89 W_prog_15_method_60_code_160 17 rfl rfl
theorem d_15_60_178 : decode prog_15_method_60_code 178 = .ok (.getfield 503, 3) := D_180 W_prog_15_method_60_code_160 18 rfl rfl rfl
theorem d_15_60_181 : decode prog_15_method_60_code 181 = .ok (.iconst 1, 1) := D_4 W_prog_15_method_60_code_160 21 rfl rfl
theorem d_15_60_182 : decode prog_15_method_60_code 182 = .ok (.isub, 1) := D_100 W_prog_15_method_60_code_160 22 rfl rfl
theorem d_15_60_183 : decode prog_15_method_60_code 183 = .ok (.putfield 503, 3) := D_181 W_prog_15_method_60_code_160 23 rfl rfl rfl
theorem d_15_60_186 : decode prog_15_method_60_code 186 = .ok (.return_, 1) := D_177 W_prog_15_method_60_code_160 26 rfl rfl
theorem W_prog_15_method_63_code_0 : chW prog_15_method_63_code 0 [42, 180, 1, 229, 61, 42, 89, 180, 1, 244, 4, 96, 181, 1, 244, 42, 27, 5, 96, 42, 180, 0, 159, 27, 4, 96, 46, 182, 2, 0, 42, 89, 180, 1, 244, 4] := chW_of (by decide +kernel)
theorem d_15_63_0 : decode prog_15_method_63_code 0 = .ok (.aload_n 0, 1) := D_42 W_prog_15_method_63_code_0 0 rfl rfl
theorem d_15_63_1 : decode prog_15_method_63_code 1 = .ok (.getfield 485, 3) := D_180 W_prog_15_method_63_code_0 1 rfl rfl rfl
theorem d_15_63_4 : decode prog_15_method_63_code 4 = .ok (.istore_n 2, 1) := D_61 W_prog_15_method_63_code_0 4 rfl rfl
theorem d_15_63_5 : decode prog_15_method_63_code 5 = .ok (.aload_n 0, 1) := D_42 W_prog_15_method_63_code_0 5 rfl rfl
theorem d_15_63_6 : decode prog_15_method_63_code 6 = .ok (.dup, 1) := D_89 W_prog_15_method_63_code_0 6 rfl rfl
theorem d_15_63_7 : decode prog_15_method_63_code 7 = .ok (.getfield 500, 3) := D_180 W_prog_15_method_63_code_0 7 rfl rfl rfl
theorem d_15_63_10 : decode prog_15_method_63_code 10 = .ok (.iconst 1, 1) := D_4 W_prog_15_method_63_code_0 10 rfl rfl
theorem d_15_63_11 : decode prog_15_method_63_code 11 = .ok (.iadd, 1) := D_96 W_prog_15_method_63_code_0 11 rfl rfl
theorem d_15_63_12 : decode prog_15_method_63_code 12 = .ok (.putfield 500, 3) := D_181 W_prog_15_method_63_code_0 12 rfl rfl rfl
theorem d_15_63_15 : decode prog_15_method_63_code 15 = .ok (.aload_n 0, 1) := D_42 W_prog_15_method_63_code_0 15 rfl rfl
theorem d_15_63_16 : decode prog_15_method_63_code 16 = .ok (.iload_n 1, 1) := D_27 W_prog_15_method_63_code_0 16 rfl rfl
theorem d_15_63_17 : decode prog_15_method_63_code 17 = .ok (.iconst 2, 1) := D_5 W_prog_15_method_63_code_0 17 rfl rfl
theorem d_15_63_18 : decode prog_15_method_63_code 18 = .ok (.iadd, 1) := D_96 W_prog_15_method_63_code_0 18 rfl rfl
theorem d_15_63_19 : decode prog_15_method_63_code 19 = .ok (.aload_n 0, 1) := D_42 W_prog_15_method_63_code_0 19 rfl rfl
theorem d_15_63_20 : decode prog_15_method_63_code 20 = .ok (.getfield 159, 3) := D_180 W_prog_15_method_63_code_0 20 rfl rfl rfl
theorem d_15_63_23 : decode prog_15_method_63_code 23 = .ok (.iload_n 1, 1) := D_27 W_prog_15_method_63_code_0 23 rfl rfl
theorem d_15_63_24 : decode prog_15_method_63_code 24 = .ok (.iconst 1, 1) := D_4 W_prog_15_method_63_code_0 24 rfl rfl
theorem d_15_63_25 : decode prog_15_method_63_code 25 = .ok (.iadd, 1) := D_96 W_prog_15_method_63_code_0 25 rfl rfl
theorem d_15_63_26 : decode prog_15_method_63_code 26 = .ok (.iaload, 1) := D_46 W_prog_15_method_63_code_0 26 rfl rfl
theorem d_15_63_27 : decode prog_15_method_63_code 27 = .ok (.invokevirtual 512, 3) := D_182 W_prog_15_method_63_code_0 27 rfl rfl rfl
theorem d_15_63_30 : decode prog_15_method_63_code 30 = .ok (.aload_n 0, 1) := D_42 W_prog_15_method_63_code_0 30 rfl rfl
theorem d_15_63_31 : decode prog_15_method_63_code 31 = .ok (.dup, 1) := D_89 W_prog_15_method_63_code_0 31 rfl rfl
theorem W_prog_15_method_63_code_32 : chW prog_15_method_63_code 32 [180, 1, 244, 4, 100, 181, 1, 244, 28, 62, 42, 180, 1, 229, 4, 100, 54, 4, 29, 21, 4, 162, 0, 37, 42, 17, 3, 232, 42, 180, 1, 226, 104, 29, 96, 17] := chW_of (by decide +kernel)
theorem d_15_63_32 : decode prog_15_method_63_code 32 = .ok (.getfield 500, 3) := D_180 W_prog_15_method_63_code_32 0 rfl rfl rfl
theorem d_15_63_35 : decode prog_15_method_63_code 35 = .ok (.iconst 1, 1) := D_4 W_prog_15_method_63_code_32 3 rfl rfl
theorem d_15_63_36 : decode prog_15_method_63_code 36 = .ok (.isub, 1) := D_100 W_prog_15_method_63_code_32 4 rfl rfl
theorem d_15_63_37 : decode prog_15_method_63_code 37 = .ok (.putfield 500, 3) := D_181 W_prog_15_method_63_code_32 5 rfl rfl rfl
theorem d_15_63_40 : decode prog_15_method_63_code 40 = .ok (.iload_n 2, 1) := D_28 W_prog_15_method_63_code_32 8 rfl rfl
theorem d_15_63_41 : decode prog_15_method_63_code 41 = .ok (.istore_n 3, 1) := D_62 W_prog_15_method_63_code_32 9 rfl rfl
theorem d_15_63_42 : decode prog_15_method_63_code 42 = .ok (.aload_n 0, 1) := D_42 W_prog_15_method_63_code_32 10 rfl rfl
theorem d_15_63_43 : decode prog_15_method_63_code 43 = .ok (.getfield 485, 3) := D_180 W_prog_15_method_63_code_32 11 rfl rfl rfl
theorem d_15_63_46 : decode prog_15_method_63_code 46 = .ok (.iconst 1, 1) := D_4 W_prog_15_method_63_code_32 14 rfl rfl
theorem d_15_63_47 : decode prog_15_method_63_code 47 = .ok (.isub, 1) := D_100 W_prog_15_method_63_code_32 15 rfl rfl
theorem d_15_63_48 : decode prog_15_method_63_code 48 = .ok (.istore 4, 2) := D_54 W_prog_15_method_63_code_32 16 rfl rfl
theorem d_15_63_50 : decode prog_15_method_63_code 50 = .ok (.iload_n 3, 1) := D_29 W_prog_15_method_63_code_32 18 rfl rfl
theorem d_15_63_51 : decode prog_15_method_63_code 51 = .ok (.iload 4, 2) := D_21 W_prog_15_method_63_code_32 19 rfl rfl
theorem d_15_63_53 : decode prog_15_method_63_code 53 = .ok (.if_icmp .ge 37, 3) := D_162 W_prog_15_method_63_code_32 21 rfl rfl rfl
theorem W_prog_15_method_63_code_64 : chW prog_15_method_63_code 64 [104, 29, 96, 17, 3, 232, 42, 180, 1, 226, 104, 21, 4, 96, 182, 2, 69, 132, 3, 1, 132, 4, 255, 167, 255, 219, 28, 62, 29, 42, 180, 1, 229, 162, 0, 115] := chW_of (by decide +kernel)
theorem d_15_63_90 : decode prog_15_method_63_code 90 = .ok (.iload_n 2, 1) := D_28 W_prog_15_method_63_code_64 26 rfl rfl
theorem d_15_63_91 : decode prog_15_method_63_code 91 = .ok (.istore_n 3, 1) := D_62 W_prog_15_method_63_code_64 27 rfl rfl
theorem d_15_63_56 : decode prog_15_method_63_code 56 = .ok (.aload_n 0, 1) := D_42 W_prog_15_method_63_code_32 24 rfl rfl
theorem d_15_63_57 : decode prog_15_method_63_code 57 = .ok (.sipush 1000, 3) := D_17 W_prog_15_method_63_code_32 25 rfl rfl rfl
theorem d_15_63_60 : decode prog_15_method_63_code 60 = .ok (.aload_n 0, 1) := D_42 W_prog_15_method_63_code_32 28 rfl rfl
theorem d_15_63_61 : decode prog_15_method_63_code 61 = .ok (.getfield 482, 3) := D_180 W_prog_15_method_63_code_32 29 rfl rfl rfl
theorem d_15_63_64 : decode prog_15_method_63_code 64 = .ok (.imul, 1) := D_104 W_prog_15_method_63_code_64 0 rfl rfl
theorem d_15_63_65 : decode prog_15_method_63_code 65 = .ok (.iload_n 3, 1) := D_29 W_prog_15_method_63_code_64 1 rfl rfl
theorem d_15_63_66 : decode prog_15_method_63_code 66 = .ok (.iadd, 1) := D_96 W_prog_15_method_63_code_64 2 rfl rfl
theorem d_15_63_67 : decode prog_15_method_63_code 67 = .ok (.sipush 1000, 3) := D_17 W_prog_15_method_63_code_64 3 rfl rfl rfl
theorem d_15_63_70 : decode prog_15_method_63_code 70 = .ok (.aload_n 0, 1) := D_42 W_prog_15_method_63_code_64 6 rfl rfl
theorem d_15_63_71 : decode prog_15_method_63_code 71 = .ok (.getfield 482, 3) := D_180 W_prog_15_method_63_code_64 7 rfl rfl rfl
theorem d_15_63_74 : decode prog_15_method_63_code 74 = .ok (.imul, 1) := D_104 W_prog_15_method_63_code_64 10 rfl rfl
theorem d_15_63_75 : decode prog_15_method_63_code 75 = .ok (.iload 4, 2) := D_21 W_prog_15_method_63_code_64 11 rfl rfl
theorem d_15_63_77 : decode prog_15_method_63_code 77 = .ok (.iadd, 1) := D_96 W_prog_15_method_63_code_64 13 rfl rfl
theorem d_15_63_78 : decode prog_15_method_63_code 78 = .ok (.invokevirtual 581, 3) := D_182 W_prog_15_method_63_code_64 14 rfl rfl rfl
theorem d_15_63_81 : decode prog_15_method_63_code 81 = .ok (.iinc 3 1, 3) := D_132 W_prog_15_method_63_code_64 17 rfl rfl rfl
theorem d_15_63_84 : decode prog_15_method_63_code 84 = .ok (.iinc 4 (-1), 3) := D_132 W_prog_15_method_63_code_64 20 rfl rfl rfl
theorem d_15_63_87 : decode prog_15_method_63_code 87 = .ok (.goto (-37), 3) := D_167 W_prog_15_method_63_code_64 23 rfl rfl rfl
theorem d_15_63_92 : decode prog_15_method_63_code 92 = .ok (.iload_n 3, 1) := D_29 W_prog_15_method_63_code_64 28 rfl rfl
theorem d_15_63_93 : decode prog_15_method_63_code 93 = .ok (.aload_n 0, 1) := D_42 W_prog_15_method_63_code_64 29 rfl rfl
theorem d_15_63_94 : decode prog_15_method_63_code 94 = .ok (.getfield 485, 3) := D_180 W_prog_15_method_63_code_64 30 rfl rfl rfl
theorem W_prog_15_method_63_code_96 : chW prog_15_method_63_code 96 [229, 162, 0, 115, 17, 3, 232, 42, 180, 1, 226, 104, 29, 96, 54, 4, 42, 180, 0, 44, 180, 2, 72, 21, 4, 46, 54, 5, 29, 42, 180, 1, 229, 4, 100, 162] := chW_of (by decide +kernel)
theorem d_15_63_97 : decode prog_15_method_63_code 97 = .ok (.if_icmp .ge 115, 3) := D_162 W_prog_15_method_63_code_96 1 rfl rfl rfl
theorem W_prog_15_method_63_code_192 : chW prog_15_method_63_code 192 [5, 16, 248, 126, 21, 6, 128, 21, 7, 128, 21, 8, 128, 79, 132, 3, 1, 167, 255, 139, 177] := chW_of (by decide +kernel)
theorem d_15_63_212 : decode prog_15_method_63_code 212 = .ok (.return_, 1) := D_177 W_prog_15_method_63_code_192 20 rfl rfl
theorem d_15_63_100 : decode prog_15_method_63_code 100 = .ok (.sipush 1000, 3) := D_17 W_prog_15_method_63_code_96 4 rfl rfl rfl
theorem d_15_63_103 : decode prog_15_method_63_code 103 = .ok (.aload_n 0, 1) := D_42 W_prog_15_method_63_code_96 7 rfl rfl
theorem d_15_63_104 : decode prog_15_method_63_code 104 = .ok (.getfield 482, 3) := D_180 W_prog_15_method_63_code_96 8 rfl rfl rfl
theorem d_15_63_107 : decode prog_15_method_63_code 107 = .ok (.imul, 1) := D_104 W_prog_15_method_63_code_96 11 rfl rfl
theorem d_15_63_108 : decode prog_15_method_63_code 108 = .ok (.iload_n 3, 1) := D_29 W_prog_15_method_63_code_96 12 rfl rfl
theorem d_15_63_109 : decode prog_15_method_63_code 109 = .ok (.iadd, 1) := D_96 W_prog_15_method_63_code_96 13 rfl rfl
theorem d_15_63_110 : decode prog_15_method_63_code 110 = .ok (.istore 4, 2) := D_54 W_prog_15_method_63_code_96 14 rfl rfl
theorem d_15_63_112 : decode prog_15_method_63_code 112 = .ok (.aload_n 0, 1) := D_42 W_prog_15_method_63_code_96 16 rfl rfl
theorem d_15_63_113 : decode prog_15_method_63_code 113 = .ok (.getfield 44, 3) := D_180 W_prog_15_method_63_code_96 17 rfl rfl rfl
theorem d_15_63_116 : decode prog_15_method_63_code 116 = .ok (.getfield 584, 3) := D_180 W_prog_15_method_63_code_96 20 rfl rfl rfl
theorem d_15_63_119 : decode prog_15_method_63_code 119 = .ok (.iload 4, 2) := D_21 W_prog_15_method_63_code_96 23 rfl rfl
theorem d_15_63_121 : decode prog_15_method_63_code 121 = .ok (.iaload, 1) := D_46 W_prog_15_method_63_code_96 25 rfl rfl
theorem d_15_63_122 : decode prog_15_method_63_code 122 = .ok (.istore 5, 2) := D_54 W_prog_15_method_63_code_96 26 rfl rfl
theorem d_15_63_124 : decode prog_15_method_63_code 124 = .ok (.iload_n 3, 1) := D_29 W_prog_15_method_63_code_96 28 rfl rfl
theorem d_15_63_125 : decode prog_15_method_63_code 125 = .ok (.aload_n 0, 1) := D_42 W_prog_15_method_63_code_96 29 rfl rfl
theorem d_15_63_126 : decode prog_15_method_63_code 126 = .ok (.getfield 485, 3) := D_180 W_prog_15_method_63_code_96 30 rfl rfl rfl
theorem W_prog_15_method_63_code_128 : chW prog_15_method_63_code 128 [229, 4, 100, 162, 0, 20, 42, 180, 0, 44, 180, 2, 72, 21, 4, 4, 96, 46, 4, 126, 167, 0, 4, 3, 54, 6, 21, 5, 7, 126, 158, 0, 7, 5, 167, 0] := chW_of (by decide +kernel)
theorem d_15_63_129 : decode prog_15_method_63_code 129 = .ok (.iconst 1, 1) := D_4 W_prog_15_method_63_code_128 1 rfl rfl
theorem d_15_63_130 : decode prog_15_method_63_code 130 = .ok (.isub, 1) := D_100 W_prog_15_method_63_code_128 2 rfl rfl
theorem d_15_63_131 : decode prog_15_method_63_code 131 = .ok (.if_icmp .ge 20, 3) := D_162 W_prog_15_method_63_code_128 3 rfl rfl rfl
theorem d_15_63_151 : decode prog_15_method_63_code 151 = .ok (.iconst 0, 1) := D_3 W_prog_15_method_63_code_128 23 rfl rfl
theorem d_15_63_134 : decode prog_15_method_63_code 134 = .ok (.aload_n 0, 1) := D_42 W_prog_15_method_63_code_128 6 rfl rfl
theorem d_15_63_135 : decode prog_15_method_63_code 135 = .ok (.getfield 44, 3) := D_180 W_prog_15_method_63_code_128 7 rfl rfl rfl
theorem d_15_63_138 : decode prog_15_method_63_code 138 = .ok (.getfield 584, 3) := D_180 W_prog_15_method_63_code_128 10 rfl rfl rfl
theorem d_15_63_141 : decode prog_15_method_63_code 141 = .ok (.iload 4, 2) := D_21 W_prog_15_method_63_code_128 13 rfl rfl
theorem d_15_63_143 : decode prog_15_method_63_code 143 = .ok (.iconst 1, 1) := D_4 W_prog_15_method_63_code_128 15 rfl rfl
theorem d_15_63_144 : decode prog_15_method_63_code 144 = .ok (.iadd, 1) := D_96 W_prog_15_method_63_code_128 16 rfl rfl
theorem d_15_63_145 : decode prog_15_method_63_code 145 = .ok (.iaload, 1) := D_46 W_prog_15_method_63_code_128 17 rfl rfl
theorem d_15_63_146 : decode prog_15_method_63_code 146 = .ok (.iconst 1, 1) := D_4 W_prog_15_method_63_code_128 18 rfl rfl
theorem d_15_63_147 : decode prog_15_method_63_code 147 = .ok (.iand, 1) := D_126 W_prog_15_method_63_code_128 19 rfl rfl
theorem d_15_63_148 : decode prog_15_method_63_code 148 = .ok (.goto 4, 3) := D_167 W_prog_15_method_63_code_128 20 rfl rfl rfl
theorem d_15_63_152 : decode prog_15_method_63_code 152 = .ok (.istore 6, 2) := D_54 W_prog_15_method_63_code_128 24 rfl rfl
theorem d_15_63_154 : decode prog_15_method_63_code 154 = .ok (.iload 5, 2) := D_21 W_prog_15_method_63_code_128 26 rfl rfl
theorem d_15_63_156 : decode prog_15_method_63_code 156 = .ok (.iconst 4, 1) := D_7 W_prog_15_method_63_code_128 28 rfl rfl
theorem d_15_63_157 : decode prog_15_method_63_code 157 = .ok (.iand, 1) := D_126 W_prog_15_method_63_code_128 29 rfl rfl
theorem d_15_63_158 : decode prog_15_method_63_code 158 = .ok (.ifCond .le 7, 3) := D_158 W_prog_15_method_63_code_128 30 rfl rfl rfl
theorem W_prog_15_method_63_code_160 : chW prog_15_method_63_code 160 [7, 5, 167, 0, 4, 3, 54, 7, 21, 5, 5, 126, 158, 0, 7, 7, 167, 0, 4, 3, 54, 8, 42, 180, 0, 44, 180, 2, 72, 21, 4, 21, 5, 16, 248, 126] := chW_of (by decide +kernel)
theorem d_15_63_165 : decode prog_15_method_63_code 165 = .ok (.iconst 0, 1) := D_3 W_prog_15_method_63_code_160 5 rfl rfl
theorem d_15_63_161 : decode prog_15_method_63_code 161 = .ok (.iconst 2, 1) := D_5 W_prog_15_method_63_code_160 1 rfl rfl
theorem d_15_63_162 : decode prog_15_method_63_code 162 = .ok (.goto 4, 3) := D_167 W_prog_15_method_63_code_160 2 rfl rfl rfl
theorem d_15_63_166 : decode prog_15_method_63_code 166 = .ok (.istore 7, 2) := D_54 W_prog_15_method_63_code_160 6 rfl rfl
theorem d_15_63_168 : decode prog_15_method_63_code 168 = .ok (.iload 5, 2) := D_21 W_prog_15_method_63_code_160 8 rfl rfl
theorem d_15_63_170 : decode prog_15_method_63_code 170 = .ok (.iconst 2, 1) := D_5 W_prog_15_method_63_code_160 10 rfl rfl
theorem d_15_63_171 : decode prog_15_method_63_code 171 = .ok (.iand, 1) := D_126 W_prog_15_method_63_code_160 11 rfl rfl
theorem d_15_63_172 : decode prog_15_method_63_code 172 = .ok (.ifCond .le 7, 3) := D_158 W_prog_15_method_63_code_160 12 rfl rfl rfl
theorem d_15_63_179 : decode prog_15_method_63_code 179 = .ok (.iconst 0, 1) := D_3 W_prog_15_method_63_code_160 19 rfl rfl
theorem d_15_63_175 : decode prog_15_method_63_code 175 = .ok (.iconst 4, 1) := D_7 W_prog_15_method_63_code_160 15 rfl rfl
theorem d_15_63_176 : decode prog_15_method_63_code 176 = .ok (.goto 4, 3) := D_167 W_prog_15_method_63_code_160 16 rfl rfl rfl
theorem d_15_63_180 : decode prog_15_method_63_code 180 = .ok (.istore 8, 2) := D_54 W_prog_15_method_63_code_160 20 rfl rfl
theorem d_15_63_182 : decode prog_15_method_63_code 182 = .ok (.aload_n 0, 1) := D_42 W_prog_15_method_63_code_160 22 rfl rfl
theorem d_15_63_183 : decode prog_15_method_63_code 183 = .ok (.getfield 44, 3) := D_180 W_prog_15_method_63_code_160 23 rfl rfl rfl
theorem d_15_63_186 : decode prog_15_method_63_code 186 = .ok (.getfield 584, 3) := D_180 W_prog_15_method_63_code_160 26 rfl rfl rfl
theorem d_15_63_189 : decode prog_15_method_63_code 189 = .ok (.iload 4, 2) := D_21 W_prog_15_method_63_code_160 29 rfl rfl
theorem d_15_63_191 : decode prog_15_method_63_code 191 = .ok (.iload 5, 2) := D_21 W_prog_15_method_63_code_160 31 rfl rfl
theorem d_15_63_193 : decode prog_15_method_63_code 193 = .ok (.bipush (-8), 2) := D_16 W_prog_15_method_63_code_192 1 rfl rfl rfl
theorem d_15_63_195 : decode prog_15_method_63_code 195 = .ok (.iand, 1) := D_126 W_prog_15_method_63_code_192 3 rfl rfl
theorem d_15_63_196 : decode prog_15_method_63_code 196 = .ok (.iload 6, 2) := D_21 W_prog_15_method_63_code_192 4 rfl rfl
theorem d_15_63_198 : decode prog_15_method_63_code 198 = .ok (.ior, 1) := D_128 W_prog_15_method_63_code_192 6 rfl rfl
theorem d_15_63_199 : decode prog_15_method_63_code 199 = .ok (.iload 7, 2) := D_21 W_prog_15_method_63_code_192 7 rfl rfl
theorem d_15_63_201 : decode prog_15_method_63_code 201 = .ok (.ior, 1) := D_128 W_prog_15_method_63_code_192 9 rfl rfl
theorem d_15_63_202 : decode prog_15_method_63_code 202 = .ok (.iload 8, 2) := D_21 W_prog_15_method_63_code_192 10 rfl rfl
theorem d_15_63_204 : decode prog_15_method_63_code 204 = .ok (.ior, 1) := D_128 W_prog_15_method_63_code_192 12 rfl rfl
theorem d_15_63_205 : decode prog_15_method_63_code 205 = .ok (.iastore, 1) := D_79 W_prog_15_method_63_code_192 13 rfl rfl
theorem d_15_63_206 : decode prog_15_method_63_code 206 = .ok (.iinc 3 1, 3) := D_132 W_prog_15_method_63_code_192 14 rfl rfl rfl
theorem d_15_63_209 : decode prog_15_method_63_code 209 = .ok (.goto (-117), 3) := D_167 W_prog_15_method_63_code_192 17 rfl rfl rfl
theorem W_prog_15_method_61_code_0 : chW prog_15_method_61_code 0 [27, 7, 96, 61, 42, 42, 180, 0, 55, 27, 4, 96, 46, 4, 182, 2, 66, 42, 42, 180, 0, 55, 27, 6, 96, 46, 2, 182, 2, 66, 42, 28, 4, 96, 42, 180] := chW_of (by decide +kernel)
theorem d_15_61_0 : decode prog_15_method_61_code 0 = .ok (.iload_n 1, 1) := D_27 W_prog_15_method_61_code_0 0 rfl rfl
theorem d_15_61_1 : decode prog_15_method_61_code 1 = .ok (.iconst 4, 1) := D_7 W_prog_15_method_61_code_0 1 rfl rfl
theorem d_15_61_2 : decode prog_15_method_61_code 2 = .ok (.iadd, 1) := D_96 W_prog_15_method_61_code_0 2 rfl rfl
theorem d_15_61_3 : decode prog_15_method_61_code 3 = .ok (.istore_n 2, 1) := D_61 W_prog_15_method_61_code_0 3 rfl rfl
theorem d_15_61_4 : decode prog_15_method_61_code 4 = .ok (.aload_n 0, 1) := D_42 W_prog_15_method_61_code_0 4 rfl rfl
theorem d_15_61_5 : decode prog_15_method_61_code 5 = .ok (.aload_n 0, 1) := D_42 W_prog_15_method_61_code_0 5 rfl rfl
theorem d_15_61_6 : decode prog_15_method_61_code 6 = .ok (.getfield 55, 3) := D_180 W_prog_15_method_61_code_0 6 rfl rfl rfl
theorem d_15_61_9 : decode prog_15_method_61_code 9 = .ok (.iload_n 1, 1) := D_27 W_prog_15_method_61_code_0 9 rfl rfl
theorem d_15_61_10 : decode prog_15_method_61_code 10 = .ok (.iconst 1, 1) := D_4 W_prog_15_method_61_code_0 10 rfl rfl
theorem d_15_61_11 : decode prog_15_method_61_code 11 = .ok (.iadd, 1) := D_96 W_prog_15_method_61_code_0 11 rfl rfl
theorem d_15_61_12 : decode prog_15_method_61_code 12 = .ok (.iaload, 1) := D_46 W_prog_15_method_61_code_0 12 rfl rfl
theorem d_15_61_13 : decode prog_15_method_61_code 13 = .ok (.iconst 1, 1) := D_4 W_prog_15_method_61_code_0 13 rfl rfl
theorem d_15_61_14 : decode prog_15_method_61_code 14 = .ok (.invokevirtual 578, 3) := D_182 W_prog_15_method_61_code_0 14 rfl rfl rfl
theorem d_15_61_17 : decode prog_15_method_61_code 17 = .ok (.aload_n 0, 1) := D_42 W_prog_15_method_61_code_0 17 rfl rfl
theorem d_15_61_18 : decode prog_15_method_61_code 18 = .ok (.aload_n 0, 1) := D_42 W_prog_15_method_61_code_0 18 rfl rfl
theorem d_15_61_19 : decode prog_15_method_61_code 19 = .ok (.getfield 55, 3) := D_180 W_prog_15_method_61_code_0 19 rfl rfl rfl
theorem d_15_61_22 : decode prog_15_method_61_code 22 = .ok (.iload_n 1, 1) := D_27 W_prog_15_method_61_code_0 22 rfl rfl
theorem d_15_61_23 : decode prog_15_method_61_code 23 = .ok (.iconst 3, 1) := D_6 W_prog_15_method_61_code_0 23 rfl rfl
theorem d_15_61_24 : decode prog_15_method_61_code 24 = .ok (.iadd, 1) := D_96 W_prog_15_method_61_code_0 24 rfl rfl
theorem d_15_61_25 : decode prog_15_method_61_code 25 = .ok (.iaload, 1) := D_46 W_prog_15_method_61_code_0 25 rfl rfl
theorem d_15_61_26 : decode prog_15_method_61_code 26 = .ok (.iconst (-1), 1) := D_2 W_prog_15_method_61_code_0 26 rfl rfl
theorem d_15_61_27 : decode prog_15_method_61_code 27 = .ok (.invokevirtual 578, 3) := D_182 W_prog_15_method_61_code_0 27 rfl rfl rfl
theorem d_15_61_30 : decode prog_15_method_61_code 30 = .ok (.aload_n 0, 1) := D_42 W_prog_15_method_61_code_0 30 rfl rfl
theorem d_15_61_31 : decode prog_15_method_61_code 31 = .ok (.iload_n 2, 1) := D_28 W_prog_15_method_61_code_0 31 rfl rfl
theorem W_prog_15_method_61_code_32 : chW prog_15_method_61_code 32 [4, 96, 42, 180, 0, 159, 28, 46, 182, 2, 0, 42, 42, 180, 0, 55, 27, 4, 96, 46, 2, 182, 2, 66, 42, 42, 180, 0, 55, 27, 6, 96, 46, 4, 182, 2] := chW_of (by decide +kernel)
theorem d_15_61_32 : decode prog_15_method_61_code 32 = .ok (.iconst 1, 1) := D_4 W_prog_15_method_61_code_32 0 rfl rfl
theorem d_15_61_33 : decode prog_15_method_61_code 33 = .ok (.iadd, 1) := D_96 W_prog_15_method_61_code_32 1 rfl rfl
theorem d_15_61_34 : decode prog_15_method_61_code 34 = .ok (.aload_n 0, 1) := D_42 W_prog_15_method_61_code_32 2 rfl rfl
theorem d_15_61_35 : decode prog_15_method_61_code 35 = .ok (.getfield 159, 3) := D_180 W_prog_15_method_61_code_32 3 rfl rfl rfl
theorem d_15_61_38 : decode prog_15_method_61_code 38 = .ok (.iload_n 2, 1) := D_28 W_prog_15_method_61_code_32 6 rfl rfl
theorem d_15_61_39 : decode prog_15_method_61_code 39 = .ok (.iaload, 1) := D_46 W_prog_15_method_61_code_32 7 rfl rfl
theorem d_15_61_40 : decode prog_15_method_61_code 40 = .ok (.invokevirtual 512, 3) := D_182 W_prog_15_method_61_code_32 8 rfl rfl rfl
theorem d_15_61_43 : decode prog_15_method_61_code 43 = .ok (.aload_n 0, 1) := D_42 W_prog_15_method_61_code_32 11 rfl rfl
theorem d_15_61_44 : decode prog_15_method_61_code 44 = .ok (.aload_n 0, 1) := D_42 W_prog_15_method_61_code_32 12 rfl rfl
theorem d_15_61_45 : decode prog_15_method_61_code 45 = .ok (.getfield 55, 3) := D_180 W_prog_15_method_61_code_32 13 rfl rfl rfl
theorem d_15_61_48 : decode prog_15_method_61_code 48 = .ok (.iload_n 1, 1) := D_27 W_prog_15_method_61_code_32 16 rfl rfl
theorem d_15_61_49 : decode prog_15_method_61_code 49 = .ok (.iconst 1, 1) := D_4 W_prog_15_method_61_code_32 17 rfl rfl
theorem d_15_61_50 : decode prog_15_method_61_code 50 = .ok (.iadd, 1) := D_96 W_prog_15_method_61_code_32 18 rfl rfl
theorem d_15_61_51 : decode prog_15_method_61_code 51 = .ok (.iaload, 1) := D_46 W_prog_15_method_61_code_32 19 rfl rfl
theorem d_15_61_52 : decode prog_15_method_61_code 52 = .ok (.iconst (-1), 1) := D_2 W_prog_15_method_61_code_32 20 rfl rfl
theorem d_15_61_53 : decode prog_15_method_61_code 53 = .ok (.invokevirtual 578, 3) := D_182 W_prog_15_method_61_code_32 21 rfl rfl rfl
theorem d_15_61_56 : decode prog_15_method_61_code 56 = .ok (.aload_n 0, 1) := D_42 W_prog_15_method_61_code_32 24 rfl rfl
theorem d_15_61_57 : decode prog_15_method_61_code 57 = .ok (.aload_n 0, 1) := D_42 W_prog_15_method_61_code_32 25 rfl rfl
theorem d_15_61_58 : decode prog_15_method_61_code 58 = .ok (.getfield 55, 3) := D_180 W_prog_15_method_61_code_32 26 rfl rfl rfl
theorem d_15_61_61 : decode prog_15_method_61_code 61 = .ok (.iload_n 1, 1) := D_27 W_prog_15_method_61_code_32 29 rfl rfl
theorem d_15_61_62 : decode prog_15_method_61_code 62 = .ok (.iconst 3, 1) := D_6 W_prog_15_method_61_code_32 30 rfl rfl
theorem d_15_61_63 : decode prog_15_method_61_code 63 = .ok (.iadd, 1) := D_96 W_prog_15_method_61_code_32 31 rfl rfl
theorem W_prog_15_method_61_code_64 : chW prog_15_method_61_code 64 [46, 4, 182, 2, 66, 177] := chW_of (by decide +kernel)
theorem d_15_61_64 : decode prog_15_method_61_code 64 = .ok (.iaload, 1) := D_46 W_prog_15_method_61_code_64 0 rfl rfl
theorem d_15_61_65 : decode prog_15_method_61_code 65 = .ok (.iconst 1, 1) := D_4 W_prog_15_method_61_code_64 1 rfl rfl
theorem d_15_61_66 : decode prog_15_method_61_code 66 = .ok (.invokevirtual 578, 3) := D_182 W_prog_15_method_61_code_64 2 rfl rfl rfl
theorem d_15_61_69 : decode prog_15_method_61_code 69 = .ok (.return_, 1) := D_177 W_prog_15_method_61_code_64 5 rfl rfl
theorem W_prog_15_method_53_code_0 : chW prog_15_method_53_code 0 [42, 3, 181, 1, 226, 42, 180, 1, 226, 42, 180, 0, 44, 180, 1, 48, 162, 0, 145, 42, 182, 1, 120, 153, 0, 138, 42, 3, 181, 1, 229, 42, 3, 181, 1, 232] := chW_of (by decide +kernel)
theorem d_15_53_0 : decode prog_15_method_53_code 0 = .ok (.aload_n 0, 1) := D_42 W_prog_15_method_53_code_0 0 rfl rfl
theorem d_15_53_1 : decode prog_15_method_53_code 1 = .ok (.iconst 0, 1) := D_3 W_prog_15_method_53_code_0 1 rfl rfl
theorem d_15_53_2 : decode prog_15_method_53_code 2 = .ok (.putfield 482, 3) := D_181 W_prog_15_method_53_code_0 2 rfl rfl rfl
theorem d_15_53_5 : decode prog_15_method_53_code 5 = .ok (.aload_n 0, 1) := D_42 W_prog_15_method_53_code_0 5 rfl rfl
theorem d_15_53_6 : decode prog_15_method_53_code 6 = .ok (.getfield 482, 3) := D_180 W_prog_15_method_53_code_0 6 rfl rfl rfl
theorem d_15_53_9 : decode prog_15_method_53_code 9 = .ok (.aload_n 0, 1) := D_42 W_prog_15_method_53_code_0 9 rfl rfl
theorem d_15_53_10 : decode prog_15_method_53_code 10 = .ok (.getfield 44, 3) := D_180 W_prog_15_method_53_code_0 10 rfl rfl rfl
theorem d_15_53_13 : decode prog_15_method_53_code 13 = .ok (.getfield 304, 3) := D_180 W_prog_15_method_53_code_0 13 rfl rfl rfl
theorem d_15_53_16 : decode prog_15_method_53_code 16 = .ok (.if_icmp .ge 145, 3) := D_162 W_prog_15_method_53_code_0 16 rfl rfl rfl
theorem d_15_53_19 : decode prog_15_method_53_code 19 = .ok (.aload_n 0, 1) := D_42 W_prog_15_method_53_code_0 19 rfl rfl
theorem d_15_53_20 : decode prog_15_method_53_code 20 = .ok (.invokevirtual 376, 3) := D_182 W_prog_15_method_53_code_0 20 rfl rfl rfl
theorem d_15_53_23 : decode prog_15_method_53_code 23 = .ok (.ifCond .eq 138, 3) := D_153 W_prog_15_method_53_code_0 23 rfl rfl rfl
theorem d_15_53_26 : decode prog_15_method_53_code 26 = .ok (.aload_n 0, 1) := D_42 W_prog_15_method_53_code_0 26 rfl rfl
theorem d_15_53_27 : decode prog_15_method_53_code 27 = .ok (.iconst 0, 1) := D_3 W_prog_15_method_53_code_0 27 rfl rfl
theorem d_15_53_28 : decode prog_15_method_53_code 28 = .ok (.putfield 485, 3) := D_181 W_prog_15_method_53_code_0 28 rfl rfl rfl
theorem d_15_53_31 : decode prog_15_method_53_code 31 = .ok (.aload_n 0, 1) := D_42 W_prog_15_method_53_code_0 31 rfl rfl
theorem W_prog_15_method_53_code_32 : chW prog_15_method_53_code 32 [3, 181, 1, 232, 42, 9, 181, 1, 235, 42, 10, 181, 1, 238, 42, 7, 181, 1, 241, 42, 3, 181, 1, 244, 42, 3, 181, 1, 247, 42, 3, 181, 1, 250, 42, 3] := chW_of (by decide +kernel)
theorem d_15_53_32 : decode prog_15_method_53_code 32 = .ok (.iconst 0, 1) := D_3 W_prog_15_method_53_code_32 0 rfl rfl
theorem d_15_53_33 : decode prog_15_method_53_code 33 = .ok (.putfield 488, 3) := D_181 W_prog_15_method_53_code_32 1 rfl rfl rfl
theorem d_15_53_36 : decode prog_15_method_53_code 36 = .ok (.aload_n 0, 1) := D_42 W_prog_15_method_53_code_32 4 rfl rfl
theorem d_15_53_37 : decode prog_15_method_53_code 37 = .ok (.lconst 0, 1) := D_9 W_prog_15_method_53_code_32 5 rfl rfl
theorem d_15_53_38 : decode prog_15_method_53_code 38 = .ok (.putfield 491, 3) := D_181 W_prog_15_method_53_code_32 6 rfl rfl rfl
theorem d_15_53_41 : decode prog_15_method_53_code 41 = .ok (.aload_n 0, 1) := D_42 W_prog_15_method_53_code_32 9 rfl rfl
theorem d_15_53_42 : decode prog_15_method_53_code 42 = .ok (.lconst 1, 1) := D_10 W_prog_15_method_53_code_32 10 rfl rfl
theorem d_15_53_43 : decode prog_15_method_53_code 43 = .ok (.putfield 494, 3) := D_181 W_prog_15_method_53_code_32 11 rfl rfl rfl
theorem d_15_53_46 : decode prog_15_method_53_code 46 = .ok (.aload_n 0, 1) := D_42 W_prog_15_method_53_code_32 14 rfl rfl
theorem d_15_53_47 : decode prog_15_method_53_code 47 = .ok (.iconst 4, 1) := D_7 W_prog_15_method_53_code_32 15 rfl rfl
theorem d_15_53_48 : decode prog_15_method_53_code 48 = .ok (.putfield 497, 3) := D_181 W_prog_15_method_53_code_32 16 rfl rfl rfl
theorem d_15_53_51 : decode prog_15_method_53_code 51 = .ok (.aload_n 0, 1) := D_42 W_prog_15_method_53_code_32 19 rfl rfl
theorem d_15_53_52 : decode prog_15_method_53_code 52 = .ok (.iconst 0, 1) := D_3 W_prog_15_method_53_code_32 20 rfl rfl
theorem d_15_53_53 : decode prog_15_method_53_code 53 = .ok (.putfield 500, 3) := D_181 W_prog_15_method_53_code_32 21 rfl rfl rfl
theorem d_15_53_56 : decode prog_15_method_53_code 56 = .ok (.aload_n 0, 1) := D_42 W_prog_15_method_53_code_32 24 rfl rfl
theorem d_15_53_57 : decode prog_15_method_53_code 57 = .ok (.iconst 0, 1) := D_3 W_prog_15_method_53_code_32 25 rfl rfl
theorem d_15_53_58 : decode prog_15_method_53_code 58 = .ok (.putfield 503, 3) := D_181 W_prog_15_method_53_code_32 26 rfl rfl rfl
theorem d_15_53_61 : decode prog_15_method_53_code 61 = .ok (.aload_n 0, 1) := D_42 W_prog_15_method_53_code_32 29 rfl rfl
theorem d_15_53_62 : decode prog_15_method_53_code 62 = .ok (.iconst 0, 1) := D_3 W_prog_15_method_53_code_32 30 rfl rfl
theorem d_15_53_63 : decode prog_15_method_53_code 63 = .ok (.putfield 506, 3) := D_181 W_prog_15_method_53_code_32 31 rfl rfl rfl
theorem W_prog_15_method_53_code_64 : chW prog_15_method_53_code 64 [1, 250, 42, 3, 181, 1, 253, 3, 60, 27, 16, 8, 162, 0, 16, 42, 180, 0, 190, 27, 3, 79, 132, 1, 1, 167, 255, 240, 42, 42, 180, 0, 156, 42, 180, 1] := chW_of (by decide +kernel)
theorem d_15_53_66 : decode prog_15_method_53_code 66 = .ok (.aload_n 0, 1) := D_42 W_prog_15_method_53_code_64 2 rfl rfl
theorem d_15_53_67 : decode prog_15_method_53_code 67 = .ok (.iconst 0, 1) := D_3 W_prog_15_method_53_code_64 3 rfl rfl
theorem d_15_53_68 : decode prog_15_method_53_code 68 = .ok (.putfield 509, 3) := D_181 W_prog_15_method_53_code_64 4 rfl rfl rfl
theorem d_15_53_71 : decode prog_15_method_53_code 71 = .ok (.iconst 0, 1) := D_3 W_prog_15_method_53_code_64 7 rfl rfl
theorem d_15_53_72 : decode prog_15_method_53_code 72 = .ok (.istore_n 1, 1) := D_60 W_prog_15_method_53_code_64 8 rfl rfl
theorem d_15_53_73 : decode prog_15_method_53_code 73 = .ok (.iload_n 1, 1) := D_27 W_prog_15_method_53_code_64 9 rfl rfl
theorem d_15_53_74 : decode prog_15_method_53_code 74 = .ok (.bipush 8, 2) := D_16 W_prog_15_method_53_code_64 10 rfl rfl rfl
theorem d_15_53_76 : decode prog_15_method_53_code 76 = .ok (.if_icmp .ge 16, 3) := D_162 W_prog_15_method_53_code_64 12 rfl rfl rfl
theorem d_15_53_92 : decode prog_15_method_53_code 92 = .ok (.aload_n 0, 1) := D_42 W_prog_15_method_53_code_64 28 rfl rfl
theorem d_15_53_93 : decode prog_15_method_53_code 93 = .ok (.aload_n 0, 1) := D_42 W_prog_15_method_53_code_64 29 rfl rfl
theorem d_15_53_94 : decode prog_15_method_53_code 94 = .ok (.getfield 156, 3) := D_180 W_prog_15_method_53_code_64 30 rfl rfl rfl
theorem W_prog_15_method_53_code_96 : chW prog_15_method_53_code 96 [156, 42, 180, 1, 226, 46, 4, 96, 42, 180, 0, 159, 42, 180, 0, 156, 42, 180, 1, 226, 46, 46, 182, 2, 0, 42, 180, 0, 44, 180, 2, 3, 42, 180, 1, 226] := chW_of (by decide +kernel)
theorem d_15_53_97 : decode prog_15_method_53_code 97 = .ok (.aload_n 0, 1) := D_42 W_prog_15_method_53_code_96 1 rfl rfl
theorem d_15_53_98 : decode prog_15_method_53_code 98 = .ok (.getfield 482, 3) := D_180 W_prog_15_method_53_code_96 2 rfl rfl rfl
theorem d_15_53_101 : decode prog_15_method_53_code 101 = .ok (.iaload, 1) := D_46 W_prog_15_method_53_code_96 5 rfl rfl
theorem d_15_53_102 : decode prog_15_method_53_code 102 = .ok (.iconst 1, 1) := D_4 W_prog_15_method_53_code_96 6 rfl rfl
theorem d_15_53_103 : decode prog_15_method_53_code 103 = .ok (.iadd, 1) := D_96 W_prog_15_method_53_code_96 7 rfl rfl
theorem d_15_53_104 : decode prog_15_method_53_code 104 = .ok (.aload_n 0, 1) := D_42 W_prog_15_method_53_code_96 8 rfl rfl
theorem d_15_53_105 : decode prog_15_method_53_code 105 = .ok (.getfield 159, 3) := D_180 W_prog_15_method_53_code_96 9 rfl rfl rfl
theorem d_15_53_108 : decode prog_15_method_53_code 108 = .ok (.aload_n 0, 1) := D_42 W_prog_15_method_53_code_96 12 rfl rfl
theorem d_15_53_109 : decode prog_15_method_53_code 109 = .ok (.getfield 156, 3) := D_180 W_prog_15_method_53_code_96 13 rfl rfl rfl
theorem d_15_53_112 : decode prog_15_method_53_code 112 = .ok (.aload_n 0, 1) := D_42 W_prog_15_method_53_code_96 16 rfl rfl
theorem d_15_53_113 : decode prog_15_method_53_code 113 = .ok (.getfield 482, 3) := D_180 W_prog_15_method_53_code_96 17 rfl rfl rfl
theorem d_15_53_116 : decode prog_15_method_53_code 116 = .ok (.iaload, 1) := D_46 W_prog_15_method_53_code_96 20 rfl rfl
theorem d_15_53_117 : decode prog_15_method_53_code 117 = .ok (.iaload, 1) := D_46 W_prog_15_method_53_code_96 21 rfl rfl
theorem d_15_53_118 : decode prog_15_method_53_code 118 = .ok (.invokevirtual 512, 3) := D_182 W_prog_15_method_53_code_96 22 rfl rfl rfl
theorem d_15_53_121 : decode prog_15_method_53_code 121 = .ok (.aload_n 0, 1) := D_42 W_prog_15_method_53_code_96 25 rfl rfl
theorem d_15_53_122 : decode prog_15_method_53_code 122 = .ok (.getfield 44, 3) := D_180 W_prog_15_method_53_code_96 26 rfl rfl rfl
theorem d_15_53_125 : decode prog_15_method_53_code 125 = .ok (.getfield 515, 3) := D_180 W_prog_15_method_53_code_96 29 rfl rfl rfl
theorem W_prog_15_method_53_code_128 : chW prog_15_method_53_code 128 [42, 180, 1, 226, 42, 180, 1, 229, 79, 42, 182, 1, 120, 153, 0, 7, 42, 182, 2, 6, 42, 89, 180, 1, 226, 4, 96, 181, 1, 226, 167, 255, 103, 4, 60, 27] := chW_of (by decide +kernel)
theorem d_15_53_128 : decode prog_15_method_53_code 128 = .ok (.aload_n 0, 1) := D_42 W_prog_15_method_53_code_128 0 rfl rfl
theorem d_15_53_129 : decode prog_15_method_53_code 129 = .ok (.getfield 482, 3) := D_180 W_prog_15_method_53_code_128 1 rfl rfl rfl
theorem d_15_53_132 : decode prog_15_method_53_code 132 = .ok (.aload_n 0, 1) := D_42 W_prog_15_method_53_code_128 4 rfl rfl
theorem d_15_53_133 : decode prog_15_method_53_code 133 = .ok (.getfield 485, 3) := D_180 W_prog_15_method_53_code_128 5 rfl rfl rfl
theorem d_15_53_136 : decode prog_15_method_53_code 136 = .ok (.iastore, 1) := D_79 W_prog_15_method_53_code_128 8 rfl rfl
theorem d_15_53_137 : decode prog_15_method_53_code 137 = .ok (.aload_n 0, 1) := D_42 W_prog_15_method_53_code_128 9 rfl rfl
theorem d_15_53_138 : decode prog_15_method_53_code 138 = .ok (.invokevirtual 376, 3) := D_182 W_prog_15_method_53_code_128 10 rfl rfl rfl
theorem d_15_53_141 : decode prog_15_method_53_code 141 = .ok (.ifCond .eq 7, 3) := D_153 W_prog_15_method_53_code_128 13 rfl rfl rfl
theorem d_15_53_144 : decode prog_15_method_53_code 144 = .ok (.aload_n 0, 1) := D_42 W_prog_15_method_53_code_128 16 rfl rfl
theorem d_15_53_145 : decode prog_15_method_53_code 145 = .ok (.invokevirtual 518, 3) := D_182 W_prog_15_method_53_code_128 17 rfl rfl rfl
theorem d_15_53_79 : decode prog_15_method_53_code 79 = .ok (.aload_n 0, 1) := D_42 W_prog_15_method_53_code_64 15 rfl rfl
theorem d_15_53_80 : decode prog_15_method_53_code 80 = .ok (.getfield 190, 3) := D_180 W_prog_15_method_53_code_64 16 rfl rfl rfl
theorem d_15_53_83 : decode prog_15_method_53_code 83 = .ok (.iload_n 1, 1) := D_27 W_prog_15_method_53_code_64 19 rfl rfl
theorem d_15_53_84 : decode prog_15_method_53_code 84 = .ok (.iconst 0, 1) := D_3 W_prog_15_method_53_code_64 20 rfl rfl
theorem d_15_53_85 : decode prog_15_method_53_code 85 = .ok (.iastore, 1) := D_79 W_prog_15_method_53_code_64 21 rfl rfl
theorem d_15_53_86 : decode prog_15_method_53_code 86 = .ok (.iinc 1 1, 3) := D_132 W_prog_15_method_53_code_64 22 rfl rfl rfl
theorem d_15_53_89 : decode prog_15_method_53_code 89 = .ok (.goto (-16), 3) := D_167 W_prog_15_method_53_code_64 25 rfl rfl rfl
theorem d_15_53_148 : decode prog_15_method_53_code 148 = .ok (.aload_n 0, 1) := D_42 W_prog_15_method_53_code_128 20 rfl rfl
theorem d_15_53_149 : decode prog_15_method_53_code 149 = .ok (.dup, 1) := D_89 W_prog_15_method_53_code_128 21 rfl rfl
theorem d_15_53_150 : decode prog_15_method_53_code 150 = .ok (.getfield 482, 3) := D_180 W_prog_15_method_53_code_128 22 rfl rfl rfl
theorem d_15_53_153 : decode prog_15_method_53_code 153 = .ok (.iconst 1, 1) := D_4 W_prog_15_method_53_code_128 25 rfl rfl
theorem d_15_53_154 : decode prog_15_method_53_code 154 = .ok (.iadd, 1) := D_96 W_prog_15_method_53_code_128 26 rfl rfl
theorem d_15_53_155 : decode prog_15_method_53_code 155 = .ok (.putfield 482, 3) := D_181 W_prog_15_method_53_code_128 27 rfl rfl rfl
theorem d_15_53_158 : decode prog_15_method_53_code 158 = .ok (.goto (-153), 3) := D_167 W_prog_15_method_53_code_128 30 rfl rfl rfl
theorem W_prog_15_method_53_code_160 : chW prog_15_method_53_code 160 [103, 4, 60, 27, 42, 180, 0, 44, 180, 1, 48, 162, 0, 168, 42, 182, 1, 120, 153, 0, 161, 17, 3, 232, 27, 104, 42, 180, 0, 44, 180, 2, 3, 27, 46, 96] := chW_of (by decide +kernel)
theorem d_15_53_161 : decode prog_15_method_53_code 161 = .ok (.iconst 1, 1) := D_4 W_prog_15_method_53_code_160 1 rfl rfl
theorem d_15_53_162 : decode prog_15_method_53_code 162 = .ok (.istore_n 1, 1) := D_60 W_prog_15_method_53_code_160 2 rfl rfl
theorem d_15_53_163 : decode prog_15_method_53_code 163 = .ok (.iload_n 1, 1) := D_27 W_prog_15_method_53_code_160 3 rfl rfl
theorem d_15_53_164 : decode prog_15_method_53_code 164 = .ok (.aload_n 0, 1) := D_42 W_prog_15_method_53_code_160 4 rfl rfl
theorem d_15_53_165 : decode prog_15_method_53_code 165 = .ok (.getfield 44, 3) := D_180 W_prog_15_method_53_code_160 5 rfl rfl rfl
theorem d_15_53_168 : decode prog_15_method_53_code 168 = .ok (.getfield 304, 3) := D_180 W_prog_15_method_53_code_160 8 rfl rfl rfl
theorem d_15_53_171 : decode prog_15_method_53_code 171 = .ok (.if_icmp .ge 168, 3) := D_162 W_prog_15_method_53_code_160 11 rfl rfl rfl
theorem d_15_53_174 : decode prog_15_method_53_code 174 = .ok (.aload_n 0, 1) := D_42 W_prog_15_method_53_code_160 14 rfl rfl
theorem d_15_53_175 : decode prog_15_method_53_code 175 = .ok (.invokevirtual 376, 3) := D_182 W_prog_15_method_53_code_160 15 rfl rfl rfl
theorem d_15_53_178 : decode prog_15_method_53_code 178 = .ok (.ifCond .eq 161, 3) := D_153 W_prog_15_method_53_code_160 18 rfl rfl rfl
theorem d_15_53_181 : decode prog_15_method_53_code 181 = .ok (.sipush 1000, 3) := D_17 W_prog_15_method_53_code_160 21 rfl rfl rfl
theorem d_15_53_184 : decode prog_15_method_53_code 184 = .ok (.iload_n 1, 1) := D_27 W_prog_15_method_53_code_160 24 rfl rfl
theorem d_15_53_185 : decode prog_15_method_53_code 185 = .ok (.imul, 1) := D_104 W_prog_15_method_53_code_160 25 rfl rfl
theorem d_15_53_186 : decode prog_15_method_53_code 186 = .ok (.aload_n 0, 1) := D_42 W_prog_15_method_53_code_160 26 rfl rfl
theorem d_15_53_187 : decode prog_15_method_53_code 187 = .ok (.getfield 44, 3) := D_180 W_prog_15_method_53_code_160 27 rfl rfl rfl
theorem d_15_53_190 : decode prog_15_method_53_code 190 = .ok (.getfield 515, 3) := D_180 W_prog_15_method_53_code_160 30 rfl rfl rfl
theorem W_prog_15_method_53_code_192 : chW prog_15_method_53_code 192 [3, 27, 46, 96, 4, 100, 61, 42, 180, 0, 44, 180, 2, 3, 3, 46, 4, 100, 62, 42, 42, 180, 0, 44, 180, 2, 9, 28, 47, 42, 180, 0, 44, 180, 2, 12] := chW_of (by decide +kernel)
theorem d_15_53_193 : decode prog_15_method_53_code 193 = .ok (.iload_n 1, 1) := D_27 W_prog_15_method_53_code_192 1 rfl rfl
theorem d_15_53_194 : decode prog_15_method_53_code 194 = .ok (.iaload, 1) := D_46 W_prog_15_method_53_code_192 2 rfl rfl
theorem d_15_53_195 : decode prog_15_method_53_code 195 = .ok (.iadd, 1) := D_96 W_prog_15_method_53_code_192 3 rfl rfl
theorem d_15_53_196 : decode prog_15_method_53_code 196 = .ok (.iconst 1, 1) := D_4 W_prog_15_method_53_code_192 4 rfl rfl
theorem d_15_53_197 : decode prog_15_method_53_code 197 = .ok (.isub, 1) := D_100 W_prog_15_method_53_code_192 5 rfl rfl
theorem d_15_53_198 : decode prog_15_method_53_code 198 = .ok (.istore_n 2, 1) := D_61 W_prog_15_method_53_code_192 6 rfl rfl
theorem d_15_53_199 : decode prog_15_method_53_code 199 = .ok (.aload_n 0, 1) := D_42 W_prog_15_method_53_code_192 7 rfl rfl
theorem d_15_53_200 : decode prog_15_method_53_code 200 = .ok (.getfield 44, 3) := D_180 W_prog_15_method_53_code_192 8 rfl rfl rfl
theorem d_15_53_203 : decode prog_15_method_53_code 203 = .ok (.getfield 515, 3) := D_180 W_prog_15_method_53_code_192 11 rfl rfl rfl
theorem d_15_53_206 : decode prog_15_method_53_code 206 = .ok (.iconst 0, 1) := D_3 W_prog_15_method_53_code_192 14 rfl rfl
theorem d_15_53_207 : decode prog_15_method_53_code 207 = .ok (.iaload, 1) := D_46 W_prog_15_method_53_code_192 15 rfl rfl
theorem d_15_53_208 : decode prog_15_method_53_code 208 = .ok (.iconst 1, 1) := D_4 W_prog_15_method_53_code_192 16 rfl rfl
theorem d_15_53_209 : decode prog_15_method_53_code 209 = .ok (.isub, 1) := D_100 W_prog_15_method_53_code_192 17 rfl rfl
theorem d_15_53_210 : decode prog_15_method_53_code 210 = .ok (.istore_n 3, 1) := D_62 W_prog_15_method_53_code_192 18 rfl rfl
theorem d_15_53_211 : decode prog_15_method_53_code 211 = .ok (.aload_n 0, 1) := D_42 W_prog_15_method_53_code_192 19 rfl rfl
theorem d_15_53_212 : decode prog_15_method_53_code 212 = .ok (.aload_n 0, 1) := D_42 W_prog_15_method_53_code_192 20 rfl rfl
theorem d_15_53_213 : decode prog_15_method_53_code 213 = .ok (.getfield 44, 3) := D_180 W_prog_15_method_53_code_192 21 rfl rfl rfl
theorem d_15_53_216 : decode prog_15_method_53_code 216 = .ok (.getfield 521, 3) := D_180 W_prog_15_method_53_code_192 24 rfl rfl rfl
theorem d_15_53_219 : decode prog_15_method_53_code 219 = .ok (.iload_n 2, 1) := D_28 W_prog_15_method_53_code_192 27 rfl rfl
theorem d_15_53_220 : decode prog_15_method_53_code 220 = .ok (.laload, 1) := D_47 W_prog_15_method_53_code_192 28 rfl rfl
theorem d_15_53_221 : decode prog_15_method_53_code 221 = .ok (.aload_n 0, 1) := D_42 W_prog_15_method_53_code_192 29 rfl rfl
theorem d_15_53_222 : decode prog_15_method_53_code 222 = .ok (.getfield 44, 3) := D_180 W_prog_15_method_53_code_192 30 rfl rfl rfl
theorem W_prog_15_method_53_code_224 : chW prog_15_method_53_code 224 [44, 180, 2, 12, 28, 47, 42, 180, 0, 44, 180, 2, 15, 28, 47, 42, 180, 0, 44, 180, 2, 18, 28, 47, 182, 2, 21, 42, 180, 0, 9, 55, 4, 42, 180, 0] := chW_of (by decide +kernel)
theorem d_15_53_225 : decode prog_15_method_53_code 225 = .ok (.getfield 524, 3) := D_180 W_prog_15_method_53_code_224 1 rfl rfl rfl
theorem d_15_53_228 : decode prog_15_method_53_code 228 = .ok (.iload_n 2, 1) := D_28 W_prog_15_method_53_code_224 4 rfl rfl
theorem d_15_53_229 : decode prog_15_method_53_code 229 = .ok (.laload, 1) := D_47 W_prog_15_method_53_code_224 5 rfl rfl
theorem d_15_53_230 : decode prog_15_method_53_code 230 = .ok (.aload_n 0, 1) := D_42 W_prog_15_method_53_code_224 6 rfl rfl
theorem d_15_53_231 : decode prog_15_method_53_code 231 = .ok (.getfield 44, 3) := D_180 W_prog_15_method_53_code_224 7 rfl rfl rfl
theorem d_15_53_234 : decode prog_15_method_53_code 234 = .ok (.getfield 527, 3) := D_180 W_prog_15_method_53_code_224 10 rfl rfl rfl
theorem d_15_53_237 : decode prog_15_method_53_code 237 = .ok (.iload_n 2, 1) := D_28 W_prog_15_method_53_code_224 13 rfl rfl
theorem d_15_53_238 : decode prog_15_method_53_code 238 = .ok (.laload, 1) := D_47 W_prog_15_method_53_code_224 14 rfl rfl
theorem d_15_53_239 : decode prog_15_method_53_code 239 = .ok (.aload_n 0, 1) := D_42 W_prog_15_method_53_code_224 15 rfl rfl
theorem d_15_53_240 : decode prog_15_method_53_code 240 = .ok (.getfield 44, 3) := D_180 W_prog_15_method_53_code_224 16 rfl rfl rfl
theorem d_15_53_243 : decode prog_15_method_53_code 243 = .ok (.getfield 530, 3) := D_180 W_prog_15_method_53_code_224 19 rfl rfl rfl
theorem d_15_53_246 : decode prog_15_method_53_code 246 = .ok (.iload_n 2, 1) := D_28 W_prog_15_method_53_code_224 22 rfl rfl
theorem d_15_53_247 : decode prog_15_method_53_code 247 = .ok (.laload, 1) := D_47 W_prog_15_method_53_code_224 23 rfl rfl
theorem d_15_53_248 : decode prog_15_method_53_code 248 = .ok (.invokevirtual 533, 3) := D_182 W_prog_15_method_53_code_224 24 rfl rfl rfl
theorem d_15_53_251 : decode prog_15_method_53_code 251 = .ok (.aload_n 0, 1) := D_42 W_prog_15_method_53_code_224 27 rfl rfl
theorem d_15_53_252 : decode prog_15_method_53_code 252 = .ok (.getfield 9, 3) := D_180 W_prog_15_method_53_code_224 28 rfl rfl rfl
theorem d_15_53_255 : decode prog_15_method_53_code 255 = .ok (.lstore 4, 2) := D_55 W_prog_15_method_53_code_224 31 rfl rfl
theorem W_prog_15_method_53_code_256 : chW prog_15_method_53_code 256 [4, 42, 180, 0, 13, 55, 6, 42, 42, 180, 0, 44, 180, 2, 9, 29, 47, 42, 180, 0, 44, 180, 2, 12, 29, 47, 42, 180, 0, 44, 180, 2, 15, 29, 47, 42] := chW_of (by decide +kernel)
theorem d_15_53_257 : decode prog_15_method_53_code 257 = .ok (.aload_n 0, 1) := D_42 W_prog_15_method_53_code_256 1 rfl rfl
theorem d_15_53_258 : decode prog_15_method_53_code 258 = .ok (.getfield 13, 3) := D_180 W_prog_15_method_53_code_256 2 rfl rfl rfl
theorem d_15_53_261 : decode prog_15_method_53_code 261 = .ok (.lstore 6, 2) := D_55 W_prog_15_method_53_code_256 5 rfl rfl
theorem d_15_53_263 : decode prog_15_method_53_code 263 = .ok (.aload_n 0, 1) := D_42 W_prog_15_method_53_code_256 7 rfl rfl
theorem d_15_53_264 : decode prog_15_method_53_code 264 = .ok (.aload_n 0, 1) := D_42 W_prog_15_method_53_code_256 8 rfl rfl
theorem d_15_53_265 : decode prog_15_method_53_code 265 = .ok (.getfield 44, 3) := D_180 W_prog_15_method_53_code_256 9 rfl rfl rfl
theorem d_15_53_268 : decode prog_15_method_53_code 268 = .ok (.getfield 521, 3) := D_180 W_prog_15_method_53_code_256 12 rfl rfl rfl
theorem d_15_53_271 : decode prog_15_method_53_code 271 = .ok (.iload_n 3, 1) := D_29 W_prog_15_method_53_code_256 15 rfl rfl
theorem d_15_53_272 : decode prog_15_method_53_code 272 = .ok (.laload, 1) := D_47 W_prog_15_method_53_code_256 16 rfl rfl
theorem d_15_53_273 : decode prog_15_method_53_code 273 = .ok (.aload_n 0, 1) := D_42 W_prog_15_method_53_code_256 17 rfl rfl
theorem d_15_53_274 : decode prog_15_method_53_code 274 = .ok (.getfield 44, 3) := D_180 W_prog_15_method_53_code_256 18 rfl rfl rfl
theorem d_15_53_277 : decode prog_15_method_53_code 277 = .ok (.getfield 524, 3) := D_180 W_prog_15_method_53_code_256 21 rfl rfl rfl
theorem d_15_53_280 : decode prog_15_method_53_code 280 = .ok (.iload_n 3, 1) := D_29 W_prog_15_method_53_code_256 24 rfl rfl
theorem d_15_53_281 : decode prog_15_method_53_code 281 = .ok (.laload, 1) := D_47 W_prog_15_method_53_code_256 25 rfl rfl
theorem d_15_53_282 : decode prog_15_method_53_code 282 = .ok (.aload_n 0, 1) := D_42 W_prog_15_method_53_code_256 26 rfl rfl
theorem d_15_53_283 : decode prog_15_method_53_code 283 = .ok (.getfield 44, 3) := D_180 W_prog_15_method_53_code_256 27 rfl rfl rfl
theorem d_15_53_286 : decode prog_15_method_53_code 286 = .ok (.getfield 527, 3) := D_180 W_prog_15_method_53_code_256 30 rfl rfl rfl
theorem W_prog_15_method_53_code_288 : chW prog_15_method_53_code 288 [15, 29, 47, 42, 180, 0, 44, 180, 2, 18, 29, 47, 182, 2, 21, 22, 4, 22, 6, 42, 180, 0, 9, 42, 180, 0, 13, 184, 2, 25, 153, 0, 15, 42, 16, 6] := chW_of (by decide +kernel)
theorem d_15_53_289 : decode prog_15_method_53_code 289 = .ok (.iload_n 3, 1) := D_29 W_prog_15_method_53_code_288 1 rfl rfl
theorem d_15_53_290 : decode prog_15_method_53_code 290 = .ok (.laload, 1) := D_47 W_prog_15_method_53_code_288 2 rfl rfl
theorem d_15_53_291 : decode prog_15_method_53_code 291 = .ok (.aload_n 0, 1) := D_42 W_prog_15_method_53_code_288 3 rfl rfl
theorem d_15_53_292 : decode prog_15_method_53_code 292 = .ok (.getfield 44, 3) := D_180 W_prog_15_method_53_code_288 4 rfl rfl rfl
theorem d_15_53_295 : decode prog_15_method_53_code 295 = .ok (.getfield 530, 3) := D_180 W_prog_15_method_53_code_288 7 rfl rfl rfl
theorem d_15_53_298 : decode prog_15_method_53_code 298 = .ok (.iload_n 3, 1) := D_29 W_prog_15_method_53_code_288 10 rfl rfl
theorem d_15_53_299 : decode prog_15_method_53_code 299 = .ok (.laload, 1) := D_47 W_prog_15_method_53_code_288 11 rfl rfl
theorem d_15_53_300 : decode prog_15_method_53_code 300 = .ok (.invokevirtual 533, 3) := D_182 W_prog_15_method_53_code_288 12 rfl rfl rfl
theorem d_15_53_303 : decode prog_15_method_53_code 303 = .ok (.lload 4, 2) := D_22 W_prog_15_method_53_code_288 15 rfl rfl
theorem d_15_53_305 : decode prog_15_method_53_code 305 = .ok (.lload 6, 2) := D_22 W_prog_15_method_53_code_288 17 rfl rfl
theorem d_15_53_307 : decode prog_15_method_53_code 307 = .ok (.aload_n 0, 1) := D_42 W_prog_15_method_53_code_288 19 rfl rfl
theorem d_15_53_308 : decode prog_15_method_53_code 308 = .ok (.getfield 9, 3) := D_180 W_prog_15_method_53_code_288 20 rfl rfl rfl
theorem d_15_53_311 : decode prog_15_method_53_code 311 = .ok (.aload_n 0, 1) := D_42 W_prog_15_method_53_code_288 23 rfl rfl
theorem d_15_53_312 : decode prog_15_method_53_code 312 = .ok (.getfield 13, 3) := D_180 W_prog_15_method_53_code_288 24 rfl rfl rfl
theorem d_15_53_315 : decode prog_15_method_53_code 315 = .ok (.invokestatic 537, 3) := D_184 W_prog_15_method_53_code_288 27 rfl rfl rfl
theorem d_15_53_318 : decode prog_15_method_53_code 318 = .ok (.ifCond .eq 15, 3) := D_153 W_prog_15_method_53_code_288 30 rfl rfl rfl
theorem W_prog_15_method_53_code_320 : chW prog_15_method_53_code 320 [15, 42, 16, 6, 42, 180, 0, 153, 27, 46, 182, 1, 109, 132, 1, 1, 167, 255, 83, 177] := chW_of (by decide +kernel)
theorem d_15_53_321 : decode prog_15_method_53_code 321 = .ok (.aload_n 0, 1) := D_42 W_prog_15_method_53_code_320 1 rfl rfl
theorem d_15_53_322 : decode prog_15_method_53_code 322 = .ok (.bipush 6, 2) := D_16 W_prog_15_method_53_code_320 2 rfl rfl rfl
theorem d_15_53_324 : decode prog_15_method_53_code 324 = .ok (.aload_n 0, 1) := D_42 W_prog_15_method_53_code_320 4 rfl rfl
theorem d_15_53_325 : decode prog_15_method_53_code 325 = .ok (.getfield 153, 3) := D_180 W_prog_15_method_53_code_320 5 rfl rfl rfl
theorem d_15_53_328 : decode prog_15_method_53_code 328 = .ok (.iload_n 1, 1) := D_27 W_prog_15_method_53_code_320 8 rfl rfl
theorem d_15_53_329 : decode prog_15_method_53_code 329 = .ok (.iaload, 1) := D_46 W_prog_15_method_53_code_320 9 rfl rfl
theorem d_15_53_330 : decode prog_15_method_53_code 330 = .ok (.invokevirtual 365, 3) := D_182 W_prog_15_method_53_code_320 10 rfl rfl rfl
theorem d_15_53_333 : decode prog_15_method_53_code 333 = .ok (.iinc 1 1, 3) := D_132 W_prog_15_method_53_code_320 13 rfl rfl rfl
theorem d_15_53_336 : decode prog_15_method_53_code 336 = .ok (.goto (-173), 3) := D_167 W_prog_15_method_53_code_320 16 rfl rfl rfl
theorem d_15_53_339 : decode prog_15_method_53_code 339 = .ok (.return_, 1) := D_177 W_prog_15_method_53_code_320 19 rfl rfl
noncomputable abbrev Q_M_head (D : va_G) (ca : Nat → ClassId) (ad : Nat → Int → Nat → Nat) (L : List Nat) (r : Int) (F : zF) (B : zB) (A : Nat → Prop) : Array Value → State → Outcome → State → Prop := va_Qv (S := Unit) (fun _ => True) (fun _ => zPo D ca ad lnM nM L F B A) A
noncomputable def f_M_head_152 (K : Nat)  (F : zF) (B : zB) : zO := some (0, F, B)
set_option maxHeartbeats 4000000 in
set_option maxRecDepth 100000 in
theorem b_M_head_152 {D : va_G} {ca : Nat → ClassId} {ad : Nat → Int → Nat → Nat} {L : List Nat} {aS vS : Nat → Nat} {A : Nat → Prop} {p : Program} {l : Launch} {e : Env} {s : State} {m : MethodId} {args : Array Value} {below : List Frame} {meth : Method} {c : Code} {K : Nat} {r : Int} {F9 : zF} {B9 : zB} (X : zX D ca L aS vS A p s m args meth c prog_15_method_41_code 1 (Option.none : Option Jvm.ClassFile.FieldType) "StaveHouseModel")  {F : zF} {B : zB} {H : Heap} {locs : List Loc} {ls : Array Slot} (hf : f_M_head_152 K  F B = some (r, F9, B9)) (hZ : zH D ca ad lnM nM L F B A H) (hS : va_S A s.heap H locs) (hl : lv_has ls 1 []) : W p l e ({ frames := 48, cells := 0, slots := 0, locals := 1071 } : Room) s m args below meth c H locs 0 0 (MQ below (Q_M_head D ca ad L r F9 B9 A) args s 0 0 A) (F0 m 152 ls []) := by
  obtain ⟨hx, hb, hr, hml, hown, hts, hlk, hK, hA, hL, hX⟩ := id X
  replace hf : (some (0, F, B)) = some (r, F9, B9) := hf
  cases hf
  exact W.vret hx hb hr (fun t ht hW => ⟨⟨(), rfl, trivial, by rw [ht]; exact hZ, va_K.moved hW.alike hK⟩, hS.F ht⟩) hS.2.2 d_15_41_152 hlk

noncomputable def f_M_head_113 (K : Nat)  (F : zF) (B : zB) : zO := if 0 ≤ (F 14 0 6) ∧ (F 14 0 6) < 3 then zbind (f_M_number K 20 300 0 (zup3 (zup3 F 14 0 24 1) 14 0 16 ((F 14 0 16) + 1)) B) (fun r30 F30 B30 => f_M_head_152 K (zup3 F30 13 (F 14 0 6) 6 r30) B30) else none
set_option maxHeartbeats 4000000 in
set_option maxRecDepth 100000 in
theorem b_M_head_113 {D : va_G} {ca : Nat → ClassId} {ad : Nat → Int → Nat → Nat} {L : List Nat} {aS vS : Nat → Nat} {A : Nat → Prop} {p : Program} {l : Launch} {e : Env} {s : State} {m : MethodId} {args : Array Value} {below : List Frame} {meth : Method} {c : Code} {K : Nat} {r : Int} {F9 : zF} {B9 : zB} (X : zX D ca L aS vS A p s m args meth c prog_15_method_41_code 1 (Option.none : Option Jvm.ClassFile.FieldType) "StaveHouseModel")  {F : zF} {B : zB} {H : Heap} {locs : List Loc} {ls : Array Slot} (hf : f_M_head_113 K  F B = some (r, F9, B9)) (hZ : zH D ca ad lnM nM L F B A H) (hS : va_S A s.heap H locs) (hl : lv_has ls 1 [(0, .ref (ad 14 0 0))]) : W p l e ({ frames := 48, cells := 0, slots := 0, locals := 1071 } : Room) s m args below meth c H locs 0 0 (MQ below (Q_M_head D ca ad L r F9 B9 A) args s 0 0 A) (F0 m 113 ls []) := by
  obtain ⟨hx, hb, hr, hml, hown, hts, hlk, hK, hA, hL, hX⟩ := id X
  replace hf : (if 0 ≤ (F 14 0 6) ∧ (F 14 0 6) < 3 then zbind (f_M_number K 20 300 0 (zup3 (zup3 F 14 0 24 1) 14 0 16 ((F 14 0 16) + 1)) B) (fun r30 F30 B30 => f_M_head_152 K (zup3 F30 13 (F 14 0 6) 6 r30) B30) else none) = some (r, F9, B9) := hf
  refine lv_aload_n hx hb d_15_41_113 rfl (lv_at hl 0 rfl) ?_
  refine lv_iconst (v := iI 1) hx hb d_15_41_114 rfl ?_
  refine zput (ci := 14) (C := RX14) (T := TX14) (k := 24) (v := 1) (w := .int (iI 1)) hx hb hts inW_14 tyX14 tyX14_ok nmX14 hown hK hZ hS (by decide) (by decide) rfl (by decide) k_11_22 rfl (fun G h => congrArg (fun q => Value.int (iI q)) h) rfl rfl (zno (by decide)) d_15_41_115 (fun H27 locs27 hZ27 hS27 => ?_)
  refine lv_aload_n hx hb d_15_41_118 rfl (lv_at hl 0 rfl) ?_
  refine lv_dup hx hb d_15_41_119 rfl ?_
  refine zget (ci := 14) (C := RX14) (T := TX14) (v := .int (iI (F 14 0 16))) (k := 16) hx hb hts inW_14 hown hK hZ27 (by decide) (by decide) rfl (by decide) k_11_14 rfl d_15_41_120 ?_
  refine lv_iconst (v := iI 1) hx hb d_15_41_123 rfl ?_
  refine zadd hx hb d_15_41_124 ?_
  refine zput (ci := 14) (C := RX14) (T := TX14) (k := 16) (v := ((F 14 0 16) + 1)) (w := .int (iI ((F 14 0 16) + 1))) hx hb hts inW_14 tyX14 tyX14_ok nmX14 hown hK hZ27 hS27 (by decide) (by decide) rfl (by decide) k_11_14 rfl (fun G h => congrArg (fun q => Value.int (iI q)) h) rfl rfl (zno (by decide)) d_15_41_125 (fun H28 locs28 hZ28 hS28 => ?_)
  refine lv_aload_n hx hb d_15_41_128 rfl (lv_at hl 0 rfl) ?_
  refine zget (ci := 14) (C := RX14) (T := TX14) (v := va_rf (zrf ad 13 (F 14 0 6))) (k := 6) hx hb hts inW_14 hown hK hZ28 (by decide) (by decide) rfl (by decide) k_11_4 rfl d_15_41_129 ?_
  refine lv_aload_n hx hb d_15_41_132 rfl (lv_at hl 0 rfl) ?_
  refine lv_bipush (v := iI 20) hx hb d_15_41_133 (by decide) ?_
  refine lv_sipush (v := iI 300) hx hb d_15_41_135 (by decide) ?_
  refine lv_iconst (v := iI 0) hx hb d_15_41_138 rfl ?_
  obtain ⟨g29, hf⟩ := gif hf
  refine W.eq (g2 := F0 m 139 ls [.int (iI 0), .int (iI 300), .int (iI 20), .ref (ad 14 0 0), .ref (ad 13 (F 14 0 6) 0)]) (by rw [zrf_pos (ad := ad) (t := 13) g29.1]; try rfl) ?_
  obtain ⟨r30, F30, B30, hc30, hf⟩ := gbind hf
  refine va_calli (va_runV (As := [.int (iI 20), .int (iI 300), .int (iI 0)]) (rest := [.ref (ad 13 (F 14 0 6) 0)]) ⟨hx, hb, hml, hown, hts⟩ (c_M_number (l := l) hc30) (cwV 3 hts (gdV k_14_140 k_14_142 ks_207 k_1_9 k_14_143) rfl rfl rfl (by decide +kernel) ⟨Nat.le_of_ble_eq_true rfl, Nat.le_of_ble_eq_true rfl⟩) (zPV X hZ28 hS28 (ci := 14) (by decide) (by decide) (r := (RX14, TX14, 107)) rfl [.int (iI 20), .int (iI 300), .int (iI 0)]) rfl rfl hl.1 rfl (lv_room (Nat.le_of_ble_eq_true rfl)) d_15_41_139 ⟨Nat.le_of_ble_eq_true rfl, Nat.le_of_ble_eq_true rfl⟩) hS28 (fun q _ h => zAin X hS28 q h) (zAin X hS28) (fun p30 u30 t30 H30 locs30 ht30 hv30 hw30 hB30 hz30 hk30 hS30 => ?_)
  have hZ30 := zBack X ht30 hB30
  subst hw30
  refine zput (ci := 13) (C := RX13) (T := TX13) (k := 6) (v := r30) (w := .int (iI r30)) hx hb hts inW_13 tyX13 tyX13_ok nmX13 hown hK hZ30 hS30 g29.1 g29.2 rfl (by decide) k_9_131 rfl (fun G h => congrArg (fun q => Value.int (iI q)) h) rfl rfl (zno (by decide)) d_15_41_142 (fun H31 locs31 hZ31 hS31 => ?_)
  refine lv_goto (tgt := 152) hx hb d_15_41_145 (by decide) ?_
  exact b_M_head_152 X hf hZ31 hS31 (lv_sub hl [] rfl)

noncomputable def f_M_head_38 (K : Nat)  (F : zF) (B : zB) : zO := if 0 ≤ (F 14 0 6) ∧ (F 14 0 6) < 3 then zbind (f_M_number K 1 12 0 (zup3 (zup3 F 14 0 23 1) 14 0 16 ((F 14 0 16) + 1)) B) (fun r21 F21 B21 => zbind (f_M_need K 47 (zup3 F21 13 (F 14 0 6) 4 r21) B21) (fun r23 F23 B23 => if 0 ≤ (F23 14 0 6) ∧ (F23 14 0 6) < 3 then zbind (f_M_number K 2 16 1 F23 B23) (fun r25 F25 B25 => f_M_head_152 K (zup3 F25 13 (F23 14 0 6) 5 r25) B25) else none)) else none
set_option maxHeartbeats 4000000 in
set_option maxRecDepth 100000 in
theorem b_M_head_38 {D : va_G} {ca : Nat → ClassId} {ad : Nat → Int → Nat → Nat} {L : List Nat} {aS vS : Nat → Nat} {A : Nat → Prop} {p : Program} {l : Launch} {e : Env} {s : State} {m : MethodId} {args : Array Value} {below : List Frame} {meth : Method} {c : Code} {K : Nat} {r : Int} {F9 : zF} {B9 : zB} (X : zX D ca L aS vS A p s m args meth c prog_15_method_41_code 1 (Option.none : Option Jvm.ClassFile.FieldType) "StaveHouseModel")  {F : zF} {B : zB} {H : Heap} {locs : List Loc} {ls : Array Slot} (hf : f_M_head_38 K  F B = some (r, F9, B9)) (hZ : zH D ca ad lnM nM L F B A H) (hS : va_S A s.heap H locs) (hl : lv_has ls 1 [(0, .ref (ad 14 0 0))]) : W p l e ({ frames := 48, cells := 0, slots := 0, locals := 1071 } : Room) s m args below meth c H locs 0 0 (MQ below (Q_M_head D ca ad L r F9 B9 A) args s 0 0 A) (F0 m 38 ls []) := by
  obtain ⟨hx, hb, hr, hml, hown, hts, hlk, hK, hA, hL, hX⟩ := id X
  replace hf : (if 0 ≤ (F 14 0 6) ∧ (F 14 0 6) < 3 then zbind (f_M_number K 1 12 0 (zup3 (zup3 F 14 0 23 1) 14 0 16 ((F 14 0 16) + 1)) B) (fun r21 F21 B21 => zbind (f_M_need K 47 (zup3 F21 13 (F 14 0 6) 4 r21) B21) (fun r23 F23 B23 => if 0 ≤ (F23 14 0 6) ∧ (F23 14 0 6) < 3 then zbind (f_M_number K 2 16 1 F23 B23) (fun r25 F25 B25 => f_M_head_152 K (zup3 F25 13 (F23 14 0 6) 5 r25) B25) else none)) else none) = some (r, F9, B9) := hf
  refine lv_aload_n hx hb d_15_41_38 rfl (lv_at hl 0 rfl) ?_
  refine lv_iconst (v := iI 1) hx hb d_15_41_39 rfl ?_
  refine zput (ci := 14) (C := RX14) (T := TX14) (k := 23) (v := 1) (w := .int (iI 1)) hx hb hts inW_14 tyX14 tyX14_ok nmX14 hown hK hZ hS (by decide) (by decide) rfl (by decide) k_11_21 rfl (fun G h => congrArg (fun q => Value.int (iI q)) h) rfl rfl (zno (by decide)) d_15_41_40 (fun H18 locs18 hZ18 hS18 => ?_)
  refine lv_aload_n hx hb d_15_41_43 rfl (lv_at hl 0 rfl) ?_
  refine lv_dup hx hb d_15_41_44 rfl ?_
  refine zget (ci := 14) (C := RX14) (T := TX14) (v := .int (iI (F 14 0 16))) (k := 16) hx hb hts inW_14 hown hK hZ18 (by decide) (by decide) rfl (by decide) k_11_14 rfl d_15_41_45 ?_
  refine lv_iconst (v := iI 1) hx hb d_15_41_48 rfl ?_
  refine zadd hx hb d_15_41_49 ?_
  refine zput (ci := 14) (C := RX14) (T := TX14) (k := 16) (v := ((F 14 0 16) + 1)) (w := .int (iI ((F 14 0 16) + 1))) hx hb hts inW_14 tyX14 tyX14_ok nmX14 hown hK hZ18 hS18 (by decide) (by decide) rfl (by decide) k_11_14 rfl (fun G h => congrArg (fun q => Value.int (iI q)) h) rfl rfl (zno (by decide)) d_15_41_50 (fun H19 locs19 hZ19 hS19 => ?_)
  refine lv_aload_n hx hb d_15_41_53 rfl (lv_at hl 0 rfl) ?_
  refine zget (ci := 14) (C := RX14) (T := TX14) (v := va_rf (zrf ad 13 (F 14 0 6))) (k := 6) hx hb hts inW_14 hown hK hZ19 (by decide) (by decide) rfl (by decide) k_11_4 rfl d_15_41_54 ?_
  refine lv_aload_n hx hb d_15_41_57 rfl (lv_at hl 0 rfl) ?_
  refine lv_iconst (v := iI 1) hx hb d_15_41_58 rfl ?_
  refine lv_bipush (v := iI 12) hx hb d_15_41_59 (by decide) ?_
  refine lv_iconst (v := iI 0) hx hb d_15_41_61 rfl ?_
  obtain ⟨g20, hf⟩ := gif hf
  refine W.eq (g2 := F0 m 62 ls [.int (iI 0), .int (iI 12), .int (iI 1), .ref (ad 14 0 0), .ref (ad 13 (F 14 0 6) 0)]) (by rw [zrf_pos (ad := ad) (t := 13) g20.1]; try rfl) ?_
  obtain ⟨r21, F21, B21, hc21, hf⟩ := gbind hf
  refine va_calli (va_runV (As := [.int (iI 1), .int (iI 12), .int (iI 0)]) (rest := [.ref (ad 13 (F 14 0 6) 0)]) ⟨hx, hb, hml, hown, hts⟩ (c_M_number (l := l) hc21) (cwV 3 hts (gdV k_14_140 k_14_142 ks_207 k_1_9 k_14_143) rfl rfl rfl (by decide +kernel) ⟨Nat.le_of_ble_eq_true rfl, Nat.le_of_ble_eq_true rfl⟩) (zPV X hZ19 hS19 (ci := 14) (by decide) (by decide) (r := (RX14, TX14, 107)) rfl [.int (iI 1), .int (iI 12), .int (iI 0)]) rfl rfl hl.1 rfl (lv_room (Nat.le_of_ble_eq_true rfl)) d_15_41_62 ⟨Nat.le_of_ble_eq_true rfl, Nat.le_of_ble_eq_true rfl⟩) hS19 (fun q _ h => zAin X hS19 q h) (zAin X hS19) (fun p21 u21 t21 H21 locs21 ht21 hv21 hw21 hB21 hz21 hk21 hS21 => ?_)
  have hZ21 := zBack X ht21 hB21
  subst hw21
  refine zput (ci := 13) (C := RX13) (T := TX13) (k := 4) (v := r21) (w := .int (iI r21)) hx hb hts inW_13 tyX13 tyX13_ok nmX13 hown hK hZ21 hS21 g20.1 g20.2 rfl (by decide) k_9_129 rfl (fun G h => congrArg (fun q => Value.int (iI q)) h) rfl rfl (zno (by decide)) d_15_41_65 (fun H22 locs22 hZ22 hS22 => ?_)
  refine lv_aload_n hx hb d_15_41_68 rfl (lv_at hl 0 rfl) ?_
  refine lv_bipush (v := iI 47) hx hb d_15_41_69 (by decide) ?_
  obtain ⟨r23, F23, B23, hc23, hf⟩ := gbind hf
  refine va_callv (va_runV (As := [.int (iI 47)]) (rest := []) ⟨hx, hb, hml, hown, hts⟩ (c_M_need (l := l) hc23) (cwV 1 hts (gdV k_14_144 k_14_146 ks_208 k_1_9 k_14_147) rfl rfl rfl (by decide +kernel) ⟨Nat.le_of_ble_eq_true rfl, Nat.le_of_ble_eq_true rfl⟩) (zPV X hZ22 hS22 (ci := 14) (by decide) (by decide) (r := (RX14, TX14, 107)) rfl [.int (iI 47)]) rfl rfl hl.1 rfl (lv_room (Nat.le_of_ble_eq_true rfl)) d_15_41_71 ⟨Nat.le_of_ble_eq_true rfl, Nat.le_of_ble_eq_true rfl⟩) hS22 (fun q _ h => zAin X hS22 q h) (zAin X hS22) (fun u23 t23 H23 locs23 ht23 hv23 hw23 hB23 hz23 hk23 hS23 => ?_)
  have hZ23 := zBack X ht23 hB23
  refine lv_aload_n hx hb d_15_41_74 rfl (lv_at hl 0 rfl) ?_
  refine zget (ci := 14) (C := RX14) (T := TX14) (v := va_rf (zrf ad 13 (F23 14 0 6))) (k := 6) hx hb hts inW_14 hown hK hZ23 (by decide) (by decide) rfl (by decide) k_11_4 rfl d_15_41_75 ?_
  refine lv_aload_n hx hb d_15_41_78 rfl (lv_at hl 0 rfl) ?_
  refine lv_iconst (v := iI 2) hx hb d_15_41_79 rfl ?_
  refine lv_bipush (v := iI 16) hx hb d_15_41_80 (by decide) ?_
  refine lv_iconst (v := iI 1) hx hb d_15_41_82 rfl ?_
  obtain ⟨g24, hf⟩ := gif hf
  refine W.eq (g2 := F0 m 83 ls [.int (iI 1), .int (iI 16), .int (iI 2), .ref (ad 14 0 0), .ref (ad 13 (F23 14 0 6) 0)]) (by rw [zrf_pos (ad := ad) (t := 13) g24.1]; try rfl) ?_
  obtain ⟨r25, F25, B25, hc25, hf⟩ := gbind hf
  refine va_calli (va_runV (As := [.int (iI 2), .int (iI 16), .int (iI 1)]) (rest := [.ref (ad 13 (F23 14 0 6) 0)]) ⟨hx, hb, hml, hown, hts⟩ (c_M_number (l := l) hc25) (cwV 3 hts (gdV k_14_140 k_14_142 ks_207 k_1_9 k_14_143) rfl rfl rfl (by decide +kernel) ⟨Nat.le_of_ble_eq_true rfl, Nat.le_of_ble_eq_true rfl⟩) (zPV X hZ23 hS23 (ci := 14) (by decide) (by decide) (r := (RX14, TX14, 107)) rfl [.int (iI 2), .int (iI 16), .int (iI 1)]) rfl rfl hl.1 rfl (lv_room (Nat.le_of_ble_eq_true rfl)) d_15_41_83 ⟨Nat.le_of_ble_eq_true rfl, Nat.le_of_ble_eq_true rfl⟩) hS23 (fun q _ h => zAin X hS23 q h) (zAin X hS23) (fun p25 u25 t25 H25 locs25 ht25 hv25 hw25 hB25 hz25 hk25 hS25 => ?_)
  have hZ25 := zBack X ht25 hB25
  subst hw25
  refine zput (ci := 13) (C := RX13) (T := TX13) (k := 5) (v := r25) (w := .int (iI r25)) hx hb hts inW_13 tyX13 tyX13_ok nmX13 hown hK hZ25 hS25 g24.1 g24.2 rfl (by decide) k_9_130 rfl (fun G h => congrArg (fun q => Value.int (iI q)) h) rfl rfl (zno (by decide)) d_15_41_86 (fun H26 locs26 hZ26 hS26 => ?_)
  refine lv_goto (tgt := 152) hx hb d_15_41_89 (by decide) ?_
  exact b_M_head_152 X hf hZ26 hS26 (lv_sub hl [] rfl)

noncomputable def f_M_head (K : Nat)  (F : zF) (B : zB) : zO := zbind (f_M_isWord K 7038329 F B) (fun r1 F1 B1 => if r32 r1 then (if r1 = 0 then zbind (f_M_isWord K 1953066341 F1 B1) (fun r4 F4 B4 => if r32 r4 then (if r4 = 0 then zbind (f_M_isWord K 499917877359 F4 B4) (fun r7 F7 B7 => if r32 r7 then (if r7 = 0 then zbind (f_M_headLet K F7 B7) (fun r10 F10 B10 => f_M_head_152 K F10 B10) else if r32 (F7 14 0 24) then (if (F7 14 0 24) = 0 then f_M_head_113 K F7 B7 else zbind (f_M_wrong K F7 B7) (fun r13 F13 B13 => f_M_head_113 K F13 B13)) else none) else none) else if r32 (F4 14 0 23) then (if (F4 14 0 23) = 0 then f_M_head_38 K F4 B4 else zbind (f_M_wrong K F4 B4) (fun r16 F16 B16 => f_M_head_38 K F16 B16)) else none) else none) else zbind (f_M_headKey K F1 B1) (fun r17 F17 B17 => f_M_head_152 K F17 B17)) else none)
set_option maxHeartbeats 4000000 in
set_option maxRecDepth 100000 in
theorem c_M_head {l : Launch} {D : va_G} {ca : Nat → ClassId} {ad : Nat → Int → Nat → Nat} {L : List Nat} {aS vS : Nat → Nat} {sz K : Nat}   {F F9 : zF} {B B9 : zB} {r : Int} (hf : f_M_head K  F B = some (r, F9, B9)) : Met l ({ cls := "StaveHouseModel", name := "head", desc := "()V" } : Jvm.MethodName) (Cond.code ({ cls := "StaveHouseModel", name := "head", desc := "()V" } : Jvm.MethodName) prog_15_method_41_code 1 (Option.none : Option Jvm.ClassFile.FieldType) :: wAll) ({ frames := 48, cells := 0, slots := 0, locals := 1071 } : Room) (va_Pc [.ref (ad 14 0 0)] (zPre D ca ad lnM nM L aS vS F B sz)) (Q_M_head D ca ad L r F9 B9 (zA L sz)) 0 0 (zA L sz) := by
  refine zMet (Qc := Q_M_head D ca ad L r F9 B9) (lv := [(0, .ref (ad 14 0 0))]) (by decide) (Nat.le_of_ble_eq_true rfl) rfl (fun A p e s m below meth c ls X hZ hS hl => ?_)
  obtain ⟨hx, hb, hr, hml, hown, hts, hlk, hK, hA, hL, hX⟩ := id X
  replace hf : (zbind (f_M_isWord K 7038329 F B) (fun r1 F1 B1 => if r32 r1 then (if r1 = 0 then zbind (f_M_isWord K 1953066341 F1 B1) (fun r4 F4 B4 => if r32 r4 then (if r4 = 0 then zbind (f_M_isWord K 499917877359 F4 B4) (fun r7 F7 B7 => if r32 r7 then (if r7 = 0 then zbind (f_M_headLet K F7 B7) (fun r10 F10 B10 => f_M_head_152 K F10 B10) else if r32 (F7 14 0 24) then (if (F7 14 0 24) = 0 then f_M_head_113 K F7 B7 else zbind (f_M_wrong K F7 B7) (fun r13 F13 B13 => f_M_head_113 K F13 B13)) else none) else none) else if r32 (F4 14 0 23) then (if (F4 14 0 23) = 0 then f_M_head_38 K F4 B4 else zbind (f_M_wrong K F4 B4) (fun r16 F16 B16 => f_M_head_38 K F16 B16)) else none) else none) else zbind (f_M_headKey K F1 B1) (fun r17 F17 B17 => f_M_head_152 K F17 B17)) else none)) = some (r, F9, B9) := hf
  refine lv_aload_n hx hb d_15_41_0 rfl (lv_at hl 0 rfl) ?_
  refine va_gets hx hb (hX.2.2.2.1 _ (List.mem_of_getElem? (i := 1) rfl)) hS hown (hts _ k_10_207) (fun _ h => h) d_15_41_1 ?_
  refine W.eq (g2 := F0 m 4 ls [.long (lI 7038329), .ref (ad 14 0 0)]) rfl ?_
  obtain ⟨r1, F1, B1, hc1, hf⟩ := gbind hf
  refine va_calli (va_runV (As := [.long (lI 7038329)]) (rest := []) ⟨hx, hb, hml, hown, hts⟩ (c_M_isWord (l := l) hc1) (cwV 1 hts (gdV k_14_112 k_14_114 ks_200 k_1_9 k_14_115) rfl rfl rfl (by decide +kernel) ⟨Nat.le_of_ble_eq_true rfl, Nat.le_of_ble_eq_true rfl⟩) (zPV X hZ hS (ci := 14) (by decide) (by decide) (r := (RX14, TX14, 107)) rfl [.long (lI 7038329)]) rfl rfl hl.1 rfl (lv_room (Nat.le_of_ble_eq_true rfl)) d_15_41_4 ⟨Nat.le_of_ble_eq_true rfl, Nat.le_of_ble_eq_true rfl⟩) hS (fun q _ h => zAin X hS q h) (zAin X hS) (fun p1 u1 t1 H1 locs1 ht1 hv1 hw1 hB1 hz1 hk1 hS1 => ?_)
  have hZ1 := zBack X ht1 hB1
  subst hw1
  obtain ⟨g2, hf⟩ := gif hf
  refine z0eq (tgt := 17) hx hb g2 d_15_41_7 (by decide) (fun h3 => ?_) (fun h3 => ?_)
  · replace hf := gpos hf h3
    refine lv_aload_n hx hb d_15_41_17 rfl (lv_at hl 0 rfl) ?_
    refine va_gets hx hb (hX.2.2.2.1 _ (List.mem_of_getElem? (i := 4) rfl)) hS1 hown (hts _ k_10_213) (fun _ h => h) d_15_41_18 ?_
    refine W.eq (g2 := F0 m 21 ls [.long (lI 1953066341), .ref (ad 14 0 0)]) rfl ?_
    obtain ⟨r4, F4, B4, hc4, hf⟩ := gbind hf
    refine va_calli (va_runV (As := [.long (lI 1953066341)]) (rest := []) ⟨hx, hb, hml, hown, hts⟩ (c_M_isWord (l := l) hc4) (cwV 1 hts (gdV k_14_112 k_14_114 ks_200 k_1_9 k_14_115) rfl rfl rfl (by decide +kernel) ⟨Nat.le_of_ble_eq_true rfl, Nat.le_of_ble_eq_true rfl⟩) (zPV X hZ1 hS1 (ci := 14) (by decide) (by decide) (r := (RX14, TX14, 107)) rfl [.long (lI 1953066341)]) rfl rfl hl.1 rfl (lv_room (Nat.le_of_ble_eq_true rfl)) d_15_41_21 ⟨Nat.le_of_ble_eq_true rfl, Nat.le_of_ble_eq_true rfl⟩) hS1 (fun q _ h => zAin X hS1 q h) (zAin X hS1) (fun p4 u4 t4 H4 locs4 ht4 hv4 hw4 hB4 hz4 hk4 hS4 => ?_)
    have hZ4 := zBack X ht4 hB4
    subst hw4
    obtain ⟨g5, hf⟩ := gif hf
    refine z0eq (tgt := 92) hx hb g5 d_15_41_24 (by decide) (fun h6 => ?_) (fun h6 => ?_)
    · replace hf := gpos hf h6
      refine lv_aload_n hx hb d_15_41_92 rfl (lv_at hl 0 rfl) ?_
      refine va_gets hx hb (hX.2.2.2.1 _ (List.mem_of_getElem? (i := 5) rfl)) hS4 hown (hts _ k_10_215) (fun _ h => h) d_15_41_93 ?_
      refine W.eq (g2 := F0 m 96 ls [.long (lI 499917877359), .ref (ad 14 0 0)]) rfl ?_
      obtain ⟨r7, F7, B7, hc7, hf⟩ := gbind hf
      refine va_calli (va_runV (As := [.long (lI 499917877359)]) (rest := []) ⟨hx, hb, hml, hown, hts⟩ (c_M_isWord (l := l) hc7) (cwV 1 hts (gdV k_14_112 k_14_114 ks_200 k_1_9 k_14_115) rfl rfl rfl (by decide +kernel) ⟨Nat.le_of_ble_eq_true rfl, Nat.le_of_ble_eq_true rfl⟩) (zPV X hZ4 hS4 (ci := 14) (by decide) (by decide) (r := (RX14, TX14, 107)) rfl [.long (lI 499917877359)]) rfl rfl hl.1 rfl (lv_room (Nat.le_of_ble_eq_true rfl)) d_15_41_96 ⟨Nat.le_of_ble_eq_true rfl, Nat.le_of_ble_eq_true rfl⟩) hS4 (fun q _ h => zAin X hS4 q h) (zAin X hS4) (fun p7 u7 t7 H7 locs7 ht7 hv7 hw7 hB7 hz7 hk7 hS7 => ?_)
      have hZ7 := zBack X ht7 hB7
      subst hw7
      obtain ⟨g8, hf⟩ := gif hf
      refine z0eq (tgt := 148) hx hb g8 d_15_41_99 (by decide) (fun h9 => ?_) (fun h9 => ?_)
      · replace hf := gpos hf h9
        refine lv_aload_n hx hb d_15_41_148 rfl (lv_at hl 0 rfl) ?_
        obtain ⟨r10, F10, B10, hc10, hf⟩ := gbind hf
        refine va_callv (va_runV (As := []) (rest := []) ⟨hx, hb, hml, hown, hts⟩ (c_M_headLet (l := l) hc10) (cwV 0 hts (gdV k_14_148 k_14_150 ks_209 k_1_9 k_14_151) rfl rfl rfl (by decide +kernel) ⟨Nat.le_of_ble_eq_true rfl, Nat.le_of_ble_eq_true rfl⟩) (zPV X hZ7 hS7 (ci := 14) (by decide) (by decide) (r := (RX14, TX14, 107)) rfl []) rfl rfl hl.1 rfl (lv_room (Nat.le_of_ble_eq_true rfl)) d_15_41_149 ⟨Nat.le_of_ble_eq_true rfl, Nat.le_of_ble_eq_true rfl⟩) hS7 (fun q _ h => zAin X hS7 q h) (zAin X hS7) (fun u10 t10 H10 locs10 ht10 hv10 hw10 hB10 hz10 hk10 hS10 => ?_)
        have hZ10 := zBack X ht10 hB10
        exact b_M_head_152 X hf hZ10 hS10 (lv_sub hl [] rfl)
      · replace hf := gneg hf h9
        refine lv_aload_n hx hb d_15_41_102 rfl (lv_at hl 0 rfl) ?_
        refine zget (ci := 14) (C := RX14) (T := TX14) (v := .int (iI (F7 14 0 24))) (k := 24) hx hb hts inW_14 hown hK hZ7 (by decide) (by decide) rfl (by decide) k_11_22 rfl d_15_41_103 ?_
        obtain ⟨g11, hf⟩ := gif hf
        refine z0eq (tgt := 113) hx hb g11 d_15_41_106 (by decide) (fun h12 => ?_) (fun h12 => ?_)
        · replace hf := gpos hf h12
          exact b_M_head_113 X hf hZ7 hS7 (lv_sub hl [0] rfl)
        · replace hf := gneg hf h12
          refine lv_aload_n hx hb d_15_41_109 rfl (lv_at hl 0 rfl) ?_
          obtain ⟨r13, F13, B13, hc13, hf⟩ := gbind hf
          refine va_callv (va_runV (As := []) (rest := []) ⟨hx, hb, hml, hown, hts⟩ (c_M_wrong (l := l) hc13) (cwV 0 hts (gdV k_14_124 k_14_126 ks_203 k_1_9 k_14_127) rfl rfl rfl (by decide +kernel) ⟨Nat.le_of_ble_eq_true rfl, Nat.le_of_ble_eq_true rfl⟩) (zPV X hZ7 hS7 (ci := 14) (by decide) (by decide) (r := (RX14, TX14, 107)) rfl []) rfl rfl hl.1 rfl (lv_room (Nat.le_of_ble_eq_true rfl)) d_15_41_110 ⟨Nat.le_of_ble_eq_true rfl, Nat.le_of_ble_eq_true rfl⟩) hS7 (fun q _ h => zAin X hS7 q h) (zAin X hS7) (fun u13 t13 H13 locs13 ht13 hv13 hw13 hB13 hz13 hk13 hS13 => ?_)
          have hZ13 := zBack X ht13 hB13
          exact b_M_head_113 X hf hZ13 hS13 (lv_sub hl [0] rfl)
    · replace hf := gneg hf h6
      refine lv_aload_n hx hb d_15_41_27 rfl (lv_at hl 0 rfl) ?_
      refine zget (ci := 14) (C := RX14) (T := TX14) (v := .int (iI (F4 14 0 23))) (k := 23) hx hb hts inW_14 hown hK hZ4 (by decide) (by decide) rfl (by decide) k_11_21 rfl d_15_41_28 ?_
      obtain ⟨g14, hf⟩ := gif hf
      refine z0eq (tgt := 38) hx hb g14 d_15_41_31 (by decide) (fun h15 => ?_) (fun h15 => ?_)
      · replace hf := gpos hf h15
        exact b_M_head_38 X hf hZ4 hS4 (lv_sub hl [0] rfl)
      · replace hf := gneg hf h15
        refine lv_aload_n hx hb d_15_41_34 rfl (lv_at hl 0 rfl) ?_
        obtain ⟨r16, F16, B16, hc16, hf⟩ := gbind hf
        refine va_callv (va_runV (As := []) (rest := []) ⟨hx, hb, hml, hown, hts⟩ (c_M_wrong (l := l) hc16) (cwV 0 hts (gdV k_14_124 k_14_126 ks_203 k_1_9 k_14_127) rfl rfl rfl (by decide +kernel) ⟨Nat.le_of_ble_eq_true rfl, Nat.le_of_ble_eq_true rfl⟩) (zPV X hZ4 hS4 (ci := 14) (by decide) (by decide) (r := (RX14, TX14, 107)) rfl []) rfl rfl hl.1 rfl (lv_room (Nat.le_of_ble_eq_true rfl)) d_15_41_35 ⟨Nat.le_of_ble_eq_true rfl, Nat.le_of_ble_eq_true rfl⟩) hS4 (fun q _ h => zAin X hS4 q h) (zAin X hS4) (fun u16 t16 H16 locs16 ht16 hv16 hw16 hB16 hz16 hk16 hS16 => ?_)
        have hZ16 := zBack X ht16 hB16
        exact b_M_head_38 X hf hZ16 hS16 (lv_sub hl [0] rfl)
  · replace hf := gneg hf h3
    refine lv_aload_n hx hb d_15_41_10 rfl (lv_at hl 0 rfl) ?_
    obtain ⟨r17, F17, B17, hc17, hf⟩ := gbind hf
    refine va_callv (va_runV (As := []) (rest := []) ⟨hx, hb, hml, hown, hts⟩ (c_M_headKey (l := l) hc17) (cwV 0 hts (gdV k_14_120 k_14_122 ks_202 k_1_9 k_14_123) rfl rfl rfl (by decide +kernel) ⟨Nat.le_of_ble_eq_true rfl, Nat.le_of_ble_eq_true rfl⟩) (zPV X hZ1 hS1 (ci := 14) (by decide) (by decide) (r := (RX14, TX14, 107)) rfl []) rfl rfl hl.1 rfl (lv_room (Nat.le_of_ble_eq_true rfl)) d_15_41_11 ⟨Nat.le_of_ble_eq_true rfl, Nat.le_of_ble_eq_true rfl⟩) hS1 (fun q _ h => zAin X hS1 q h) (zAin X hS1) (fun u17 t17 H17 locs17 ht17 hv17 hw17 hB17 hz17 hk17 hS17 => ?_)
    have hZ17 := zBack X ht17 hB17
    refine lv_goto (tgt := 152) hx hb d_15_41_14 (by decide) ?_
    exact b_M_head_152 X hf hZ17 hS17 (lv_sub hl [] rfl)

noncomputable abbrev Q_M_text (D : va_G) (ca : Nat → ClassId) (ad : Nat → Int → Nat → Nat) (L : List Nat) (r : Int) (F : zF) (B : zB) (A : Nat → Prop) : Array Value → State → Outcome → State → Prop := va_Qv (S := Unit) (fun _ => True) (fun _ => zPo D ca ad lnM nM L F B A) A
noncomputable def f_M_text_211 (K : Nat)  (F : zF) (B : zB) : zO := some (0, F, B)
set_option maxHeartbeats 4000000 in
set_option maxRecDepth 100000 in
theorem b_M_text_211 {D : va_G} {ca : Nat → ClassId} {ad : Nat → Int → Nat → Nat} {L : List Nat} {aS vS : Nat → Nat} {A : Nat → Prop} {p : Program} {l : Launch} {e : Env} {s : State} {m : MethodId} {args : Array Value} {below : List Frame} {meth : Method} {c : Code} {K : Nat} {r : Int} {F9 : zF} {B9 : zB} (X : zX D ca L aS vS A p s m args meth c prog_15_method_40_code 2 (Option.none : Option Jvm.ClassFile.FieldType) "StaveHouseModel")  {F : zF} {B : zB} {H : Heap} {locs : List Loc} {ls : Array Slot} (hf : f_M_text_211 K  F B = some (r, F9, B9)) (hZ : zH D ca ad lnM nM L F B A H) (hS : va_S A s.heap H locs) (hl : lv_has ls 2 []) : W p l e ({ frames := 49, cells := 0, slots := 0, locals := 1091 } : Room) s m args below meth c H locs 0 0 (MQ below (Q_M_text D ca ad L r F9 B9 A) args s 0 0 A) (F0 m 211 ls []) := by
  obtain ⟨hx, hb, hr, hml, hown, hts, hlk, hK, hA, hL, hX⟩ := id X
  replace hf : (some (0, F, B)) = some (r, F9, B9) := hf
  cases hf
  exact W.vret hx hb hr (fun t ht hW => ⟨⟨(), rfl, trivial, by rw [ht]; exact hZ, va_K.moved hW.alike hK⟩, hS.F ht⟩) hS.2.2 d_15_40_211 hlk

noncomputable def f_M_text_207 (rec140 : Int → zF → zB → zO) (K : Nat) (s0 : Int) (F : zF) (B : zB) : zO := rec140 s0 F B
set_option maxHeartbeats 4000000 in
set_option maxRecDepth 100000 in
theorem b_M_text_207 {D : va_G} {ca : Nat → ClassId} {ad : Nat → Int → Nat → Nat} {L : List Nat} {aS vS : Nat → Nat} {A : Nat → Prop} {p : Program} {l : Launch} {e : Env} {s : State} {m : MethodId} {args : Array Value} {below : List Frame} {meth : Method} {c : Code} {K : Nat} {r : Int} {F9 : zF} {B9 : zB} (X : zX D ca L aS vS A p s m args meth c prog_15_method_40_code 2 (Option.none : Option Jvm.ClassFile.FieldType) "StaveHouseModel") {rec140 : Int → zF → zB → zO} (hrec140 : ∀ {l1 : Int} {F : zF} {B : zB} {H : Heap} {locs : List Loc} {ls : Array Slot}, rec140 l1 F B = some (r, F9, B9) → zH D ca ad lnM nM L F B A H → va_S A s.heap H locs → lv_has ls 2 [(1, .int (iI l1)), (0, .ref (ad 14 0 0))] → W p l e ({ frames := 49, cells := 0, slots := 0, locals := 1091 } : Room) s m args below meth c H locs 0 0 (MQ below (Q_M_text D ca ad L r F9 B9 A) args s 0 0 A) (F0 m 140 ls [])) {s0 : Int} {F : zF} {B : zB} {H : Heap} {locs : List Loc} {ls : Array Slot} (hf : f_M_text_207 rec140 K s0 F B = some (r, F9, B9)) (hZ : zH D ca ad lnM nM L F B A H) (hS : va_S A s.heap H locs) (hl : lv_has ls 2 [(0, .ref (ad 14 0 0))]) : W p l e ({ frames := 49, cells := 0, slots := 0, locals := 1091 } : Room) s m args below meth c H locs 0 0 (MQ below (Q_M_text D ca ad L r F9 B9 A) args s 0 0 A) (F0 m 207 ls [.int (iI s0)]) := by
  obtain ⟨hx, hb, hr, hml, hown, hts, hlk, hK, hA, hL, hX⟩ := id X
  replace hf : (rec140 s0 F B) = some (r, F9, B9) := hf
  refine lv_istore_n (lv' := [(1, .int (iI s0)), (0, .ref (ad 14 0 0))]) hx hb d_15_40_207 rfl hl (by decide) rfl (fun ls hl => ?_)
  refine lv_goto (tgt := 140) hx hb d_15_40_208 (by decide) ?_
  exact hrec140 hf hZ hS (lv_sub hl [0, 1] rfl)

noncomputable def f_M_text_206 (rec140 : Int → zF → zB → zO) (K : Nat)  (F : zF) (B : zB) : zO := f_M_text_207 rec140 K 0 F B
set_option maxHeartbeats 4000000 in
set_option maxRecDepth 100000 in
theorem b_M_text_206 {D : va_G} {ca : Nat → ClassId} {ad : Nat → Int → Nat → Nat} {L : List Nat} {aS vS : Nat → Nat} {A : Nat → Prop} {p : Program} {l : Launch} {e : Env} {s : State} {m : MethodId} {args : Array Value} {below : List Frame} {meth : Method} {c : Code} {K : Nat} {r : Int} {F9 : zF} {B9 : zB} (X : zX D ca L aS vS A p s m args meth c prog_15_method_40_code 2 (Option.none : Option Jvm.ClassFile.FieldType) "StaveHouseModel") {rec140 : Int → zF → zB → zO} (hrec140 : ∀ {l1 : Int} {F : zF} {B : zB} {H : Heap} {locs : List Loc} {ls : Array Slot}, rec140 l1 F B = some (r, F9, B9) → zH D ca ad lnM nM L F B A H → va_S A s.heap H locs → lv_has ls 2 [(1, .int (iI l1)), (0, .ref (ad 14 0 0))] → W p l e ({ frames := 49, cells := 0, slots := 0, locals := 1091 } : Room) s m args below meth c H locs 0 0 (MQ below (Q_M_text D ca ad L r F9 B9 A) args s 0 0 A) (F0 m 140 ls []))  {F : zF} {B : zB} {H : Heap} {locs : List Loc} {ls : Array Slot} (hf : f_M_text_206 rec140 K  F B = some (r, F9, B9)) (hZ : zH D ca ad lnM nM L F B A H) (hS : va_S A s.heap H locs) (hl : lv_has ls 2 [(0, .ref (ad 14 0 0))]) : W p l e ({ frames := 49, cells := 0, slots := 0, locals := 1091 } : Room) s m args below meth c H locs 0 0 (MQ below (Q_M_text D ca ad L r F9 B9 A) args s 0 0 A) (F0 m 206 ls []) := by
  obtain ⟨hx, hb, hr, hml, hown, hts, hlk, hK, hA, hL, hX⟩ := id X
  replace hf : (f_M_text_207 rec140 K 0 F B) = some (r, F9, B9) := hf
  refine lv_iconst (v := iI 0) hx hb d_15_40_206 rfl ?_
  exact b_M_text_207 X hrec140 hf hZ hS (lv_sub hl [0] rfl)

noncomputable def f_M_text_183 (rec140 : Int → zF → zB → zO) (K : Nat)  (F : zF) (B : zB) : zO := zbind (f_M_good K F B) (fun r44 F44 B44 => if r32 r44 then (if r44 = 0 then f_M_text_206 rec140 K F44 B44 else if 0 ≤ (F44 14 0 16) ∧ (F44 14 0 16) < 3001 then if r32 (B44 14 0 7 (F44 14 0 16)) then (if (B44 14 0 7 (F44 14 0 16)) = 0 then f_M_text_206 rec140 K F44 B44 else f_M_text_207 rec140 K 1 F44 B44) else none else none) else none)
set_option maxHeartbeats 4000000 in
set_option maxRecDepth 100000 in
theorem b_M_text_183 {D : va_G} {ca : Nat → ClassId} {ad : Nat → Int → Nat → Nat} {L : List Nat} {aS vS : Nat → Nat} {A : Nat → Prop} {p : Program} {l : Launch} {e : Env} {s : State} {m : MethodId} {args : Array Value} {below : List Frame} {meth : Method} {c : Code} {K : Nat} {r : Int} {F9 : zF} {B9 : zB} (X : zX D ca L aS vS A p s m args meth c prog_15_method_40_code 2 (Option.none : Option Jvm.ClassFile.FieldType) "StaveHouseModel") {rec140 : Int → zF → zB → zO} (hrec140 : ∀ {l1 : Int} {F : zF} {B : zB} {H : Heap} {locs : List Loc} {ls : Array Slot}, rec140 l1 F B = some (r, F9, B9) → zH D ca ad lnM nM L F B A H → va_S A s.heap H locs → lv_has ls 2 [(1, .int (iI l1)), (0, .ref (ad 14 0 0))] → W p l e ({ frames := 49, cells := 0, slots := 0, locals := 1091 } : Room) s m args below meth c H locs 0 0 (MQ below (Q_M_text D ca ad L r F9 B9 A) args s 0 0 A) (F0 m 140 ls []))  {F : zF} {B : zB} {H : Heap} {locs : List Loc} {ls : Array Slot} (hf : f_M_text_183 rec140 K  F B = some (r, F9, B9)) (hZ : zH D ca ad lnM nM L F B A H) (hS : va_S A s.heap H locs) (hl : lv_has ls 2 [(0, .ref (ad 14 0 0))]) : W p l e ({ frames := 49, cells := 0, slots := 0, locals := 1091 } : Room) s m args below meth c H locs 0 0 (MQ below (Q_M_text D ca ad L r F9 B9 A) args s 0 0 A) (F0 m 183 ls []) := by
  obtain ⟨hx, hb, hr, hml, hown, hts, hlk, hK, hA, hL, hX⟩ := id X
  replace hf : (zbind (f_M_good K F B) (fun r44 F44 B44 => if r32 r44 then (if r44 = 0 then f_M_text_206 rec140 K F44 B44 else if 0 ≤ (F44 14 0 16) ∧ (F44 14 0 16) < 3001 then if r32 (B44 14 0 7 (F44 14 0 16)) then (if (B44 14 0 7 (F44 14 0 16)) = 0 then f_M_text_206 rec140 K F44 B44 else f_M_text_207 rec140 K 1 F44 B44) else none else none) else none)) = some (r, F9, B9) := hf
  refine lv_aload_n hx hb d_15_40_183 rfl (lv_at hl 0 rfl) ?_
  obtain ⟨r44, F44, B44, hc44, hf⟩ := gbind hf
  refine va_calli (va_runV (As := []) (rest := []) ⟨hx, hb, hml, hown, hts⟩ (c_M_good (l := l) hc44) (cwV 0 hts (gdV k_13_15 k_13_17 ks_152 k_1_9 k_13_18) rfl rfl rfl (by decide +kernel) ⟨Nat.le_of_ble_eq_true rfl, Nat.le_of_ble_eq_true rfl⟩) (zPV X hZ hS (ci := 14) (by decide) (by decide) (r := (RX14, TX14, 107)) rfl []) rfl rfl hl.1 rfl (lv_room (Nat.le_of_ble_eq_true rfl)) d_15_40_184 ⟨Nat.le_of_ble_eq_true rfl, Nat.le_of_ble_eq_true rfl⟩) hS (fun q _ h => zAin X hS q h) (zAin X hS) (fun p44 u44 t44 H44 locs44 ht44 hv44 hw44 hB44 hz44 hk44 hS44 => ?_)
  have hZ44 := zBack X ht44 hB44
  subst hw44
  obtain ⟨g45, hf⟩ := gif hf
  refine z0eq (tgt := 206) hx hb g45 d_15_40_187 (by decide) (fun h46 => ?_) (fun h46 => ?_)
  · replace hf := gpos hf h46
    exact b_M_text_206 X hrec140 hf hZ44 hS44 (lv_sub hl [0] rfl)
  · replace hf := gneg hf h46
    refine lv_aload_n hx hb d_15_40_190 rfl (lv_at hl 0 rfl) ?_
    refine zget (ci := 14) (C := RX14) (T := TX14) (v := .ref (ad 14 0 (7 + 1))) (k := 7) hx hb hts inW_14 hown hK hZ44 (by decide) (by decide) rfl (by decide) k_11_5 rfl d_15_40_191 ?_
    refine lv_aload_n hx hb d_15_40_194 rfl (lv_at hl 0 rfl) ?_
    refine zget (ci := 14) (C := RX14) (T := TX14) (v := .int (iI (F44 14 0 16))) (k := 16) hx hb hts inW_14 hown hK hZ44 (by decide) (by decide) rfl (by decide) k_11_14 rfl d_15_40_195 ?_
    obtain ⟨g47, hf⟩ := gif hf
    refine zald (ci := 14) (k := 7) hx hb hK rfl hZ44 (by decide) (by decide) rfl (Nat.le_of_ble_eq_true rfl) g47.1 g47.2 d_15_40_198 ?_
    obtain ⟨g48, hf⟩ := gif hf
    refine z0eq (tgt := 206) hx hb g48 d_15_40_199 (by decide) (fun h49 => ?_) (fun h49 => ?_)
    · replace hf := gpos hf h49
      exact b_M_text_206 X hrec140 hf hZ44 hS44 (lv_sub hl [0] rfl)
    · replace hf := gneg hf h49
      refine lv_iconst (v := iI 1) hx hb d_15_40_202 rfl ?_
      refine lv_goto (tgt := 207) hx hb d_15_40_203 (by decide) ?_
      exact b_M_text_207 X hrec140 hf hZ44 hS44 (lv_sub hl [0] rfl)

noncomputable def f_M_text_179 (rec140 : Int → zF → zB → zO) (K : Nat)  (F : zF) (B : zB) : zO := zbind (f_M_wrong K F B) (fun r50 F50 B50 => f_M_text_183 rec140 K F50 B50)
set_option maxHeartbeats 4000000 in
set_option maxRecDepth 100000 in
theorem b_M_text_179 {D : va_G} {ca : Nat → ClassId} {ad : Nat → Int → Nat → Nat} {L : List Nat} {aS vS : Nat → Nat} {A : Nat → Prop} {p : Program} {l : Launch} {e : Env} {s : State} {m : MethodId} {args : Array Value} {below : List Frame} {meth : Method} {c : Code} {K : Nat} {r : Int} {F9 : zF} {B9 : zB} (X : zX D ca L aS vS A p s m args meth c prog_15_method_40_code 2 (Option.none : Option Jvm.ClassFile.FieldType) "StaveHouseModel") {rec140 : Int → zF → zB → zO} (hrec140 : ∀ {l1 : Int} {F : zF} {B : zB} {H : Heap} {locs : List Loc} {ls : Array Slot}, rec140 l1 F B = some (r, F9, B9) → zH D ca ad lnM nM L F B A H → va_S A s.heap H locs → lv_has ls 2 [(1, .int (iI l1)), (0, .ref (ad 14 0 0))] → W p l e ({ frames := 49, cells := 0, slots := 0, locals := 1091 } : Room) s m args below meth c H locs 0 0 (MQ below (Q_M_text D ca ad L r F9 B9 A) args s 0 0 A) (F0 m 140 ls []))  {F : zF} {B : zB} {H : Heap} {locs : List Loc} {ls : Array Slot} (hf : f_M_text_179 rec140 K  F B = some (r, F9, B9)) (hZ : zH D ca ad lnM nM L F B A H) (hS : va_S A s.heap H locs) (hl : lv_has ls 2 [(0, .ref (ad 14 0 0))]) : W p l e ({ frames := 49, cells := 0, slots := 0, locals := 1091 } : Room) s m args below meth c H locs 0 0 (MQ below (Q_M_text D ca ad L r F9 B9 A) args s 0 0 A) (F0 m 179 ls []) := by
  obtain ⟨hx, hb, hr, hml, hown, hts, hlk, hK, hA, hL, hX⟩ := id X
  replace hf : (zbind (f_M_wrong K F B) (fun r50 F50 B50 => f_M_text_183 rec140 K F50 B50)) = some (r, F9, B9) := hf
  refine lv_aload_n hx hb d_15_40_179 rfl (lv_at hl 0 rfl) ?_
  obtain ⟨r50, F50, B50, hc50, hf⟩ := gbind hf
  refine va_callv (va_runV (As := []) (rest := []) ⟨hx, hb, hml, hown, hts⟩ (c_M_wrong (l := l) hc50) (cwV 0 hts (gdV k_14_124 k_14_126 ks_203 k_1_9 k_14_127) rfl rfl rfl (by decide +kernel) ⟨Nat.le_of_ble_eq_true rfl, Nat.le_of_ble_eq_true rfl⟩) (zPV X hZ hS (ci := 14) (by decide) (by decide) (r := (RX14, TX14, 107)) rfl []) rfl rfl hl.1 rfl (lv_room (Nat.le_of_ble_eq_true rfl)) d_15_40_180 ⟨Nat.le_of_ble_eq_true rfl, Nat.le_of_ble_eq_true rfl⟩) hS (fun q _ h => zAin X hS q h) (zAin X hS) (fun u50 t50 H50 locs50 ht50 hv50 hw50 hB50 hz50 hk50 hS50 => ?_)
  have hZ50 := zBack X ht50 hB50
  exact b_M_text_183 X hrec140 hf hZ50 hS50 (lv_sub hl [0] rfl)

noncomputable def f_M_text_140 (K : Nat) : Nat → Int → zF → zB → zO
  | 0, _, _, _ => none
  | n + 1, l1, F, B => zbind (f_M_good K F B) (fun r31 F31 B31 => if r32 r31 then (if r31 = 0 then f_M_text_211 K F31 B31 else if r32 l1 then (if l1 = 0 then f_M_text_211 K F31 B31 else zbind (f_M_isWord K 508675318629 F31 B31) (fun r37 F37 B37 => if r32 r37 then (if r37 = 0 then f_M_text_179 (f_M_text_140 K n) K F37 B37 else if 0 ≤ (F37 14 0 6) ∧ (F37 14 0 6) < 3 then if r32 (F37 13 (F37 14 0 6) 1) then (if 4 ≤ (F37 13 (F37 14 0 6) 1) then f_M_text_179 (f_M_text_140 K n) K F37 B37 else zbind (f_M_voiceText K F37 B37) (fun r43 F43 B43 => f_M_text_183 (f_M_text_140 K n) K F43 B43)) else none else none) else none)) else none) else none)
set_option maxHeartbeats 4000000 in
set_option maxRecDepth 100000 in
theorem b_M_text_140 {D : va_G} {ca : Nat → ClassId} {ad : Nat → Int → Nat → Nat} {L : List Nat} {aS vS : Nat → Nat} {A : Nat → Prop} {p : Program} {l : Launch} {e : Env} {s : State} {m : MethodId} {args : Array Value} {below : List Frame} {meth : Method} {c : Code} {K : Nat} {r : Int} {F9 : zF} {B9 : zB} (X : zX D ca L aS vS A p s m args meth c prog_15_method_40_code 2 (Option.none : Option Jvm.ClassFile.FieldType) "StaveHouseModel") : ∀ {n : Nat} {l1 : Int} {F : zF} {B : zB} {H : Heap} {locs : List Loc} {ls : Array Slot}, f_M_text_140 K n l1 F B = some (r, F9, B9) → zH D ca ad lnM nM L F B A H → va_S A s.heap H locs → lv_has ls 2 [(1, .int (iI l1)), (0, .ref (ad 14 0 0))] → W p l e ({ frames := 49, cells := 0, slots := 0, locals := 1091 } : Room) s m args below meth c H locs 0 0 (MQ below (Q_M_text D ca ad L r F9 B9 A) args s 0 0 A) (F0 m 140 ls []) := by
  obtain ⟨hx, hb, hr, hml, hown, hts, hlk, hK, hA, hL, hX⟩ := id X
  intro n
  induction n with
  | zero =>
    intros
    rename_i hf _ _ _
    cases hf
  | succ n ih =>
    intro l1 F B H locs ls hf hZ hS hl
    replace hf : (zbind (f_M_good K F B) (fun r31 F31 B31 => if r32 r31 then (if r31 = 0 then f_M_text_211 K F31 B31 else if r32 l1 then (if l1 = 0 then f_M_text_211 K F31 B31 else zbind (f_M_isWord K 508675318629 F31 B31) (fun r37 F37 B37 => if r32 r37 then (if r37 = 0 then f_M_text_179 (f_M_text_140 K n) K F37 B37 else if 0 ≤ (F37 14 0 6) ∧ (F37 14 0 6) < 3 then if r32 (F37 13 (F37 14 0 6) 1) then (if 4 ≤ (F37 13 (F37 14 0 6) 1) then f_M_text_179 (f_M_text_140 K n) K F37 B37 else zbind (f_M_voiceText K F37 B37) (fun r43 F43 B43 => f_M_text_183 (f_M_text_140 K n) K F43 B43)) else none else none) else none)) else none) else none)) = some (r, F9, B9) := hf
    refine lv_aload_n hx hb d_15_40_140 rfl (lv_at hl 1 rfl) ?_
    obtain ⟨r31, F31, B31, hc31, hf⟩ := gbind hf
    refine va_calli (va_runV (As := []) (rest := []) ⟨hx, hb, hml, hown, hts⟩ (c_M_good (l := l) hc31) (cwV 0 hts (gdV k_13_15 k_13_17 ks_152 k_1_9 k_13_18) rfl rfl rfl (by decide +kernel) ⟨Nat.le_of_ble_eq_true rfl, Nat.le_of_ble_eq_true rfl⟩) (zPV X hZ hS (ci := 14) (by decide) (by decide) (r := (RX14, TX14, 107)) rfl []) rfl rfl hl.1 rfl (lv_room (Nat.le_of_ble_eq_true rfl)) d_15_40_141 ⟨Nat.le_of_ble_eq_true rfl, Nat.le_of_ble_eq_true rfl⟩) hS (fun q _ h => zAin X hS q h) (zAin X hS) (fun p31 u31 t31 H31 locs31 ht31 hv31 hw31 hB31 hz31 hk31 hS31 => ?_)
    have hZ31 := zBack X ht31 hB31
    subst hw31
    obtain ⟨g33, hf⟩ := gif hf
    refine z0eq (tgt := 211) hx hb g33 d_15_40_144 (by decide) (fun h34 => ?_) (fun h34 => ?_)
    · replace hf := gpos hf h34
      exact b_M_text_211 X hf hZ31 hS31 (lv_sub hl [] rfl)
    · replace hf := gneg hf h34
      refine lv_iload_n hx hb d_15_40_147 rfl (lv_at hl 0 rfl) ?_
      obtain ⟨g35, hf⟩ := gif hf
      refine z0eq (tgt := 211) hx hb g35 d_15_40_148 (by decide) (fun h36 => ?_) (fun h36 => ?_)
      · replace hf := gpos hf h36
        exact b_M_text_211 X hf hZ31 hS31 (lv_sub hl [] rfl)
      · replace hf := gneg hf h36
        refine lv_aload_n hx hb d_15_40_151 rfl (lv_at hl 1 rfl) ?_
        refine va_gets hx hb (hX.2.2.2.1 _ (List.mem_of_getElem? (i := 7) rfl)) hS31 hown (hts _ k_10_219) (fun _ h => h) d_15_40_152 ?_
        refine W.eq (g2 := F0 m 155 ls [.long (lI 508675318629), .ref (ad 14 0 0)]) rfl ?_
        obtain ⟨r37, F37, B37, hc37, hf⟩ := gbind hf
        refine va_calli (va_runV (As := [.long (lI 508675318629)]) (rest := []) ⟨hx, hb, hml, hown, hts⟩ (c_M_isWord (l := l) hc37) (cwV 1 hts (gdV k_14_112 k_14_114 ks_200 k_1_9 k_14_115) rfl rfl rfl (by decide +kernel) ⟨Nat.le_of_ble_eq_true rfl, Nat.le_of_ble_eq_true rfl⟩) (zPV X hZ31 hS31 (ci := 14) (by decide) (by decide) (r := (RX14, TX14, 107)) rfl [.long (lI 508675318629)]) rfl rfl hl.1 rfl (lv_room (Nat.le_of_ble_eq_true rfl)) d_15_40_155 ⟨Nat.le_of_ble_eq_true rfl, Nat.le_of_ble_eq_true rfl⟩) hS31 (fun q _ h => zAin X hS31 q h) (zAin X hS31) (fun p37 u37 t37 H37 locs37 ht37 hv37 hw37 hB37 hz37 hk37 hS37 => ?_)
        have hZ37 := zBack X ht37 hB37
        subst hw37
        obtain ⟨g38, hf⟩ := gif hf
        refine z0eq (tgt := 179) hx hb g38 d_15_40_158 (by decide) (fun h39 => ?_) (fun h39 => ?_)
        · replace hf := gpos hf h39
          exact b_M_text_179 X ih hf hZ37 hS37 (lv_sub hl [1] rfl)
        · replace hf := gneg hf h39
          refine lv_aload_n hx hb d_15_40_161 rfl (lv_at hl 1 rfl) ?_
          refine zget (ci := 14) (C := RX14) (T := TX14) (v := va_rf (zrf ad 13 (F37 14 0 6))) (k := 6) hx hb hts inW_14 hown hK hZ37 (by decide) (by decide) rfl (by decide) k_11_4 rfl d_15_40_162 ?_
          obtain ⟨g40, hf⟩ := gif hf
          refine zunrf g40.1 ?_
          refine zget (ci := 13) (C := RX13) (T := TX13) (v := .int (iI (F37 13 (F37 14 0 6) 1))) (k := 1) hx hb hts inW_13 hown hK hZ37 g40.1 g40.2 rfl (by decide) k_9_126 rfl d_15_40_165 ?_
          refine lv_iconst (v := iI 4) hx hb d_15_40_168 rfl ?_
          obtain ⟨g41, hf⟩ := gif hf
          refine zge (tgt := 179) hx hb g41 (by decide) d_15_40_169 (by decide) (fun h42 => ?_) (fun h42 => ?_)
          · replace hf := gpos hf h42
            exact b_M_text_179 X ih hf hZ37 hS37 (lv_sub hl [1] rfl)
          · replace hf := gneg hf h42
            refine lv_aload_n hx hb d_15_40_172 rfl (lv_at hl 1 rfl) ?_
            obtain ⟨r43, F43, B43, hc43, hf⟩ := gbind hf
            refine va_callv (va_runV (As := []) (rest := []) ⟨hx, hb, hml, hown, hts⟩ (c_M_voiceText (l := l) hc43) (cwV 0 hts (gdV k_14_199 k_14_201 ks_221 k_1_9 k_14_202) rfl rfl rfl (by decide +kernel) ⟨Nat.le_of_ble_eq_true rfl, Nat.le_of_ble_eq_true rfl⟩) (zPV X hZ37 hS37 (ci := 14) (by decide) (by decide) (r := (RX14, TX14, 107)) rfl []) rfl rfl hl.1 rfl (lv_room (Nat.le_of_ble_eq_true rfl)) d_15_40_173 ⟨Nat.le_of_ble_eq_true rfl, Nat.le_of_ble_eq_true rfl⟩) hS37 (fun q _ h => zAin X hS37 q h) (zAin X hS37) (fun u43 t43 H43 locs43 ht43 hv43 hw43 hB43 hz43 hk43 hS43 => ?_)
            have hZ43 := zBack X ht43 hB43
            refine lv_goto (tgt := 183) hx hb d_15_40_176 (by decide) ?_
            exact b_M_text_183 X ih hf hZ43 hS43 (lv_sub hl [1] rfl)

noncomputable def f_M_text_138 (K : Nat)  (F : zF) (B : zB) : zO := f_M_text_140 K K 1 F B
set_option maxHeartbeats 4000000 in
set_option maxRecDepth 100000 in
theorem b_M_text_138 {D : va_G} {ca : Nat → ClassId} {ad : Nat → Int → Nat → Nat} {L : List Nat} {aS vS : Nat → Nat} {A : Nat → Prop} {p : Program} {l : Launch} {e : Env} {s : State} {m : MethodId} {args : Array Value} {below : List Frame} {meth : Method} {c : Code} {K : Nat} {r : Int} {F9 : zF} {B9 : zB} (X : zX D ca L aS vS A p s m args meth c prog_15_method_40_code 2 (Option.none : Option Jvm.ClassFile.FieldType) "StaveHouseModel")  {F : zF} {B : zB} {H : Heap} {locs : List Loc} {ls : Array Slot} (hf : f_M_text_138 K  F B = some (r, F9, B9)) (hZ : zH D ca ad lnM nM L F B A H) (hS : va_S A s.heap H locs) (hl : lv_has ls 2 [(0, .ref (ad 14 0 0))]) : W p l e ({ frames := 49, cells := 0, slots := 0, locals := 1091 } : Room) s m args below meth c H locs 0 0 (MQ below (Q_M_text D ca ad L r F9 B9 A) args s 0 0 A) (F0 m 138 ls []) := by
  obtain ⟨hx, hb, hr, hml, hown, hts, hlk, hK, hA, hL, hX⟩ := id X
  replace hf : (f_M_text_140 K K 1 F B) = some (r, F9, B9) := hf
  refine lv_iconst (v := iI 1) hx hb d_15_40_138 rfl ?_
  refine lv_istore_n (lv' := [(1, .int (iI 1)), (0, .ref (ad 14 0 0))]) hx hb d_15_40_139 rfl hl (by decide) rfl (fun ls hl => ?_)
  exact b_M_text_140 X hf hZ hS (lv_sub hl [0, 1] rfl)

noncomputable def f_M_text_131 (rec84 : zF → zB → zO) (K : Nat)  (F : zF) (B : zB) : zO := zbind (f_M_head K F B) (fun r30 F30 B30 => rec84 F30 B30)
set_option maxHeartbeats 4000000 in
set_option maxRecDepth 100000 in
theorem b_M_text_131 {D : va_G} {ca : Nat → ClassId} {ad : Nat → Int → Nat → Nat} {L : List Nat} {aS vS : Nat → Nat} {A : Nat → Prop} {p : Program} {l : Launch} {e : Env} {s : State} {m : MethodId} {args : Array Value} {below : List Frame} {meth : Method} {c : Code} {K : Nat} {r : Int} {F9 : zF} {B9 : zB} (X : zX D ca L aS vS A p s m args meth c prog_15_method_40_code 2 (Option.none : Option Jvm.ClassFile.FieldType) "StaveHouseModel") {rec84 : zF → zB → zO} (hrec84 : ∀  {F : zF} {B : zB} {H : Heap} {locs : List Loc} {ls : Array Slot}, rec84  F B = some (r, F9, B9) → zH D ca ad lnM nM L F B A H → va_S A s.heap H locs → lv_has ls 2 [(0, .ref (ad 14 0 0))] → W p l e ({ frames := 49, cells := 0, slots := 0, locals := 1091 } : Room) s m args below meth c H locs 0 0 (MQ below (Q_M_text D ca ad L r F9 B9 A) args s 0 0 A) (F0 m 84 ls []))  {F : zF} {B : zB} {H : Heap} {locs : List Loc} {ls : Array Slot} (hf : f_M_text_131 rec84 K  F B = some (r, F9, B9)) (hZ : zH D ca ad lnM nM L F B A H) (hS : va_S A s.heap H locs) (hl : lv_has ls 2 [(0, .ref (ad 14 0 0))]) : W p l e ({ frames := 49, cells := 0, slots := 0, locals := 1091 } : Room) s m args below meth c H locs 0 0 (MQ below (Q_M_text D ca ad L r F9 B9 A) args s 0 0 A) (F0 m 131 ls []) := by
  obtain ⟨hx, hb, hr, hml, hown, hts, hlk, hK, hA, hL, hX⟩ := id X
  replace hf : (zbind (f_M_head K F B) (fun r30 F30 B30 => rec84 F30 B30)) = some (r, F9, B9) := hf
  refine lv_aload_n hx hb d_15_40_131 rfl (lv_at hl 0 rfl) ?_
  obtain ⟨r30, F30, B30, hc30, hf⟩ := gbind hf
  refine va_callv (va_runV (As := []) (rest := []) ⟨hx, hb, hml, hown, hts⟩ (c_M_head (l := l) hc30) (cwV 0 hts (gdV k_14_116 k_14_118 ks_201 k_1_9 k_14_119) rfl rfl rfl (by decide +kernel) ⟨Nat.le_of_ble_eq_true rfl, Nat.le_of_ble_eq_true rfl⟩) (zPV X hZ hS (ci := 14) (by decide) (by decide) (r := (RX14, TX14, 107)) rfl []) rfl rfl hl.1 rfl (lv_room (Nat.le_of_ble_eq_true rfl)) d_15_40_132 ⟨Nat.le_of_ble_eq_true rfl, Nat.le_of_ble_eq_true rfl⟩) hS (fun q _ h => zAin X hS q h) (zAin X hS) (fun u30 t30 H30 locs30 ht30 hv30 hw30 hB30 hz30 hk30 hS30 => ?_)
  have hZ30 := zBack X ht30 hB30
  refine lv_goto (tgt := 84) hx hb d_15_40_135 (by decide) ?_
  exact hrec84 hf hZ30 hS30 (lv_sub hl [0] rfl)

noncomputable def f_M_text_84 (K : Nat) : Nat → zF → zB → zO
  | 0, _, _ => none
  | n + 1, F, B => zbind (f_M_good K F B) (fun r15 F15 B15 => if r32 r15 then (if r15 = 0 then f_M_text_138 K F15 B15 else zbind (f_M_isWord K 7038329 F15 B15) (fun r18 F18 B18 => if r32 r18 then (if r18 = 0 then zbind (f_M_isWord K 1953066341 F18 B18) (fun r21 F21 B21 => if r32 r21 then (if r21 = 0 then zbind (f_M_isWord K 499917877359 F21 B21) (fun r24 F24 B24 => if r32 r24 then (if r24 = 0 then zbind (f_M_isWord K 7103860 F24 B24) (fun r27 F27 B27 => if r32 r27 then (if r27 = 0 then f_M_text_138 K F27 B27 else f_M_text_131 (f_M_text_84 K n) K F27 B27) else none) else f_M_text_131 (f_M_text_84 K n) K F24 B24) else none) else f_M_text_131 (f_M_text_84 K n) K F21 B21) else none) else f_M_text_131 (f_M_text_84 K n) K F18 B18) else none)) else none)
set_option maxHeartbeats 4000000 in
set_option maxRecDepth 100000 in
theorem b_M_text_84 {D : va_G} {ca : Nat → ClassId} {ad : Nat → Int → Nat → Nat} {L : List Nat} {aS vS : Nat → Nat} {A : Nat → Prop} {p : Program} {l : Launch} {e : Env} {s : State} {m : MethodId} {args : Array Value} {below : List Frame} {meth : Method} {c : Code} {K : Nat} {r : Int} {F9 : zF} {B9 : zB} (X : zX D ca L aS vS A p s m args meth c prog_15_method_40_code 2 (Option.none : Option Jvm.ClassFile.FieldType) "StaveHouseModel") : ∀ {n : Nat}  {F : zF} {B : zB} {H : Heap} {locs : List Loc} {ls : Array Slot}, f_M_text_84 K n  F B = some (r, F9, B9) → zH D ca ad lnM nM L F B A H → va_S A s.heap H locs → lv_has ls 2 [(0, .ref (ad 14 0 0))] → W p l e ({ frames := 49, cells := 0, slots := 0, locals := 1091 } : Room) s m args below meth c H locs 0 0 (MQ below (Q_M_text D ca ad L r F9 B9 A) args s 0 0 A) (F0 m 84 ls []) := by
  obtain ⟨hx, hb, hr, hml, hown, hts, hlk, hK, hA, hL, hX⟩ := id X
  intro n
  induction n with
  | zero =>
    intros
    rename_i hf _ _ _
    cases hf
  | succ n ih =>
    intro F B H locs ls hf hZ hS hl
    replace hf : (zbind (f_M_good K F B) (fun r15 F15 B15 => if r32 r15 then (if r15 = 0 then f_M_text_138 K F15 B15 else zbind (f_M_isWord K 7038329 F15 B15) (fun r18 F18 B18 => if r32 r18 then (if r18 = 0 then zbind (f_M_isWord K 1953066341 F18 B18) (fun r21 F21 B21 => if r32 r21 then (if r21 = 0 then zbind (f_M_isWord K 499917877359 F21 B21) (fun r24 F24 B24 => if r32 r24 then (if r24 = 0 then zbind (f_M_isWord K 7103860 F24 B24) (fun r27 F27 B27 => if r32 r27 then (if r27 = 0 then f_M_text_138 K F27 B27 else f_M_text_131 (f_M_text_84 K n) K F27 B27) else none) else f_M_text_131 (f_M_text_84 K n) K F24 B24) else none) else f_M_text_131 (f_M_text_84 K n) K F21 B21) else none) else f_M_text_131 (f_M_text_84 K n) K F18 B18) else none)) else none)) = some (r, F9, B9) := hf
    refine lv_aload_n hx hb d_15_40_84 rfl (lv_at hl 0 rfl) ?_
    obtain ⟨r15, F15, B15, hc15, hf⟩ := gbind hf
    refine va_calli (va_runV (As := []) (rest := []) ⟨hx, hb, hml, hown, hts⟩ (c_M_good (l := l) hc15) (cwV 0 hts (gdV k_13_15 k_13_17 ks_152 k_1_9 k_13_18) rfl rfl rfl (by decide +kernel) ⟨Nat.le_of_ble_eq_true rfl, Nat.le_of_ble_eq_true rfl⟩) (zPV X hZ hS (ci := 14) (by decide) (by decide) (r := (RX14, TX14, 107)) rfl []) rfl rfl hl.1 rfl (lv_room (Nat.le_of_ble_eq_true rfl)) d_15_40_85 ⟨Nat.le_of_ble_eq_true rfl, Nat.le_of_ble_eq_true rfl⟩) hS (fun q _ h => zAin X hS q h) (zAin X hS) (fun p15 u15 t15 H15 locs15 ht15 hv15 hw15 hB15 hz15 hk15 hS15 => ?_)
    have hZ15 := zBack X ht15 hB15
    subst hw15
    obtain ⟨g16, hf⟩ := gif hf
    refine z0eq (tgt := 138) hx hb g16 d_15_40_88 (by decide) (fun h17 => ?_) (fun h17 => ?_)
    · replace hf := gpos hf h17
      exact b_M_text_138 X hf hZ15 hS15 (lv_sub hl [0] rfl)
    · replace hf := gneg hf h17
      refine lv_aload_n hx hb d_15_40_91 rfl (lv_at hl 0 rfl) ?_
      refine va_gets hx hb (hX.2.2.2.1 _ (List.mem_of_getElem? (i := 1) rfl)) hS15 hown (hts _ k_10_207) (fun _ h => h) d_15_40_92 ?_
      refine W.eq (g2 := F0 m 95 ls [.long (lI 7038329), .ref (ad 14 0 0)]) rfl ?_
      obtain ⟨r18, F18, B18, hc18, hf⟩ := gbind hf
      refine va_calli (va_runV (As := [.long (lI 7038329)]) (rest := []) ⟨hx, hb, hml, hown, hts⟩ (c_M_isWord (l := l) hc18) (cwV 1 hts (gdV k_14_112 k_14_114 ks_200 k_1_9 k_14_115) rfl rfl rfl (by decide +kernel) ⟨Nat.le_of_ble_eq_true rfl, Nat.le_of_ble_eq_true rfl⟩) (zPV X hZ15 hS15 (ci := 14) (by decide) (by decide) (r := (RX14, TX14, 107)) rfl [.long (lI 7038329)]) rfl rfl hl.1 rfl (lv_room (Nat.le_of_ble_eq_true rfl)) d_15_40_95 ⟨Nat.le_of_ble_eq_true rfl, Nat.le_of_ble_eq_true rfl⟩) hS15 (fun q _ h => zAin X hS15 q h) (zAin X hS15) (fun p18 u18 t18 H18 locs18 ht18 hv18 hw18 hB18 hz18 hk18 hS18 => ?_)
      have hZ18 := zBack X ht18 hB18
      subst hw18
      obtain ⟨g19, hf⟩ := gif hf
      refine z0ne (tgt := 131) hx hb g19 d_15_40_98 (by decide) (fun h20 => ?_) (fun h20 => ?_)
      · replace hf := gneg hf h20
        exact b_M_text_131 X ih hf hZ18 hS18 (lv_sub hl [0] rfl)
      · replace hf := gpos hf h20
        refine lv_aload_n hx hb d_15_40_101 rfl (lv_at hl 0 rfl) ?_
        refine va_gets hx hb (hX.2.2.2.1 _ (List.mem_of_getElem? (i := 4) rfl)) hS18 hown (hts _ k_10_213) (fun _ h => h) d_15_40_102 ?_
        refine W.eq (g2 := F0 m 105 ls [.long (lI 1953066341), .ref (ad 14 0 0)]) rfl ?_
        obtain ⟨r21, F21, B21, hc21, hf⟩ := gbind hf
        refine va_calli (va_runV (As := [.long (lI 1953066341)]) (rest := []) ⟨hx, hb, hml, hown, hts⟩ (c_M_isWord (l := l) hc21) (cwV 1 hts (gdV k_14_112 k_14_114 ks_200 k_1_9 k_14_115) rfl rfl rfl (by decide +kernel) ⟨Nat.le_of_ble_eq_true rfl, Nat.le_of_ble_eq_true rfl⟩) (zPV X hZ18 hS18 (ci := 14) (by decide) (by decide) (r := (RX14, TX14, 107)) rfl [.long (lI 1953066341)]) rfl rfl hl.1 rfl (lv_room (Nat.le_of_ble_eq_true rfl)) d_15_40_105 ⟨Nat.le_of_ble_eq_true rfl, Nat.le_of_ble_eq_true rfl⟩) hS18 (fun q _ h => zAin X hS18 q h) (zAin X hS18) (fun p21 u21 t21 H21 locs21 ht21 hv21 hw21 hB21 hz21 hk21 hS21 => ?_)
        have hZ21 := zBack X ht21 hB21
        subst hw21
        obtain ⟨g22, hf⟩ := gif hf
        refine z0ne (tgt := 131) hx hb g22 d_15_40_108 (by decide) (fun h23 => ?_) (fun h23 => ?_)
        · replace hf := gneg hf h23
          exact b_M_text_131 X ih hf hZ21 hS21 (lv_sub hl [0] rfl)
        · replace hf := gpos hf h23
          refine lv_aload_n hx hb d_15_40_111 rfl (lv_at hl 0 rfl) ?_
          refine va_gets hx hb (hX.2.2.2.1 _ (List.mem_of_getElem? (i := 5) rfl)) hS21 hown (hts _ k_10_215) (fun _ h => h) d_15_40_112 ?_
          refine W.eq (g2 := F0 m 115 ls [.long (lI 499917877359), .ref (ad 14 0 0)]) rfl ?_
          obtain ⟨r24, F24, B24, hc24, hf⟩ := gbind hf
          refine va_calli (va_runV (As := [.long (lI 499917877359)]) (rest := []) ⟨hx, hb, hml, hown, hts⟩ (c_M_isWord (l := l) hc24) (cwV 1 hts (gdV k_14_112 k_14_114 ks_200 k_1_9 k_14_115) rfl rfl rfl (by decide +kernel) ⟨Nat.le_of_ble_eq_true rfl, Nat.le_of_ble_eq_true rfl⟩) (zPV X hZ21 hS21 (ci := 14) (by decide) (by decide) (r := (RX14, TX14, 107)) rfl [.long (lI 499917877359)]) rfl rfl hl.1 rfl (lv_room (Nat.le_of_ble_eq_true rfl)) d_15_40_115 ⟨Nat.le_of_ble_eq_true rfl, Nat.le_of_ble_eq_true rfl⟩) hS21 (fun q _ h => zAin X hS21 q h) (zAin X hS21) (fun p24 u24 t24 H24 locs24 ht24 hv24 hw24 hB24 hz24 hk24 hS24 => ?_)
          have hZ24 := zBack X ht24 hB24
          subst hw24
          obtain ⟨g25, hf⟩ := gif hf
          refine z0ne (tgt := 131) hx hb g25 d_15_40_118 (by decide) (fun h26 => ?_) (fun h26 => ?_)
          · replace hf := gneg hf h26
            exact b_M_text_131 X ih hf hZ24 hS24 (lv_sub hl [0] rfl)
          · replace hf := gpos hf h26
            refine lv_aload_n hx hb d_15_40_121 rfl (lv_at hl 0 rfl) ?_
            refine va_gets hx hb (hX.2.2.2.1 _ (List.mem_of_getElem? (i := 6) rfl)) hS24 hown (hts _ k_10_217) (fun _ h => h) d_15_40_122 ?_
            refine W.eq (g2 := F0 m 125 ls [.long (lI 7103860), .ref (ad 14 0 0)]) rfl ?_
            obtain ⟨r27, F27, B27, hc27, hf⟩ := gbind hf
            refine va_calli (va_runV (As := [.long (lI 7103860)]) (rest := []) ⟨hx, hb, hml, hown, hts⟩ (c_M_isWord (l := l) hc27) (cwV 1 hts (gdV k_14_112 k_14_114 ks_200 k_1_9 k_14_115) rfl rfl rfl (by decide +kernel) ⟨Nat.le_of_ble_eq_true rfl, Nat.le_of_ble_eq_true rfl⟩) (zPV X hZ24 hS24 (ci := 14) (by decide) (by decide) (r := (RX14, TX14, 107)) rfl [.long (lI 7103860)]) rfl rfl hl.1 rfl (lv_room (Nat.le_of_ble_eq_true rfl)) d_15_40_125 ⟨Nat.le_of_ble_eq_true rfl, Nat.le_of_ble_eq_true rfl⟩) hS24 (fun q _ h => zAin X hS24 q h) (zAin X hS24) (fun p27 u27 t27 H27 locs27 ht27 hv27 hw27 hB27 hz27 hk27 hS27 => ?_)
            have hZ27 := zBack X ht27 hB27
            subst hw27
            obtain ⟨g28, hf⟩ := gif hf
            refine z0eq (tgt := 138) hx hb g28 d_15_40_128 (by decide) (fun h29 => ?_) (fun h29 => ?_)
            · replace hf := gpos hf h29
              exact b_M_text_138 X hf hZ27 hS27 (lv_sub hl [0] rfl)
            · replace hf := gneg hf h29
              exact b_M_text_131 X ih hf hZ27 hS27 (lv_sub hl [0] rfl)

noncomputable def f_M_text (K : Nat)  (F : zF) (B : zB) : zO := if 0 ≤ (F 14 0 6) ∧ (F 14 0 6) < 3 then f_M_text_84 K K (zup3 (zup3 (zup3 (zup3 (zup3 (zup3 (zup3 (zup3 (zup3 (zup3 (zup3 (zup3 (zup3 F 14 0 16 0) 14 0 17 0) 14 0 19 0) 14 0 27 0) 14 0 22 0) 14 0 23 0) 14 0 24 0) 13 (F 14 0 6) 1 0) 13 (F 14 0 6) 2 0) 13 (F 14 0 6) 3 0) 13 (F 14 0 6) 4 4) 13 (F 14 0 6) 5 4) 13 (F 14 0 6) 6 120) B else none
set_option maxHeartbeats 4000000 in
set_option maxRecDepth 100000 in
theorem c_M_text {l : Launch} {D : va_G} {ca : Nat → ClassId} {ad : Nat → Int → Nat → Nat} {L : List Nat} {aS vS : Nat → Nat} {sz K : Nat}   {F F9 : zF} {B B9 : zB} {r : Int} (hf : f_M_text K  F B = some (r, F9, B9)) : Met l ({ cls := "StaveHouseModel", name := "text", desc := "()V" } : Jvm.MethodName) (Cond.code ({ cls := "StaveHouseModel", name := "text", desc := "()V" } : Jvm.MethodName) prog_15_method_40_code 2 (Option.none : Option Jvm.ClassFile.FieldType) :: wAll) ({ frames := 49, cells := 0, slots := 0, locals := 1091 } : Room) (va_Pc [.ref (ad 14 0 0)] (zPre D ca ad lnM nM L aS vS F B sz)) (Q_M_text D ca ad L r F9 B9 (zA L sz)) 0 0 (zA L sz) := by
  refine zMet (Qc := Q_M_text D ca ad L r F9 B9) (lv := [(0, .ref (ad 14 0 0))]) (by decide) (Nat.le_of_ble_eq_true rfl) rfl (fun A p e s m below meth c ls X hZ hS hl => ?_)
  obtain ⟨hx, hb, hr, hml, hown, hts, hlk, hK, hA, hL, hX⟩ := id X
  replace hf : (if 0 ≤ (F 14 0 6) ∧ (F 14 0 6) < 3 then f_M_text_84 K K (zup3 (zup3 (zup3 (zup3 (zup3 (zup3 (zup3 (zup3 (zup3 (zup3 (zup3 (zup3 (zup3 F 14 0 16 0) 14 0 17 0) 14 0 19 0) 14 0 27 0) 14 0 22 0) 14 0 23 0) 14 0 24 0) 13 (F 14 0 6) 1 0) 13 (F 14 0 6) 2 0) 13 (F 14 0 6) 3 0) 13 (F 14 0 6) 4 4) 13 (F 14 0 6) 5 4) 13 (F 14 0 6) 6 120) B else none) = some (r, F9, B9) := hf
  refine lv_aload_n hx hb d_15_40_0 rfl (lv_at hl 0 rfl) ?_
  refine lv_iconst (v := iI 0) hx hb d_15_40_1 rfl ?_
  refine zput (ci := 14) (C := RX14) (T := TX14) (k := 16) (v := 0) (w := .int (iI 0)) hx hb hts inW_14 tyX14 tyX14_ok nmX14 hown hK hZ hS (by decide) (by decide) rfl (by decide) k_11_14 rfl (fun G h => congrArg (fun q => Value.int (iI q)) h) rfl rfl (zno (by decide)) d_15_40_2 (fun H1 locs1 hZ1 hS1 => ?_)
  refine lv_aload_n hx hb d_15_40_5 rfl (lv_at hl 0 rfl) ?_
  refine lv_iconst (v := iI 0) hx hb d_15_40_6 rfl ?_
  refine zput (ci := 14) (C := RX14) (T := TX14) (k := 17) (v := 0) (w := .int (iI 0)) hx hb hts inW_14 tyX14 tyX14_ok nmX14 hown hK hZ1 hS1 (by decide) (by decide) rfl (by decide) k_11_15 rfl (fun G h => congrArg (fun q => Value.int (iI q)) h) rfl rfl (zno (by decide)) d_15_40_7 (fun H2 locs2 hZ2 hS2 => ?_)
  refine lv_aload_n hx hb d_15_40_10 rfl (lv_at hl 0 rfl) ?_
  refine lv_iconst (v := iI 0) hx hb d_15_40_11 rfl ?_
  refine zput (ci := 14) (C := RX14) (T := TX14) (k := 19) (v := 0) (w := .int (iI 0)) hx hb hts inW_14 tyX14 tyX14_ok nmX14 hown hK hZ2 hS2 (by decide) (by decide) rfl (by decide) k_11_17 rfl (fun G h => congrArg (fun q => Value.int (iI q)) h) rfl rfl (zno (by decide)) d_15_40_12 (fun H3 locs3 hZ3 hS3 => ?_)
  refine lv_aload_n hx hb d_15_40_15 rfl (lv_at hl 0 rfl) ?_
  refine lv_iconst (v := iI 0) hx hb d_15_40_16 rfl ?_
  refine zput (ci := 14) (C := RX14) (T := TX14) (k := 27) (v := 0) (w := .int (iI 0)) hx hb hts inW_14 tyX14 tyX14_ok nmX14 hown hK hZ3 hS3 (by decide) (by decide) rfl (by decide) k_11_25 rfl (fun G h => congrArg (fun q => Value.int (iI q)) h) rfl rfl (zno (by decide)) d_15_40_17 (fun H4 locs4 hZ4 hS4 => ?_)
  refine lv_aload_n hx hb d_15_40_20 rfl (lv_at hl 0 rfl) ?_
  refine lv_iconst (v := iI 0) hx hb d_15_40_21 rfl ?_
  refine zput (ci := 14) (C := RX14) (T := TX14) (k := 22) (v := 0) (w := .int (iI 0)) hx hb hts inW_14 tyX14 tyX14_ok nmX14 hown hK hZ4 hS4 (by decide) (by decide) rfl (by decide) k_11_20 rfl (fun G h => congrArg (fun q => Value.int (iI q)) h) rfl rfl (zno (by decide)) d_15_40_22 (fun H5 locs5 hZ5 hS5 => ?_)
  refine lv_aload_n hx hb d_15_40_25 rfl (lv_at hl 0 rfl) ?_
  refine lv_iconst (v := iI 0) hx hb d_15_40_26 rfl ?_
  refine zput (ci := 14) (C := RX14) (T := TX14) (k := 23) (v := 0) (w := .int (iI 0)) hx hb hts inW_14 tyX14 tyX14_ok nmX14 hown hK hZ5 hS5 (by decide) (by decide) rfl (by decide) k_11_21 rfl (fun G h => congrArg (fun q => Value.int (iI q)) h) rfl rfl (zno (by decide)) d_15_40_27 (fun H6 locs6 hZ6 hS6 => ?_)
  refine lv_aload_n hx hb d_15_40_30 rfl (lv_at hl 0 rfl) ?_
  refine lv_iconst (v := iI 0) hx hb d_15_40_31 rfl ?_
  refine zput (ci := 14) (C := RX14) (T := TX14) (k := 24) (v := 0) (w := .int (iI 0)) hx hb hts inW_14 tyX14 tyX14_ok nmX14 hown hK hZ6 hS6 (by decide) (by decide) rfl (by decide) k_11_22 rfl (fun G h => congrArg (fun q => Value.int (iI q)) h) rfl rfl (zno (by decide)) d_15_40_32 (fun H7 locs7 hZ7 hS7 => ?_)
  refine lv_aload_n hx hb d_15_40_35 rfl (lv_at hl 0 rfl) ?_
  refine zget (ci := 14) (C := RX14) (T := TX14) (v := va_rf (zrf ad 13 (F 14 0 6))) (k := 6) hx hb hts inW_14 hown hK hZ7 (by decide) (by decide) rfl (by decide) k_11_4 rfl d_15_40_36 ?_
  refine lv_iconst (v := iI 0) hx hb d_15_40_39 rfl ?_
  obtain ⟨g8, hf⟩ := gif hf
  refine W.eq (g2 := F0 m 40 ls [.int (iI 0), .ref (ad 13 (F 14 0 6) 0)]) (by rw [zrf_pos (ad := ad) (t := 13) g8.1]; try rfl) ?_
  refine zput (ci := 13) (C := RX13) (T := TX13) (k := 1) (v := 0) (w := .int (iI 0)) hx hb hts inW_13 tyX13 tyX13_ok nmX13 hown hK hZ7 hS7 g8.1 g8.2 rfl (by decide) k_9_126 rfl (fun G h => congrArg (fun q => Value.int (iI q)) h) rfl rfl (zno (by decide)) d_15_40_40 (fun H9 locs9 hZ9 hS9 => ?_)
  refine lv_aload_n hx hb d_15_40_43 rfl (lv_at hl 0 rfl) ?_
  refine zget (ci := 14) (C := RX14) (T := TX14) (v := va_rf (zrf ad 13 (F 14 0 6))) (k := 6) hx hb hts inW_14 hown hK hZ9 (by decide) (by decide) rfl (by decide) k_11_4 (congrArg (fun q : Int => va_rf (zrf ad 13 q)) (show (zup3 (zup3 (zup3 (zup3 (zup3 (zup3 (zup3 (zup3 F 14 0 16 0) 14 0 17 0) 14 0 19 0) 14 0 27 0) 14 0 22 0) 14 0 23 0) 14 0 24 0) 13 (F 14 0 6) 1 0) 14 0 6 = F 14 0 6 by simp [zup3])) d_15_40_44 ?_
  refine lv_iconst (v := iI 0) hx hb d_15_40_47 rfl ?_
  refine W.eq (g2 := F0 m 48 ls [.int (iI 0), .ref (ad 13 (F 14 0 6) 0)]) (by rw [zrf_pos (ad := ad) (t := 13) g8.1]; try rfl) ?_
  refine zput (ci := 13) (C := RX13) (T := TX13) (k := 2) (v := 0) (w := .int (iI 0)) hx hb hts inW_13 tyX13 tyX13_ok nmX13 hown hK hZ9 hS9 g8.1 g8.2 rfl (by decide) k_9_127 rfl (fun G h => congrArg (fun q => Value.int (iI q)) h) rfl rfl (zno (by decide)) d_15_40_48 (fun H10 locs10 hZ10 hS10 => ?_)
  refine lv_aload_n hx hb d_15_40_51 rfl (lv_at hl 0 rfl) ?_
  refine zget (ci := 14) (C := RX14) (T := TX14) (v := va_rf (zrf ad 13 (F 14 0 6))) (k := 6) hx hb hts inW_14 hown hK hZ10 (by decide) (by decide) rfl (by decide) k_11_4 (congrArg (fun q : Int => va_rf (zrf ad 13 q)) (show (zup3 (zup3 (zup3 (zup3 (zup3 (zup3 (zup3 (zup3 (zup3 F 14 0 16 0) 14 0 17 0) 14 0 19 0) 14 0 27 0) 14 0 22 0) 14 0 23 0) 14 0 24 0) 13 (F 14 0 6) 1 0) 13 (F 14 0 6) 2 0) 14 0 6 = F 14 0 6 by simp [zup3])) d_15_40_52 ?_
  refine lv_iconst (v := iI 0) hx hb d_15_40_55 rfl ?_
  refine W.eq (g2 := F0 m 56 ls [.int (iI 0), .ref (ad 13 (F 14 0 6) 0)]) (by rw [zrf_pos (ad := ad) (t := 13) g8.1]; try rfl) ?_
  refine zput (ci := 13) (C := RX13) (T := TX13) (k := 3) (v := 0) (w := .int (iI 0)) hx hb hts inW_13 tyX13 tyX13_ok nmX13 hown hK hZ10 hS10 g8.1 g8.2 rfl (by decide) k_9_128 rfl (fun G h => congrArg (fun q => Value.int (iI q)) h) rfl rfl (zno (by decide)) d_15_40_56 (fun H11 locs11 hZ11 hS11 => ?_)
  refine lv_aload_n hx hb d_15_40_59 rfl (lv_at hl 0 rfl) ?_
  refine zget (ci := 14) (C := RX14) (T := TX14) (v := va_rf (zrf ad 13 (F 14 0 6))) (k := 6) hx hb hts inW_14 hown hK hZ11 (by decide) (by decide) rfl (by decide) k_11_4 (congrArg (fun q : Int => va_rf (zrf ad 13 q)) (show (zup3 (zup3 (zup3 (zup3 (zup3 (zup3 (zup3 (zup3 (zup3 (zup3 F 14 0 16 0) 14 0 17 0) 14 0 19 0) 14 0 27 0) 14 0 22 0) 14 0 23 0) 14 0 24 0) 13 (F 14 0 6) 1 0) 13 (F 14 0 6) 2 0) 13 (F 14 0 6) 3 0) 14 0 6 = F 14 0 6 by simp [zup3])) d_15_40_60 ?_
  refine lv_iconst (v := iI 4) hx hb d_15_40_63 rfl ?_
  refine W.eq (g2 := F0 m 64 ls [.int (iI 4), .ref (ad 13 (F 14 0 6) 0)]) (by rw [zrf_pos (ad := ad) (t := 13) g8.1]; try rfl) ?_
  refine zput (ci := 13) (C := RX13) (T := TX13) (k := 4) (v := 4) (w := .int (iI 4)) hx hb hts inW_13 tyX13 tyX13_ok nmX13 hown hK hZ11 hS11 g8.1 g8.2 rfl (by decide) k_9_129 rfl (fun G h => congrArg (fun q => Value.int (iI q)) h) rfl rfl (zno (by decide)) d_15_40_64 (fun H12 locs12 hZ12 hS12 => ?_)
  refine lv_aload_n hx hb d_15_40_67 rfl (lv_at hl 0 rfl) ?_
  refine zget (ci := 14) (C := RX14) (T := TX14) (v := va_rf (zrf ad 13 (F 14 0 6))) (k := 6) hx hb hts inW_14 hown hK hZ12 (by decide) (by decide) rfl (by decide) k_11_4 (congrArg (fun q : Int => va_rf (zrf ad 13 q)) (show (zup3 (zup3 (zup3 (zup3 (zup3 (zup3 (zup3 (zup3 (zup3 (zup3 (zup3 F 14 0 16 0) 14 0 17 0) 14 0 19 0) 14 0 27 0) 14 0 22 0) 14 0 23 0) 14 0 24 0) 13 (F 14 0 6) 1 0) 13 (F 14 0 6) 2 0) 13 (F 14 0 6) 3 0) 13 (F 14 0 6) 4 4) 14 0 6 = F 14 0 6 by simp [zup3])) d_15_40_68 ?_
  refine lv_iconst (v := iI 4) hx hb d_15_40_71 rfl ?_
  refine W.eq (g2 := F0 m 72 ls [.int (iI 4), .ref (ad 13 (F 14 0 6) 0)]) (by rw [zrf_pos (ad := ad) (t := 13) g8.1]; try rfl) ?_
  refine zput (ci := 13) (C := RX13) (T := TX13) (k := 5) (v := 4) (w := .int (iI 4)) hx hb hts inW_13 tyX13 tyX13_ok nmX13 hown hK hZ12 hS12 g8.1 g8.2 rfl (by decide) k_9_130 rfl (fun G h => congrArg (fun q => Value.int (iI q)) h) rfl rfl (zno (by decide)) d_15_40_72 (fun H13 locs13 hZ13 hS13 => ?_)
  refine lv_aload_n hx hb d_15_40_75 rfl (lv_at hl 0 rfl) ?_
  refine zget (ci := 14) (C := RX14) (T := TX14) (v := va_rf (zrf ad 13 (F 14 0 6))) (k := 6) hx hb hts inW_14 hown hK hZ13 (by decide) (by decide) rfl (by decide) k_11_4 (congrArg (fun q : Int => va_rf (zrf ad 13 q)) (show (zup3 (zup3 (zup3 (zup3 (zup3 (zup3 (zup3 (zup3 (zup3 (zup3 (zup3 (zup3 F 14 0 16 0) 14 0 17 0) 14 0 19 0) 14 0 27 0) 14 0 22 0) 14 0 23 0) 14 0 24 0) 13 (F 14 0 6) 1 0) 13 (F 14 0 6) 2 0) 13 (F 14 0 6) 3 0) 13 (F 14 0 6) 4 4) 13 (F 14 0 6) 5 4) 14 0 6 = F 14 0 6 by simp [zup3])) d_15_40_76 ?_
  refine lv_bipush (v := iI 120) hx hb d_15_40_79 (by decide) ?_
  refine W.eq (g2 := F0 m 81 ls [.int (iI 120), .ref (ad 13 (F 14 0 6) 0)]) (by rw [zrf_pos (ad := ad) (t := 13) g8.1]; try rfl) ?_
  refine zput (ci := 13) (C := RX13) (T := TX13) (k := 6) (v := 120) (w := .int (iI 120)) hx hb hts inW_13 tyX13 tyX13_ok nmX13 hown hK hZ13 hS13 g8.1 g8.2 rfl (by decide) k_9_131 rfl (fun G h => congrArg (fun q => Value.int (iI q)) h) rfl rfl (zno (by decide)) d_15_40_81 (fun H14 locs14 hZ14 hS14 => ?_)
  exact b_M_text_84 X hf hZ14 hS14 (lv_sub hl [0] rfl)

noncomputable abbrev Q_M_walk (D : va_G) (ca : Nat → ClassId) (ad : Nat → Int → Nat → Nat) (L : List Nat) (r : Int) (F : zF) (B : zB) (A : Nat → Prop) : Array Value → State → Outcome → State → Prop := va_Qv (S := Unit) (fun _ => True) (fun _ => zPo D ca ad lnM nM L F B A) A
noncomputable abbrev Q_M_go (D : va_G) (ca : Nat → ClassId) (ad : Nat → Int → Nat → Nat) (L : List Nat) (r : Int) (F : zF) (B : zB) (A : Nat → Prop) : Array Value → State → Outcome → State → Prop := va_Qv (S := Unit) (fun _ => True) (fun _ => zPo D ca ad lnM nM L F B A) A
noncomputable abbrev Q_M_goSign (D : va_G) (ca : Nat → ClassId) (ad : Nat → Int → Nat → Nat) (L : List Nat) (r : Int) (F : zF) (B : zB) (A : Nat → Prop) : Array Value → State → Outcome → State → Prop := va_Qv (S := Unit) (fun _ => True) (fun _ => zPo D ca ad lnM nM L F B A) A
noncomputable abbrev Q_M_goRepeat (D : va_G) (ca : Nat → ClassId) (ad : Nat → Int → Nat → Nat) (L : List Nat) (r : Int) (F : zF) (B : zB) (A : Nat → Prop) : Array Value → State → Outcome → State → Prop := va_Qv (S := Unit) (fun _ => True) (fun _ => zPo D ca ad lnM nM L F B A) A
noncomputable abbrev Q_M_goUse (D : va_G) (ca : Nat → ClassId) (ad : Nat → Int → Nat → Nat) (L : List Nat) (r : Int) (F : zF) (B : zB) (A : Nat → Prop) : Array Value → State → Outcome → State → Prop := va_Qv (S := Unit) (fun _ => True) (fun _ => zPo D ca ad lnM nM L F B A) A
noncomputable abbrev Q_M_goChange (D : va_G) (ca : Nat → ClassId) (ad : Nat → Int → Nat → Nat) (L : List Nat) (r : Int) (F : zF) (B : zB) (A : Nat → Prop) : Array Value → State → Outcome → State → Prop := va_Qv (S := Unit) (fun _ => True) (fun _ => zPo D ca ad lnM nM L F B A) A
noncomputable abbrev Q_M_goBack (D : va_G) (ca : Nat → ClassId) (ad : Nat → Int → Nat → Nat) (L : List Nat) (r : Int) (F : zF) (B : zB) (A : Nat → Prop) : Array Value → State → Outcome → State → Prop := va_Qv (S := Unit) (fun _ => True) (fun _ => zPo D ca ad lnM nM L F B A) A
noncomputable abbrev Q_M_goSlow (D : va_G) (ca : Nat → ClassId) (ad : Nat → Int → Nat → Nat) (L : List Nat) (r : Int) (F : zF) (B : zB) (A : Nat → Prop) : Array Value → State → Outcome → State → Prop := va_Qv (S := Unit) (fun _ => True) (fun _ => zPo D ca ad lnM nM L F B A) A
noncomputable abbrev oT_W : Type := (Int → Int → zF → zB → zO) × (Int → zF → zB → zO) × (Int → zF → zB → zO) × (Int → zF → zB → zO) × (Int → zF → zB → zO) × (Int → zF → zB → zO) × (Int → zF → zB → zO) × (Int → zF → zB → zO)
noncomputable def oH_W (l : Launch) (D : va_G) (ca : Nat → ClassId) (ad : Nat → Int → Nat → Nat) (L : List Nat) (aS vS : Nat → Nat) (d : Nat) (o : oT_W) : Prop := (∀ {sz : Nat} {l1 : Int} {l2 : Int} {F F9 : zF} {B B9 : zB} {r : Int}, o.1 l1 l2 F B = some (r, F9, B9) → Met l ({ cls := "StaveHouseModel", name := "walk", desc := "(II)V" } : Jvm.MethodName) (Cond.code ({ cls := "StaveHouseModel", name := "walk", desc := "(II)V" } : Jvm.MethodName) prog_15_method_54_code 4 (Option.none : Option Jvm.ClassFile.FieldType) :: wAll) ({ frames := d + 5, cells := 0, slots := 0, locals := 28 * d + 116 } : Room) (va_Pc [.ref (ad 14 0 0), .int (iI l1), .int (iI l2)] (zPre D ca ad lnM nM L aS vS F B sz)) (Q_M_walk D ca ad L r F9 B9 (zA L sz)) 0 0 (zA L sz)) ∧ (∀ {sz : Nat} {l1 : Int} {F F9 : zF} {B B9 : zB} {r : Int}, o.2.1 l1 F B = some (r, F9, B9) → Met l ({ cls := "StaveHouseModel", name := "go", desc := "(I)V" } : Jvm.MethodName) (Cond.code ({ cls := "StaveHouseModel", name := "go", desc := "(I)V" } : Jvm.MethodName) prog_15_method_56_code 2 (Option.none : Option Jvm.ClassFile.FieldType) :: wAll) ({ frames := d + 5, cells := 0, slots := 0, locals := 28 * d + 116 } : Room) (va_Pc [.ref (ad 14 0 0), .int (iI l1)] (zPre D ca ad lnM nM L aS vS F B sz)) (Q_M_go D ca ad L r F9 B9 (zA L sz)) 0 0 (zA L sz)) ∧ (∀ {sz : Nat} {l1 : Int} {F F9 : zF} {B B9 : zB} {r : Int}, o.2.2.1 l1 F B = some (r, F9, B9) → Met l ({ cls := "StaveHouseModel", name := "goSign", desc := "(I)V" } : Jvm.MethodName) (Cond.code ({ cls := "StaveHouseModel", name := "goSign", desc := "(I)V" } : Jvm.MethodName) prog_15_method_57_code 2 (Option.none : Option Jvm.ClassFile.FieldType) :: wAll) ({ frames := d + 5, cells := 0, slots := 0, locals := 28 * d + 116 } : Room) (va_Pc [.ref (ad 14 0 0), .int (iI l1)] (zPre D ca ad lnM nM L aS vS F B sz)) (Q_M_goSign D ca ad L r F9 B9 (zA L sz)) 0 0 (zA L sz)) ∧ (∀ {sz : Nat} {l1 : Int} {F F9 : zF} {B B9 : zB} {r : Int}, o.2.2.2.1 l1 F B = some (r, F9, B9) → Met l ({ cls := "StaveHouseModel", name := "goRepeat", desc := "(I)V" } : Jvm.MethodName) (Cond.code ({ cls := "StaveHouseModel", name := "goRepeat", desc := "(I)V" } : Jvm.MethodName) prog_15_method_58_code 9 (Option.none : Option Jvm.ClassFile.FieldType) :: wAll) ({ frames := d + 5, cells := 0, slots := 0, locals := 28 * d + 116 } : Room) (va_Pc [.ref (ad 14 0 0), .int (iI l1)] (zPre D ca ad lnM nM L aS vS F B sz)) (Q_M_goRepeat D ca ad L r F9 B9 (zA L sz)) 0 0 (zA L sz)) ∧ (∀ {sz : Nat} {l1 : Int} {F F9 : zF} {B B9 : zB} {r : Int}, o.2.2.2.2.1 l1 F B = some (r, F9, B9) → Met l ({ cls := "StaveHouseModel", name := "goUse", desc := "(I)V" } : Jvm.MethodName) (Cond.code ({ cls := "StaveHouseModel", name := "goUse", desc := "(I)V" } : Jvm.MethodName) prog_15_method_59_code 3 (Option.none : Option Jvm.ClassFile.FieldType) :: wAll) ({ frames := d + 5, cells := 0, slots := 0, locals := 28 * d + 116 } : Room) (va_Pc [.ref (ad 14 0 0), .int (iI l1)] (zPre D ca ad lnM nM L aS vS F B sz)) (Q_M_goUse D ca ad L r F9 B9 (zA L sz)) 0 0 (zA L sz)) ∧ (∀ {sz : Nat} {l1 : Int} {F F9 : zF} {B B9 : zB} {r : Int}, o.2.2.2.2.2.1 l1 F B = some (r, F9, B9) → Met l ({ cls := "StaveHouseModel", name := "goChange", desc := "(I)V" } : Jvm.MethodName) (Cond.code ({ cls := "StaveHouseModel", name := "goChange", desc := "(I)V" } : Jvm.MethodName) prog_15_method_60_code 5 (Option.none : Option Jvm.ClassFile.FieldType) :: wAll) ({ frames := d + 5, cells := 0, slots := 0, locals := 28 * d + 116 } : Room) (va_Pc [.ref (ad 14 0 0), .int (iI l1)] (zPre D ca ad lnM nM L aS vS F B sz)) (Q_M_goChange D ca ad L r F9 B9 (zA L sz)) 0 0 (zA L sz)) ∧ (∀ {sz : Nat} {l1 : Int} {F F9 : zF} {B B9 : zB} {r : Int}, o.2.2.2.2.2.2.1 l1 F B = some (r, F9, B9) → Met l ({ cls := "StaveHouseModel", name := "goBack", desc := "(I)V" } : Jvm.MethodName) (Cond.code ({ cls := "StaveHouseModel", name := "goBack", desc := "(I)V" } : Jvm.MethodName) prog_15_method_63_code 9 (Option.none : Option Jvm.ClassFile.FieldType) :: wAll) ({ frames := d + 5, cells := 0, slots := 0, locals := 28 * d + 116 } : Room) (va_Pc [.ref (ad 14 0 0), .int (iI l1)] (zPre D ca ad lnM nM L aS vS F B sz)) (Q_M_goBack D ca ad L r F9 B9 (zA L sz)) 0 0 (zA L sz)) ∧ (∀ {sz : Nat} {l1 : Int} {F F9 : zF} {B B9 : zB} {r : Int}, o.2.2.2.2.2.2.2 l1 F B = some (r, F9, B9) → Met l ({ cls := "StaveHouseModel", name := "goSlow", desc := "(I)V" } : Jvm.MethodName) (Cond.code ({ cls := "StaveHouseModel", name := "goSlow", desc := "(I)V" } : Jvm.MethodName) prog_15_method_61_code 3 (Option.none : Option Jvm.ClassFile.FieldType) :: wAll) ({ frames := d + 5, cells := 0, slots := 0, locals := 28 * d + 116 } : Room) (va_Pc [.ref (ad 14 0 0), .int (iI l1)] (zPre D ca ad lnM nM L aS vS F B sz)) (Q_M_goSlow D ca ad L r F9 B9 (zA L sz)) 0 0 (zA L sz))
noncomputable def f_M_walk_41 (o : oT_W) (K : Nat)  (F : zF) (B : zB) : zO := some (0, F, B)
set_option maxHeartbeats 4000000 in
set_option maxRecDepth 100000 in
theorem b_M_walk_41 {D : va_G} {ca : Nat → ClassId} {ad : Nat → Int → Nat → Nat} {L : List Nat} {aS vS : Nat → Nat} {A : Nat → Prop} {p : Program} {l : Launch} {e : Env} {s : State} {m : MethodId} {args : Array Value} {below : List Frame} {meth : Method} {c : Code} {K : Nat} {r : Int} {F9 : zF} {B9 : zB} {d : Nat} {o : oT_W} (X : zX D ca L aS vS A p s m args meth c prog_15_method_54_code 4 (Option.none : Option Jvm.ClassFile.FieldType) "StaveHouseModel") (ho : oH_W l D ca ad L aS vS d o)  {F : zF} {B : zB} {H : Heap} {locs : List Loc} {ls : Array Slot} (hf : f_M_walk_41 o K  F B = some (r, F9, B9)) (hZ : zH D ca ad lnM nM L F B A H) (hS : va_S A s.heap H locs) (hl : lv_has ls 4 []) : W p l e ({ frames := d + 1 + 5, cells := 0, slots := 0, locals := 28 * (d + 1) + 116 } : Room) s m args below meth c H locs 0 0 (MQ below (Q_M_walk D ca ad L r F9 B9 A) args s 0 0 A) (F0 m 41 ls []) := by
  obtain ⟨hx, hb, hr, hml, hown, hts, hlk, hK, hA, hL, hX⟩ := id X
  replace hf : (some (0, F, B)) = some (r, F9, B9) := hf
  cases hf
  exact W.vret hx hb hr (fun t ht hW => ⟨⟨(), rfl, trivial, by rw [ht]; exact hZ, va_K.moved hW.alike hK⟩, hS.F ht⟩) hS.2.2 d_15_54_41 hlk

noncomputable def f_M_walk_31 (o : oT_W) (rec2 : Int → Int → zF → zB → zO) (K : Nat) (l3 : Int) (l2 : Int) (F : zF) (B : zB) : zO := if 0 ≤ l3 ∧ l3 < 3001 then rec2 (B 14 0 31 l3) l2 F B else none
set_option maxHeartbeats 4000000 in
set_option maxRecDepth 100000 in
theorem b_M_walk_31 {D : va_G} {ca : Nat → ClassId} {ad : Nat → Int → Nat → Nat} {L : List Nat} {aS vS : Nat → Nat} {A : Nat → Prop} {p : Program} {l : Launch} {e : Env} {s : State} {m : MethodId} {args : Array Value} {below : List Frame} {meth : Method} {c : Code} {K : Nat} {r : Int} {F9 : zF} {B9 : zB} {d : Nat} {o : oT_W} (X : zX D ca L aS vS A p s m args meth c prog_15_method_54_code 4 (Option.none : Option Jvm.ClassFile.FieldType) "StaveHouseModel") (ho : oH_W l D ca ad L aS vS d o) {rec2 : Int → Int → zF → zB → zO} (hrec2 : ∀ {l3 : Int} {l2 : Int} {F : zF} {B : zB} {H : Heap} {locs : List Loc} {ls : Array Slot}, rec2 l3 l2 F B = some (r, F9, B9) → zH D ca ad lnM nM L F B A H → va_S A s.heap H locs → lv_has ls 4 [(3, .int (iI l3)), (0, .ref (ad 14 0 0)), (2, .int (iI l2))] → W p l e ({ frames := d + 1 + 5, cells := 0, slots := 0, locals := 28 * (d + 1) + 116 } : Room) s m args below meth c H locs 0 0 (MQ below (Q_M_walk D ca ad L r F9 B9 A) args s 0 0 A) (F0 m 2 ls [])) {l3 : Int} {l2 : Int} {F : zF} {B : zB} {H : Heap} {locs : List Loc} {ls : Array Slot} (hf : f_M_walk_31 o rec2 K l3 l2 F B = some (r, F9, B9)) (hZ : zH D ca ad lnM nM L F B A H) (hS : va_S A s.heap H locs) (hl : lv_has ls 4 [(3, .int (iI l3)), (0, .ref (ad 14 0 0)), (2, .int (iI l2))]) : W p l e ({ frames := d + 1 + 5, cells := 0, slots := 0, locals := 28 * (d + 1) + 116 } : Room) s m args below meth c H locs 0 0 (MQ below (Q_M_walk D ca ad L r F9 B9 A) args s 0 0 A) (F0 m 31 ls []) := by
  obtain ⟨hx, hb, hr, hml, hown, hts, hlk, hK, hA, hL, hX⟩ := id X
  replace hf : (if 0 ≤ l3 ∧ l3 < 3001 then rec2 (B 14 0 31 l3) l2 F B else none) = some (r, F9, B9) := hf
  refine lv_aload_n hx hb d_15_54_31 rfl (lv_at hl 1 rfl) ?_
  refine zget (ci := 14) (C := RX14) (T := TX14) (v := .ref (ad 14 0 (31 + 1))) (k := 31) hx hb hts inW_14 hown hK hZ (by decide) (by decide) rfl (by decide) k_11_29 rfl d_15_54_32 ?_
  refine lv_iload_n hx hb d_15_54_35 rfl (lv_at hl 0 rfl) ?_
  obtain ⟨g12, hf⟩ := gif hf
  refine zald (ci := 14) (k := 31) hx hb hK rfl hZ (by decide) (by decide) rfl (Nat.le_of_ble_eq_true rfl) g12.1 g12.2 d_15_54_36 ?_
  refine lv_istore_n (lv' := [(3, .int (iI (B 14 0 31 l3))), (0, .ref (ad 14 0 0)), (2, .int (iI l2))]) hx hb d_15_54_37 rfl hl (by decide) rfl (fun ls hl => ?_)
  refine lv_goto (tgt := 2) hx hb d_15_54_38 (by decide) ?_
  exact hrec2 hf hZ hS (lv_sub hl [0, 1, 2] rfl)

noncomputable def f_M_walk_2 (o : oT_W) (K : Nat) : Nat → Int → Int → zF → zB → zO
  | 0, _, _, _, _ => none
  | n + 1, l3, l2, F, B => zbind (f_M_good K F B) (fun r1 F1 B1 => if r32 r1 then (if r1 = 0 then f_M_walk_41 o K F1 B1 else if r32 l3 then if r32 l2 then (if l2 ≤ l3 then f_M_walk_41 o K F1 B1 else zbind (f_M_counts K l3 F1 B1) (fun r7 F7 B7 => zbind (f_M_good K F7 B7) (fun r8 F8 B8 => if r32 r8 then (if r8 = 0 then f_M_walk_31 o (f_M_walk_2 o K n) K l3 l2 F8 B8 else zbind (o.2.1 l3 F8 B8) (fun r11 F11 B11 => f_M_walk_31 o (f_M_walk_2 o K n) K l3 l2 F11 B11)) else none))) else none else none) else none)
set_option maxHeartbeats 4000000 in
set_option maxRecDepth 100000 in
theorem b_M_walk_2 {D : va_G} {ca : Nat → ClassId} {ad : Nat → Int → Nat → Nat} {L : List Nat} {aS vS : Nat → Nat} {A : Nat → Prop} {p : Program} {l : Launch} {e : Env} {s : State} {m : MethodId} {args : Array Value} {below : List Frame} {meth : Method} {c : Code} {K : Nat} {r : Int} {F9 : zF} {B9 : zB} {d : Nat} {o : oT_W} (X : zX D ca L aS vS A p s m args meth c prog_15_method_54_code 4 (Option.none : Option Jvm.ClassFile.FieldType) "StaveHouseModel") (ho : oH_W l D ca ad L aS vS d o) : ∀ {n : Nat} {l3 : Int} {l2 : Int} {F : zF} {B : zB} {H : Heap} {locs : List Loc} {ls : Array Slot}, f_M_walk_2 o K n l3 l2 F B = some (r, F9, B9) → zH D ca ad lnM nM L F B A H → va_S A s.heap H locs → lv_has ls 4 [(3, .int (iI l3)), (0, .ref (ad 14 0 0)), (2, .int (iI l2))] → W p l e ({ frames := d + 1 + 5, cells := 0, slots := 0, locals := 28 * (d + 1) + 116 } : Room) s m args below meth c H locs 0 0 (MQ below (Q_M_walk D ca ad L r F9 B9 A) args s 0 0 A) (F0 m 2 ls []) := by
  obtain ⟨hx, hb, hr, hml, hown, hts, hlk, hK, hA, hL, hX⟩ := id X
  intro n
  induction n with
  | zero =>
    intros
    rename_i hf _ _ _
    cases hf
  | succ n ih =>
    intro l3 l2 F B H locs ls hf hZ hS hl
    replace hf : (zbind (f_M_good K F B) (fun r1 F1 B1 => if r32 r1 then (if r1 = 0 then f_M_walk_41 o K F1 B1 else if r32 l3 then if r32 l2 then (if l2 ≤ l3 then f_M_walk_41 o K F1 B1 else zbind (f_M_counts K l3 F1 B1) (fun r7 F7 B7 => zbind (f_M_good K F7 B7) (fun r8 F8 B8 => if r32 r8 then (if r8 = 0 then f_M_walk_31 o (f_M_walk_2 o K n) K l3 l2 F8 B8 else zbind (o.2.1 l3 F8 B8) (fun r11 F11 B11 => f_M_walk_31 o (f_M_walk_2 o K n) K l3 l2 F11 B11)) else none))) else none else none) else none)) = some (r, F9, B9) := hf
    refine lv_aload_n hx hb d_15_54_2 rfl (lv_at hl 1 rfl) ?_
    obtain ⟨r1, F1, B1, hc1, hf⟩ := gbind hf
    refine va_calli (va_runV (As := []) (rest := []) ⟨hx, hb, hml, hown, hts⟩ (c_M_good (l := l) hc1) (cwV 0 hts (gdV k_13_15 k_13_17 ks_152 k_1_9 k_13_18) rfl rfl rfl (by decide +kernel) ⟨by dsimp only; omega, by dsimp only; omega⟩) (zPV X hZ hS (ci := 14) (by decide) (by decide) (r := (RX14, TX14, 107)) rfl []) rfl rfl hl.1 rfl (lv_room (Nat.le_of_ble_eq_true rfl)) d_15_54_3 ⟨Nat.le_of_ble_eq_true rfl, Nat.le_of_ble_eq_true rfl⟩) hS (fun q _ h => zAin X hS q h) (zAin X hS) (fun p1 u1 t1 H1 locs1 ht1 hv1 hw1 hB1 hz1 hk1 hS1 => ?_)
    have hZ1 := zBack X ht1 hB1
    subst hw1
    obtain ⟨g2, hf⟩ := gif hf
    refine z0eq (tgt := 41) hx hb g2 d_15_54_6 (by decide) (fun h3 => ?_) (fun h3 => ?_)
    · replace hf := gpos hf h3
      exact b_M_walk_41 X ho hf hZ1 hS1 (lv_sub hl [] rfl)
    · replace hf := gneg hf h3
      refine lv_iload_n hx hb d_15_54_9 rfl (lv_at hl 0 rfl) ?_
      refine lv_iload_n hx hb d_15_54_10 rfl (lv_at hl 2 rfl) ?_
      obtain ⟨g4, hf⟩ := gif hf
      obtain ⟨g5, hf⟩ := gif hf
      refine zge (tgt := 41) hx hb g4 g5 d_15_54_11 (by decide) (fun h6 => ?_) (fun h6 => ?_)
      · replace hf := gpos hf h6
        exact b_M_walk_41 X ho hf hZ1 hS1 (lv_sub hl [] rfl)
      · replace hf := gneg hf h6
        refine lv_aload_n hx hb d_15_54_14 rfl (lv_at hl 1 rfl) ?_
        refine lv_iload_n hx hb d_15_54_15 rfl (lv_at hl 0 rfl) ?_
        obtain ⟨r7, F7, B7, hc7, hf⟩ := gbind hf
        refine va_callv (va_runV (As := [.int (iI l3)]) (rest := []) ⟨hx, hb, hml, hown, hts⟩ (c_M_counts (l := l) hc7) (cwV 1 hts (gdV k_14_211 k_14_213 ks_224 k_1_9 k_14_214) rfl rfl rfl (by decide +kernel) ⟨by dsimp only; omega, by dsimp only; omega⟩) (zPV X hZ1 hS1 (ci := 14) (by decide) (by decide) (r := (RX14, TX14, 107)) rfl [.int (iI l3)]) rfl rfl hl.1 rfl (lv_room (Nat.le_of_ble_eq_true rfl)) d_15_54_16 ⟨Nat.le_of_ble_eq_true rfl, Nat.le_of_ble_eq_true rfl⟩) hS1 (fun q _ h => zAin X hS1 q h) (zAin X hS1) (fun u7 t7 H7 locs7 ht7 hv7 hw7 hB7 hz7 hk7 hS7 => ?_)
        have hZ7 := zBack X ht7 hB7
        refine lv_aload_n hx hb d_15_54_19 rfl (lv_at hl 1 rfl) ?_
        obtain ⟨r8, F8, B8, hc8, hf⟩ := gbind hf
        refine va_calli (va_runV (As := []) (rest := []) ⟨hx, hb, hml, hown, hts⟩ (c_M_good (l := l) hc8) (cwV 0 hts (gdV k_13_15 k_13_17 ks_152 k_1_9 k_13_18) rfl rfl rfl (by decide +kernel) ⟨by dsimp only; omega, by dsimp only; omega⟩) (zPV X hZ7 hS7 (ci := 14) (by decide) (by decide) (r := (RX14, TX14, 107)) rfl []) rfl rfl hl.1 rfl (lv_room (Nat.le_of_ble_eq_true rfl)) d_15_54_20 ⟨Nat.le_of_ble_eq_true rfl, Nat.le_of_ble_eq_true rfl⟩) hS7 (fun q _ h => zAin X hS7 q h) (zAin X hS7) (fun p8 u8 t8 H8 locs8 ht8 hv8 hw8 hB8 hz8 hk8 hS8 => ?_)
        have hZ8 := zBack X ht8 hB8
        subst hw8
        obtain ⟨g9, hf⟩ := gif hf
        refine z0eq (tgt := 31) hx hb g9 d_15_54_23 (by decide) (fun h10 => ?_) (fun h10 => ?_)
        · replace hf := gpos hf h10
          exact b_M_walk_31 X ho ih hf hZ8 hS8 (lv_sub hl [0, 1, 2] rfl)
        · replace hf := gneg hf h10
          refine lv_aload_n hx hb d_15_54_26 rfl (lv_at hl 1 rfl) ?_
          refine lv_iload_n hx hb d_15_54_27 rfl (lv_at hl 0 rfl) ?_
          obtain ⟨r11, F11, B11, hc11, hf⟩ := gbind hf
          refine va_callv (va_runV (As := [.int (iI l3)]) (rest := []) ⟨hx, hb, hml, hown, hts⟩ (ho.2.1 hc11) (cwV 1 hts (gdV k_14_215 k_14_217 ks_225 k_1_9 k_14_218) rfl rfl rfl (by decide +kernel) ⟨by dsimp only; omega, by dsimp only; omega⟩) (zPV X hZ8 hS8 (ci := 14) (by decide) (by decide) (r := (RX14, TX14, 107)) rfl [.int (iI l3)]) rfl rfl hl.1 rfl (lv_room (Nat.le_of_ble_eq_true rfl)) d_15_54_28 ⟨Nat.le_of_ble_eq_true rfl, Nat.le_of_ble_eq_true rfl⟩) hS8 (fun q _ h => zAin X hS8 q h) (zAin X hS8) (fun u11 t11 H11 locs11 ht11 hv11 hw11 hB11 hz11 hk11 hS11 => ?_)
          have hZ11 := zBack X ht11 hB11
          exact b_M_walk_31 X ho ih hf hZ11 hS11 (lv_sub hl [0, 1, 2] rfl)

noncomputable def fb_M_walk (o : oT_W) (K : Nat) (l1 : Int) (l2 : Int) (F : zF) (B : zB) : zO := f_M_walk_2 o K K l1 l2 F B
set_option maxHeartbeats 4000000 in
set_option maxRecDepth 100000 in
theorem cb_M_walk {l : Launch} {D : va_G} {ca : Nat → ClassId} {ad : Nat → Int → Nat → Nat} {L : List Nat} {aS vS : Nat → Nat} {sz K : Nat} {d : Nat} {o : oT_W} (ho : oH_W l D ca ad L aS vS d o)  {l1 : Int} {l2 : Int} {F F9 : zF} {B B9 : zB} {r : Int} (hf : fb_M_walk o K l1 l2 F B = some (r, F9, B9)) : Met l ({ cls := "StaveHouseModel", name := "walk", desc := "(II)V" } : Jvm.MethodName) (Cond.code ({ cls := "StaveHouseModel", name := "walk", desc := "(II)V" } : Jvm.MethodName) prog_15_method_54_code 4 (Option.none : Option Jvm.ClassFile.FieldType) :: wAll) ({ frames := d + 1 + 5, cells := 0, slots := 0, locals := 28 * (d + 1) + 116 } : Room) (va_Pc [.ref (ad 14 0 0), .int (iI l1), .int (iI l2)] (zPre D ca ad lnM nM L aS vS F B sz)) (Q_M_walk D ca ad L r F9 B9 (zA L sz)) 0 0 (zA L sz) := by
  refine zMet (Qc := Q_M_walk D ca ad L r F9 B9) (lv := [(0, .ref (ad 14 0 0)), (1, .int (iI l1)), (2, .int (iI l2))]) (by decide) (Nat.le_of_ble_eq_true rfl) rfl (fun A p e s m below meth c ls X hZ hS hl => ?_)
  obtain ⟨hx, hb, hr, hml, hown, hts, hlk, hK, hA, hL, hX⟩ := id X
  replace hf : (f_M_walk_2 o K K l1 l2 F B) = some (r, F9, B9) := hf
  refine lv_iload_n hx hb d_15_54_0 rfl (lv_at hl 1 rfl) ?_
  refine lv_istore_n (lv' := [(3, .int (iI l1)), (0, .ref (ad 14 0 0)), (1, .int (iI l1)), (2, .int (iI l2))]) hx hb d_15_54_1 rfl hl (by decide) rfl (fun ls hl => ?_)
  exact b_M_walk_2 X ho hf hZ hS (lv_sub hl [0, 1, 3] rfl)

noncomputable def f_M_go_182 (o : oT_W) (K : Nat)  (F : zF) (B : zB) : zO := some (0, F, B)
set_option maxHeartbeats 4000000 in
set_option maxRecDepth 100000 in
theorem b_M_go_182 {D : va_G} {ca : Nat → ClassId} {ad : Nat → Int → Nat → Nat} {L : List Nat} {aS vS : Nat → Nat} {A : Nat → Prop} {p : Program} {l : Launch} {e : Env} {s : State} {m : MethodId} {args : Array Value} {below : List Frame} {meth : Method} {c : Code} {K : Nat} {r : Int} {F9 : zF} {B9 : zB} {d : Nat} {o : oT_W} (X : zX D ca L aS vS A p s m args meth c prog_15_method_56_code 2 (Option.none : Option Jvm.ClassFile.FieldType) "StaveHouseModel") (ho : oH_W l D ca ad L aS vS d o)  {F : zF} {B : zB} {H : Heap} {locs : List Loc} {ls : Array Slot} (hf : f_M_go_182 o K  F B = some (r, F9, B9)) (hZ : zH D ca ad lnM nM L F B A H) (hS : va_S A s.heap H locs) (hl : lv_has ls 2 []) : W p l e ({ frames := d + 1 + 5, cells := 0, slots := 0, locals := 28 * (d + 1) + 116 } : Room) s m args below meth c H locs 0 0 (MQ below (Q_M_go D ca ad L r F9 B9 A) args s 0 0 A) (F0 m 182 ls []) := by
  obtain ⟨hx, hb, hr, hml, hown, hts, hlk, hK, hA, hL, hX⟩ := id X
  replace hf : (some (0, F, B)) = some (r, F9, B9) := hf
  cases hf
  exact W.vret hx hb hr (fun t ht hW => ⟨⟨(), rfl, trivial, by rw [ht]; exact hZ, va_K.moved hW.alike hK⟩, hS.F ht⟩) hS.2.2 d_15_56_182 hlk

noncomputable def f_M_go_148 (o : oT_W) (K : Nat) (l1 : Int) (F : zF) (B : zB) : zO := zbind (o.2.2.2.2.2.1 l1 F B) (fun r27 F27 B27 => f_M_go_182 o K F27 B27)
set_option maxHeartbeats 4000000 in
set_option maxRecDepth 100000 in
theorem b_M_go_148 {D : va_G} {ca : Nat → ClassId} {ad : Nat → Int → Nat → Nat} {L : List Nat} {aS vS : Nat → Nat} {A : Nat → Prop} {p : Program} {l : Launch} {e : Env} {s : State} {m : MethodId} {args : Array Value} {below : List Frame} {meth : Method} {c : Code} {K : Nat} {r : Int} {F9 : zF} {B9 : zB} {d : Nat} {o : oT_W} (X : zX D ca L aS vS A p s m args meth c prog_15_method_56_code 2 (Option.none : Option Jvm.ClassFile.FieldType) "StaveHouseModel") (ho : oH_W l D ca ad L aS vS d o) {l1 : Int} {F : zF} {B : zB} {H : Heap} {locs : List Loc} {ls : Array Slot} (hf : f_M_go_148 o K l1 F B = some (r, F9, B9)) (hZ : zH D ca ad lnM nM L F B A H) (hS : va_S A s.heap H locs) (hl : lv_has ls 2 [(0, .ref (ad 14 0 0)), (1, .int (iI l1))]) : W p l e ({ frames := d + 1 + 5, cells := 0, slots := 0, locals := 28 * (d + 1) + 116 } : Room) s m args below meth c H locs 0 0 (MQ below (Q_M_go D ca ad L r F9 B9 A) args s 0 0 A) (F0 m 148 ls []) := by
  obtain ⟨hx, hb, hr, hml, hown, hts, hlk, hK, hA, hL, hX⟩ := id X
  replace hf : (zbind (o.2.2.2.2.2.1 l1 F B) (fun r27 F27 B27 => f_M_go_182 o K F27 B27)) = some (r, F9, B9) := hf
  refine lv_aload_n hx hb d_15_56_148 rfl (lv_at hl 0 rfl) ?_
  refine lv_iload_n hx hb d_15_56_149 rfl (lv_at hl 1 rfl) ?_
  obtain ⟨r27, F27, B27, hc27, hf⟩ := gbind hf
  refine va_callv (va_runV (As := [.int (iI l1)]) (rest := []) ⟨hx, hb, hml, hown, hts⟩ (ho.2.2.2.2.2.1 hc27) (cwV 1 hts (gdV k_15_8 k_15_10 ks_233 k_1_9 k_15_11) rfl rfl rfl (by decide +kernel) ⟨by dsimp only; omega, by dsimp only; omega⟩) (zPV X hZ hS (ci := 14) (by decide) (by decide) (r := (RX14, TX14, 107)) rfl [.int (iI l1)]) rfl rfl hl.1 rfl (lv_room (Nat.le_of_ble_eq_true rfl)) d_15_56_150 ⟨Nat.le_of_ble_eq_true rfl, Nat.le_of_ble_eq_true rfl⟩) hS (fun q _ h => zAin X hS q h) (zAin X hS) (fun u27 t27 H27 locs27 ht27 hv27 hw27 hB27 hz27 hk27 hS27 => ?_)
  have hZ27 := zBack X ht27 hB27
  refine lv_goto (tgt := 182) hx hb d_15_56_153 (by decide) ?_
  exact b_M_go_182 X ho hf hZ27 hS27 (lv_sub hl [] rfl)

noncomputable def f_M_go_62 (o : oT_W) (K : Nat) (l1 : Int) (F : zF) (B : zB) : zO := if 0 ≤ l1 ∧ l1 < 3001 then if r32 (B 14 0 7 l1) then (if (B 14 0 7 l1) = 5 then zbind (o.2.2.1 l1 F B) (fun r26 F26 B26 => f_M_go_182 o K F26 B26) else if r64 (B 14 0 11 l1) then (if (zcmp (B 14 0 11 l1) 125780002955636) = 0 then zbind (o.2.2.2.1 l1 F B) (fun r25 F25 B25 => f_M_go_182 o K F25 B25) else (if (zcmp (B 14 0 11 l1) 7697253) = 0 then zbind (o.2.2.2.2.1 l1 F B) (fun r24 F24 B24 => f_M_go_182 o K F24 B24) else (if (zcmp (B 14 0 11 l1) 1836021349) = 0 then f_M_go_148 o K l1 F B else (if (zcmp (B 14 0 11 l1) 120299659095922) = 0 then f_M_go_148 o K l1 F B else (if (zcmp (B 14 0 11 l1) 1650549611) = 0 then zbind (o.2.2.2.2.2.2.1 l1 F B) (fun r23 F23 B23 => f_M_go_182 o K F23 B23) else zbind (o.2.2.2.2.2.2.2 l1 F B) (fun r22 F22 B22 => f_M_go_182 o K F22 B22)))))) else none) else none else none
set_option maxHeartbeats 4000000 in
set_option maxRecDepth 100000 in
theorem b_M_go_62 {D : va_G} {ca : Nat → ClassId} {ad : Nat → Int → Nat → Nat} {L : List Nat} {aS vS : Nat → Nat} {A : Nat → Prop} {p : Program} {l : Launch} {e : Env} {s : State} {m : MethodId} {args : Array Value} {below : List Frame} {meth : Method} {c : Code} {K : Nat} {r : Int} {F9 : zF} {B9 : zB} {d : Nat} {o : oT_W} (X : zX D ca L aS vS A p s m args meth c prog_15_method_56_code 2 (Option.none : Option Jvm.ClassFile.FieldType) "StaveHouseModel") (ho : oH_W l D ca ad L aS vS d o) {l1 : Int} {F : zF} {B : zB} {H : Heap} {locs : List Loc} {ls : Array Slot} (hf : f_M_go_62 o K l1 F B = some (r, F9, B9)) (hZ : zH D ca ad lnM nM L F B A H) (hS : va_S A s.heap H locs) (hl : lv_has ls 2 [(0, .ref (ad 14 0 0)), (1, .int (iI l1))]) : W p l e ({ frames := d + 1 + 5, cells := 0, slots := 0, locals := 28 * (d + 1) + 116 } : Room) s m args below meth c H locs 0 0 (MQ below (Q_M_go D ca ad L r F9 B9 A) args s 0 0 A) (F0 m 62 ls []) := by
  obtain ⟨hx, hb, hr, hml, hown, hts, hlk, hK, hA, hL, hX⟩ := id X
  replace hf : (if 0 ≤ l1 ∧ l1 < 3001 then if r32 (B 14 0 7 l1) then (if (B 14 0 7 l1) = 5 then zbind (o.2.2.1 l1 F B) (fun r26 F26 B26 => f_M_go_182 o K F26 B26) else if r64 (B 14 0 11 l1) then (if (zcmp (B 14 0 11 l1) 125780002955636) = 0 then zbind (o.2.2.2.1 l1 F B) (fun r25 F25 B25 => f_M_go_182 o K F25 B25) else (if (zcmp (B 14 0 11 l1) 7697253) = 0 then zbind (o.2.2.2.2.1 l1 F B) (fun r24 F24 B24 => f_M_go_182 o K F24 B24) else (if (zcmp (B 14 0 11 l1) 1836021349) = 0 then f_M_go_148 o K l1 F B else (if (zcmp (B 14 0 11 l1) 120299659095922) = 0 then f_M_go_148 o K l1 F B else (if (zcmp (B 14 0 11 l1) 1650549611) = 0 then zbind (o.2.2.2.2.2.2.1 l1 F B) (fun r23 F23 B23 => f_M_go_182 o K F23 B23) else zbind (o.2.2.2.2.2.2.2 l1 F B) (fun r22 F22 B22 => f_M_go_182 o K F22 B22)))))) else none) else none else none) = some (r, F9, B9) := hf
  refine lv_aload_n hx hb d_15_56_62 rfl (lv_at hl 0 rfl) ?_
  refine zget (ci := 14) (C := RX14) (T := TX14) (v := .ref (ad 14 0 (7 + 1))) (k := 7) hx hb hts inW_14 hown hK hZ (by decide) (by decide) rfl (by decide) k_11_5 rfl d_15_56_63 ?_
  refine lv_iload_n hx hb d_15_56_66 rfl (lv_at hl 1 rfl) ?_
  obtain ⟨g13, hf⟩ := gif hf
  refine zald (ci := 14) (k := 7) hx hb hK rfl hZ (by decide) (by decide) rfl (Nat.le_of_ble_eq_true rfl) g13.1 g13.2 d_15_56_67 ?_
  refine lv_iconst (v := iI 5) hx hb d_15_56_68 rfl ?_
  obtain ⟨g14, hf⟩ := gif hf
  refine zne (tgt := 80) hx hb g14 (by decide) d_15_56_69 (by decide) (fun h15 => ?_) (fun h15 => ?_)
  · replace hf := gneg hf h15
    refine lv_aload_n hx hb d_15_56_80 rfl (lv_at hl 0 rfl) ?_
    refine zget (ci := 14) (C := RX14) (T := TX14) (v := .ref (ad 14 0 (11 + 1))) (k := 11) hx hb hts inW_14 hown hK hZ (by decide) (by decide) rfl (by decide) k_11_9 rfl d_15_56_81 ?_
    refine lv_iload_n hx hb d_15_56_84 rfl (lv_at hl 1 rfl) ?_
    refine zlald (ci := 14) (k := 11) hx hb hK rfl hZ (by decide) (by decide) rfl (Nat.le_of_ble_eq_true rfl) g13.1 g13.2 d_15_56_85 ?_
    refine va_gets hx hb (hX.2.2.2.1 _ (List.mem_of_getElem? (i := 8) rfl)) hS hown (hts _ k_10_221) (fun _ h => h) d_15_56_86 ?_
    refine W.eq (g2 := F0 m 89 ls [.long (lI 125780002955636), .long (lI (B 14 0 11 l1))]) rfl ?_
    obtain ⟨g16, hf⟩ := gif hf
    refine zcmp_r hx hb g16 (by decide) d_15_56_89 ?_
    refine z0ne (tgt := 101) hx hb zcmp_32 d_15_56_90 (by decide) (fun h17 => ?_) (fun h17 => ?_)
    · replace hf := gneg hf h17
      refine lv_aload_n hx hb d_15_56_101 rfl (lv_at hl 0 rfl) ?_
      refine zget (ci := 14) (C := RX14) (T := TX14) (v := .ref (ad 14 0 (11 + 1))) (k := 11) hx hb hts inW_14 hown hK hZ (by decide) (by decide) rfl (by decide) k_11_9 rfl d_15_56_102 ?_
      refine lv_iload_n hx hb d_15_56_105 rfl (lv_at hl 1 rfl) ?_
      refine zlald (ci := 14) (k := 11) hx hb hK rfl hZ (by decide) (by decide) rfl (Nat.le_of_ble_eq_true rfl) g13.1 g13.2 d_15_56_106 ?_
      refine va_gets hx hb (hX.2.2.2.1 _ (List.mem_of_getElem? (i := 10) rfl)) hS hown (hts _ k_10_225) (fun _ h => h) d_15_56_107 ?_
      refine W.eq (g2 := F0 m 110 ls [.long (lI 7697253), .long (lI (B 14 0 11 l1))]) rfl ?_
      refine zcmp_r hx hb g16 (by decide) d_15_56_110 ?_
      refine z0ne (tgt := 122) hx hb zcmp_32 d_15_56_111 (by decide) (fun h18 => ?_) (fun h18 => ?_)
      · replace hf := gneg hf h18
        refine lv_aload_n hx hb d_15_56_122 rfl (lv_at hl 0 rfl) ?_
        refine zget (ci := 14) (C := RX14) (T := TX14) (v := .ref (ad 14 0 (11 + 1))) (k := 11) hx hb hts inW_14 hown hK hZ (by decide) (by decide) rfl (by decide) k_11_9 rfl d_15_56_123 ?_
        refine lv_iload_n hx hb d_15_56_126 rfl (lv_at hl 1 rfl) ?_
        refine zlald (ci := 14) (k := 11) hx hb hK rfl hZ (by decide) (by decide) rfl (Nat.le_of_ble_eq_true rfl) g13.1 g13.2 d_15_56_127 ?_
        refine va_gets hx hb (hX.2.2.2.1 _ (List.mem_of_getElem? (i := 11) rfl)) hS hown (hts _ k_10_227) (fun _ h => h) d_15_56_128 ?_
        refine W.eq (g2 := F0 m 131 ls [.long (lI 1836021349), .long (lI (B 14 0 11 l1))]) rfl ?_
        refine zcmp_r hx hb g16 (by decide) d_15_56_131 ?_
        refine z0eq (tgt := 148) hx hb zcmp_32 d_15_56_132 (by decide) (fun h19 => ?_) (fun h19 => ?_)
        · replace hf := gpos hf h19
          exact b_M_go_148 X ho hf hZ hS (lv_sub hl [0, 1] rfl)
        · replace hf := gneg hf h19
          refine lv_aload_n hx hb d_15_56_135 rfl (lv_at hl 0 rfl) ?_
          refine zget (ci := 14) (C := RX14) (T := TX14) (v := .ref (ad 14 0 (11 + 1))) (k := 11) hx hb hts inW_14 hown hK hZ (by decide) (by decide) rfl (by decide) k_11_9 rfl d_15_56_136 ?_
          refine lv_iload_n hx hb d_15_56_139 rfl (lv_at hl 1 rfl) ?_
          refine zlald (ci := 14) (k := 11) hx hb hK rfl hZ (by decide) (by decide) rfl (Nat.le_of_ble_eq_true rfl) g13.1 g13.2 d_15_56_140 ?_
          refine va_gets hx hb (hX.2.2.2.1 _ (List.mem_of_getElem? (i := 12) rfl)) hS hown (hts _ k_10_229) (fun _ h => h) d_15_56_141 ?_
          refine W.eq (g2 := F0 m 144 ls [.long (lI 120299659095922), .long (lI (B 14 0 11 l1))]) rfl ?_
          refine zcmp_r hx hb g16 (by decide) d_15_56_144 ?_
          refine z0ne (tgt := 156) hx hb zcmp_32 d_15_56_145 (by decide) (fun h20 => ?_) (fun h20 => ?_)
          · replace hf := gneg hf h20
            refine lv_aload_n hx hb d_15_56_156 rfl (lv_at hl 0 rfl) ?_
            refine zget (ci := 14) (C := RX14) (T := TX14) (v := .ref (ad 14 0 (11 + 1))) (k := 11) hx hb hts inW_14 hown hK hZ (by decide) (by decide) rfl (by decide) k_11_9 rfl d_15_56_157 ?_
            refine lv_iload_n hx hb d_15_56_160 rfl (lv_at hl 1 rfl) ?_
            refine zlald (ci := 14) (k := 11) hx hb hK rfl hZ (by decide) (by decide) rfl (Nat.le_of_ble_eq_true rfl) g13.1 g13.2 d_15_56_161 ?_
            refine va_gets hx hb (hX.2.2.2.1 _ (List.mem_of_getElem? (i := 13) rfl)) hS hown (hts _ k_10_231) (fun _ h => h) d_15_56_162 ?_
            refine W.eq (g2 := F0 m 165 ls [.long (lI 1650549611), .long (lI (B 14 0 11 l1))]) rfl ?_
            refine zcmp_r hx hb g16 (by decide) d_15_56_165 ?_
            refine z0ne (tgt := 177) hx hb zcmp_32 d_15_56_166 (by decide) (fun h21 => ?_) (fun h21 => ?_)
            · replace hf := gneg hf h21
              refine lv_aload_n hx hb d_15_56_177 rfl (lv_at hl 0 rfl) ?_
              refine lv_iload_n hx hb d_15_56_178 rfl (lv_at hl 1 rfl) ?_
              obtain ⟨r22, F22, B22, hc22, hf⟩ := gbind hf
              refine va_callv (va_runV (As := [.int (iI l1)]) (rest := []) ⟨hx, hb, hml, hown, hts⟩ (ho.2.2.2.2.2.2.2 hc22) (cwV 1 hts (gdV k_15_26 k_15_28 ks_236 k_1_9 k_15_29) rfl rfl rfl (by decide +kernel) ⟨by dsimp only; omega, by dsimp only; omega⟩) (zPV X hZ hS (ci := 14) (by decide) (by decide) (r := (RX14, TX14, 107)) rfl [.int (iI l1)]) rfl rfl hl.1 rfl (lv_room (Nat.le_of_ble_eq_true rfl)) d_15_56_179 ⟨Nat.le_of_ble_eq_true rfl, Nat.le_of_ble_eq_true rfl⟩) hS (fun q _ h => zAin X hS q h) (zAin X hS) (fun u22 t22 H22 locs22 ht22 hv22 hw22 hB22 hz22 hk22 hS22 => ?_)
              have hZ22 := zBack X ht22 hB22
              exact b_M_go_182 X ho hf hZ22 hS22 (lv_sub hl [] rfl)
            · replace hf := gpos hf h21
              refine lv_aload_n hx hb d_15_56_169 rfl (lv_at hl 0 rfl) ?_
              refine lv_iload_n hx hb d_15_56_170 rfl (lv_at hl 1 rfl) ?_
              obtain ⟨r23, F23, B23, hc23, hf⟩ := gbind hf
              refine va_callv (va_runV (As := [.int (iI l1)]) (rest := []) ⟨hx, hb, hml, hown, hts⟩ (ho.2.2.2.2.2.2.1 hc23) (cwV 1 hts (gdV k_15_12 k_15_14 ks_234 k_1_9 k_15_15) rfl rfl rfl (by decide +kernel) ⟨by dsimp only; omega, by dsimp only; omega⟩) (zPV X hZ hS (ci := 14) (by decide) (by decide) (r := (RX14, TX14, 107)) rfl [.int (iI l1)]) rfl rfl hl.1 rfl (lv_room (Nat.le_of_ble_eq_true rfl)) d_15_56_171 ⟨Nat.le_of_ble_eq_true rfl, Nat.le_of_ble_eq_true rfl⟩) hS (fun q _ h => zAin X hS q h) (zAin X hS) (fun u23 t23 H23 locs23 ht23 hv23 hw23 hB23 hz23 hk23 hS23 => ?_)
              have hZ23 := zBack X ht23 hB23
              refine lv_goto (tgt := 182) hx hb d_15_56_174 (by decide) ?_
              exact b_M_go_182 X ho hf hZ23 hS23 (lv_sub hl [] rfl)
          · replace hf := gpos hf h20
            exact b_M_go_148 X ho hf hZ hS (lv_sub hl [0, 1] rfl)
      · replace hf := gpos hf h18
        refine lv_aload_n hx hb d_15_56_114 rfl (lv_at hl 0 rfl) ?_
        refine lv_iload_n hx hb d_15_56_115 rfl (lv_at hl 1 rfl) ?_
        obtain ⟨r24, F24, B24, hc24, hf⟩ := gbind hf
        refine va_callv (va_runV (As := [.int (iI l1)]) (rest := []) ⟨hx, hb, hml, hown, hts⟩ (ho.2.2.2.2.1 hc24) (cwV 1 hts (gdV k_15_4 k_15_6 ks_232 k_1_9 k_15_7) rfl rfl rfl (by decide +kernel) ⟨by dsimp only; omega, by dsimp only; omega⟩) (zPV X hZ hS (ci := 14) (by decide) (by decide) (r := (RX14, TX14, 107)) rfl [.int (iI l1)]) rfl rfl hl.1 rfl (lv_room (Nat.le_of_ble_eq_true rfl)) d_15_56_116 ⟨Nat.le_of_ble_eq_true rfl, Nat.le_of_ble_eq_true rfl⟩) hS (fun q _ h => zAin X hS q h) (zAin X hS) (fun u24 t24 H24 locs24 ht24 hv24 hw24 hB24 hz24 hk24 hS24 => ?_)
        have hZ24 := zBack X ht24 hB24
        refine lv_goto (tgt := 182) hx hb d_15_56_119 (by decide) ?_
        exact b_M_go_182 X ho hf hZ24 hS24 (lv_sub hl [] rfl)
    · replace hf := gpos hf h17
      refine lv_aload_n hx hb d_15_56_93 rfl (lv_at hl 0 rfl) ?_
      refine lv_iload_n hx hb d_15_56_94 rfl (lv_at hl 1 rfl) ?_
      obtain ⟨r25, F25, B25, hc25, hf⟩ := gbind hf
      refine va_callv (va_runV (As := [.int (iI l1)]) (rest := []) ⟨hx, hb, hml, hown, hts⟩ (ho.2.2.2.1 hc25) (cwV 1 hts (gdV k_15_0 k_15_2 ks_231 k_1_9 k_15_3) rfl rfl rfl (by decide +kernel) ⟨by dsimp only; omega, by dsimp only; omega⟩) (zPV X hZ hS (ci := 14) (by decide) (by decide) (r := (RX14, TX14, 107)) rfl [.int (iI l1)]) rfl rfl hl.1 rfl (lv_room (Nat.le_of_ble_eq_true rfl)) d_15_56_95 ⟨Nat.le_of_ble_eq_true rfl, Nat.le_of_ble_eq_true rfl⟩) hS (fun q _ h => zAin X hS q h) (zAin X hS) (fun u25 t25 H25 locs25 ht25 hv25 hw25 hB25 hz25 hk25 hS25 => ?_)
      have hZ25 := zBack X ht25 hB25
      refine lv_goto (tgt := 182) hx hb d_15_56_98 (by decide) ?_
      exact b_M_go_182 X ho hf hZ25 hS25 (lv_sub hl [] rfl)
  · replace hf := gpos hf h15
    refine lv_aload_n hx hb d_15_56_72 rfl (lv_at hl 0 rfl) ?_
    refine lv_iload_n hx hb d_15_56_73 rfl (lv_at hl 1 rfl) ?_
    obtain ⟨r26, F26, B26, hc26, hf⟩ := gbind hf
    refine va_callv (va_runV (As := [.int (iI l1)]) (rest := []) ⟨hx, hb, hml, hown, hts⟩ (ho.2.2.1 hc26) (cwV 1 hts (gdV k_14_236 k_14_238 ks_230 k_1_9 k_14_239) rfl rfl rfl (by decide +kernel) ⟨by dsimp only; omega, by dsimp only; omega⟩) (zPV X hZ hS (ci := 14) (by decide) (by decide) (r := (RX14, TX14, 107)) rfl [.int (iI l1)]) rfl rfl hl.1 rfl (lv_room (Nat.le_of_ble_eq_true rfl)) d_15_56_74 ⟨Nat.le_of_ble_eq_true rfl, Nat.le_of_ble_eq_true rfl⟩) hS (fun q _ h => zAin X hS q h) (zAin X hS) (fun u26 t26 H26 locs26 ht26 hv26 hw26 hB26 hz26 hk26 hS26 => ?_)
    have hZ26 := zBack X ht26 hB26
    refine lv_goto (tgt := 182) hx hb d_15_56_77 (by decide) ?_
    exact b_M_go_182 X ho hf hZ26 hS26 (lv_sub hl [] rfl)

noncomputable def f_M_go_54 (o : oT_W) (K : Nat) (l1 : Int) (F : zF) (B : zB) : zO := zbind (f_M_event_0 K l1 F B) (fun r12 F12 B12 => f_M_go_182 o K F12 B12)
set_option maxHeartbeats 4000000 in
set_option maxRecDepth 100000 in
theorem b_M_go_54 {D : va_G} {ca : Nat → ClassId} {ad : Nat → Int → Nat → Nat} {L : List Nat} {aS vS : Nat → Nat} {A : Nat → Prop} {p : Program} {l : Launch} {e : Env} {s : State} {m : MethodId} {args : Array Value} {below : List Frame} {meth : Method} {c : Code} {K : Nat} {r : Int} {F9 : zF} {B9 : zB} {d : Nat} {o : oT_W} (X : zX D ca L aS vS A p s m args meth c prog_15_method_56_code 2 (Option.none : Option Jvm.ClassFile.FieldType) "StaveHouseModel") (ho : oH_W l D ca ad L aS vS d o) {l1 : Int} {F : zF} {B : zB} {H : Heap} {locs : List Loc} {ls : Array Slot} (hf : f_M_go_54 o K l1 F B = some (r, F9, B9)) (hZ : zH D ca ad lnM nM L F B A H) (hS : va_S A s.heap H locs) (hl : lv_has ls 2 [(0, .ref (ad 14 0 0)), (1, .int (iI l1))]) : W p l e ({ frames := d + 1 + 5, cells := 0, slots := 0, locals := 28 * (d + 1) + 116 } : Room) s m args below meth c H locs 0 0 (MQ below (Q_M_go D ca ad L r F9 B9 A) args s 0 0 A) (F0 m 54 ls []) := by
  obtain ⟨hx, hb, hr, hml, hown, hts, hlk, hK, hA, hL, hX⟩ := id X
  replace hf : (zbind (f_M_event_0 K l1 F B) (fun r12 F12 B12 => f_M_go_182 o K F12 B12)) = some (r, F9, B9) := hf
  refine lv_aload_n hx hb d_15_56_54 rfl (lv_at hl 0 rfl) ?_
  refine lv_iload_n hx hb d_15_56_55 rfl (lv_at hl 1 rfl) ?_
  obtain ⟨r12, F12, B12, hc12, hf⟩ := gbind hf
  refine va_callv (va_runV (As := [.int (iI l1)]) (rest := []) ⟨hx, hb, hml, hown, hts⟩ (c_M_event_0 (l := l) hc12) (cwV 1 hts (gdV k_14_219 k_14_221 ks_226 k_1_9 k_14_222) rfl rfl rfl (by decide +kernel) ⟨by dsimp only; omega, by dsimp only; omega⟩) (zPV X hZ hS (ci := 14) (by decide) (by decide) (r := (RX14, TX14, 107)) rfl [.int (iI l1)]) rfl rfl hl.1 rfl (lv_room (Nat.le_of_ble_eq_true rfl)) d_15_56_56 ⟨Nat.le_of_ble_eq_true rfl, Nat.le_of_ble_eq_true rfl⟩) hS (fun q _ h => zAin X hS q h) (zAin X hS) (fun u12 t12 H12 locs12 ht12 hv12 hw12 hB12 hz12 hk12 hS12 => ?_)
  have hZ12 := zBack X ht12 hB12
  refine lv_goto (tgt := 182) hx hb d_15_56_59 (by decide) ?_
  exact b_M_go_182 X ho hf hZ12 hS12 (lv_sub hl [] rfl)

noncomputable def f_M_go_31 (o : oT_W) (K : Nat) (l1 : Int) (F : zF) (B : zB) : zO := if 0 ≤ l1 ∧ l1 < 3001 then if r32 (B 14 0 7 l1) then (if (B 14 0 7 l1) = 4 then if r64 (B 14 0 11 l1) then (if (zcmp (B 14 0 11 l1) 114) = 0 then f_M_go_54 o K l1 F B else f_M_go_62 o K l1 F B) else none else f_M_go_62 o K l1 F B) else none else none
set_option maxHeartbeats 4000000 in
set_option maxRecDepth 100000 in
theorem b_M_go_31 {D : va_G} {ca : Nat → ClassId} {ad : Nat → Int → Nat → Nat} {L : List Nat} {aS vS : Nat → Nat} {A : Nat → Prop} {p : Program} {l : Launch} {e : Env} {s : State} {m : MethodId} {args : Array Value} {below : List Frame} {meth : Method} {c : Code} {K : Nat} {r : Int} {F9 : zF} {B9 : zB} {d : Nat} {o : oT_W} (X : zX D ca L aS vS A p s m args meth c prog_15_method_56_code 2 (Option.none : Option Jvm.ClassFile.FieldType) "StaveHouseModel") (ho : oH_W l D ca ad L aS vS d o) {l1 : Int} {F : zF} {B : zB} {H : Heap} {locs : List Loc} {ls : Array Slot} (hf : f_M_go_31 o K l1 F B = some (r, F9, B9)) (hZ : zH D ca ad lnM nM L F B A H) (hS : va_S A s.heap H locs) (hl : lv_has ls 2 [(0, .ref (ad 14 0 0)), (1, .int (iI l1))]) : W p l e ({ frames := d + 1 + 5, cells := 0, slots := 0, locals := 28 * (d + 1) + 116 } : Room) s m args below meth c H locs 0 0 (MQ below (Q_M_go D ca ad L r F9 B9 A) args s 0 0 A) (F0 m 31 ls []) := by
  obtain ⟨hx, hb, hr, hml, hown, hts, hlk, hK, hA, hL, hX⟩ := id X
  replace hf : (if 0 ≤ l1 ∧ l1 < 3001 then if r32 (B 14 0 7 l1) then (if (B 14 0 7 l1) = 4 then if r64 (B 14 0 11 l1) then (if (zcmp (B 14 0 11 l1) 114) = 0 then f_M_go_54 o K l1 F B else f_M_go_62 o K l1 F B) else none else f_M_go_62 o K l1 F B) else none else none) = some (r, F9, B9) := hf
  refine lv_aload_n hx hb d_15_56_31 rfl (lv_at hl 0 rfl) ?_
  refine zget (ci := 14) (C := RX14) (T := TX14) (v := .ref (ad 14 0 (7 + 1))) (k := 7) hx hb hts inW_14 hown hK hZ (by decide) (by decide) rfl (by decide) k_11_5 rfl d_15_56_32 ?_
  refine lv_iload_n hx hb d_15_56_35 rfl (lv_at hl 1 rfl) ?_
  obtain ⟨g7, hf⟩ := gif hf
  refine zald (ci := 14) (k := 7) hx hb hK rfl hZ (by decide) (by decide) rfl (Nat.le_of_ble_eq_true rfl) g7.1 g7.2 d_15_56_36 ?_
  refine lv_iconst (v := iI 4) hx hb d_15_56_37 rfl ?_
  obtain ⟨g8, hf⟩ := gif hf
  refine zne (tgt := 62) hx hb g8 (by decide) d_15_56_38 (by decide) (fun h9 => ?_) (fun h9 => ?_)
  · replace hf := gneg hf h9
    exact b_M_go_62 X ho hf hZ hS (lv_sub hl [0, 1] rfl)
  · replace hf := gpos hf h9
    refine lv_aload_n hx hb d_15_56_41 rfl (lv_at hl 0 rfl) ?_
    refine zget (ci := 14) (C := RX14) (T := TX14) (v := .ref (ad 14 0 (11 + 1))) (k := 11) hx hb hts inW_14 hown hK hZ (by decide) (by decide) rfl (by decide) k_11_9 rfl d_15_56_42 ?_
    refine lv_iload_n hx hb d_15_56_45 rfl (lv_at hl 1 rfl) ?_
    refine zlald (ci := 14) (k := 11) hx hb hK rfl hZ (by decide) (by decide) rfl (Nat.le_of_ble_eq_true rfl) g7.1 g7.2 d_15_56_46 ?_
    refine va_gets hx hb (hX.2.2.2.1 _ (List.mem_of_getElem? (i := 15) rfl)) hS hown (hts _ k_10_235) (fun _ h => h) d_15_56_47 ?_
    refine W.eq (g2 := F0 m 50 ls [.long (lI 114), .long (lI (B 14 0 11 l1))]) rfl ?_
    obtain ⟨g10, hf⟩ := gif hf
    refine zcmp_r hx hb g10 (by decide) d_15_56_50 ?_
    refine z0ne (tgt := 62) hx hb zcmp_32 d_15_56_51 (by decide) (fun h11 => ?_) (fun h11 => ?_)
    · replace hf := gneg hf h11
      exact b_M_go_62 X ho hf hZ hS (lv_sub hl [0, 1] rfl)
    · replace hf := gpos hf h11
      exact b_M_go_54 X ho hf hZ hS (lv_sub hl [0, 1] rfl)

noncomputable def fb_M_go (o : oT_W) (K : Nat) (l1 : Int) (F : zF) (B : zB) : zO := if 0 ≤ l1 ∧ l1 < 3001 then if r32 (B 14 0 7 l1) then (if (B 14 0 7 l1) = 2 then f_M_go_54 o K l1 F B else (if (B 14 0 7 l1) = 5 then if r32 (B 14 0 9 l1) then (if (B 14 0 9 l1) = 60 then f_M_go_54 o K l1 F B else f_M_go_31 o K l1 F B) else none else f_M_go_31 o K l1 F B)) else none else none
set_option maxHeartbeats 4000000 in
set_option maxRecDepth 100000 in
theorem cb_M_go {l : Launch} {D : va_G} {ca : Nat → ClassId} {ad : Nat → Int → Nat → Nat} {L : List Nat} {aS vS : Nat → Nat} {sz K : Nat} {d : Nat} {o : oT_W} (ho : oH_W l D ca ad L aS vS d o)  {l1 : Int} {F F9 : zF} {B B9 : zB} {r : Int} (hf : fb_M_go o K l1 F B = some (r, F9, B9)) : Met l ({ cls := "StaveHouseModel", name := "go", desc := "(I)V" } : Jvm.MethodName) (Cond.code ({ cls := "StaveHouseModel", name := "go", desc := "(I)V" } : Jvm.MethodName) prog_15_method_56_code 2 (Option.none : Option Jvm.ClassFile.FieldType) :: wAll) ({ frames := d + 1 + 5, cells := 0, slots := 0, locals := 28 * (d + 1) + 116 } : Room) (va_Pc [.ref (ad 14 0 0), .int (iI l1)] (zPre D ca ad lnM nM L aS vS F B sz)) (Q_M_go D ca ad L r F9 B9 (zA L sz)) 0 0 (zA L sz) := by
  refine zMet (Qc := Q_M_go D ca ad L r F9 B9) (lv := [(0, .ref (ad 14 0 0)), (1, .int (iI l1))]) (by decide) (Nat.le_of_ble_eq_true rfl) rfl (fun A p e s m below meth c ls X hZ hS hl => ?_)
  obtain ⟨hx, hb, hr, hml, hown, hts, hlk, hK, hA, hL, hX⟩ := id X
  replace hf : (if 0 ≤ l1 ∧ l1 < 3001 then if r32 (B 14 0 7 l1) then (if (B 14 0 7 l1) = 2 then f_M_go_54 o K l1 F B else (if (B 14 0 7 l1) = 5 then if r32 (B 14 0 9 l1) then (if (B 14 0 9 l1) = 60 then f_M_go_54 o K l1 F B else f_M_go_31 o K l1 F B) else none else f_M_go_31 o K l1 F B)) else none else none) = some (r, F9, B9) := hf
  refine lv_aload_n hx hb d_15_56_0 rfl (lv_at hl 0 rfl) ?_
  refine zget (ci := 14) (C := RX14) (T := TX14) (v := .ref (ad 14 0 (7 + 1))) (k := 7) hx hb hts inW_14 hown hK hZ (by decide) (by decide) rfl (by decide) k_11_5 rfl d_15_56_1 ?_
  refine lv_iload_n hx hb d_15_56_4 rfl (lv_at hl 1 rfl) ?_
  obtain ⟨g1, hf⟩ := gif hf
  refine zald (ci := 14) (k := 7) hx hb hK rfl hZ (by decide) (by decide) rfl (Nat.le_of_ble_eq_true rfl) g1.1 g1.2 d_15_56_5 ?_
  refine lv_iconst (v := iI 2) hx hb d_15_56_6 rfl ?_
  obtain ⟨g2, hf⟩ := gif hf
  refine zeq (tgt := 54) hx hb g2 (by decide) d_15_56_7 (by decide) (fun h3 => ?_) (fun h3 => ?_)
  · replace hf := gpos hf h3
    exact b_M_go_54 X ho hf hZ hS (lv_sub hl [0, 1] rfl)
  · replace hf := gneg hf h3
    refine lv_aload_n hx hb d_15_56_10 rfl (lv_at hl 0 rfl) ?_
    refine zget (ci := 14) (C := RX14) (T := TX14) (v := .ref (ad 14 0 (7 + 1))) (k := 7) hx hb hts inW_14 hown hK hZ (by decide) (by decide) rfl (by decide) k_11_5 rfl d_15_56_11 ?_
    refine lv_iload_n hx hb d_15_56_14 rfl (lv_at hl 1 rfl) ?_
    refine zald (ci := 14) (k := 7) hx hb hK rfl hZ (by decide) (by decide) rfl (Nat.le_of_ble_eq_true rfl) g1.1 g1.2 d_15_56_15 ?_
    refine lv_iconst (v := iI 5) hx hb d_15_56_16 rfl ?_
    refine zne (tgt := 31) hx hb g2 (by decide) d_15_56_17 (by decide) (fun h4 => ?_) (fun h4 => ?_)
    · replace hf := gneg hf h4
      exact b_M_go_31 X ho hf hZ hS (lv_sub hl [0, 1] rfl)
    · replace hf := gpos hf h4
      refine lv_aload_n hx hb d_15_56_20 rfl (lv_at hl 0 rfl) ?_
      refine zget (ci := 14) (C := RX14) (T := TX14) (v := .ref (ad 14 0 (9 + 1))) (k := 9) hx hb hts inW_14 hown hK hZ (by decide) (by decide) rfl (by decide) k_11_7 rfl d_15_56_21 ?_
      refine lv_iload_n hx hb d_15_56_24 rfl (lv_at hl 1 rfl) ?_
      refine zald (ci := 14) (k := 9) hx hb hK rfl hZ (by decide) (by decide) rfl (Nat.le_of_ble_eq_true rfl) g1.1 g1.2 d_15_56_25 ?_
      refine lv_bipush (v := iI 60) hx hb d_15_56_26 (by decide) ?_
      obtain ⟨g5, hf⟩ := gif hf
      refine zeq (tgt := 54) hx hb g5 (by decide) d_15_56_28 (by decide) (fun h6 => ?_) (fun h6 => ?_)
      · replace hf := gpos hf h6
        exact b_M_go_54 X ho hf hZ hS (lv_sub hl [0, 1] rfl)
      · replace hf := gneg hf h6
        exact b_M_go_31 X ho hf hZ hS (lv_sub hl [0, 1] rfl)

noncomputable def f_M_goSign_182 (o : oT_W) (K : Nat)  (F : zF) (B : zB) : zO := some (0, F, B)
set_option maxHeartbeats 4000000 in
set_option maxRecDepth 100000 in
theorem b_M_goSign_182 {D : va_G} {ca : Nat → ClassId} {ad : Nat → Int → Nat → Nat} {L : List Nat} {aS vS : Nat → Nat} {A : Nat → Prop} {p : Program} {l : Launch} {e : Env} {s : State} {m : MethodId} {args : Array Value} {below : List Frame} {meth : Method} {c : Code} {K : Nat} {r : Int} {F9 : zF} {B9 : zB} {d : Nat} {o : oT_W} (X : zX D ca L aS vS A p s m args meth c prog_15_method_57_code 2 (Option.none : Option Jvm.ClassFile.FieldType) "StaveHouseModel") (ho : oH_W l D ca ad L aS vS d o)  {F : zF} {B : zB} {H : Heap} {locs : List Loc} {ls : Array Slot} (hf : f_M_goSign_182 o K  F B = some (r, F9, B9)) (hZ : zH D ca ad lnM nM L F B A H) (hS : va_S A s.heap H locs) (hl : lv_has ls 2 []) : W p l e ({ frames := d + 1 + 5, cells := 0, slots := 0, locals := 28 * (d + 1) + 116 } : Room) s m args below meth c H locs 0 0 (MQ below (Q_M_goSign D ca ad L r F9 B9 A) args s 0 0 A) (F0 m 182 ls []) := by
  obtain ⟨hx, hb, hr, hml, hown, hts, hlk, hK, hA, hL, hX⟩ := id X
  replace hf : (some (0, F, B)) = some (r, F9, B9) := hf
  cases hf
  exact W.vret hx hb hr (fun t ht hW => ⟨⟨(), rfl, trivial, by rw [ht]; exact hZ, va_K.moved hW.alike hK⟩, hS.F ht⟩) hS.2.2 d_15_57_182 hlk

noncomputable def f_M_goSign_115 (o : oT_W) (K : Nat) (l1 : Int) (F : zF) (B : zB) : zO := if 0 ≤ (l1 + 1) ∧ (l1 + 1) < 3001 then if 0 ≤ (F 14 0 48) ∧ (F 14 0 48) < 100 then if 0 ≤ (l1 + 3) ∧ (l1 + 3) < 3001 then if 0 ≤ l1 ∧ l1 < 3001 then zbind (o.1 (l1 + 5) ((zup4 (zup4 B 14 0 46 (F 14 0 48) (B 14 0 9 (l1 + 1))) 14 0 47 (F 14 0 48) ((zup4 B 14 0 46 (F 14 0 48) (B 14 0 9 (l1 + 1))) 14 0 9 (l1 + 3))) 14 0 30 l1) (zup3 F 14 0 48 ((F 14 0 48) + 1)) (zup4 (zup4 B 14 0 46 (F 14 0 48) (B 14 0 9 (l1 + 1))) 14 0 47 (F 14 0 48) ((zup4 B 14 0 46 (F 14 0 48) (B 14 0 9 (l1 + 1))) 14 0 9 (l1 + 3)))) (fun r28 F28 B28 => f_M_goSign_182 o K (zup3 F28 14 0 48 ((F28 14 0 48) - 1)) B28) else none else none else none else none
set_option maxHeartbeats 4000000 in
set_option maxRecDepth 100000 in
theorem b_M_goSign_115 {D : va_G} {ca : Nat → ClassId} {ad : Nat → Int → Nat → Nat} {L : List Nat} {aS vS : Nat → Nat} {A : Nat → Prop} {p : Program} {l : Launch} {e : Env} {s : State} {m : MethodId} {args : Array Value} {below : List Frame} {meth : Method} {c : Code} {K : Nat} {r : Int} {F9 : zF} {B9 : zB} {d : Nat} {o : oT_W} (X : zX D ca L aS vS A p s m args meth c prog_15_method_57_code 2 (Option.none : Option Jvm.ClassFile.FieldType) "StaveHouseModel") (ho : oH_W l D ca ad L aS vS d o) {l1 : Int} {F : zF} {B : zB} {H : Heap} {locs : List Loc} {ls : Array Slot} (hf : f_M_goSign_115 o K l1 F B = some (r, F9, B9)) (hZ : zH D ca ad lnM nM L F B A H) (hS : va_S A s.heap H locs) (hl : lv_has ls 2 [(0, .ref (ad 14 0 0)), (1, .int (iI l1))]) : W p l e ({ frames := d + 1 + 5, cells := 0, slots := 0, locals := 28 * (d + 1) + 116 } : Room) s m args below meth c H locs 0 0 (MQ below (Q_M_goSign D ca ad L r F9 B9 A) args s 0 0 A) (F0 m 115 ls []) := by
  obtain ⟨hx, hb, hr, hml, hown, hts, hlk, hK, hA, hL, hX⟩ := id X
  replace hf : (if 0 ≤ (l1 + 1) ∧ (l1 + 1) < 3001 then if 0 ≤ (F 14 0 48) ∧ (F 14 0 48) < 100 then if 0 ≤ (l1 + 3) ∧ (l1 + 3) < 3001 then if 0 ≤ l1 ∧ l1 < 3001 then zbind (o.1 (l1 + 5) ((zup4 (zup4 B 14 0 46 (F 14 0 48) (B 14 0 9 (l1 + 1))) 14 0 47 (F 14 0 48) ((zup4 B 14 0 46 (F 14 0 48) (B 14 0 9 (l1 + 1))) 14 0 9 (l1 + 3))) 14 0 30 l1) (zup3 F 14 0 48 ((F 14 0 48) + 1)) (zup4 (zup4 B 14 0 46 (F 14 0 48) (B 14 0 9 (l1 + 1))) 14 0 47 (F 14 0 48) ((zup4 B 14 0 46 (F 14 0 48) (B 14 0 9 (l1 + 1))) 14 0 9 (l1 + 3)))) (fun r28 F28 B28 => f_M_goSign_182 o K (zup3 F28 14 0 48 ((F28 14 0 48) - 1)) B28) else none else none else none else none) = some (r, F9, B9) := hf
  refine lv_aload_n hx hb d_15_57_115 rfl (lv_at hl 0 rfl) ?_
  refine zget (ci := 14) (C := RX14) (T := TX14) (v := .ref (ad 14 0 (46 + 1))) (k := 46) hx hb hts inW_14 hown hK hZ (by decide) (by decide) rfl (by decide) k_11_44 rfl d_15_57_116 ?_
  refine lv_aload_n hx hb d_15_57_119 rfl (lv_at hl 0 rfl) ?_
  refine zget (ci := 14) (C := RX14) (T := TX14) (v := .int (iI (F 14 0 48))) (k := 48) hx hb hts inW_14 hown hK hZ (by decide) (by decide) rfl (by decide) k_11_46 rfl d_15_57_120 ?_
  refine lv_aload_n hx hb d_15_57_123 rfl (lv_at hl 0 rfl) ?_
  refine zget (ci := 14) (C := RX14) (T := TX14) (v := .ref (ad 14 0 (9 + 1))) (k := 9) hx hb hts inW_14 hown hK hZ (by decide) (by decide) rfl (by decide) k_11_7 rfl d_15_57_124 ?_
  refine lv_iload_n hx hb d_15_57_127 rfl (lv_at hl 1 rfl) ?_
  refine lv_iconst (v := iI 1) hx hb d_15_57_128 rfl ?_
  refine zadd hx hb d_15_57_129 ?_
  obtain ⟨g21, hf⟩ := gif hf
  refine zald (ci := 14) (k := 9) hx hb hK rfl hZ (by decide) (by decide) rfl (Nat.le_of_ble_eq_true rfl) g21.1 g21.2 d_15_57_130 ?_
  obtain ⟨g22, hf⟩ := gif hf
  refine zast (ci := 14) (k := 46) hx hb hK rfl hZ hS (by decide) (by decide) rfl (Nat.le_of_ble_eq_true rfl) g22.1 g22.2 d_15_57_131 (fun H23 locs23 hZ23 hS23 => ?_)
  refine lv_aload_n hx hb d_15_57_132 rfl (lv_at hl 0 rfl) ?_
  refine zget (ci := 14) (C := RX14) (T := TX14) (v := .ref (ad 14 0 (47 + 1))) (k := 47) hx hb hts inW_14 hown hK hZ23 (by decide) (by decide) rfl (by decide) k_11_45 rfl d_15_57_133 ?_
  refine lv_aload_n hx hb d_15_57_136 rfl (lv_at hl 0 rfl) ?_
  refine zget (ci := 14) (C := RX14) (T := TX14) (v := .int (iI (F 14 0 48))) (k := 48) hx hb hts inW_14 hown hK hZ23 (by decide) (by decide) rfl (by decide) k_11_46 rfl d_15_57_137 ?_
  refine lv_aload_n hx hb d_15_57_140 rfl (lv_at hl 0 rfl) ?_
  refine zget (ci := 14) (C := RX14) (T := TX14) (v := .ref (ad 14 0 (9 + 1))) (k := 9) hx hb hts inW_14 hown hK hZ23 (by decide) (by decide) rfl (by decide) k_11_7 rfl d_15_57_141 ?_
  refine lv_iload_n hx hb d_15_57_144 rfl (lv_at hl 1 rfl) ?_
  refine lv_iconst (v := iI 3) hx hb d_15_57_145 rfl ?_
  refine zadd hx hb d_15_57_146 ?_
  obtain ⟨g24, hf⟩ := gif hf
  refine zald (ci := 14) (k := 9) hx hb hK rfl hZ23 (by decide) (by decide) rfl (Nat.le_of_ble_eq_true rfl) g24.1 g24.2 d_15_57_147 ?_
  refine zast (ci := 14) (k := 47) hx hb hK rfl hZ23 hS23 (by decide) (by decide) rfl (Nat.le_of_ble_eq_true rfl) g22.1 g22.2 d_15_57_148 (fun H25 locs25 hZ25 hS25 => ?_)
  refine lv_aload_n hx hb d_15_57_149 rfl (lv_at hl 0 rfl) ?_
  refine lv_dup hx hb d_15_57_150 rfl ?_
  refine zget (ci := 14) (C := RX14) (T := TX14) (v := .int (iI (F 14 0 48))) (k := 48) hx hb hts inW_14 hown hK hZ25 (by decide) (by decide) rfl (by decide) k_11_46 rfl d_15_57_151 ?_
  refine lv_iconst (v := iI 1) hx hb d_15_57_154 rfl ?_
  refine zadd hx hb d_15_57_155 ?_
  refine zput (ci := 14) (C := RX14) (T := TX14) (k := 48) (v := ((F 14 0 48) + 1)) (w := .int (iI ((F 14 0 48) + 1))) hx hb hts inW_14 tyX14 tyX14_ok nmX14 hown hK hZ25 hS25 (by decide) (by decide) rfl (by decide) k_11_46 rfl (fun G h => congrArg (fun q => Value.int (iI q)) h) rfl rfl (zno (by decide)) d_15_57_156 (fun H26 locs26 hZ26 hS26 => ?_)
  refine lv_aload_n hx hb d_15_57_159 rfl (lv_at hl 0 rfl) ?_
  refine lv_iload_n hx hb d_15_57_160 rfl (lv_at hl 1 rfl) ?_
  refine lv_iconst (v := iI 5) hx hb d_15_57_161 rfl ?_
  refine zadd hx hb d_15_57_162 ?_
  refine lv_aload_n hx hb d_15_57_163 rfl (lv_at hl 0 rfl) ?_
  refine zget (ci := 14) (C := RX14) (T := TX14) (v := .ref (ad 14 0 (30 + 1))) (k := 30) hx hb hts inW_14 hown hK hZ26 (by decide) (by decide) rfl (by decide) k_11_28 rfl d_15_57_164 ?_
  refine lv_iload_n hx hb d_15_57_167 rfl (lv_at hl 1 rfl) ?_
  obtain ⟨g27, hf⟩ := gif hf
  refine zald (ci := 14) (k := 30) hx hb hK rfl hZ26 (by decide) (by decide) rfl (Nat.le_of_ble_eq_true rfl) g27.1 g27.2 d_15_57_168 ?_
  obtain ⟨r28, F28, B28, hc28, hf⟩ := gbind hf
  refine va_callv (va_runV (As := [.int (iI (l1 + 5)), .int (iI ((zup4 (zup4 B 14 0 46 (F 14 0 48) (B 14 0 9 (l1 + 1))) 14 0 47 (F 14 0 48) ((zup4 B 14 0 46 (F 14 0 48) (B 14 0 9 (l1 + 1))) 14 0 9 (l1 + 3))) 14 0 30 l1))]) (rest := []) ⟨hx, hb, hml, hown, hts⟩ (ho.1 hc28) (cwV 2 hts (gdV k_14_207 k_14_209 ks_223 k_1_9 k_14_210) rfl rfl rfl (by decide +kernel) ⟨by dsimp only; omega, by dsimp only; omega⟩) (zPV X hZ26 hS26 (ci := 14) (by decide) (by decide) (r := (RX14, TX14, 107)) rfl [.int (iI (l1 + 5)), .int (iI ((zup4 (zup4 B 14 0 46 (F 14 0 48) (B 14 0 9 (l1 + 1))) 14 0 47 (F 14 0 48) ((zup4 B 14 0 46 (F 14 0 48) (B 14 0 9 (l1 + 1))) 14 0 9 (l1 + 3))) 14 0 30 l1))]) rfl rfl hl.1 rfl (lv_room (Nat.le_of_ble_eq_true rfl)) d_15_57_169 ⟨Nat.le_of_ble_eq_true rfl, Nat.le_of_ble_eq_true rfl⟩) hS26 (fun q _ h => zAin X hS26 q h) (zAin X hS26) (fun u28 t28 H28 locs28 ht28 hv28 hw28 hB28 hz28 hk28 hS28 => ?_)
  have hZ28 := zBack X ht28 hB28
  refine lv_aload_n hx hb d_15_57_172 rfl (lv_at hl 0 rfl) ?_
  refine lv_dup hx hb d_15_57_173 rfl ?_
  refine zget (ci := 14) (C := RX14) (T := TX14) (v := .int (iI (F28 14 0 48))) (k := 48) hx hb hts inW_14 hown hK hZ28 (by decide) (by decide) rfl (by decide) k_11_46 rfl d_15_57_174 ?_
  refine lv_iconst (v := iI 1) hx hb d_15_57_177 rfl ?_
  refine zsub hx hb d_15_57_178 ?_
  refine zput (ci := 14) (C := RX14) (T := TX14) (k := 48) (v := ((F28 14 0 48) - 1)) (w := .int (iI ((F28 14 0 48) - 1))) hx hb hts inW_14 tyX14 tyX14_ok nmX14 hown hK hZ28 hS28 (by decide) (by decide) rfl (by decide) k_11_46 rfl (fun G h => congrArg (fun q => Value.int (iI q)) h) rfl rfl (zno (by decide)) d_15_57_179 (fun H29 locs29 hZ29 hS29 => ?_)
  exact b_M_goSign_182 X ho hf hZ29 hS29 (lv_sub hl [] rfl)

noncomputable def fb_M_goSign (o : oT_W) (K : Nat) (l1 : Int) (F : zF) (B : zB) : zO := if 0 ≤ l1 ∧ l1 < 3001 then if r32 (B 14 0 9 l1) then (if (B 14 0 9 l1) = 33 then if 0 ≤ (l1 + 1) ∧ (l1 + 1) < 3001 then zbind (f_M_find K 14 0 14 8 (B 14 0 11 (l1 + 1)) F B) (fun r19 F19 B19 => f_M_goSign_182 o K (zup3 F19 14 0 40 r19) B19) else none else (if (B 14 0 9 l1) = 124 then if r32 (F 14 0 41) then (if (F 14 0 41) = 0 then if 0 ≤ (F 14 0 6) ∧ (F 14 0 6) < 3 then if r32 (F 13 (F 14 0 6) 4) then if r32 (F 13 (F 14 0 6) 5) then zbind (f_M_isMultiple K (F 14 0 38) (F 14 0 39) (F 13 (F 14 0 6) 4) (F 13 (F 14 0 6) 5) F B) (fun r14 F14 B14 => if r32 r14 then (if r14 = 0 then zbind (f_M_failAt K 7 l1 F14 B14) (fun r17 F17 B17 => f_M_goSign_182 o K F17 B17) else f_M_goSign_182 o K F14 B14) else none) else none else none else none else f_M_goSign_182 o K F B) else none else if r32 (F 14 0 48) then (if (F 14 0 48) = 0 then f_M_goSign_115 o K l1 (zup3 (zup3 F 14 0 49 l1) 14 0 50 ((F 14 0 50) + 1)) B else f_M_goSign_115 o K l1 F B) else none)) else none else none
set_option maxHeartbeats 4000000 in
set_option maxRecDepth 100000 in
theorem cb_M_goSign {l : Launch} {D : va_G} {ca : Nat → ClassId} {ad : Nat → Int → Nat → Nat} {L : List Nat} {aS vS : Nat → Nat} {sz K : Nat} {d : Nat} {o : oT_W} (ho : oH_W l D ca ad L aS vS d o)  {l1 : Int} {F F9 : zF} {B B9 : zB} {r : Int} (hf : fb_M_goSign o K l1 F B = some (r, F9, B9)) : Met l ({ cls := "StaveHouseModel", name := "goSign", desc := "(I)V" } : Jvm.MethodName) (Cond.code ({ cls := "StaveHouseModel", name := "goSign", desc := "(I)V" } : Jvm.MethodName) prog_15_method_57_code 2 (Option.none : Option Jvm.ClassFile.FieldType) :: wAll) ({ frames := d + 1 + 5, cells := 0, slots := 0, locals := 28 * (d + 1) + 116 } : Room) (va_Pc [.ref (ad 14 0 0), .int (iI l1)] (zPre D ca ad lnM nM L aS vS F B sz)) (Q_M_goSign D ca ad L r F9 B9 (zA L sz)) 0 0 (zA L sz) := by
  refine zMet (Qc := Q_M_goSign D ca ad L r F9 B9) (lv := [(0, .ref (ad 14 0 0)), (1, .int (iI l1))]) (by decide) (Nat.le_of_ble_eq_true rfl) rfl (fun A p e s m below meth c ls X hZ hS hl => ?_)
  obtain ⟨hx, hb, hr, hml, hown, hts, hlk, hK, hA, hL, hX⟩ := id X
  replace hf : (if 0 ≤ l1 ∧ l1 < 3001 then if r32 (B 14 0 9 l1) then (if (B 14 0 9 l1) = 33 then if 0 ≤ (l1 + 1) ∧ (l1 + 1) < 3001 then zbind (f_M_find K 14 0 14 8 (B 14 0 11 (l1 + 1)) F B) (fun r19 F19 B19 => f_M_goSign_182 o K (zup3 F19 14 0 40 r19) B19) else none else (if (B 14 0 9 l1) = 124 then if r32 (F 14 0 41) then (if (F 14 0 41) = 0 then if 0 ≤ (F 14 0 6) ∧ (F 14 0 6) < 3 then if r32 (F 13 (F 14 0 6) 4) then if r32 (F 13 (F 14 0 6) 5) then zbind (f_M_isMultiple K (F 14 0 38) (F 14 0 39) (F 13 (F 14 0 6) 4) (F 13 (F 14 0 6) 5) F B) (fun r14 F14 B14 => if r32 r14 then (if r14 = 0 then zbind (f_M_failAt K 7 l1 F14 B14) (fun r17 F17 B17 => f_M_goSign_182 o K F17 B17) else f_M_goSign_182 o K F14 B14) else none) else none else none else none else f_M_goSign_182 o K F B) else none else if r32 (F 14 0 48) then (if (F 14 0 48) = 0 then f_M_goSign_115 o K l1 (zup3 (zup3 F 14 0 49 l1) 14 0 50 ((F 14 0 50) + 1)) B else f_M_goSign_115 o K l1 F B) else none)) else none else none) = some (r, F9, B9) := hf
  refine lv_aload_n hx hb d_15_57_0 rfl (lv_at hl 0 rfl) ?_
  refine zget (ci := 14) (C := RX14) (T := TX14) (v := .ref (ad 14 0 (9 + 1))) (k := 9) hx hb hts inW_14 hown hK hZ (by decide) (by decide) rfl (by decide) k_11_7 rfl d_15_57_1 ?_
  refine lv_iload_n hx hb d_15_57_4 rfl (lv_at hl 1 rfl) ?_
  obtain ⟨g1, hf⟩ := gif hf
  refine zald (ci := 14) (k := 9) hx hb hK rfl hZ (by decide) (by decide) rfl (Nat.le_of_ble_eq_true rfl) g1.1 g1.2 d_15_57_5 ?_
  refine lv_bipush (v := iI 33) hx hb d_15_57_6 (by decide) ?_
  obtain ⟨g2, hf⟩ := gif hf
  refine zne (tgt := 35) hx hb g2 (by decide) d_15_57_8 (by decide) (fun h3 => ?_) (fun h3 => ?_)
  · replace hf := gneg hf h3
    refine lv_aload_n hx hb d_15_57_35 rfl (lv_at hl 0 rfl) ?_
    refine zget (ci := 14) (C := RX14) (T := TX14) (v := .ref (ad 14 0 (9 + 1))) (k := 9) hx hb hts inW_14 hown hK hZ (by decide) (by decide) rfl (by decide) k_11_7 rfl d_15_57_36 ?_
    refine lv_iload_n hx hb d_15_57_39 rfl (lv_at hl 1 rfl) ?_
    refine zald (ci := 14) (k := 9) hx hb hK rfl hZ (by decide) (by decide) rfl (Nat.le_of_ble_eq_true rfl) g1.1 g1.2 d_15_57_40 ?_
    refine lv_bipush (v := iI 124) hx hb d_15_57_41 (by decide) ?_
    refine zne (tgt := 93) hx hb g2 (by decide) d_15_57_43 (by decide) (fun h4 => ?_) (fun h4 => ?_)
    · replace hf := gneg hf h4
      refine lv_aload_n hx hb d_15_57_93 rfl (lv_at hl 0 rfl) ?_
      refine zget (ci := 14) (C := RX14) (T := TX14) (v := .int (iI (F 14 0 48))) (k := 48) hx hb hts inW_14 hown hK hZ (by decide) (by decide) rfl (by decide) k_11_46 rfl d_15_57_94 ?_
      obtain ⟨g5, hf⟩ := gif hf
      refine z0ne (tgt := 115) hx hb g5 d_15_57_97 (by decide) (fun h6 => ?_) (fun h6 => ?_)
      · replace hf := gneg hf h6
        exact b_M_goSign_115 X ho hf hZ hS (lv_sub hl [0, 1] rfl)
      · replace hf := gpos hf h6
        refine lv_aload_n hx hb d_15_57_100 rfl (lv_at hl 0 rfl) ?_
        refine lv_iload_n hx hb d_15_57_101 rfl (lv_at hl 1 rfl) ?_
        refine zput (ci := 14) (C := RX14) (T := TX14) (k := 49) (v := l1) (w := .int (iI l1)) hx hb hts inW_14 tyX14 tyX14_ok nmX14 hown hK hZ hS (by decide) (by decide) rfl (by decide) k_11_47 rfl (fun G h => congrArg (fun q => Value.int (iI q)) h) rfl rfl (zno (by decide)) d_15_57_102 (fun H7 locs7 hZ7 hS7 => ?_)
        refine lv_aload_n hx hb d_15_57_105 rfl (lv_at hl 0 rfl) ?_
        refine lv_dup hx hb d_15_57_106 rfl ?_
        refine zget (ci := 14) (C := RX14) (T := TX14) (v := .int (iI (F 14 0 50))) (k := 50) hx hb hts inW_14 hown hK hZ7 (by decide) (by decide) rfl (by decide) k_11_48 rfl d_15_57_107 ?_
        refine lv_iconst (v := iI 1) hx hb d_15_57_110 rfl ?_
        refine zadd hx hb d_15_57_111 ?_
        refine zput (ci := 14) (C := RX14) (T := TX14) (k := 50) (v := ((F 14 0 50) + 1)) (w := .int (iI ((F 14 0 50) + 1))) hx hb hts inW_14 tyX14 tyX14_ok nmX14 hown hK hZ7 hS7 (by decide) (by decide) rfl (by decide) k_11_48 rfl (fun G h => congrArg (fun q => Value.int (iI q)) h) rfl rfl (zno (by decide)) d_15_57_112 (fun H8 locs8 hZ8 hS8 => ?_)
        exact b_M_goSign_115 X ho hf hZ8 hS8 (lv_sub hl [0, 1] rfl)
    · replace hf := gpos hf h4
      refine lv_aload_n hx hb d_15_57_46 rfl (lv_at hl 0 rfl) ?_
      refine zget (ci := 14) (C := RX14) (T := TX14) (v := .int (iI (F 14 0 41))) (k := 41) hx hb hts inW_14 hown hK hZ (by decide) (by decide) rfl (by decide) k_11_39 rfl d_15_57_47 ?_
      obtain ⟨g9, hf⟩ := gif hf
      refine z0ne (tgt := 182) hx hb g9 d_15_57_50 (by decide) (fun h10 => ?_) (fun h10 => ?_)
      · replace hf := gneg hf h10
        exact b_M_goSign_182 X ho hf hZ hS (lv_sub hl [] rfl)
      · replace hf := gpos hf h10
        refine lv_aload_n hx hb d_15_57_53 rfl (lv_at hl 0 rfl) ?_
        refine zget (ci := 14) (C := RX14) (T := TX14) (v := .long (lI (F 14 0 38))) (k := 38) hx hb hts inW_14 hown hK hZ (by decide) (by decide) rfl (by decide) k_11_36 rfl d_15_57_54 ?_
        refine lv_aload_n hx hb d_15_57_57 rfl (lv_at hl 0 rfl) ?_
        refine zget (ci := 14) (C := RX14) (T := TX14) (v := .long (lI (F 14 0 39))) (k := 39) hx hb hts inW_14 hown hK hZ (by decide) (by decide) rfl (by decide) k_11_37 rfl d_15_57_58 ?_
        refine lv_aload_n hx hb d_15_57_61 rfl (lv_at hl 0 rfl) ?_
        refine zget (ci := 14) (C := RX14) (T := TX14) (v := va_rf (zrf ad 13 (F 14 0 6))) (k := 6) hx hb hts inW_14 hown hK hZ (by decide) (by decide) rfl (by decide) k_11_4 rfl d_15_57_62 ?_
        obtain ⟨g11, hf⟩ := gif hf
        refine zunrf g11.1 ?_
        refine zget (ci := 13) (C := RX13) (T := TX13) (v := .int (iI (F 13 (F 14 0 6) 4))) (k := 4) hx hb hts inW_13 hown hK hZ g11.1 g11.2 rfl (by decide) k_9_129 rfl d_15_57_65 ?_
        obtain ⟨g12, hf⟩ := gif hf
        refine zi2l hx hb g12 d_15_57_68 ?_
        refine lv_aload_n hx hb d_15_57_69 rfl (lv_at hl 0 rfl) ?_
        refine zget (ci := 14) (C := RX14) (T := TX14) (v := va_rf (zrf ad 13 (F 14 0 6))) (k := 6) hx hb hts inW_14 hown hK hZ (by decide) (by decide) rfl (by decide) k_11_4 rfl d_15_57_70 ?_
        refine zunrf g11.1 ?_
        refine zget (ci := 13) (C := RX13) (T := TX13) (v := .int (iI (F 13 (F 14 0 6) 5))) (k := 5) hx hb hts inW_13 hown hK hZ g11.1 g11.2 rfl (by decide) k_9_130 rfl d_15_57_73 ?_
        obtain ⟨g13, hf⟩ := gif hf
        refine zi2l hx hb g13 d_15_57_76 ?_
        obtain ⟨r14, F14, B14, hc14, hf⟩ := gbind hf
        refine va_calli (va_runS (As := [.long (lI (F 14 0 38)), .long (lI (F 14 0 39)), .long (lI (F 13 (F 14 0 6) 4)), .long (lI (F 13 (F 14 0 6) 5))]) (rest := []) ⟨hx, hb, hml, hown, hts⟩ (c_M_isMultiple (l := l) hc14) (va_cwS 4 hts (gdS k_13_185 k_13_186 k_1_9 k_13_187) rfl rfl rfl (by decide +kernel) ⟨by dsimp only; omega, by dsimp only; omega⟩) (zPS X hZ hS [.long (lI (F 14 0 38)), .long (lI (F 14 0 39)), .long (lI (F 13 (F 14 0 6) 4)), .long (lI (F 13 (F 14 0 6) 5))]) rfl rfl hl.1 rfl (lv_room (Nat.le_of_ble_eq_true rfl)) d_15_57_77 ⟨Nat.le_of_ble_eq_true rfl, Nat.le_of_ble_eq_true rfl⟩) hS (fun q _ h => zAin X hS q h) (zAin X hS) (fun p14 u14 t14 H14 locs14 ht14 hv14 hw14 hB14 hz14 hk14 hS14 => ?_)
        have hZ14 := zBack X ht14 hB14
        subst hw14
        obtain ⟨g15, hf⟩ := gif hf
        refine z0ne (tgt := 182) hx hb g15 d_15_57_80 (by decide) (fun h16 => ?_) (fun h16 => ?_)
        · replace hf := gneg hf h16
          exact b_M_goSign_182 X ho hf hZ14 hS14 (lv_sub hl [] rfl)
        · replace hf := gpos hf h16
          refine lv_aload_n hx hb d_15_57_83 rfl (lv_at hl 0 rfl) ?_
          refine lv_bipush (v := iI 7) hx hb d_15_57_84 (by decide) ?_
          refine lv_iload_n hx hb d_15_57_86 rfl (lv_at hl 1 rfl) ?_
          obtain ⟨r17, F17, B17, hc17, hf⟩ := gbind hf
          refine va_callv (va_runV (As := [.int (iI 7), .int (iI l1)]) (rest := []) ⟨hx, hb, hml, hown, hts⟩ (c_M_failAt (l := l) hc17) (cwV 2 hts (gdV k_14_132 k_14_134 ks_205 k_1_9 k_14_135) rfl rfl rfl (by decide +kernel) ⟨by dsimp only; omega, by dsimp only; omega⟩) (zPV X hZ14 hS14 (ci := 14) (by decide) (by decide) (r := (RX14, TX14, 107)) rfl [.int (iI 7), .int (iI l1)]) rfl rfl hl.1 rfl (lv_room (Nat.le_of_ble_eq_true rfl)) d_15_57_87 ⟨Nat.le_of_ble_eq_true rfl, Nat.le_of_ble_eq_true rfl⟩) hS14 (fun q _ h => zAin X hS14 q h) (zAin X hS14) (fun u17 t17 H17 locs17 ht17 hv17 hw17 hB17 hz17 hk17 hS17 => ?_)
          have hZ17 := zBack X ht17 hB17
          refine lv_goto (tgt := 182) hx hb d_15_57_90 (by decide) ?_
          exact b_M_goSign_182 X ho hf hZ17 hS17 (lv_sub hl [] rfl)
  · replace hf := gpos hf h3
    refine lv_aload_n hx hb d_15_57_11 rfl (lv_at hl 0 rfl) ?_
    refine lv_aload_n hx hb d_15_57_12 rfl (lv_at hl 0 rfl) ?_
    refine zget (ci := 14) (C := RX14) (T := TX14) (v := .ref (ad 14 0 (14 + 1))) (k := 14) hx hb hts inW_14 hown hK hZ (by decide) (by decide) rfl (by decide) k_11_12 rfl d_15_57_13 ?_
    refine lv_bipush (v := iI 8) hx hb d_15_57_16 (by decide) ?_
    refine lv_aload_n hx hb d_15_57_18 rfl (lv_at hl 0 rfl) ?_
    refine zget (ci := 14) (C := RX14) (T := TX14) (v := .ref (ad 14 0 (11 + 1))) (k := 11) hx hb hts inW_14 hown hK hZ (by decide) (by decide) rfl (by decide) k_11_9 rfl d_15_57_19 ?_
    refine lv_iload_n hx hb d_15_57_22 rfl (lv_at hl 1 rfl) ?_
    refine lv_iconst (v := iI 1) hx hb d_15_57_23 rfl ?_
    refine zadd hx hb d_15_57_24 ?_
    obtain ⟨g18, hf⟩ := gif hf
    refine zlald (ci := 14) (k := 11) hx hb hK rfl hZ (by decide) (by decide) rfl (Nat.le_of_ble_eq_true rfl) g18.1 g18.2 d_15_57_25 ?_
    obtain ⟨r19, F19, B19, hc19, hf⟩ := gbind hf
    refine va_calli (va_runS (As := [.ref (ad 14 0 (14 + 1)), .int (iI 8), .long (lI (B 14 0 11 (l1 + 1)))]) (rest := [.ref (ad 14 0 0)]) ⟨hx, hb, hml, hown, hts⟩ (c_M_find (l := l) hc19) (va_cwS 3 hts (gdS k_14_156 k_14_157 k_1_9 k_14_158) rfl rfl rfl (by decide +kernel) ⟨by dsimp only; omega, by dsimp only; omega⟩) (zPS X hZ hS [.ref (ad 14 0 (14 + 1)), .int (iI 8), .long (lI (B 14 0 11 (l1 + 1)))]) rfl rfl hl.1 rfl (lv_room (Nat.le_of_ble_eq_true rfl)) d_15_57_26 ⟨Nat.le_of_ble_eq_true rfl, Nat.le_of_ble_eq_true rfl⟩) hS (fun q _ h => zAin X hS q h) (zAin X hS) (fun p19 u19 t19 H19 locs19 ht19 hv19 hw19 hB19 hz19 hk19 hS19 => ?_)
    have hZ19 := zBack X ht19 hB19
    subst hw19
    refine zput (ci := 14) (C := RX14) (T := TX14) (k := 40) (v := r19) (w := .int (iI r19)) hx hb hts inW_14 tyX14 tyX14_ok nmX14 hown hK hZ19 hS19 (by decide) (by decide) rfl (by decide) k_11_38 rfl (fun G h => congrArg (fun q => Value.int (iI q)) h) rfl rfl (zno (by decide)) d_15_57_29 (fun H20 locs20 hZ20 hS20 => ?_)
    refine lv_goto (tgt := 182) hx hb d_15_57_32 (by decide) ?_
    exact b_M_goSign_182 X ho hf hZ20 hS20 (lv_sub hl [] rfl)

noncomputable def f_M_goRepeat_192 (o : oT_W) (K : Nat)  (F : zF) (B : zB) : zO := some (0, F, B)
set_option maxHeartbeats 4000000 in
set_option maxRecDepth 100000 in
theorem b_M_goRepeat_192 {D : va_G} {ca : Nat → ClassId} {ad : Nat → Int → Nat → Nat} {L : List Nat} {aS vS : Nat → Nat} {A : Nat → Prop} {p : Program} {l : Launch} {e : Env} {s : State} {m : MethodId} {args : Array Value} {below : List Frame} {meth : Method} {c : Code} {K : Nat} {r : Int} {F9 : zF} {B9 : zB} {d : Nat} {o : oT_W} (X : zX D ca L aS vS A p s m args meth c prog_15_method_58_code 9 (Option.none : Option Jvm.ClassFile.FieldType) "StaveHouseModel") (ho : oH_W l D ca ad L aS vS d o)  {F : zF} {B : zB} {H : Heap} {locs : List Loc} {ls : Array Slot} (hf : f_M_goRepeat_192 o K  F B = some (r, F9, B9)) (hZ : zH D ca ad lnM nM L F B A H) (hS : va_S A s.heap H locs) (hl : lv_has ls 9 []) : W p l e ({ frames := d + 1 + 5, cells := 0, slots := 0, locals := 28 * (d + 1) + 116 } : Room) s m args below meth c H locs 0 0 (MQ below (Q_M_goRepeat D ca ad L r F9 B9 A) args s 0 0 A) (F0 m 192 ls []) := by
  obtain ⟨hx, hb, hr, hml, hown, hts, hlk, hK, hA, hL, hX⟩ := id X
  replace hf : (some (0, F, B)) = some (r, F9, B9) := hf
  cases hf
  exact W.vret hx hb hr (fun t ht hW => ⟨⟨(), rfl, trivial, by rw [ht]; exact hZ, va_K.moved hW.alike hK⟩, hS.F ht⟩) hS.2.2 d_15_58_192 hlk

noncomputable def f_M_goRepeat_186 (o : oT_W) (rec74 : Int → Int → Int → Int → Int → zF → zB → zO) (K : Nat) (l6 : Int) (l5 : Int) (l3 : Int) (l2 : Int) (l1 : Int) (F : zF) (B : zB) : zO := rec74 (l6 + 1) l5 l3 l2 l1 F B
set_option maxHeartbeats 4000000 in
set_option maxRecDepth 100000 in
theorem b_M_goRepeat_186 {D : va_G} {ca : Nat → ClassId} {ad : Nat → Int → Nat → Nat} {L : List Nat} {aS vS : Nat → Nat} {A : Nat → Prop} {p : Program} {l : Launch} {e : Env} {s : State} {m : MethodId} {args : Array Value} {below : List Frame} {meth : Method} {c : Code} {K : Nat} {r : Int} {F9 : zF} {B9 : zB} {d : Nat} {o : oT_W} (X : zX D ca L aS vS A p s m args meth c prog_15_method_58_code 9 (Option.none : Option Jvm.ClassFile.FieldType) "StaveHouseModel") (ho : oH_W l D ca ad L aS vS d o) {rec74 : Int → Int → Int → Int → Int → zF → zB → zO} (hrec74 : ∀ {l6 : Int} {l5 : Int} {l3 : Int} {l2 : Int} {l1 : Int} {F : zF} {B : zB} {H : Heap} {locs : List Loc} {ls : Array Slot}, rec74 l6 l5 l3 l2 l1 F B = some (r, F9, B9) → zH D ca ad lnM nM L F B A H → va_S A s.heap H locs → lv_has ls 9 [(6, .int (iI l6)), (5, .int (iI l5)), (3, .int (iI l3)), (2, .int (iI l2)), (0, .ref (ad 14 0 0)), (1, .int (iI l1))] → W p l e ({ frames := d + 1 + 5, cells := 0, slots := 0, locals := 28 * (d + 1) + 116 } : Room) s m args below meth c H locs 0 0 (MQ below (Q_M_goRepeat D ca ad L r F9 B9 A) args s 0 0 A) (F0 m 74 ls [])) {l6 : Int} {l5 : Int} {l3 : Int} {l2 : Int} {l1 : Int} {F : zF} {B : zB} {H : Heap} {locs : List Loc} {ls : Array Slot} (hf : f_M_goRepeat_186 o rec74 K l6 l5 l3 l2 l1 F B = some (r, F9, B9)) (hZ : zH D ca ad lnM nM L F B A H) (hS : va_S A s.heap H locs) (hl : lv_has ls 9 [(6, .int (iI l6)), (5, .int (iI l5)), (3, .int (iI l3)), (2, .int (iI l2)), (0, .ref (ad 14 0 0)), (1, .int (iI l1))]) : W p l e ({ frames := d + 1 + 5, cells := 0, slots := 0, locals := 28 * (d + 1) + 116 } : Room) s m args below meth c H locs 0 0 (MQ below (Q_M_goRepeat D ca ad L r F9 B9 A) args s 0 0 A) (F0 m 186 ls []) := by
  obtain ⟨hx, hb, hr, hml, hown, hts, hlk, hK, hA, hL, hX⟩ := id X
  replace hf : (rec74 (l6 + 1) l5 l3 l2 l1 F B) = some (r, F9, B9) := hf
  refine lv_iinc (v := iI (l6 + 1)) (lv' := [(6, .int (iI (l6 + 1))), (5, .int (iI l5)), (3, .int (iI l3)), (2, .int (iI l2)), (0, .ref (ad 14 0 0)), (1, .int (iI l1))]) hx hb d_15_58_186 hl (k := 0) rfl (iI_add _ 1) (by decide) rfl (fun ls hl => ?_)
  refine lv_goto (tgt := 74) hx hb d_15_58_189 (by decide) ?_
  exact hrec74 hf hZ hS (lv_sub hl [0, 1, 2, 3, 4, 5] rfl)

noncomputable def f_M_goRepeat_166 (o : oT_W) (rec74 : Int → Int → Int → Int → Int → zF → zB → zO) (K : Nat) (l7 : Int) (l6 : Int) (l5 : Int) (l3 : Int) (l2 : Int) (l1 : Int) (F : zF) (B : zB) : zO := zbind (f_M_counts K l1 F B) (fun r35 F35 B35 => if 0 ≤ l7 ∧ l7 < 3001 then zbind (o.1 (l7 + 1) (B35 14 0 30 l7) F35 B35) (fun r37 F37 B37 => f_M_goRepeat_186 o rec74 K l6 l5 l3 l2 l1 F37 B37) else none)
set_option maxHeartbeats 4000000 in
set_option maxRecDepth 100000 in
theorem b_M_goRepeat_166 {D : va_G} {ca : Nat → ClassId} {ad : Nat → Int → Nat → Nat} {L : List Nat} {aS vS : Nat → Nat} {A : Nat → Prop} {p : Program} {l : Launch} {e : Env} {s : State} {m : MethodId} {args : Array Value} {below : List Frame} {meth : Method} {c : Code} {K : Nat} {r : Int} {F9 : zF} {B9 : zB} {d : Nat} {o : oT_W} (X : zX D ca L aS vS A p s m args meth c prog_15_method_58_code 9 (Option.none : Option Jvm.ClassFile.FieldType) "StaveHouseModel") (ho : oH_W l D ca ad L aS vS d o) {rec74 : Int → Int → Int → Int → Int → zF → zB → zO} (hrec74 : ∀ {l6 : Int} {l5 : Int} {l3 : Int} {l2 : Int} {l1 : Int} {F : zF} {B : zB} {H : Heap} {locs : List Loc} {ls : Array Slot}, rec74 l6 l5 l3 l2 l1 F B = some (r, F9, B9) → zH D ca ad lnM nM L F B A H → va_S A s.heap H locs → lv_has ls 9 [(6, .int (iI l6)), (5, .int (iI l5)), (3, .int (iI l3)), (2, .int (iI l2)), (0, .ref (ad 14 0 0)), (1, .int (iI l1))] → W p l e ({ frames := d + 1 + 5, cells := 0, slots := 0, locals := 28 * (d + 1) + 116 } : Room) s m args below meth c H locs 0 0 (MQ below (Q_M_goRepeat D ca ad L r F9 B9 A) args s 0 0 A) (F0 m 74 ls [])) {l7 : Int} {l6 : Int} {l5 : Int} {l3 : Int} {l2 : Int} {l1 : Int} {F : zF} {B : zB} {H : Heap} {locs : List Loc} {ls : Array Slot} (hf : f_M_goRepeat_166 o rec74 K l7 l6 l5 l3 l2 l1 F B = some (r, F9, B9)) (hZ : zH D ca ad lnM nM L F B A H) (hS : va_S A s.heap H locs) (hl : lv_has ls 9 [(7, .int (iI l7)), (6, .int (iI l6)), (5, .int (iI l5)), (3, .int (iI l3)), (2, .int (iI l2)), (0, .ref (ad 14 0 0)), (1, .int (iI l1))]) : W p l e ({ frames := d + 1 + 5, cells := 0, slots := 0, locals := 28 * (d + 1) + 116 } : Room) s m args below meth c H locs 0 0 (MQ below (Q_M_goRepeat D ca ad L r F9 B9 A) args s 0 0 A) (F0 m 166 ls []) := by
  obtain ⟨hx, hb, hr, hml, hown, hts, hlk, hK, hA, hL, hX⟩ := id X
  replace hf : (zbind (f_M_counts K l1 F B) (fun r35 F35 B35 => if 0 ≤ l7 ∧ l7 < 3001 then zbind (o.1 (l7 + 1) (B35 14 0 30 l7) F35 B35) (fun r37 F37 B37 => f_M_goRepeat_186 o rec74 K l6 l5 l3 l2 l1 F37 B37) else none)) = some (r, F9, B9) := hf
  refine lv_aload_n hx hb d_15_58_166 rfl (lv_at hl 5 rfl) ?_
  refine lv_iload_n hx hb d_15_58_167 rfl (lv_at hl 6 rfl) ?_
  obtain ⟨r35, F35, B35, hc35, hf⟩ := gbind hf
  refine va_callv (va_runV (As := [.int (iI l1)]) (rest := []) ⟨hx, hb, hml, hown, hts⟩ (c_M_counts (l := l) hc35) (cwV 1 hts (gdV k_14_211 k_14_213 ks_224 k_1_9 k_14_214) rfl rfl rfl (by decide +kernel) ⟨by dsimp only; omega, by dsimp only; omega⟩) (zPV X hZ hS (ci := 14) (by decide) (by decide) (r := (RX14, TX14, 107)) rfl [.int (iI l1)]) rfl rfl hl.1 rfl (lv_room (Nat.le_of_ble_eq_true rfl)) d_15_58_168 ⟨Nat.le_of_ble_eq_true rfl, Nat.le_of_ble_eq_true rfl⟩) hS (fun q _ h => zAin X hS q h) (zAin X hS) (fun u35 t35 H35 locs35 ht35 hv35 hw35 hB35 hz35 hk35 hS35 => ?_)
  have hZ35 := zBack X ht35 hB35
  refine lv_aload_n hx hb d_15_58_171 rfl (lv_at hl 5 rfl) ?_
  refine lv_iload hx hb d_15_58_172 (lv_at hl 0 rfl) ?_
  refine lv_iconst (v := iI 1) hx hb d_15_58_174 rfl ?_
  refine zadd hx hb d_15_58_175 ?_
  refine lv_aload_n hx hb d_15_58_176 rfl (lv_at hl 5 rfl) ?_
  refine zget (ci := 14) (C := RX14) (T := TX14) (v := .ref (ad 14 0 (30 + 1))) (k := 30) hx hb hts inW_14 hown hK hZ35 (by decide) (by decide) rfl (by decide) k_11_28 rfl d_15_58_177 ?_
  refine lv_iload hx hb d_15_58_180 (lv_at hl 0 rfl) ?_
  obtain ⟨g36, hf⟩ := gif hf
  refine zald (ci := 14) (k := 30) hx hb hK rfl hZ35 (by decide) (by decide) rfl (Nat.le_of_ble_eq_true rfl) g36.1 g36.2 d_15_58_182 ?_
  obtain ⟨r37, F37, B37, hc37, hf⟩ := gbind hf
  refine va_callv (va_runV (As := [.int (iI (l7 + 1)), .int (iI (B35 14 0 30 l7))]) (rest := []) ⟨hx, hb, hml, hown, hts⟩ (ho.1 hc37) (cwV 2 hts (gdV k_14_207 k_14_209 ks_223 k_1_9 k_14_210) rfl rfl rfl (by decide +kernel) ⟨by dsimp only; omega, by dsimp only; omega⟩) (zPV X hZ35 hS35 (ci := 14) (by decide) (by decide) (r := (RX14, TX14, 107)) rfl [.int (iI (l7 + 1)), .int (iI (B35 14 0 30 l7))]) rfl rfl hl.1 rfl (lv_room (Nat.le_of_ble_eq_true rfl)) d_15_58_183 ⟨Nat.le_of_ble_eq_true rfl, Nat.le_of_ble_eq_true rfl⟩) hS35 (fun q _ h => zAin X hS35 q h) (zAin X hS35) (fun u37 t37 H37 locs37 ht37 hv37 hw37 hB37 hz37 hk37 hS37 => ?_)
  have hZ37 := zBack X ht37 hB37
  exact b_M_goRepeat_186 X ho hrec74 hf hZ37 hS37 (lv_sub hl [1, 2, 3, 4, 5, 6] rfl)

noncomputable def f_M_goRepeat_135 (o : oT_W) (rec74 : Int → Int → Int → Int → Int → zF → zB → zO) (K : Nat) : Nat → Int → Int → Int → Int → Int → Int → Int → zF → zB → zO
  | 0, _, _, _, _, _, _, _, _, _ => none
  | n + 1, l8, l7, l6, l5, l3, l2, l1, F, B => if r32 l8 then if r32 l6 then (if l6 ≤ l8 then f_M_goRepeat_166 o rec74 K l7 l6 l5 l3 l2 l1 F B else if r32 l5 then (if l5 ≤ l8 then f_M_goRepeat_166 o rec74 K l7 l6 l5 l3 l2 l1 F B else if 0 ≤ l7 ∧ l7 < 3001 then f_M_goRepeat_135 o rec74 K n (l8 + 1) ((B 14 0 30 l7) + 1) l6 l5 l3 l2 l1 F B else none) else none) else none else none
set_option maxHeartbeats 4000000 in
set_option maxRecDepth 100000 in
theorem b_M_goRepeat_135 {D : va_G} {ca : Nat → ClassId} {ad : Nat → Int → Nat → Nat} {L : List Nat} {aS vS : Nat → Nat} {A : Nat → Prop} {p : Program} {l : Launch} {e : Env} {s : State} {m : MethodId} {args : Array Value} {below : List Frame} {meth : Method} {c : Code} {K : Nat} {r : Int} {F9 : zF} {B9 : zB} {d : Nat} {o : oT_W} (X : zX D ca L aS vS A p s m args meth c prog_15_method_58_code 9 (Option.none : Option Jvm.ClassFile.FieldType) "StaveHouseModel") (ho : oH_W l D ca ad L aS vS d o) {rec74 : Int → Int → Int → Int → Int → zF → zB → zO} (hrec74 : ∀ {l6 : Int} {l5 : Int} {l3 : Int} {l2 : Int} {l1 : Int} {F : zF} {B : zB} {H : Heap} {locs : List Loc} {ls : Array Slot}, rec74 l6 l5 l3 l2 l1 F B = some (r, F9, B9) → zH D ca ad lnM nM L F B A H → va_S A s.heap H locs → lv_has ls 9 [(6, .int (iI l6)), (5, .int (iI l5)), (3, .int (iI l3)), (2, .int (iI l2)), (0, .ref (ad 14 0 0)), (1, .int (iI l1))] → W p l e ({ frames := d + 1 + 5, cells := 0, slots := 0, locals := 28 * (d + 1) + 116 } : Room) s m args below meth c H locs 0 0 (MQ below (Q_M_goRepeat D ca ad L r F9 B9 A) args s 0 0 A) (F0 m 74 ls [])) : ∀ {n : Nat} {l8 : Int} {l7 : Int} {l6 : Int} {l5 : Int} {l3 : Int} {l2 : Int} {l1 : Int} {F : zF} {B : zB} {H : Heap} {locs : List Loc} {ls : Array Slot}, f_M_goRepeat_135 o rec74 K n l8 l7 l6 l5 l3 l2 l1 F B = some (r, F9, B9) → zH D ca ad lnM nM L F B A H → va_S A s.heap H locs → lv_has ls 9 [(8, .int (iI l8)), (7, .int (iI l7)), (6, .int (iI l6)), (5, .int (iI l5)), (3, .int (iI l3)), (2, .int (iI l2)), (0, .ref (ad 14 0 0)), (1, .int (iI l1))] → W p l e ({ frames := d + 1 + 5, cells := 0, slots := 0, locals := 28 * (d + 1) + 116 } : Room) s m args below meth c H locs 0 0 (MQ below (Q_M_goRepeat D ca ad L r F9 B9 A) args s 0 0 A) (F0 m 135 ls []) := by
  obtain ⟨hx, hb, hr, hml, hown, hts, hlk, hK, hA, hL, hX⟩ := id X
  intro n
  induction n with
  | zero =>
    intros
    rename_i hf _ _ _
    cases hf
  | succ n ih =>
    intro l8 l7 l6 l5 l3 l2 l1 F B H locs ls hf hZ hS hl
    replace hf : (if r32 l8 then if r32 l6 then (if l6 ≤ l8 then f_M_goRepeat_166 o rec74 K l7 l6 l5 l3 l2 l1 F B else if r32 l5 then (if l5 ≤ l8 then f_M_goRepeat_166 o rec74 K l7 l6 l5 l3 l2 l1 F B else if 0 ≤ l7 ∧ l7 < 3001 then f_M_goRepeat_135 o rec74 K n (l8 + 1) ((B 14 0 30 l7) + 1) l6 l5 l3 l2 l1 F B else none) else none) else none else none) = some (r, F9, B9) := hf
    refine lv_iload hx hb d_15_58_135 (lv_at hl 0 rfl) ?_
    refine lv_iload hx hb d_15_58_137 (lv_at hl 2 rfl) ?_
    obtain ⟨g28, hf⟩ := gif hf
    obtain ⟨g29, hf⟩ := gif hf
    refine zge (tgt := 166) hx hb g28 g29 d_15_58_139 (by decide) (fun h30 => ?_) (fun h30 => ?_)
    · replace hf := gpos hf h30
      exact b_M_goRepeat_166 X ho hrec74 hf hZ hS (lv_sub hl [1, 2, 3, 4, 5, 6, 7] rfl)
    · replace hf := gneg hf h30
      refine lv_iload hx hb d_15_58_142 (lv_at hl 0 rfl) ?_
      refine lv_iload hx hb d_15_58_144 (lv_at hl 3 rfl) ?_
      obtain ⟨g31, hf⟩ := gif hf
      refine zge (tgt := 166) hx hb g28 g31 d_15_58_146 (by decide) (fun h33 => ?_) (fun h33 => ?_)
      · replace hf := gpos hf h33
        exact b_M_goRepeat_166 X ho hrec74 hf hZ hS (lv_sub hl [1, 2, 3, 4, 5, 6, 7] rfl)
      · replace hf := gneg hf h33
        refine lv_aload_n hx hb d_15_58_149 rfl (lv_at hl 6 rfl) ?_
        refine zget (ci := 14) (C := RX14) (T := TX14) (v := .ref (ad 14 0 (30 + 1))) (k := 30) hx hb hts inW_14 hown hK hZ (by decide) (by decide) rfl (by decide) k_11_28 rfl d_15_58_150 ?_
        refine lv_iload hx hb d_15_58_153 (lv_at hl 1 rfl) ?_
        obtain ⟨g34, hf⟩ := gif hf
        refine zald (ci := 14) (k := 30) hx hb hK rfl hZ (by decide) (by decide) rfl (Nat.le_of_ble_eq_true rfl) g34.1 g34.2 d_15_58_155 ?_
        refine lv_iconst (v := iI 1) hx hb d_15_58_156 rfl ?_
        refine zadd hx hb d_15_58_157 ?_
        refine lv_istore (lv' := [(7, .int (iI ((B 14 0 30 l7) + 1))), (8, .int (iI l8)), (6, .int (iI l6)), (5, .int (iI l5)), (3, .int (iI l3)), (2, .int (iI l2)), (0, .ref (ad 14 0 0)), (1, .int (iI l1))]) hx hb d_15_58_158 hl (by decide) rfl (fun ls hl => ?_)
        refine lv_iinc (v := iI (l8 + 1)) (lv' := [(8, .int (iI (l8 + 1))), (7, .int (iI ((B 14 0 30 l7) + 1))), (6, .int (iI l6)), (5, .int (iI l5)), (3, .int (iI l3)), (2, .int (iI l2)), (0, .ref (ad 14 0 0)), (1, .int (iI l1))]) hx hb d_15_58_160 hl (k := 1) rfl (iI_add _ 1) (by decide) rfl (fun ls hl => ?_)
        refine lv_goto (tgt := 135) hx hb d_15_58_163 (by decide) ?_
        exact ih hf hZ hS (lv_sub hl [0, 1, 2, 3, 4, 5, 6, 7] rfl)

noncomputable def f_M_goRepeat_74 (o : oT_W) (K : Nat) : Nat → Int → Int → Int → Int → Int → zF → zB → zO
  | 0, _, _, _, _, _, _, _ => none
  | n + 1, l6, l5, l3, l2, l1, F, B => if 0 ≤ (l1 + 1) ∧ (l1 + 1) < 3001 then if r32 l6 then if r32 (B 14 0 9 (l1 + 1)) then (if (B 14 0 9 (l1 + 1)) < l6 then f_M_goRepeat_192 o K F B else zbind (f_M_good K F B) (fun r17 F17 B17 => if r32 r17 then (if r17 = 0 then f_M_goRepeat_192 o K F17 B17 else zbind (f_M_counts K l1 F17 B17) (fun r20 F20 B20 => if 0 ≤ l2 ∧ l2 < 3001 then zbind (o.1 (l2 + 1) (B20 14 0 30 l2) F20 B20) (fun r22 F22 B22 => if r32 l5 then (if l5 = 0 then f_M_goRepeat_186 o (f_M_goRepeat_74 o K n) K l6 l5 l3 l2 l1 F22 B22 else zbind (f_M_good K F22 B22) (fun r25 F25 B25 => if r32 r25 then (if r25 = 0 then f_M_goRepeat_186 o (f_M_goRepeat_74 o K n) K l6 l5 l3 l2 l1 F25 B25 else f_M_goRepeat_135 o (f_M_goRepeat_74 o K n) K K 1 (l3 + 1) l6 l5 l3 l2 l1 F25 B25) else none)) else none) else none)) else none)) else none else none else none
set_option maxHeartbeats 4000000 in
set_option maxRecDepth 100000 in
theorem b_M_goRepeat_74 {D : va_G} {ca : Nat → ClassId} {ad : Nat → Int → Nat → Nat} {L : List Nat} {aS vS : Nat → Nat} {A : Nat → Prop} {p : Program} {l : Launch} {e : Env} {s : State} {m : MethodId} {args : Array Value} {below : List Frame} {meth : Method} {c : Code} {K : Nat} {r : Int} {F9 : zF} {B9 : zB} {d : Nat} {o : oT_W} (X : zX D ca L aS vS A p s m args meth c prog_15_method_58_code 9 (Option.none : Option Jvm.ClassFile.FieldType) "StaveHouseModel") (ho : oH_W l D ca ad L aS vS d o) : ∀ {n : Nat} {l6 : Int} {l5 : Int} {l3 : Int} {l2 : Int} {l1 : Int} {F : zF} {B : zB} {H : Heap} {locs : List Loc} {ls : Array Slot}, f_M_goRepeat_74 o K n l6 l5 l3 l2 l1 F B = some (r, F9, B9) → zH D ca ad lnM nM L F B A H → va_S A s.heap H locs → lv_has ls 9 [(6, .int (iI l6)), (5, .int (iI l5)), (3, .int (iI l3)), (2, .int (iI l2)), (0, .ref (ad 14 0 0)), (1, .int (iI l1))] → W p l e ({ frames := d + 1 + 5, cells := 0, slots := 0, locals := 28 * (d + 1) + 116 } : Room) s m args below meth c H locs 0 0 (MQ below (Q_M_goRepeat D ca ad L r F9 B9 A) args s 0 0 A) (F0 m 74 ls []) := by
  obtain ⟨hx, hb, hr, hml, hown, hts, hlk, hK, hA, hL, hX⟩ := id X
  intro n
  induction n with
  | zero =>
    intros
    rename_i hf _ _ _
    cases hf
  | succ n ih =>
    intro l6 l5 l3 l2 l1 F B H locs ls hf hZ hS hl
    replace hf : (if 0 ≤ (l1 + 1) ∧ (l1 + 1) < 3001 then if r32 l6 then if r32 (B 14 0 9 (l1 + 1)) then (if (B 14 0 9 (l1 + 1)) < l6 then f_M_goRepeat_192 o K F B else zbind (f_M_good K F B) (fun r17 F17 B17 => if r32 r17 then (if r17 = 0 then f_M_goRepeat_192 o K F17 B17 else zbind (f_M_counts K l1 F17 B17) (fun r20 F20 B20 => if 0 ≤ l2 ∧ l2 < 3001 then zbind (o.1 (l2 + 1) (B20 14 0 30 l2) F20 B20) (fun r22 F22 B22 => if r32 l5 then (if l5 = 0 then f_M_goRepeat_186 o (f_M_goRepeat_74 o K n) K l6 l5 l3 l2 l1 F22 B22 else zbind (f_M_good K F22 B22) (fun r25 F25 B25 => if r32 r25 then (if r25 = 0 then f_M_goRepeat_186 o (f_M_goRepeat_74 o K n) K l6 l5 l3 l2 l1 F25 B25 else f_M_goRepeat_135 o (f_M_goRepeat_74 o K n) K K 1 (l3 + 1) l6 l5 l3 l2 l1 F25 B25) else none)) else none) else none)) else none)) else none else none else none) = some (r, F9, B9) := hf
    refine lv_iload hx hb d_15_58_74 (lv_at hl 0 rfl) ?_
    refine lv_aload_n hx hb d_15_58_76 rfl (lv_at hl 4 rfl) ?_
    refine zget (ci := 14) (C := RX14) (T := TX14) (v := .ref (ad 14 0 (9 + 1))) (k := 9) hx hb hts inW_14 hown hK hZ (by decide) (by decide) rfl (by decide) k_11_7 rfl d_15_58_77 ?_
    refine lv_iload_n hx hb d_15_58_80 rfl (lv_at hl 5 rfl) ?_
    refine lv_iconst (v := iI 1) hx hb d_15_58_81 rfl ?_
    refine zadd hx hb d_15_58_82 ?_
    obtain ⟨g13, hf⟩ := gif hf
    refine zald (ci := 14) (k := 9) hx hb hK rfl hZ (by decide) (by decide) rfl (Nat.le_of_ble_eq_true rfl) g13.1 g13.2 d_15_58_83 ?_
    obtain ⟨g14, hf⟩ := gif hf
    obtain ⟨g15, hf⟩ := gif hf
    refine zgt (tgt := 192) hx hb g14 g15 d_15_58_84 (by decide) (fun h16 => ?_) (fun h16 => ?_)
    · replace hf := gpos hf h16
      exact b_M_goRepeat_192 X ho hf hZ hS (lv_sub hl [] rfl)
    · replace hf := gneg hf h16
      refine lv_aload_n hx hb d_15_58_87 rfl (lv_at hl 4 rfl) ?_
      obtain ⟨r17, F17, B17, hc17, hf⟩ := gbind hf
      refine va_calli (va_runV (As := []) (rest := []) ⟨hx, hb, hml, hown, hts⟩ (c_M_good (l := l) hc17) (cwV 0 hts (gdV k_13_15 k_13_17 ks_152 k_1_9 k_13_18) rfl rfl rfl (by decide +kernel) ⟨by dsimp only; omega, by dsimp only; omega⟩) (zPV X hZ hS (ci := 14) (by decide) (by decide) (r := (RX14, TX14, 107)) rfl []) rfl rfl hl.1 rfl (lv_room (Nat.le_of_ble_eq_true rfl)) d_15_58_88 ⟨Nat.le_of_ble_eq_true rfl, Nat.le_of_ble_eq_true rfl⟩) hS (fun q _ h => zAin X hS q h) (zAin X hS) (fun p17 u17 t17 H17 locs17 ht17 hv17 hw17 hB17 hz17 hk17 hS17 => ?_)
      have hZ17 := zBack X ht17 hB17
      subst hw17
      obtain ⟨g18, hf⟩ := gif hf
      refine z0eq (tgt := 192) hx hb g18 d_15_58_91 (by decide) (fun h19 => ?_) (fun h19 => ?_)
      · replace hf := gpos hf h19
        exact b_M_goRepeat_192 X ho hf hZ17 hS17 (lv_sub hl [] rfl)
      · replace hf := gneg hf h19
        refine lv_aload_n hx hb d_15_58_94 rfl (lv_at hl 4 rfl) ?_
        refine lv_iload_n hx hb d_15_58_95 rfl (lv_at hl 5 rfl) ?_
        obtain ⟨r20, F20, B20, hc20, hf⟩ := gbind hf
        refine va_callv (va_runV (As := [.int (iI l1)]) (rest := []) ⟨hx, hb, hml, hown, hts⟩ (c_M_counts (l := l) hc20) (cwV 1 hts (gdV k_14_211 k_14_213 ks_224 k_1_9 k_14_214) rfl rfl rfl (by decide +kernel) ⟨by dsimp only; omega, by dsimp only; omega⟩) (zPV X hZ17 hS17 (ci := 14) (by decide) (by decide) (r := (RX14, TX14, 107)) rfl [.int (iI l1)]) rfl rfl hl.1 rfl (lv_room (Nat.le_of_ble_eq_true rfl)) d_15_58_96 ⟨Nat.le_of_ble_eq_true rfl, Nat.le_of_ble_eq_true rfl⟩) hS17 (fun q _ h => zAin X hS17 q h) (zAin X hS17) (fun u20 t20 H20 locs20 ht20 hv20 hw20 hB20 hz20 hk20 hS20 => ?_)
        have hZ20 := zBack X ht20 hB20
        refine lv_aload_n hx hb d_15_58_99 rfl (lv_at hl 4 rfl) ?_
        refine lv_iload_n hx hb d_15_58_100 rfl (lv_at hl 3 rfl) ?_
        refine lv_iconst (v := iI 1) hx hb d_15_58_101 rfl ?_
        refine zadd hx hb d_15_58_102 ?_
        refine lv_aload_n hx hb d_15_58_103 rfl (lv_at hl 4 rfl) ?_
        refine zget (ci := 14) (C := RX14) (T := TX14) (v := .ref (ad 14 0 (30 + 1))) (k := 30) hx hb hts inW_14 hown hK hZ20 (by decide) (by decide) rfl (by decide) k_11_28 rfl d_15_58_104 ?_
        refine lv_iload_n hx hb d_15_58_107 rfl (lv_at hl 3 rfl) ?_
        obtain ⟨g21, hf⟩ := gif hf
        refine zald (ci := 14) (k := 30) hx hb hK rfl hZ20 (by decide) (by decide) rfl (Nat.le_of_ble_eq_true rfl) g21.1 g21.2 d_15_58_108 ?_
        obtain ⟨r22, F22, B22, hc22, hf⟩ := gbind hf
        refine va_callv (va_runV (As := [.int (iI (l2 + 1)), .int (iI (B20 14 0 30 l2))]) (rest := []) ⟨hx, hb, hml, hown, hts⟩ (ho.1 hc22) (cwV 2 hts (gdV k_14_207 k_14_209 ks_223 k_1_9 k_14_210) rfl rfl rfl (by decide +kernel) ⟨by dsimp only; omega, by dsimp only; omega⟩) (zPV X hZ20 hS20 (ci := 14) (by decide) (by decide) (r := (RX14, TX14, 107)) rfl [.int (iI (l2 + 1)), .int (iI (B20 14 0 30 l2))]) rfl rfl hl.1 rfl (lv_room (Nat.le_of_ble_eq_true rfl)) d_15_58_109 ⟨Nat.le_of_ble_eq_true rfl, Nat.le_of_ble_eq_true rfl⟩) hS20 (fun q _ h => zAin X hS20 q h) (zAin X hS20) (fun u22 t22 H22 locs22 ht22 hv22 hw22 hB22 hz22 hk22 hS22 => ?_)
        have hZ22 := zBack X ht22 hB22
        refine lv_iload hx hb d_15_58_112 (lv_at hl 1 rfl) ?_
        obtain ⟨g23, hf⟩ := gif hf
        refine z0eq (tgt := 186) hx hb g23 d_15_58_114 (by decide) (fun h24 => ?_) (fun h24 => ?_)
        · replace hf := gpos hf h24
          exact b_M_goRepeat_186 X ho ih hf hZ22 hS22 (lv_sub hl [0, 1, 2, 3, 4, 5] rfl)
        · replace hf := gneg hf h24
          refine lv_aload_n hx hb d_15_58_117 rfl (lv_at hl 4 rfl) ?_
          obtain ⟨r25, F25, B25, hc25, hf⟩ := gbind hf
          refine va_calli (va_runV (As := []) (rest := []) ⟨hx, hb, hml, hown, hts⟩ (c_M_good (l := l) hc25) (cwV 0 hts (gdV k_13_15 k_13_17 ks_152 k_1_9 k_13_18) rfl rfl rfl (by decide +kernel) ⟨by dsimp only; omega, by dsimp only; omega⟩) (zPV X hZ22 hS22 (ci := 14) (by decide) (by decide) (r := (RX14, TX14, 107)) rfl []) rfl rfl hl.1 rfl (lv_room (Nat.le_of_ble_eq_true rfl)) d_15_58_118 ⟨Nat.le_of_ble_eq_true rfl, Nat.le_of_ble_eq_true rfl⟩) hS22 (fun q _ h => zAin X hS22 q h) (zAin X hS22) (fun p25 u25 t25 H25 locs25 ht25 hv25 hw25 hB25 hz25 hk25 hS25 => ?_)
          have hZ25 := zBack X ht25 hB25
          subst hw25
          obtain ⟨g26, hf⟩ := gif hf
          refine z0ne (tgt := 127) hx hb g26 d_15_58_121 (by decide) (fun h27 => ?_) (fun h27 => ?_)
          · replace hf := gneg hf h27
            refine lv_iload_n hx hb d_15_58_127 rfl (lv_at hl 2 rfl) ?_
            refine lv_iconst (v := iI 1) hx hb d_15_58_128 rfl ?_
            refine zadd hx hb d_15_58_129 ?_
            refine lv_istore (lv' := [(7, .int (iI (l3 + 1))), (6, .int (iI l6)), (5, .int (iI l5)), (3, .int (iI l3)), (2, .int (iI l2)), (0, .ref (ad 14 0 0)), (1, .int (iI l1))]) hx hb d_15_58_130 hl (by decide) rfl (fun ls hl => ?_)
            refine lv_iconst (v := iI 1) hx hb d_15_58_132 rfl ?_
            refine lv_istore (lv' := [(8, .int (iI 1)), (7, .int (iI (l3 + 1))), (6, .int (iI l6)), (5, .int (iI l5)), (3, .int (iI l3)), (2, .int (iI l2)), (0, .ref (ad 14 0 0)), (1, .int (iI l1))]) hx hb d_15_58_133 hl (by decide) rfl (fun ls hl => ?_)
            exact b_M_goRepeat_135 X ho ih hf hZ25 hS25 (lv_sub hl [0, 1, 2, 3, 4, 5, 6, 7] rfl)
          · replace hf := gpos hf h27
            refine lv_goto (tgt := 186) hx hb d_15_58_124 (by decide) ?_
            exact b_M_goRepeat_186 X ho ih hf hZ25 hS25 (lv_sub hl [0, 1, 2, 3, 4, 5] rfl)

noncomputable def f_M_goRepeat_71 (o : oT_W) (K : Nat) (l5 : Int) (l3 : Int) (l2 : Int) (l1 : Int) (F : zF) (B : zB) : zO := f_M_goRepeat_74 o K K 1 l5 l3 l2 l1 F B
set_option maxHeartbeats 4000000 in
set_option maxRecDepth 100000 in
theorem b_M_goRepeat_71 {D : va_G} {ca : Nat → ClassId} {ad : Nat → Int → Nat → Nat} {L : List Nat} {aS vS : Nat → Nat} {A : Nat → Prop} {p : Program} {l : Launch} {e : Env} {s : State} {m : MethodId} {args : Array Value} {below : List Frame} {meth : Method} {c : Code} {K : Nat} {r : Int} {F9 : zF} {B9 : zB} {d : Nat} {o : oT_W} (X : zX D ca L aS vS A p s m args meth c prog_15_method_58_code 9 (Option.none : Option Jvm.ClassFile.FieldType) "StaveHouseModel") (ho : oH_W l D ca ad L aS vS d o) {l5 : Int} {l3 : Int} {l2 : Int} {l1 : Int} {F : zF} {B : zB} {H : Heap} {locs : List Loc} {ls : Array Slot} (hf : f_M_goRepeat_71 o K l5 l3 l2 l1 F B = some (r, F9, B9)) (hZ : zH D ca ad lnM nM L F B A H) (hS : va_S A s.heap H locs) (hl : lv_has ls 9 [(5, .int (iI l5)), (3, .int (iI l3)), (2, .int (iI l2)), (0, .ref (ad 14 0 0)), (1, .int (iI l1))]) : W p l e ({ frames := d + 1 + 5, cells := 0, slots := 0, locals := 28 * (d + 1) + 116 } : Room) s m args below meth c H locs 0 0 (MQ below (Q_M_goRepeat D ca ad L r F9 B9 A) args s 0 0 A) (F0 m 71 ls []) := by
  obtain ⟨hx, hb, hr, hml, hown, hts, hlk, hK, hA, hL, hX⟩ := id X
  replace hf : (f_M_goRepeat_74 o K K 1 l5 l3 l2 l1 F B) = some (r, F9, B9) := hf
  refine lv_iconst (v := iI 1) hx hb d_15_58_71 rfl ?_
  refine lv_istore (lv' := [(6, .int (iI 1)), (5, .int (iI l5)), (3, .int (iI l3)), (2, .int (iI l2)), (0, .ref (ad 14 0 0)), (1, .int (iI l1))]) hx hb d_15_58_72 hl (by decide) rfl (fun ls hl => ?_)
  exact b_M_goRepeat_74 X ho hf hZ hS (lv_sub hl [0, 1, 2, 3, 4, 5] rfl)

noncomputable def f_M_goRepeat_38 (o : oT_W) (K : Nat) : Nat → Int → Int → Int → Int → Int → Int → zF → zB → zO
  | 0, _, _, _, _, _, _, _, _ => none
  | n + 1, l6, l5, l4, l3, l2, l1, F, B => if r32 l4 then (if l4 = 0 then f_M_goRepeat_71 o K l5 l3 l2 l1 F B else if 0 ≤ l1 ∧ l1 < 3001 then if r32 l6 then if r32 (B 14 0 31 l1) then (if (B 14 0 31 l1) ≤ l6 then f_M_goRepeat_71 o K l5 l3 l2 l1 F B else if 0 ≤ l6 ∧ l6 < 3001 then f_M_goRepeat_38 o K n ((B 14 0 30 l6) + 1) (l5 + 1) l4 l3 l2 l1 F B else none) else none else none else none) else none
set_option maxHeartbeats 4000000 in
set_option maxRecDepth 100000 in
theorem b_M_goRepeat_38 {D : va_G} {ca : Nat → ClassId} {ad : Nat → Int → Nat → Nat} {L : List Nat} {aS vS : Nat → Nat} {A : Nat → Prop} {p : Program} {l : Launch} {e : Env} {s : State} {m : MethodId} {args : Array Value} {below : List Frame} {meth : Method} {c : Code} {K : Nat} {r : Int} {F9 : zF} {B9 : zB} {d : Nat} {o : oT_W} (X : zX D ca L aS vS A p s m args meth c prog_15_method_58_code 9 (Option.none : Option Jvm.ClassFile.FieldType) "StaveHouseModel") (ho : oH_W l D ca ad L aS vS d o) : ∀ {n : Nat} {l6 : Int} {l5 : Int} {l4 : Int} {l3 : Int} {l2 : Int} {l1 : Int} {F : zF} {B : zB} {H : Heap} {locs : List Loc} {ls : Array Slot}, f_M_goRepeat_38 o K n l6 l5 l4 l3 l2 l1 F B = some (r, F9, B9) → zH D ca ad lnM nM L F B A H → va_S A s.heap H locs → lv_has ls 9 [(6, .int (iI l6)), (5, .int (iI l5)), (4, .int (iI l4)), (3, .int (iI l3)), (2, .int (iI l2)), (0, .ref (ad 14 0 0)), (1, .int (iI l1))] → W p l e ({ frames := d + 1 + 5, cells := 0, slots := 0, locals := 28 * (d + 1) + 116 } : Room) s m args below meth c H locs 0 0 (MQ below (Q_M_goRepeat D ca ad L r F9 B9 A) args s 0 0 A) (F0 m 38 ls []) := by
  obtain ⟨hx, hb, hr, hml, hown, hts, hlk, hK, hA, hL, hX⟩ := id X
  intro n
  induction n with
  | zero =>
    intros
    rename_i hf _ _ _
    cases hf
  | succ n ih =>
    intro l6 l5 l4 l3 l2 l1 F B H locs ls hf hZ hS hl
    replace hf : (if r32 l4 then (if l4 = 0 then f_M_goRepeat_71 o K l5 l3 l2 l1 F B else if 0 ≤ l1 ∧ l1 < 3001 then if r32 l6 then if r32 (B 14 0 31 l1) then (if (B 14 0 31 l1) ≤ l6 then f_M_goRepeat_71 o K l5 l3 l2 l1 F B else if 0 ≤ l6 ∧ l6 < 3001 then f_M_goRepeat_38 o K n ((B 14 0 30 l6) + 1) (l5 + 1) l4 l3 l2 l1 F B else none) else none else none else none) else none) = some (r, F9, B9) := hf
    refine lv_iload hx hb d_15_58_38 (lv_at hl 2 rfl) ?_
    obtain ⟨g6, hf⟩ := gif hf
    refine z0eq (tgt := 71) hx hb g6 d_15_58_40 (by decide) (fun h7 => ?_) (fun h7 => ?_)
    · replace hf := gpos hf h7
      exact b_M_goRepeat_71 X ho hf hZ hS (lv_sub hl [1, 3, 4, 5, 6] rfl)
    · replace hf := gneg hf h7
      refine lv_iload hx hb d_15_58_43 (lv_at hl 0 rfl) ?_
      refine lv_aload_n hx hb d_15_58_45 rfl (lv_at hl 5 rfl) ?_
      refine zget (ci := 14) (C := RX14) (T := TX14) (v := .ref (ad 14 0 (31 + 1))) (k := 31) hx hb hts inW_14 hown hK hZ (by decide) (by decide) rfl (by decide) k_11_29 rfl d_15_58_46 ?_
      refine lv_iload_n hx hb d_15_58_49 rfl (lv_at hl 6 rfl) ?_
      obtain ⟨g8, hf⟩ := gif hf
      refine zald (ci := 14) (k := 31) hx hb hK rfl hZ (by decide) (by decide) rfl (Nat.le_of_ble_eq_true rfl) g8.1 g8.2 d_15_58_50 ?_
      obtain ⟨g9, hf⟩ := gif hf
      obtain ⟨g10, hf⟩ := gif hf
      refine zge (tgt := 71) hx hb g9 g10 d_15_58_51 (by decide) (fun h11 => ?_) (fun h11 => ?_)
      · replace hf := gpos hf h11
        exact b_M_goRepeat_71 X ho hf hZ hS (lv_sub hl [1, 3, 4, 5, 6] rfl)
      · replace hf := gneg hf h11
        refine lv_iinc (v := iI (l5 + 1)) (lv' := [(5, .int (iI (l5 + 1))), (6, .int (iI l6)), (4, .int (iI l4)), (3, .int (iI l3)), (2, .int (iI l2)), (0, .ref (ad 14 0 0)), (1, .int (iI l1))]) hx hb d_15_58_54 hl (k := 1) rfl (iI_add _ 1) (by decide) rfl (fun ls hl => ?_)
        refine lv_aload_n hx hb d_15_58_57 rfl (lv_at hl 5 rfl) ?_
        refine zget (ci := 14) (C := RX14) (T := TX14) (v := .ref (ad 14 0 (30 + 1))) (k := 30) hx hb hts inW_14 hown hK hZ (by decide) (by decide) rfl (by decide) k_11_28 rfl d_15_58_58 ?_
        refine lv_iload hx hb d_15_58_61 (lv_at hl 1 rfl) ?_
        obtain ⟨g12, hf⟩ := gif hf
        refine zald (ci := 14) (k := 30) hx hb hK rfl hZ (by decide) (by decide) rfl (Nat.le_of_ble_eq_true rfl) g12.1 g12.2 d_15_58_63 ?_
        refine lv_iconst (v := iI 1) hx hb d_15_58_64 rfl ?_
        refine zadd hx hb d_15_58_65 ?_
        refine lv_istore (lv' := [(6, .int (iI ((B 14 0 30 l6) + 1))), (5, .int (iI (l5 + 1))), (4, .int (iI l4)), (3, .int (iI l3)), (2, .int (iI l2)), (0, .ref (ad 14 0 0)), (1, .int (iI l1))]) hx hb d_15_58_66 hl (by decide) rfl (fun ls hl => ?_)
        refine lv_goto (tgt := 38) hx hb d_15_58_68 (by decide) ?_
        exact ih hf hZ hS (lv_sub hl [0, 1, 2, 3, 4, 5, 6] rfl)

noncomputable def f_M_goRepeat_28 (o : oT_W) (K : Nat) (l3 : Int) (l2 : Int) (l1 : Int) (s0 : Int) (F : zF) (B : zB) : zO := f_M_goRepeat_38 o K K (l3 + 1) 0 s0 l3 l2 l1 F B
set_option maxHeartbeats 4000000 in
set_option maxRecDepth 100000 in
theorem b_M_goRepeat_28 {D : va_G} {ca : Nat → ClassId} {ad : Nat → Int → Nat → Nat} {L : List Nat} {aS vS : Nat → Nat} {A : Nat → Prop} {p : Program} {l : Launch} {e : Env} {s : State} {m : MethodId} {args : Array Value} {below : List Frame} {meth : Method} {c : Code} {K : Nat} {r : Int} {F9 : zF} {B9 : zB} {d : Nat} {o : oT_W} (X : zX D ca L aS vS A p s m args meth c prog_15_method_58_code 9 (Option.none : Option Jvm.ClassFile.FieldType) "StaveHouseModel") (ho : oH_W l D ca ad L aS vS d o) {l3 : Int} {l2 : Int} {l1 : Int} {s0 : Int} {F : zF} {B : zB} {H : Heap} {locs : List Loc} {ls : Array Slot} (hf : f_M_goRepeat_28 o K l3 l2 l1 s0 F B = some (r, F9, B9)) (hZ : zH D ca ad lnM nM L F B A H) (hS : va_S A s.heap H locs) (hl : lv_has ls 9 [(3, .int (iI l3)), (2, .int (iI l2)), (0, .ref (ad 14 0 0)), (1, .int (iI l1))]) : W p l e ({ frames := d + 1 + 5, cells := 0, slots := 0, locals := 28 * (d + 1) + 116 } : Room) s m args below meth c H locs 0 0 (MQ below (Q_M_goRepeat D ca ad L r F9 B9 A) args s 0 0 A) (F0 m 28 ls [.int (iI s0)]) := by
  obtain ⟨hx, hb, hr, hml, hown, hts, hlk, hK, hA, hL, hX⟩ := id X
  replace hf : (f_M_goRepeat_38 o K K (l3 + 1) 0 s0 l3 l2 l1 F B) = some (r, F9, B9) := hf
  refine lv_istore (lv' := [(4, .int (iI s0)), (3, .int (iI l3)), (2, .int (iI l2)), (0, .ref (ad 14 0 0)), (1, .int (iI l1))]) hx hb d_15_58_28 hl (by decide) rfl (fun ls hl => ?_)
  refine lv_iconst (v := iI 0) hx hb d_15_58_30 rfl ?_
  refine lv_istore (lv' := [(5, .int (iI 0)), (4, .int (iI s0)), (3, .int (iI l3)), (2, .int (iI l2)), (0, .ref (ad 14 0 0)), (1, .int (iI l1))]) hx hb d_15_58_31 hl (by decide) rfl (fun ls hl => ?_)
  refine lv_iload_n hx hb d_15_58_33 rfl (lv_at hl 2 rfl) ?_
  refine lv_iconst (v := iI 1) hx hb d_15_58_34 rfl ?_
  refine zadd hx hb d_15_58_35 ?_
  refine lv_istore (lv' := [(6, .int (iI (l3 + 1))), (5, .int (iI 0)), (4, .int (iI s0)), (3, .int (iI l3)), (2, .int (iI l2)), (0, .ref (ad 14 0 0)), (1, .int (iI l1))]) hx hb d_15_58_36 hl (by decide) rfl (fun ls hl => ?_)
  exact b_M_goRepeat_38 X ho hf hZ hS (lv_sub hl [0, 1, 2, 3, 4, 5, 6] rfl)

noncomputable def fb_M_goRepeat (o : oT_W) (K : Nat) (l1 : Int) (F : zF) (B : zB) : zO := if 0 ≤ (l1 + 2) ∧ (l1 + 2) < 3001 then if 0 ≤ l1 ∧ l1 < 3001 then if r32 ((B 14 0 30 (l1 + 2)) + 1) then if r32 (B 14 0 31 l1) then (if (B 14 0 31 l1) ≤ ((B 14 0 30 (l1 + 2)) + 1) then f_M_goRepeat_28 o K ((B 14 0 30 (l1 + 2)) + 1) (l1 + 2) l1 0 F B else f_M_goRepeat_28 o K ((B 14 0 30 (l1 + 2)) + 1) (l1 + 2) l1 1 F B) else none else none else none else none
set_option maxHeartbeats 4000000 in
set_option maxRecDepth 100000 in
theorem cb_M_goRepeat {l : Launch} {D : va_G} {ca : Nat → ClassId} {ad : Nat → Int → Nat → Nat} {L : List Nat} {aS vS : Nat → Nat} {sz K : Nat} {d : Nat} {o : oT_W} (ho : oH_W l D ca ad L aS vS d o)  {l1 : Int} {F F9 : zF} {B B9 : zB} {r : Int} (hf : fb_M_goRepeat o K l1 F B = some (r, F9, B9)) : Met l ({ cls := "StaveHouseModel", name := "goRepeat", desc := "(I)V" } : Jvm.MethodName) (Cond.code ({ cls := "StaveHouseModel", name := "goRepeat", desc := "(I)V" } : Jvm.MethodName) prog_15_method_58_code 9 (Option.none : Option Jvm.ClassFile.FieldType) :: wAll) ({ frames := d + 1 + 5, cells := 0, slots := 0, locals := 28 * (d + 1) + 116 } : Room) (va_Pc [.ref (ad 14 0 0), .int (iI l1)] (zPre D ca ad lnM nM L aS vS F B sz)) (Q_M_goRepeat D ca ad L r F9 B9 (zA L sz)) 0 0 (zA L sz) := by
  refine zMet (Qc := Q_M_goRepeat D ca ad L r F9 B9) (lv := [(0, .ref (ad 14 0 0)), (1, .int (iI l1))]) (by decide) (Nat.le_of_ble_eq_true rfl) rfl (fun A p e s m below meth c ls X hZ hS hl => ?_)
  obtain ⟨hx, hb, hr, hml, hown, hts, hlk, hK, hA, hL, hX⟩ := id X
  replace hf : (if 0 ≤ (l1 + 2) ∧ (l1 + 2) < 3001 then if 0 ≤ l1 ∧ l1 < 3001 then if r32 ((B 14 0 30 (l1 + 2)) + 1) then if r32 (B 14 0 31 l1) then (if (B 14 0 31 l1) ≤ ((B 14 0 30 (l1 + 2)) + 1) then f_M_goRepeat_28 o K ((B 14 0 30 (l1 + 2)) + 1) (l1 + 2) l1 0 F B else f_M_goRepeat_28 o K ((B 14 0 30 (l1 + 2)) + 1) (l1 + 2) l1 1 F B) else none else none else none else none) = some (r, F9, B9) := hf
  refine lv_iload_n hx hb d_15_58_0 rfl (lv_at hl 1 rfl) ?_
  refine lv_iconst (v := iI 2) hx hb d_15_58_1 rfl ?_
  refine zadd hx hb d_15_58_2 ?_
  refine lv_istore_n (lv' := [(2, .int (iI (l1 + 2))), (0, .ref (ad 14 0 0)), (1, .int (iI l1))]) hx hb d_15_58_3 rfl hl (by decide) rfl (fun ls hl => ?_)
  refine lv_aload_n hx hb d_15_58_4 rfl (lv_at hl 1 rfl) ?_
  refine zget (ci := 14) (C := RX14) (T := TX14) (v := .ref (ad 14 0 (30 + 1))) (k := 30) hx hb hts inW_14 hown hK hZ (by decide) (by decide) rfl (by decide) k_11_28 rfl d_15_58_5 ?_
  refine lv_iload_n hx hb d_15_58_8 rfl (lv_at hl 0 rfl) ?_
  obtain ⟨g1, hf⟩ := gif hf
  refine zald (ci := 14) (k := 30) hx hb hK rfl hZ (by decide) (by decide) rfl (Nat.le_of_ble_eq_true rfl) g1.1 g1.2 d_15_58_9 ?_
  refine lv_iconst (v := iI 1) hx hb d_15_58_10 rfl ?_
  refine zadd hx hb d_15_58_11 ?_
  refine lv_istore_n (lv' := [(3, .int (iI ((B 14 0 30 (l1 + 2)) + 1))), (2, .int (iI (l1 + 2))), (0, .ref (ad 14 0 0)), (1, .int (iI l1))]) hx hb d_15_58_12 rfl hl (by decide) rfl (fun ls hl => ?_)
  refine lv_iload_n hx hb d_15_58_13 rfl (lv_at hl 0 rfl) ?_
  refine lv_aload_n hx hb d_15_58_14 rfl (lv_at hl 2 rfl) ?_
  refine zget (ci := 14) (C := RX14) (T := TX14) (v := .ref (ad 14 0 (31 + 1))) (k := 31) hx hb hts inW_14 hown hK hZ (by decide) (by decide) rfl (by decide) k_11_29 rfl d_15_58_15 ?_
  refine lv_iload_n hx hb d_15_58_18 rfl (lv_at hl 3 rfl) ?_
  obtain ⟨g2, hf⟩ := gif hf
  refine zald (ci := 14) (k := 31) hx hb hK rfl hZ (by decide) (by decide) rfl (Nat.le_of_ble_eq_true rfl) g2.1 g2.2 d_15_58_19 ?_
  obtain ⟨g3, hf⟩ := gif hf
  obtain ⟨g4, hf⟩ := gif hf
  refine zge (tgt := 27) hx hb g3 g4 d_15_58_20 (by decide) (fun h5 => ?_) (fun h5 => ?_)
  · replace hf := gpos hf h5
    refine lv_iconst (v := iI 0) hx hb d_15_58_27 rfl ?_
    exact b_M_goRepeat_28 X ho hf hZ hS (lv_sub hl [0, 1, 2, 3] rfl)
  · replace hf := gneg hf h5
    refine lv_iconst (v := iI 1) hx hb d_15_58_23 rfl ?_
    refine lv_goto (tgt := 28) hx hb d_15_58_24 (by decide) ?_
    exact b_M_goRepeat_28 X ho hf hZ hS (lv_sub hl [0, 1, 2, 3] rfl)

noncomputable def fb_M_goUse (o : oT_W) (K : Nat) (l1 : Int) (F : zF) (B : zB) : zO := if 0 ≤ (l1 + 1) ∧ (l1 + 1) < 3001 then zbind (f_M_find K 14 0 25 (F 14 0 27) (B 14 0 11 (l1 + 1)) F B) (fun r2 F2 B2 => if 0 ≤ r2 ∧ r2 < 6 then if 0 ≤ (B2 14 0 26 r2) ∧ (B2 14 0 26 r2) < 3001 then zbind (o.1 ((B2 14 0 26 r2) + 1) (B2 14 0 30 (B2 14 0 26 r2)) F2 B2) (fun r5 F5 B5 => some (0, F5, B5)) else none else none) else none
set_option maxHeartbeats 4000000 in
set_option maxRecDepth 100000 in
theorem cb_M_goUse {l : Launch} {D : va_G} {ca : Nat → ClassId} {ad : Nat → Int → Nat → Nat} {L : List Nat} {aS vS : Nat → Nat} {sz K : Nat} {d : Nat} {o : oT_W} (ho : oH_W l D ca ad L aS vS d o)  {l1 : Int} {F F9 : zF} {B B9 : zB} {r : Int} (hf : fb_M_goUse o K l1 F B = some (r, F9, B9)) : Met l ({ cls := "StaveHouseModel", name := "goUse", desc := "(I)V" } : Jvm.MethodName) (Cond.code ({ cls := "StaveHouseModel", name := "goUse", desc := "(I)V" } : Jvm.MethodName) prog_15_method_59_code 3 (Option.none : Option Jvm.ClassFile.FieldType) :: wAll) ({ frames := d + 1 + 5, cells := 0, slots := 0, locals := 28 * (d + 1) + 116 } : Room) (va_Pc [.ref (ad 14 0 0), .int (iI l1)] (zPre D ca ad lnM nM L aS vS F B sz)) (Q_M_goUse D ca ad L r F9 B9 (zA L sz)) 0 0 (zA L sz) := by
  refine zMet (Qc := Q_M_goUse D ca ad L r F9 B9) (lv := [(0, .ref (ad 14 0 0)), (1, .int (iI l1))]) (by decide) (Nat.le_of_ble_eq_true rfl) rfl (fun A p e s m below meth c ls X hZ hS hl => ?_)
  obtain ⟨hx, hb, hr, hml, hown, hts, hlk, hK, hA, hL, hX⟩ := id X
  replace hf : (if 0 ≤ (l1 + 1) ∧ (l1 + 1) < 3001 then zbind (f_M_find K 14 0 25 (F 14 0 27) (B 14 0 11 (l1 + 1)) F B) (fun r2 F2 B2 => if 0 ≤ r2 ∧ r2 < 6 then if 0 ≤ (B2 14 0 26 r2) ∧ (B2 14 0 26 r2) < 3001 then zbind (o.1 ((B2 14 0 26 r2) + 1) (B2 14 0 30 (B2 14 0 26 r2)) F2 B2) (fun r5 F5 B5 => some (0, F5, B5)) else none else none) else none) = some (r, F9, B9) := hf
  refine lv_aload_n hx hb d_15_59_0 rfl (lv_at hl 0 rfl) ?_
  refine zget (ci := 14) (C := RX14) (T := TX14) (v := .ref (ad 14 0 (26 + 1))) (k := 26) hx hb hts inW_14 hown hK hZ (by decide) (by decide) rfl (by decide) k_11_24 rfl d_15_59_1 ?_
  refine lv_aload_n hx hb d_15_59_4 rfl (lv_at hl 0 rfl) ?_
  refine zget (ci := 14) (C := RX14) (T := TX14) (v := .ref (ad 14 0 (25 + 1))) (k := 25) hx hb hts inW_14 hown hK hZ (by decide) (by decide) rfl (by decide) k_11_23 rfl d_15_59_5 ?_
  refine lv_aload_n hx hb d_15_59_8 rfl (lv_at hl 0 rfl) ?_
  refine zget (ci := 14) (C := RX14) (T := TX14) (v := .int (iI (F 14 0 27))) (k := 27) hx hb hts inW_14 hown hK hZ (by decide) (by decide) rfl (by decide) k_11_25 rfl d_15_59_9 ?_
  refine lv_aload_n hx hb d_15_59_12 rfl (lv_at hl 0 rfl) ?_
  refine zget (ci := 14) (C := RX14) (T := TX14) (v := .ref (ad 14 0 (11 + 1))) (k := 11) hx hb hts inW_14 hown hK hZ (by decide) (by decide) rfl (by decide) k_11_9 rfl d_15_59_13 ?_
  refine lv_iload_n hx hb d_15_59_16 rfl (lv_at hl 1 rfl) ?_
  refine lv_iconst (v := iI 1) hx hb d_15_59_17 rfl ?_
  refine zadd hx hb d_15_59_18 ?_
  obtain ⟨g1, hf⟩ := gif hf
  refine zlald (ci := 14) (k := 11) hx hb hK rfl hZ (by decide) (by decide) rfl (Nat.le_of_ble_eq_true rfl) g1.1 g1.2 d_15_59_19 ?_
  obtain ⟨r2, F2, B2, hc2, hf⟩ := gbind hf
  refine va_calli (va_runS (As := [.ref (ad 14 0 (25 + 1)), .int (iI (F 14 0 27)), .long (lI (B 14 0 11 (l1 + 1)))]) (rest := [.ref (ad 14 0 (26 + 1))]) ⟨hx, hb, hml, hown, hts⟩ (c_M_find (l := l) hc2) (va_cwS 3 hts (gdS k_14_156 k_14_157 k_1_9 k_14_158) rfl rfl rfl (by decide +kernel) ⟨by dsimp only; omega, by dsimp only; omega⟩) (zPS X hZ hS [.ref (ad 14 0 (25 + 1)), .int (iI (F 14 0 27)), .long (lI (B 14 0 11 (l1 + 1)))]) rfl rfl hl.1 rfl (lv_room (Nat.le_of_ble_eq_true rfl)) d_15_59_20 ⟨Nat.le_of_ble_eq_true rfl, Nat.le_of_ble_eq_true rfl⟩) hS (fun q _ h => zAin X hS q h) (zAin X hS) (fun p2 u2 t2 H2 locs2 ht2 hv2 hw2 hB2 hz2 hk2 hS2 => ?_)
  have hZ2 := zBack X ht2 hB2
  subst hw2
  obtain ⟨g3, hf⟩ := gif hf
  refine zald (ci := 14) (k := 26) hx hb hK rfl hZ2 (by decide) (by decide) rfl (Nat.le_of_ble_eq_true rfl) g3.1 g3.2 d_15_59_23 ?_
  refine lv_istore_n (lv' := [(2, .int (iI (B2 14 0 26 r2))), (0, .ref (ad 14 0 0)), (1, .int (iI l1))]) hx hb d_15_59_24 rfl hl (by decide) rfl (fun ls hl => ?_)
  refine lv_aload_n hx hb d_15_59_25 rfl (lv_at hl 1 rfl) ?_
  refine lv_iload_n hx hb d_15_59_26 rfl (lv_at hl 0 rfl) ?_
  refine lv_iconst (v := iI 1) hx hb d_15_59_27 rfl ?_
  refine zadd hx hb d_15_59_28 ?_
  refine lv_aload_n hx hb d_15_59_29 rfl (lv_at hl 1 rfl) ?_
  refine zget (ci := 14) (C := RX14) (T := TX14) (v := .ref (ad 14 0 (30 + 1))) (k := 30) hx hb hts inW_14 hown hK hZ2 (by decide) (by decide) rfl (by decide) k_11_28 rfl d_15_59_30 ?_
  refine lv_iload_n hx hb d_15_59_33 rfl (lv_at hl 0 rfl) ?_
  obtain ⟨g4, hf⟩ := gif hf
  refine zald (ci := 14) (k := 30) hx hb hK rfl hZ2 (by decide) (by decide) rfl (Nat.le_of_ble_eq_true rfl) g4.1 g4.2 d_15_59_34 ?_
  obtain ⟨r5, F5, B5, hc5, hf⟩ := gbind hf
  refine va_callv (va_runV (As := [.int (iI ((B2 14 0 26 r2) + 1)), .int (iI (B2 14 0 30 (B2 14 0 26 r2)))]) (rest := []) ⟨hx, hb, hml, hown, hts⟩ (ho.1 hc5) (cwV 2 hts (gdV k_14_207 k_14_209 ks_223 k_1_9 k_14_210) rfl rfl rfl (by decide +kernel) ⟨by dsimp only; omega, by dsimp only; omega⟩) (zPV X hZ2 hS2 (ci := 14) (by decide) (by decide) (r := (RX14, TX14, 107)) rfl [.int (iI ((B2 14 0 26 r2) + 1)), .int (iI (B2 14 0 30 (B2 14 0 26 r2)))]) rfl rfl hl.1 rfl (lv_room (Nat.le_of_ble_eq_true rfl)) d_15_59_35 ⟨Nat.le_of_ble_eq_true rfl, Nat.le_of_ble_eq_true rfl⟩) hS2 (fun q _ h => zAin X hS2 q h) (zAin X hS2) (fun u5 t5 H5 locs5 ht5 hv5 hw5 hB5 hz5 hk5 hS5 => ?_)
  have hZ5 := zBack X ht5 hB5
  cases hf
  exact W.vret hx hb hr (fun t ht hW => ⟨⟨(), rfl, trivial, by rw [ht]; exact hZ5, va_K.moved hW.alike hK⟩, hS5.F ht⟩) hS5.2.2 d_15_59_38 hlk

noncomputable def f_M_goChange_150 (o : oT_W) (K : Nat) (l4 : Int) (s1 : Int) (s2 : Int) (F : zF) (B : zB) : zO := if 0 ≤ s1 ∧ s1 < 100 then if 0 ≤ l4 ∧ l4 < 3001 then zbind (o.1 (l4 + 1) ((zup4 B 14 0 44 s1 s2) 14 0 30 l4) (zup3 F 14 0 45 ((F 14 0 45) + 1)) (zup4 B 14 0 44 s1 s2)) (fun r28 F28 B28 => some (0, (zup3 F28 14 0 45 ((F28 14 0 45) - 1)), B28)) else none else none
set_option maxHeartbeats 4000000 in
set_option maxRecDepth 100000 in
theorem b_M_goChange_150 {D : va_G} {ca : Nat → ClassId} {ad : Nat → Int → Nat → Nat} {L : List Nat} {aS vS : Nat → Nat} {A : Nat → Prop} {p : Program} {l : Launch} {e : Env} {s : State} {m : MethodId} {args : Array Value} {below : List Frame} {meth : Method} {c : Code} {K : Nat} {r : Int} {F9 : zF} {B9 : zB} {d : Nat} {o : oT_W} (X : zX D ca L aS vS A p s m args meth c prog_15_method_60_code 5 (Option.none : Option Jvm.ClassFile.FieldType) "StaveHouseModel") (ho : oH_W l D ca ad L aS vS d o) {l4 : Int} {s1 : Int} {s2 : Int} {F : zF} {B : zB} {H : Heap} {locs : List Loc} {ls : Array Slot} (hf : f_M_goChange_150 o K l4 s1 s2 F B = some (r, F9, B9)) (hZ : zH D ca ad lnM nM L F B A H) (hS : va_S A s.heap H locs) (hl : lv_has ls 5 [(4, .int (iI l4)), (0, .ref (ad 14 0 0))]) : W p l e ({ frames := d + 1 + 5, cells := 0, slots := 0, locals := 28 * (d + 1) + 116 } : Room) s m args below meth c H locs 0 0 (MQ below (Q_M_goChange D ca ad L r F9 B9 A) args s 0 0 A) (F0 m 150 ls [.int (iI s2), .int (iI s1), .ref (ad 14 0 (44 + 1))]) := by
  obtain ⟨hx, hb, hr, hml, hown, hts, hlk, hK, hA, hL, hX⟩ := id X
  replace hf : (if 0 ≤ s1 ∧ s1 < 100 then if 0 ≤ l4 ∧ l4 < 3001 then zbind (o.1 (l4 + 1) ((zup4 B 14 0 44 s1 s2) 14 0 30 l4) (zup3 F 14 0 45 ((F 14 0 45) + 1)) (zup4 B 14 0 44 s1 s2)) (fun r28 F28 B28 => some (0, (zup3 F28 14 0 45 ((F28 14 0 45) - 1)), B28)) else none else none) = some (r, F9, B9) := hf
  obtain ⟨g24, hf⟩ := gif hf
  refine zast (ci := 14) (k := 44) hx hb hK rfl hZ hS (by decide) (by decide) rfl (Nat.le_of_ble_eq_true rfl) g24.1 g24.2 d_15_60_150 (fun H25 locs25 hZ25 hS25 => ?_)
  refine lv_aload_n hx hb d_15_60_151 rfl (lv_at hl 1 rfl) ?_
  refine lv_dup hx hb d_15_60_152 rfl ?_
  refine zget (ci := 14) (C := RX14) (T := TX14) (v := .int (iI (F 14 0 45))) (k := 45) hx hb hts inW_14 hown hK hZ25 (by decide) (by decide) rfl (by decide) k_11_43 rfl d_15_60_153 ?_
  refine lv_iconst (v := iI 1) hx hb d_15_60_156 rfl ?_
  refine zadd hx hb d_15_60_157 ?_
  refine zput (ci := 14) (C := RX14) (T := TX14) (k := 45) (v := ((F 14 0 45) + 1)) (w := .int (iI ((F 14 0 45) + 1))) hx hb hts inW_14 tyX14 tyX14_ok nmX14 hown hK hZ25 hS25 (by decide) (by decide) rfl (by decide) k_11_43 rfl (fun G h => congrArg (fun q => Value.int (iI q)) h) rfl rfl (zno (by decide)) d_15_60_158 (fun H26 locs26 hZ26 hS26 => ?_)
  refine lv_aload_n hx hb d_15_60_161 rfl (lv_at hl 1 rfl) ?_
  refine lv_iload hx hb d_15_60_162 (lv_at hl 0 rfl) ?_
  refine lv_iconst (v := iI 1) hx hb d_15_60_164 rfl ?_
  refine zadd hx hb d_15_60_165 ?_
  refine lv_aload_n hx hb d_15_60_166 rfl (lv_at hl 1 rfl) ?_
  refine zget (ci := 14) (C := RX14) (T := TX14) (v := .ref (ad 14 0 (30 + 1))) (k := 30) hx hb hts inW_14 hown hK hZ26 (by decide) (by decide) rfl (by decide) k_11_28 rfl d_15_60_167 ?_
  refine lv_iload hx hb d_15_60_170 (lv_at hl 0 rfl) ?_
  obtain ⟨g27, hf⟩ := gif hf
  refine zald (ci := 14) (k := 30) hx hb hK rfl hZ26 (by decide) (by decide) rfl (Nat.le_of_ble_eq_true rfl) g27.1 g27.2 d_15_60_172 ?_
  obtain ⟨r28, F28, B28, hc28, hf⟩ := gbind hf
  refine va_callv (va_runV (As := [.int (iI (l4 + 1)), .int (iI ((zup4 B 14 0 44 s1 s2) 14 0 30 l4))]) (rest := []) ⟨hx, hb, hml, hown, hts⟩ (ho.1 hc28) (cwV 2 hts (gdV k_14_207 k_14_209 ks_223 k_1_9 k_14_210) rfl rfl rfl (by decide +kernel) ⟨by dsimp only; omega, by dsimp only; omega⟩) (zPV X hZ26 hS26 (ci := 14) (by decide) (by decide) (r := (RX14, TX14, 107)) rfl [.int (iI (l4 + 1)), .int (iI ((zup4 B 14 0 44 s1 s2) 14 0 30 l4))]) rfl rfl hl.1 rfl (lv_room (Nat.le_of_ble_eq_true rfl)) d_15_60_173 ⟨Nat.le_of_ble_eq_true rfl, Nat.le_of_ble_eq_true rfl⟩) hS26 (fun q _ h => zAin X hS26 q h) (zAin X hS26) (fun u28 t28 H28 locs28 ht28 hv28 hw28 hB28 hz28 hk28 hS28 => ?_)
  have hZ28 := zBack X ht28 hB28
  refine lv_aload_n hx hb d_15_60_176 rfl (lv_at hl 1 rfl) ?_
  refine lv_dup hx hb d_15_60_177 rfl ?_
  refine zget (ci := 14) (C := RX14) (T := TX14) (v := .int (iI (F28 14 0 45))) (k := 45) hx hb hts inW_14 hown hK hZ28 (by decide) (by decide) rfl (by decide) k_11_43 rfl d_15_60_178 ?_
  refine lv_iconst (v := iI 1) hx hb d_15_60_181 rfl ?_
  refine zsub hx hb d_15_60_182 ?_
  refine zput (ci := 14) (C := RX14) (T := TX14) (k := 45) (v := ((F28 14 0 45) - 1)) (w := .int (iI ((F28 14 0 45) - 1))) hx hb hts inW_14 tyX14 tyX14_ok nmX14 hown hK hZ28 hS28 (by decide) (by decide) rfl (by decide) k_11_43 rfl (fun G h => congrArg (fun q => Value.int (iI q)) h) rfl rfl (zno (by decide)) d_15_60_183 (fun H29 locs29 hZ29 hS29 => ?_)
  cases hf
  exact W.vret hx hb hr (fun t ht hW => ⟨⟨(), rfl, trivial, by rw [ht]; exact hZ29, va_K.moved hW.alike hK⟩, hS29.F ht⟩) hS29.2.2 d_15_60_186 hlk

noncomputable def f_M_goChange_84 (o : oT_W) (K : Nat) (l4 : Int) (l3 : Int) (l2 : Int) (s1 : Int) (s2 : Int) (F : zF) (B : zB) : zO := if 0 ≤ s1 ∧ s1 < 100 then if r32 l2 then (if l2 = 0 then if 0 ≤ (l3 + 1) ∧ (l3 + 1) < 3001 then zbind (f_M_tone K ((zup4 B 14 0 43 s1 s2) 14 0 9 (l3 + 1)) ((zup4 B 14 0 43 s1 s2) 14 0 10 (l3 + 1)) F (zup4 B 14 0 43 s1 s2)) (fun r19 F19 B19 => if 0 ≤ l3 ∧ l3 < 3001 then zbind (f_M_tone K (B19 14 0 9 l3) (B19 14 0 10 l3) F19 B19) (fun r21 F21 B21 => f_M_goChange_150 o K l4 (F 14 0 45) (r19 - r21) F21 B21) else none) else none else if 0 ≤ l3 ∧ l3 < 3001 then zbind (f_M_tone K ((zup4 B 14 0 43 s1 s2) 14 0 9 l3) ((zup4 B 14 0 43 s1 s2) 14 0 10 l3) F (zup4 B 14 0 43 s1 s2)) (fun r23 F23 B23 => f_M_goChange_150 o K l4 (F 14 0 45) r23 F23 B23) else none) else none else none
set_option maxHeartbeats 4000000 in
set_option maxRecDepth 100000 in
theorem b_M_goChange_84 {D : va_G} {ca : Nat → ClassId} {ad : Nat → Int → Nat → Nat} {L : List Nat} {aS vS : Nat → Nat} {A : Nat → Prop} {p : Program} {l : Launch} {e : Env} {s : State} {m : MethodId} {args : Array Value} {below : List Frame} {meth : Method} {c : Code} {K : Nat} {r : Int} {F9 : zF} {B9 : zB} {d : Nat} {o : oT_W} (X : zX D ca L aS vS A p s m args meth c prog_15_method_60_code 5 (Option.none : Option Jvm.ClassFile.FieldType) "StaveHouseModel") (ho : oH_W l D ca ad L aS vS d o) {l4 : Int} {l3 : Int} {l2 : Int} {s1 : Int} {s2 : Int} {F : zF} {B : zB} {H : Heap} {locs : List Loc} {ls : Array Slot} (hf : f_M_goChange_84 o K l4 l3 l2 s1 s2 F B = some (r, F9, B9)) (hZ : zH D ca ad lnM nM L F B A H) (hS : va_S A s.heap H locs) (hl : lv_has ls 5 [(4, .int (iI l4)), (3, .int (iI l3)), (2, .int (iI l2)), (0, .ref (ad 14 0 0))]) : W p l e ({ frames := d + 1 + 5, cells := 0, slots := 0, locals := 28 * (d + 1) + 116 } : Room) s m args below meth c H locs 0 0 (MQ below (Q_M_goChange D ca ad L r F9 B9 A) args s 0 0 A) (F0 m 84 ls [.int (iI s2), .int (iI s1), .ref (ad 14 0 (43 + 1))]) := by
  obtain ⟨hx, hb, hr, hml, hown, hts, hlk, hK, hA, hL, hX⟩ := id X
  replace hf : (if 0 ≤ s1 ∧ s1 < 100 then if r32 l2 then (if l2 = 0 then if 0 ≤ (l3 + 1) ∧ (l3 + 1) < 3001 then zbind (f_M_tone K ((zup4 B 14 0 43 s1 s2) 14 0 9 (l3 + 1)) ((zup4 B 14 0 43 s1 s2) 14 0 10 (l3 + 1)) F (zup4 B 14 0 43 s1 s2)) (fun r19 F19 B19 => if 0 ≤ l3 ∧ l3 < 3001 then zbind (f_M_tone K (B19 14 0 9 l3) (B19 14 0 10 l3) F19 B19) (fun r21 F21 B21 => f_M_goChange_150 o K l4 (F 14 0 45) (r19 - r21) F21 B21) else none) else none else if 0 ≤ l3 ∧ l3 < 3001 then zbind (f_M_tone K ((zup4 B 14 0 43 s1 s2) 14 0 9 l3) ((zup4 B 14 0 43 s1 s2) 14 0 10 l3) F (zup4 B 14 0 43 s1 s2)) (fun r23 F23 B23 => f_M_goChange_150 o K l4 (F 14 0 45) r23 F23 B23) else none) else none else none) = some (r, F9, B9) := hf
  obtain ⟨g14, hf⟩ := gif hf
  refine zast (ci := 14) (k := 43) hx hb hK rfl hZ hS (by decide) (by decide) rfl (Nat.le_of_ble_eq_true rfl) g14.1 g14.2 d_15_60_84 (fun H15 locs15 hZ15 hS15 => ?_)
  refine lv_aload_n hx hb d_15_60_85 rfl (lv_at hl 3 rfl) ?_
  refine zget (ci := 14) (C := RX14) (T := TX14) (v := .ref (ad 14 0 (44 + 1))) (k := 44) hx hb hts inW_14 hown hK hZ15 (by decide) (by decide) rfl (by decide) k_11_42 rfl d_15_60_86 ?_
  refine lv_aload_n hx hb d_15_60_89 rfl (lv_at hl 3 rfl) ?_
  refine zget (ci := 14) (C := RX14) (T := TX14) (v := .int (iI (F 14 0 45))) (k := 45) hx hb hts inW_14 hown hK hZ15 (by decide) (by decide) rfl (by decide) k_11_43 rfl d_15_60_90 ?_
  refine lv_iload_n hx hb d_15_60_93 rfl (lv_at hl 2 rfl) ?_
  obtain ⟨g16, hf⟩ := gif hf
  refine z0eq (tgt := 115) hx hb g16 d_15_60_94 (by decide) (fun h17 => ?_) (fun h17 => ?_)
  · replace hf := gpos hf h17
    refine lv_aload_n hx hb d_15_60_115 rfl (lv_at hl 3 rfl) ?_
    refine zget (ci := 14) (C := RX14) (T := TX14) (v := .ref (ad 14 0 (9 + 1))) (k := 9) hx hb hts inW_14 hown hK hZ15 (by decide) (by decide) rfl (by decide) k_11_7 rfl d_15_60_116 ?_
    refine lv_iload_n hx hb d_15_60_119 rfl (lv_at hl 1 rfl) ?_
    refine lv_iconst (v := iI 1) hx hb d_15_60_120 rfl ?_
    refine zadd hx hb d_15_60_121 ?_
    obtain ⟨g18, hf⟩ := gif hf
    refine zald (ci := 14) (k := 9) hx hb hK rfl hZ15 (by decide) (by decide) rfl (Nat.le_of_ble_eq_true rfl) g18.1 g18.2 d_15_60_122 ?_
    refine lv_aload_n hx hb d_15_60_123 rfl (lv_at hl 3 rfl) ?_
    refine zget (ci := 14) (C := RX14) (T := TX14) (v := .ref (ad 14 0 (10 + 1))) (k := 10) hx hb hts inW_14 hown hK hZ15 (by decide) (by decide) rfl (by decide) k_11_8 rfl d_15_60_124 ?_
    refine lv_iload_n hx hb d_15_60_127 rfl (lv_at hl 1 rfl) ?_
    refine lv_iconst (v := iI 1) hx hb d_15_60_128 rfl ?_
    refine zadd hx hb d_15_60_129 ?_
    refine zald (ci := 14) (k := 10) hx hb hK rfl hZ15 (by decide) (by decide) rfl (Nat.le_of_ble_eq_true rfl) g18.1 g18.2 d_15_60_130 ?_
    obtain ⟨r19, F19, B19, hc19, hf⟩ := gbind hf
    refine va_calli (va_runS (As := [.int (iI ((zup4 B 14 0 43 s1 s2) 14 0 9 (l3 + 1))), .int (iI ((zup4 B 14 0 43 s1 s2) 14 0 10 (l3 + 1)))]) (rest := [.int (iI (F 14 0 45)), .ref (ad 14 0 (44 + 1))]) ⟨hx, hb, hml, hown, hts⟩ (c_M_tone (l := l) hc19) (va_cwS 2 hts (gdS k_12_158 k_12_159 k_1_9 k_12_160) rfl rfl rfl (by decide +kernel) ⟨by dsimp only; omega, by dsimp only; omega⟩) (zPS X hZ15 hS15 [.int (iI ((zup4 B 14 0 43 s1 s2) 14 0 9 (l3 + 1))), .int (iI ((zup4 B 14 0 43 s1 s2) 14 0 10 (l3 + 1)))]) rfl rfl hl.1 rfl (lv_room (Nat.le_of_ble_eq_true rfl)) d_15_60_131 ⟨Nat.le_of_ble_eq_true rfl, Nat.le_of_ble_eq_true rfl⟩) hS15 (fun q _ h => zAin X hS15 q h) (zAin X hS15) (fun p19 u19 t19 H19 locs19 ht19 hv19 hw19 hB19 hz19 hk19 hS19 => ?_)
    have hZ19 := zBack X ht19 hB19
    subst hw19
    refine lv_aload_n hx hb d_15_60_134 rfl (lv_at hl 3 rfl) ?_
    refine zget (ci := 14) (C := RX14) (T := TX14) (v := .ref (ad 14 0 (9 + 1))) (k := 9) hx hb hts inW_14 hown hK hZ19 (by decide) (by decide) rfl (by decide) k_11_7 rfl d_15_60_135 ?_
    refine lv_iload_n hx hb d_15_60_138 rfl (lv_at hl 1 rfl) ?_
    obtain ⟨g20, hf⟩ := gif hf
    refine zald (ci := 14) (k := 9) hx hb hK rfl hZ19 (by decide) (by decide) rfl (Nat.le_of_ble_eq_true rfl) g20.1 g20.2 d_15_60_139 ?_
    refine lv_aload_n hx hb d_15_60_140 rfl (lv_at hl 3 rfl) ?_
    refine zget (ci := 14) (C := RX14) (T := TX14) (v := .ref (ad 14 0 (10 + 1))) (k := 10) hx hb hts inW_14 hown hK hZ19 (by decide) (by decide) rfl (by decide) k_11_8 rfl d_15_60_141 ?_
    refine lv_iload_n hx hb d_15_60_144 rfl (lv_at hl 1 rfl) ?_
    refine zald (ci := 14) (k := 10) hx hb hK rfl hZ19 (by decide) (by decide) rfl (Nat.le_of_ble_eq_true rfl) g20.1 g20.2 d_15_60_145 ?_
    obtain ⟨r21, F21, B21, hc21, hf⟩ := gbind hf
    refine va_calli (va_runS (As := [.int (iI (B19 14 0 9 l3)), .int (iI (B19 14 0 10 l3))]) (rest := [.int (iI r19), .int (iI (F 14 0 45)), .ref (ad 14 0 (44 + 1))]) ⟨hx, hb, hml, hown, hts⟩ (c_M_tone (l := l) hc21) (va_cwS 2 hts (gdS k_12_158 k_12_159 k_1_9 k_12_160) rfl rfl rfl (by decide +kernel) ⟨by dsimp only; omega, by dsimp only; omega⟩) (zPS X hZ19 hS19 [.int (iI (B19 14 0 9 l3)), .int (iI (B19 14 0 10 l3))]) rfl rfl hl.1 rfl (lv_room (Nat.le_of_ble_eq_true rfl)) d_15_60_146 ⟨Nat.le_of_ble_eq_true rfl, Nat.le_of_ble_eq_true rfl⟩) hS19 (fun q _ h => zAin X hS19 q h) (zAin X hS19) (fun p21 u21 t21 H21 locs21 ht21 hv21 hw21 hB21 hz21 hk21 hS21 => ?_)
    have hZ21 := zBack X ht21 hB21
    subst hw21
    refine zsub hx hb d_15_60_149 ?_
    exact b_M_goChange_150 X ho hf hZ21 hS21 (lv_sub hl [0, 3] rfl)
  · replace hf := gneg hf h17
    refine lv_aload_n hx hb d_15_60_97 rfl (lv_at hl 3 rfl) ?_
    refine zget (ci := 14) (C := RX14) (T := TX14) (v := .ref (ad 14 0 (9 + 1))) (k := 9) hx hb hts inW_14 hown hK hZ15 (by decide) (by decide) rfl (by decide) k_11_7 rfl d_15_60_98 ?_
    refine lv_iload_n hx hb d_15_60_101 rfl (lv_at hl 1 rfl) ?_
    obtain ⟨g22, hf⟩ := gif hf
    refine zald (ci := 14) (k := 9) hx hb hK rfl hZ15 (by decide) (by decide) rfl (Nat.le_of_ble_eq_true rfl) g22.1 g22.2 d_15_60_102 ?_
    refine lv_aload_n hx hb d_15_60_103 rfl (lv_at hl 3 rfl) ?_
    refine zget (ci := 14) (C := RX14) (T := TX14) (v := .ref (ad 14 0 (10 + 1))) (k := 10) hx hb hts inW_14 hown hK hZ15 (by decide) (by decide) rfl (by decide) k_11_8 rfl d_15_60_104 ?_
    refine lv_iload_n hx hb d_15_60_107 rfl (lv_at hl 1 rfl) ?_
    refine zald (ci := 14) (k := 10) hx hb hK rfl hZ15 (by decide) (by decide) rfl (Nat.le_of_ble_eq_true rfl) g22.1 g22.2 d_15_60_108 ?_
    obtain ⟨r23, F23, B23, hc23, hf⟩ := gbind hf
    refine va_calli (va_runS (As := [.int (iI ((zup4 B 14 0 43 s1 s2) 14 0 9 l3)), .int (iI ((zup4 B 14 0 43 s1 s2) 14 0 10 l3))]) (rest := [.int (iI (F 14 0 45)), .ref (ad 14 0 (44 + 1))]) ⟨hx, hb, hml, hown, hts⟩ (c_M_tone (l := l) hc23) (va_cwS 2 hts (gdS k_12_158 k_12_159 k_1_9 k_12_160) rfl rfl rfl (by decide +kernel) ⟨by dsimp only; omega, by dsimp only; omega⟩) (zPS X hZ15 hS15 [.int (iI ((zup4 B 14 0 43 s1 s2) 14 0 9 l3)), .int (iI ((zup4 B 14 0 43 s1 s2) 14 0 10 l3))]) rfl rfl hl.1 rfl (lv_room (Nat.le_of_ble_eq_true rfl)) d_15_60_109 ⟨Nat.le_of_ble_eq_true rfl, Nat.le_of_ble_eq_true rfl⟩) hS15 (fun q _ h => zAin X hS15 q h) (zAin X hS15) (fun p23 u23 t23 H23 locs23 ht23 hv23 hw23 hB23 hz23 hk23 hS23 => ?_)
    have hZ23 := zBack X ht23 hB23
    subst hw23
    refine lv_goto (tgt := 150) hx hb d_15_60_112 (by decide) ?_
    exact b_M_goChange_150 X ho hf hZ23 hS23 (lv_sub hl [0, 3] rfl)

noncomputable def f_M_goChange_36 (o : oT_W) (K : Nat) (l3 : Int) (l2 : Int) (s0 : Int) (F : zF) (B : zB) : zO := if 0 ≤ (F 14 0 45) ∧ (F 14 0 45) < 100 then if (l2 = 0 ∨ l2 = 1) then if r32 l2 then (if l2 = 0 then if 0 ≤ (l3 + 1) ∧ (l3 + 1) < 3001 then if 0 ≤ l3 ∧ l3 < 3001 then f_M_goChange_84 o K s0 l3 l2 (F 14 0 45) (((zup4 B 14 0 42 (F 14 0 45) l2) 14 0 9 (l3 + 1)) - ((zup4 B 14 0 42 (F 14 0 45) l2) 14 0 9 l3)) F (zup4 B 14 0 42 (F 14 0 45) l2) else none else none else if 0 ≤ l3 ∧ l3 < 3001 then f_M_goChange_84 o K s0 l3 l2 (F 14 0 45) ((zup4 B 14 0 42 (F 14 0 45) l2) 14 0 9 l3) F (zup4 B 14 0 42 (F 14 0 45) l2) else none) else none else none else none
set_option maxHeartbeats 4000000 in
set_option maxRecDepth 100000 in
theorem b_M_goChange_36 {D : va_G} {ca : Nat → ClassId} {ad : Nat → Int → Nat → Nat} {L : List Nat} {aS vS : Nat → Nat} {A : Nat → Prop} {p : Program} {l : Launch} {e : Env} {s : State} {m : MethodId} {args : Array Value} {below : List Frame} {meth : Method} {c : Code} {K : Nat} {r : Int} {F9 : zF} {B9 : zB} {d : Nat} {o : oT_W} (X : zX D ca L aS vS A p s m args meth c prog_15_method_60_code 5 (Option.none : Option Jvm.ClassFile.FieldType) "StaveHouseModel") (ho : oH_W l D ca ad L aS vS d o) {l3 : Int} {l2 : Int} {s0 : Int} {F : zF} {B : zB} {H : Heap} {locs : List Loc} {ls : Array Slot} (hf : f_M_goChange_36 o K l3 l2 s0 F B = some (r, F9, B9)) (hZ : zH D ca ad lnM nM L F B A H) (hS : va_S A s.heap H locs) (hl : lv_has ls 5 [(3, .int (iI l3)), (2, .int (iI l2)), (0, .ref (ad 14 0 0))]) : W p l e ({ frames := d + 1 + 5, cells := 0, slots := 0, locals := 28 * (d + 1) + 116 } : Room) s m args below meth c H locs 0 0 (MQ below (Q_M_goChange D ca ad L r F9 B9 A) args s 0 0 A) (F0 m 36 ls [.int (iI s0)]) := by
  obtain ⟨hx, hb, hr, hml, hown, hts, hlk, hK, hA, hL, hX⟩ := id X
  replace hf : (if 0 ≤ (F 14 0 45) ∧ (F 14 0 45) < 100 then if (l2 = 0 ∨ l2 = 1) then if r32 l2 then (if l2 = 0 then if 0 ≤ (l3 + 1) ∧ (l3 + 1) < 3001 then if 0 ≤ l3 ∧ l3 < 3001 then f_M_goChange_84 o K s0 l3 l2 (F 14 0 45) (((zup4 B 14 0 42 (F 14 0 45) l2) 14 0 9 (l3 + 1)) - ((zup4 B 14 0 42 (F 14 0 45) l2) 14 0 9 l3)) F (zup4 B 14 0 42 (F 14 0 45) l2) else none else none else if 0 ≤ l3 ∧ l3 < 3001 then f_M_goChange_84 o K s0 l3 l2 (F 14 0 45) ((zup4 B 14 0 42 (F 14 0 45) l2) 14 0 9 l3) F (zup4 B 14 0 42 (F 14 0 45) l2) else none) else none else none else none) = some (r, F9, B9) := hf
  refine lv_istore (lv' := [(4, .int (iI s0)), (3, .int (iI l3)), (2, .int (iI l2)), (0, .ref (ad 14 0 0))]) hx hb d_15_60_36 hl (by decide) rfl (fun ls hl => ?_)
  refine lv_aload_n hx hb d_15_60_38 rfl (lv_at hl 3 rfl) ?_
  refine zget (ci := 14) (C := RX14) (T := TX14) (v := .ref (ad 14 0 (42 + 1))) (k := 42) hx hb hts inW_14 hown hK hZ (by decide) (by decide) rfl (by decide) k_11_40 rfl d_15_60_39 ?_
  refine lv_aload_n hx hb d_15_60_42 rfl (lv_at hl 3 rfl) ?_
  refine zget (ci := 14) (C := RX14) (T := TX14) (v := .int (iI (F 14 0 45))) (k := 45) hx hb hts inW_14 hown hK hZ (by decide) (by decide) rfl (by decide) k_11_43 rfl d_15_60_43 ?_
  refine lv_iload_n hx hb d_15_60_46 rfl (lv_at hl 2 rfl) ?_
  obtain ⟨g6, hf⟩ := gif hf
  obtain ⟨g8, hf⟩ := gif hf
  refine zzast (ci := 14) (k := 42) hx hb hK rfl hZ hS (by decide) (by decide) rfl (Nat.le_of_ble_eq_true rfl) g8 g6.1 g6.2 d_15_60_47 (fun H7 locs7 hZ7 hS7 => ?_)
  refine lv_aload_n hx hb d_15_60_48 rfl (lv_at hl 3 rfl) ?_
  refine zget (ci := 14) (C := RX14) (T := TX14) (v := .ref (ad 14 0 (43 + 1))) (k := 43) hx hb hts inW_14 hown hK hZ7 (by decide) (by decide) rfl (by decide) k_11_41 rfl d_15_60_49 ?_
  refine lv_aload_n hx hb d_15_60_52 rfl (lv_at hl 3 rfl) ?_
  refine zget (ci := 14) (C := RX14) (T := TX14) (v := .int (iI (F 14 0 45))) (k := 45) hx hb hts inW_14 hown hK hZ7 (by decide) (by decide) rfl (by decide) k_11_43 rfl d_15_60_53 ?_
  refine lv_iload_n hx hb d_15_60_56 rfl (lv_at hl 2 rfl) ?_
  obtain ⟨g9, hf⟩ := gif hf
  refine z0eq (tgt := 69) hx hb g9 d_15_60_57 (by decide) (fun h10 => ?_) (fun h10 => ?_)
  · replace hf := gpos hf h10
    refine lv_aload_n hx hb d_15_60_69 rfl (lv_at hl 3 rfl) ?_
    refine zget (ci := 14) (C := RX14) (T := TX14) (v := .ref (ad 14 0 (9 + 1))) (k := 9) hx hb hts inW_14 hown hK hZ7 (by decide) (by decide) rfl (by decide) k_11_7 rfl d_15_60_70 ?_
    refine lv_iload_n hx hb d_15_60_73 rfl (lv_at hl 1 rfl) ?_
    refine lv_iconst (v := iI 1) hx hb d_15_60_74 rfl ?_
    refine zadd hx hb d_15_60_75 ?_
    obtain ⟨g11, hf⟩ := gif hf
    refine zald (ci := 14) (k := 9) hx hb hK rfl hZ7 (by decide) (by decide) rfl (Nat.le_of_ble_eq_true rfl) g11.1 g11.2 d_15_60_76 ?_
    refine lv_aload_n hx hb d_15_60_77 rfl (lv_at hl 3 rfl) ?_
    refine zget (ci := 14) (C := RX14) (T := TX14) (v := .ref (ad 14 0 (9 + 1))) (k := 9) hx hb hts inW_14 hown hK hZ7 (by decide) (by decide) rfl (by decide) k_11_7 rfl d_15_60_78 ?_
    refine lv_iload_n hx hb d_15_60_81 rfl (lv_at hl 1 rfl) ?_
    obtain ⟨g12, hf⟩ := gif hf
    refine zald (ci := 14) (k := 9) hx hb hK rfl hZ7 (by decide) (by decide) rfl (Nat.le_of_ble_eq_true rfl) g12.1 g12.2 d_15_60_82 ?_
    refine zsub hx hb d_15_60_83 ?_
    exact b_M_goChange_84 X ho hf hZ7 hS7 (lv_sub hl [0, 1, 2, 3] rfl)
  · replace hf := gneg hf h10
    refine lv_aload_n hx hb d_15_60_60 rfl (lv_at hl 3 rfl) ?_
    refine zget (ci := 14) (C := RX14) (T := TX14) (v := .ref (ad 14 0 (9 + 1))) (k := 9) hx hb hts inW_14 hown hK hZ7 (by decide) (by decide) rfl (by decide) k_11_7 rfl d_15_60_61 ?_
    refine lv_iload_n hx hb d_15_60_64 rfl (lv_at hl 1 rfl) ?_
    obtain ⟨g13, hf⟩ := gif hf
    refine zald (ci := 14) (k := 9) hx hb hK rfl hZ7 (by decide) (by decide) rfl (Nat.le_of_ble_eq_true rfl) g13.1 g13.2 d_15_60_65 ?_
    refine lv_goto (tgt := 84) hx hb d_15_60_66 (by decide) ?_
    exact b_M_goChange_84 X ho hf hZ7 hS7 (lv_sub hl [0, 1, 2, 3] rfl)

noncomputable def f_M_goChange_18 (o : oT_W) (K : Nat) (l1 : Int) (s0 : Int) (F : zF) (B : zB) : zO := if r32 s0 then (if s0 = 0 then f_M_goChange_36 o K (l1 + 1) s0 (l1 + 3) F B else f_M_goChange_36 o K (l1 + 1) s0 (l1 + 2) F B) else none
set_option maxHeartbeats 4000000 in
set_option maxRecDepth 100000 in
theorem b_M_goChange_18 {D : va_G} {ca : Nat → ClassId} {ad : Nat → Int → Nat → Nat} {L : List Nat} {aS vS : Nat → Nat} {A : Nat → Prop} {p : Program} {l : Launch} {e : Env} {s : State} {m : MethodId} {args : Array Value} {below : List Frame} {meth : Method} {c : Code} {K : Nat} {r : Int} {F9 : zF} {B9 : zB} {d : Nat} {o : oT_W} (X : zX D ca L aS vS A p s m args meth c prog_15_method_60_code 5 (Option.none : Option Jvm.ClassFile.FieldType) "StaveHouseModel") (ho : oH_W l D ca ad L aS vS d o) {l1 : Int} {s0 : Int} {F : zF} {B : zB} {H : Heap} {locs : List Loc} {ls : Array Slot} (hf : f_M_goChange_18 o K l1 s0 F B = some (r, F9, B9)) (hZ : zH D ca ad lnM nM L F B A H) (hS : va_S A s.heap H locs) (hl : lv_has ls 5 [(0, .ref (ad 14 0 0)), (1, .int (iI l1))]) : W p l e ({ frames := d + 1 + 5, cells := 0, slots := 0, locals := 28 * (d + 1) + 116 } : Room) s m args below meth c H locs 0 0 (MQ below (Q_M_goChange D ca ad L r F9 B9 A) args s 0 0 A) (F0 m 18 ls [.int (iI s0)]) := by
  obtain ⟨hx, hb, hr, hml, hown, hts, hlk, hK, hA, hL, hX⟩ := id X
  replace hf : (if r32 s0 then (if s0 = 0 then f_M_goChange_36 o K (l1 + 1) s0 (l1 + 3) F B else f_M_goChange_36 o K (l1 + 1) s0 (l1 + 2) F B) else none) = some (r, F9, B9) := hf
  refine lv_istore_n (lv' := [(2, .int (iI s0)), (0, .ref (ad 14 0 0)), (1, .int (iI l1))]) hx hb d_15_60_18 rfl hl (by decide) rfl (fun ls hl => ?_)
  refine lv_iload_n hx hb d_15_60_19 rfl (lv_at hl 2 rfl) ?_
  refine lv_iconst (v := iI 1) hx hb d_15_60_20 rfl ?_
  refine zadd hx hb d_15_60_21 ?_
  refine lv_istore_n (lv' := [(3, .int (iI (l1 + 1))), (2, .int (iI s0)), (0, .ref (ad 14 0 0)), (1, .int (iI l1))]) hx hb d_15_60_22 rfl hl (by decide) rfl (fun ls hl => ?_)
  refine lv_iload_n hx hb d_15_60_23 rfl (lv_at hl 1 rfl) ?_
  obtain ⟨g4, hf⟩ := gif hf
  refine z0eq (tgt := 33) hx hb g4 d_15_60_24 (by decide) (fun h5 => ?_) (fun h5 => ?_)
  · replace hf := gpos hf h5
    refine lv_iload_n hx hb d_15_60_33 rfl (lv_at hl 3 rfl) ?_
    refine lv_iconst (v := iI 3) hx hb d_15_60_34 rfl ?_
    refine zadd hx hb d_15_60_35 ?_
    exact b_M_goChange_36 X ho hf hZ hS (lv_sub hl [0, 1, 2] rfl)
  · replace hf := gneg hf h5
    refine lv_iload_n hx hb d_15_60_27 rfl (lv_at hl 3 rfl) ?_
    refine lv_iconst (v := iI 2) hx hb d_15_60_28 rfl ?_
    refine zadd hx hb d_15_60_29 ?_
    refine lv_goto (tgt := 36) hx hb d_15_60_30 (by decide) ?_
    exact b_M_goChange_36 X ho hf hZ hS (lv_sub hl [0, 1, 2] rfl)

noncomputable def fb_M_goChange (o : oT_W) (K : Nat) (l1 : Int) (F : zF) (B : zB) : zO := if 0 ≤ l1 ∧ l1 < 3001 then if r64 (B 14 0 11 l1) then (if (zcmp (B 14 0 11 l1) 120299659095922) = 0 then f_M_goChange_18 o K l1 1 F B else f_M_goChange_18 o K l1 0 F B) else none else none
set_option maxHeartbeats 4000000 in
set_option maxRecDepth 100000 in
theorem cb_M_goChange {l : Launch} {D : va_G} {ca : Nat → ClassId} {ad : Nat → Int → Nat → Nat} {L : List Nat} {aS vS : Nat → Nat} {sz K : Nat} {d : Nat} {o : oT_W} (ho : oH_W l D ca ad L aS vS d o)  {l1 : Int} {F F9 : zF} {B B9 : zB} {r : Int} (hf : fb_M_goChange o K l1 F B = some (r, F9, B9)) : Met l ({ cls := "StaveHouseModel", name := "goChange", desc := "(I)V" } : Jvm.MethodName) (Cond.code ({ cls := "StaveHouseModel", name := "goChange", desc := "(I)V" } : Jvm.MethodName) prog_15_method_60_code 5 (Option.none : Option Jvm.ClassFile.FieldType) :: wAll) ({ frames := d + 1 + 5, cells := 0, slots := 0, locals := 28 * (d + 1) + 116 } : Room) (va_Pc [.ref (ad 14 0 0), .int (iI l1)] (zPre D ca ad lnM nM L aS vS F B sz)) (Q_M_goChange D ca ad L r F9 B9 (zA L sz)) 0 0 (zA L sz) := by
  refine zMet (Qc := Q_M_goChange D ca ad L r F9 B9) (lv := [(0, .ref (ad 14 0 0)), (1, .int (iI l1))]) (by decide) (Nat.le_of_ble_eq_true rfl) rfl (fun A p e s m below meth c ls X hZ hS hl => ?_)
  obtain ⟨hx, hb, hr, hml, hown, hts, hlk, hK, hA, hL, hX⟩ := id X
  replace hf : (if 0 ≤ l1 ∧ l1 < 3001 then if r64 (B 14 0 11 l1) then (if (zcmp (B 14 0 11 l1) 120299659095922) = 0 then f_M_goChange_18 o K l1 1 F B else f_M_goChange_18 o K l1 0 F B) else none else none) = some (r, F9, B9) := hf
  refine lv_aload_n hx hb d_15_60_0 rfl (lv_at hl 0 rfl) ?_
  refine zget (ci := 14) (C := RX14) (T := TX14) (v := .ref (ad 14 0 (11 + 1))) (k := 11) hx hb hts inW_14 hown hK hZ (by decide) (by decide) rfl (by decide) k_11_9 rfl d_15_60_1 ?_
  refine lv_iload_n hx hb d_15_60_4 rfl (lv_at hl 1 rfl) ?_
  obtain ⟨g1, hf⟩ := gif hf
  refine zlald (ci := 14) (k := 11) hx hb hK rfl hZ (by decide) (by decide) rfl (Nat.le_of_ble_eq_true rfl) g1.1 g1.2 d_15_60_5 ?_
  refine va_gets hx hb (hX.2.2.2.1 _ (List.mem_of_getElem? (i := 12) rfl)) hS hown (hts _ k_10_229) (fun _ h => h) d_15_60_6 ?_
  refine W.eq (g2 := F0 m 9 ls [.long (lI 120299659095922), .long (lI (B 14 0 11 l1))]) rfl ?_
  obtain ⟨g2, hf⟩ := gif hf
  refine zcmp_r hx hb g2 (by decide) d_15_60_9 ?_
  refine z0ne (tgt := 17) hx hb zcmp_32 d_15_60_10 (by decide) (fun h3 => ?_) (fun h3 => ?_)
  · replace hf := gneg hf h3
    refine lv_iconst (v := iI 0) hx hb d_15_60_17 rfl ?_
    exact b_M_goChange_18 X ho hf hZ hS (lv_sub hl [0, 1] rfl)
  · replace hf := gpos hf h3
    refine lv_iconst (v := iI 1) hx hb d_15_60_13 rfl ?_
    refine lv_goto (tgt := 18) hx hb d_15_60_14 (by decide) ?_
    exact b_M_goChange_18 X ho hf hZ hS (lv_sub hl [0, 1] rfl)

noncomputable def f_M_goBack_180 (o : oT_W) (rec92 : Int → zF → zB → zO) (K : Nat) (l7 : Int) (l6 : Int) (l5 : Int) (l4 : Int) (l3 : Int) (s0 : Int) (F : zF) (B : zB) : zO := if 0 ≤ (F 14 0 6) ∧ (F 14 0 6) < 3 then if 0 ≤ l4 ∧ l4 < 4000 then rec92 (l3 + 1) F (zup4 B 13 (F 14 0 6) 18 l4 (zor (zor (zor (zand l5 (-8)) l6) l7) s0)) else none else none
set_option maxHeartbeats 4000000 in
set_option maxRecDepth 100000 in
theorem b_M_goBack_180 {D : va_G} {ca : Nat → ClassId} {ad : Nat → Int → Nat → Nat} {L : List Nat} {aS vS : Nat → Nat} {A : Nat → Prop} {p : Program} {l : Launch} {e : Env} {s : State} {m : MethodId} {args : Array Value} {below : List Frame} {meth : Method} {c : Code} {K : Nat} {r : Int} {F9 : zF} {B9 : zB} {d : Nat} {o : oT_W} (X : zX D ca L aS vS A p s m args meth c prog_15_method_63_code 9 (Option.none : Option Jvm.ClassFile.FieldType) "StaveHouseModel") (ho : oH_W l D ca ad L aS vS d o) {rec92 : Int → zF → zB → zO} (hrec92 : ∀ {l3 : Int} {F : zF} {B : zB} {H : Heap} {locs : List Loc} {ls : Array Slot}, rec92 l3 F B = some (r, F9, B9) → zH D ca ad lnM nM L F B A H → va_S A s.heap H locs → lv_has ls 9 [(3, .int (iI l3)), (0, .ref (ad 14 0 0))] → W p l e ({ frames := d + 1 + 5, cells := 0, slots := 0, locals := 28 * (d + 1) + 116 } : Room) s m args below meth c H locs 0 0 (MQ below (Q_M_goBack D ca ad L r F9 B9 A) args s 0 0 A) (F0 m 92 ls [])) {l7 : Int} {l6 : Int} {l5 : Int} {l4 : Int} {l3 : Int} {s0 : Int} {F : zF} {B : zB} {H : Heap} {locs : List Loc} {ls : Array Slot} (hf : f_M_goBack_180 o rec92 K l7 l6 l5 l4 l3 s0 F B = some (r, F9, B9)) (hZ : zH D ca ad lnM nM L F B A H) (hS : va_S A s.heap H locs) (hl : lv_has ls 9 [(7, .int (iI l7)), (6, .int (iI l6)), (5, .int (iI l5)), (4, .int (iI l4)), (3, .int (iI l3)), (0, .ref (ad 14 0 0))]) : W p l e ({ frames := d + 1 + 5, cells := 0, slots := 0, locals := 28 * (d + 1) + 116 } : Room) s m args below meth c H locs 0 0 (MQ below (Q_M_goBack D ca ad L r F9 B9 A) args s 0 0 A) (F0 m 180 ls [.int (iI s0)]) := by
  obtain ⟨hx, hb, hr, hml, hown, hts, hlk, hK, hA, hL, hX⟩ := id X
  replace hf : (if 0 ≤ (F 14 0 6) ∧ (F 14 0 6) < 3 then if 0 ≤ l4 ∧ l4 < 4000 then rec92 (l3 + 1) F (zup4 B 13 (F 14 0 6) 18 l4 (zor (zor (zor (zand l5 (-8)) l6) l7) s0)) else none else none) = some (r, F9, B9) := hf
  refine lv_istore (lv' := [(8, .int (iI s0)), (7, .int (iI l7)), (6, .int (iI l6)), (5, .int (iI l5)), (4, .int (iI l4)), (3, .int (iI l3)), (0, .ref (ad 14 0 0))]) hx hb d_15_63_180 hl (by decide) rfl (fun ls hl => ?_)
  refine lv_aload_n hx hb d_15_63_182 rfl (lv_at hl 6 rfl) ?_
  refine zget (ci := 14) (C := RX14) (T := TX14) (v := va_rf (zrf ad 13 (F 14 0 6))) (k := 6) hx hb hts inW_14 hown hK hZ (by decide) (by decide) rfl (by decide) k_11_4 rfl d_15_63_183 ?_
  obtain ⟨g21, hf⟩ := gif hf
  refine zunrf g21.1 ?_
  refine zget (ci := 13) (C := RX13) (T := TX13) (v := .ref (ad 13 (F 14 0 6) (18 + 1))) (k := 18) hx hb hts inW_13 hown hK hZ g21.1 g21.2 rfl (by decide) k_9_154 rfl d_15_63_186 ?_
  refine lv_iload hx hb d_15_63_189 (lv_at hl 4 rfl) ?_
  refine lv_iload hx hb d_15_63_191 (lv_at hl 3 rfl) ?_
  refine lv_bipush (v := iI (-8)) hx hb d_15_63_193 (by decide) ?_
  refine zand_r hx hb d_15_63_195 ?_
  refine lv_iload hx hb d_15_63_196 (lv_at hl 2 rfl) ?_
  refine zor_r hx hb d_15_63_198 ?_
  refine lv_iload hx hb d_15_63_199 (lv_at hl 1 rfl) ?_
  refine zor_r hx hb d_15_63_201 ?_
  refine lv_iload hx hb d_15_63_202 (lv_at hl 0 rfl) ?_
  refine zor_r hx hb d_15_63_204 ?_
  obtain ⟨g22, hf⟩ := gif hf
  refine zast (ci := 13) (k := 18) hx hb hK rfl hZ hS g21.1 g21.2 rfl (Nat.le_of_ble_eq_true rfl) g22.1 g22.2 d_15_63_205 (fun H23 locs23 hZ23 hS23 => ?_)
  refine lv_iinc (v := iI (l3 + 1)) (lv' := [(3, .int (iI (l3 + 1))), (8, .int (iI s0)), (7, .int (iI l7)), (6, .int (iI l6)), (5, .int (iI l5)), (4, .int (iI l4)), (0, .ref (ad 14 0 0))]) hx hb d_15_63_206 hl (k := 5) rfl (iI_add _ 1) (by decide) rfl (fun ls hl => ?_)
  refine lv_goto (tgt := 92) hx hb d_15_63_209 (by decide) ?_
  exact hrec92 hf hZ23 hS23 (lv_sub hl [0, 6] rfl)

noncomputable def f_M_goBack_166 (o : oT_W) (rec92 : Int → zF → zB → zO) (K : Nat) (l6 : Int) (l5 : Int) (l4 : Int) (l3 : Int) (s0 : Int) (F : zF) (B : zB) : zO := if r32 (zand l5 2) then (if (zand l5 2) ≤ 0 then f_M_goBack_180 o rec92 K s0 l6 l5 l4 l3 0 F B else f_M_goBack_180 o rec92 K s0 l6 l5 l4 l3 4 F B) else none
set_option maxHeartbeats 4000000 in
set_option maxRecDepth 100000 in
theorem b_M_goBack_166 {D : va_G} {ca : Nat → ClassId} {ad : Nat → Int → Nat → Nat} {L : List Nat} {aS vS : Nat → Nat} {A : Nat → Prop} {p : Program} {l : Launch} {e : Env} {s : State} {m : MethodId} {args : Array Value} {below : List Frame} {meth : Method} {c : Code} {K : Nat} {r : Int} {F9 : zF} {B9 : zB} {d : Nat} {o : oT_W} (X : zX D ca L aS vS A p s m args meth c prog_15_method_63_code 9 (Option.none : Option Jvm.ClassFile.FieldType) "StaveHouseModel") (ho : oH_W l D ca ad L aS vS d o) {rec92 : Int → zF → zB → zO} (hrec92 : ∀ {l3 : Int} {F : zF} {B : zB} {H : Heap} {locs : List Loc} {ls : Array Slot}, rec92 l3 F B = some (r, F9, B9) → zH D ca ad lnM nM L F B A H → va_S A s.heap H locs → lv_has ls 9 [(3, .int (iI l3)), (0, .ref (ad 14 0 0))] → W p l e ({ frames := d + 1 + 5, cells := 0, slots := 0, locals := 28 * (d + 1) + 116 } : Room) s m args below meth c H locs 0 0 (MQ below (Q_M_goBack D ca ad L r F9 B9 A) args s 0 0 A) (F0 m 92 ls [])) {l6 : Int} {l5 : Int} {l4 : Int} {l3 : Int} {s0 : Int} {F : zF} {B : zB} {H : Heap} {locs : List Loc} {ls : Array Slot} (hf : f_M_goBack_166 o rec92 K l6 l5 l4 l3 s0 F B = some (r, F9, B9)) (hZ : zH D ca ad lnM nM L F B A H) (hS : va_S A s.heap H locs) (hl : lv_has ls 9 [(6, .int (iI l6)), (5, .int (iI l5)), (4, .int (iI l4)), (3, .int (iI l3)), (0, .ref (ad 14 0 0))]) : W p l e ({ frames := d + 1 + 5, cells := 0, slots := 0, locals := 28 * (d + 1) + 116 } : Room) s m args below meth c H locs 0 0 (MQ below (Q_M_goBack D ca ad L r F9 B9 A) args s 0 0 A) (F0 m 166 ls [.int (iI s0)]) := by
  obtain ⟨hx, hb, hr, hml, hown, hts, hlk, hK, hA, hL, hX⟩ := id X
  replace hf : (if r32 (zand l5 2) then (if (zand l5 2) ≤ 0 then f_M_goBack_180 o rec92 K s0 l6 l5 l4 l3 0 F B else f_M_goBack_180 o rec92 K s0 l6 l5 l4 l3 4 F B) else none) = some (r, F9, B9) := hf
  refine lv_istore (lv' := [(7, .int (iI s0)), (6, .int (iI l6)), (5, .int (iI l5)), (4, .int (iI l4)), (3, .int (iI l3)), (0, .ref (ad 14 0 0))]) hx hb d_15_63_166 hl (by decide) rfl (fun ls hl => ?_)
  refine lv_iload hx hb d_15_63_168 (lv_at hl 2 rfl) ?_
  refine lv_iconst (v := iI 2) hx hb d_15_63_170 rfl ?_
  refine zand_r hx hb d_15_63_171 ?_
  obtain ⟨g19, hf⟩ := gif hf
  refine z0le (tgt := 179) hx hb g19 d_15_63_172 (by decide) (fun h20 => ?_) (fun h20 => ?_)
  · replace hf := gpos hf h20
    refine lv_iconst (v := iI 0) hx hb d_15_63_179 rfl ?_
    exact b_M_goBack_180 X ho hrec92 hf hZ hS (lv_sub hl [0, 1, 2, 3, 4, 5] rfl)
  · replace hf := gneg hf h20
    refine lv_iconst (v := iI 4) hx hb d_15_63_175 rfl ?_
    refine lv_goto (tgt := 180) hx hb d_15_63_176 (by decide) ?_
    exact b_M_goBack_180 X ho hrec92 hf hZ hS (lv_sub hl [0, 1, 2, 3, 4, 5] rfl)

noncomputable def f_M_goBack_152 (o : oT_W) (rec92 : Int → zF → zB → zO) (K : Nat) (l5 : Int) (l4 : Int) (l3 : Int) (s0 : Int) (F : zF) (B : zB) : zO := if r32 (zand l5 4) then (if (zand l5 4) ≤ 0 then f_M_goBack_166 o rec92 K s0 l5 l4 l3 0 F B else f_M_goBack_166 o rec92 K s0 l5 l4 l3 2 F B) else none
set_option maxHeartbeats 4000000 in
set_option maxRecDepth 100000 in
theorem b_M_goBack_152 {D : va_G} {ca : Nat → ClassId} {ad : Nat → Int → Nat → Nat} {L : List Nat} {aS vS : Nat → Nat} {A : Nat → Prop} {p : Program} {l : Launch} {e : Env} {s : State} {m : MethodId} {args : Array Value} {below : List Frame} {meth : Method} {c : Code} {K : Nat} {r : Int} {F9 : zF} {B9 : zB} {d : Nat} {o : oT_W} (X : zX D ca L aS vS A p s m args meth c prog_15_method_63_code 9 (Option.none : Option Jvm.ClassFile.FieldType) "StaveHouseModel") (ho : oH_W l D ca ad L aS vS d o) {rec92 : Int → zF → zB → zO} (hrec92 : ∀ {l3 : Int} {F : zF} {B : zB} {H : Heap} {locs : List Loc} {ls : Array Slot}, rec92 l3 F B = some (r, F9, B9) → zH D ca ad lnM nM L F B A H → va_S A s.heap H locs → lv_has ls 9 [(3, .int (iI l3)), (0, .ref (ad 14 0 0))] → W p l e ({ frames := d + 1 + 5, cells := 0, slots := 0, locals := 28 * (d + 1) + 116 } : Room) s m args below meth c H locs 0 0 (MQ below (Q_M_goBack D ca ad L r F9 B9 A) args s 0 0 A) (F0 m 92 ls [])) {l5 : Int} {l4 : Int} {l3 : Int} {s0 : Int} {F : zF} {B : zB} {H : Heap} {locs : List Loc} {ls : Array Slot} (hf : f_M_goBack_152 o rec92 K l5 l4 l3 s0 F B = some (r, F9, B9)) (hZ : zH D ca ad lnM nM L F B A H) (hS : va_S A s.heap H locs) (hl : lv_has ls 9 [(5, .int (iI l5)), (4, .int (iI l4)), (3, .int (iI l3)), (0, .ref (ad 14 0 0))]) : W p l e ({ frames := d + 1 + 5, cells := 0, slots := 0, locals := 28 * (d + 1) + 116 } : Room) s m args below meth c H locs 0 0 (MQ below (Q_M_goBack D ca ad L r F9 B9 A) args s 0 0 A) (F0 m 152 ls [.int (iI s0)]) := by
  obtain ⟨hx, hb, hr, hml, hown, hts, hlk, hK, hA, hL, hX⟩ := id X
  replace hf : (if r32 (zand l5 4) then (if (zand l5 4) ≤ 0 then f_M_goBack_166 o rec92 K s0 l5 l4 l3 0 F B else f_M_goBack_166 o rec92 K s0 l5 l4 l3 2 F B) else none) = some (r, F9, B9) := hf
  refine lv_istore (lv' := [(6, .int (iI s0)), (5, .int (iI l5)), (4, .int (iI l4)), (3, .int (iI l3)), (0, .ref (ad 14 0 0))]) hx hb d_15_63_152 hl (by decide) rfl (fun ls hl => ?_)
  refine lv_iload hx hb d_15_63_154 (lv_at hl 1 rfl) ?_
  refine lv_iconst (v := iI 4) hx hb d_15_63_156 rfl ?_
  refine zand_r hx hb d_15_63_157 ?_
  obtain ⟨g17, hf⟩ := gif hf
  refine z0le (tgt := 165) hx hb g17 d_15_63_158 (by decide) (fun h18 => ?_) (fun h18 => ?_)
  · replace hf := gpos hf h18
    refine lv_iconst (v := iI 0) hx hb d_15_63_165 rfl ?_
    exact b_M_goBack_166 X ho hrec92 hf hZ hS (lv_sub hl [0, 1, 2, 3, 4] rfl)
  · replace hf := gneg hf h18
    refine lv_iconst (v := iI 2) hx hb d_15_63_161 rfl ?_
    refine lv_goto (tgt := 166) hx hb d_15_63_162 (by decide) ?_
    exact b_M_goBack_166 X ho hrec92 hf hZ hS (lv_sub hl [0, 1, 2, 3, 4] rfl)

noncomputable def f_M_goBack_92 (o : oT_W) (K : Nat) : Nat → Int → zF → zB → zO
  | 0, _, _, _ => none
  | n + 1, l3, F, B => if r32 l3 then if r32 (F 14 0 36) then (if (F 14 0 36) ≤ l3 then some (0, F, B) else if 0 ≤ (F 14 0 6) ∧ (F 14 0 6) < 3 then if 0 ≤ ((1000 * (F 14 0 35)) + l3) ∧ ((1000 * (F 14 0 35)) + l3) < 4000 then if r32 ((F 14 0 36) - 1) then (if ((F 14 0 36) - 1) ≤ l3 then f_M_goBack_152 o (f_M_goBack_92 o K n) K (B 13 (F 14 0 6) 18 ((1000 * (F 14 0 35)) + l3)) ((1000 * (F 14 0 35)) + l3) l3 0 F B else if 0 ≤ (((1000 * (F 14 0 35)) + l3) + 1) ∧ (((1000 * (F 14 0 35)) + l3) + 1) < 4000 then f_M_goBack_152 o (f_M_goBack_92 o K n) K (B 13 (F 14 0 6) 18 ((1000 * (F 14 0 35)) + l3)) ((1000 * (F 14 0 35)) + l3) l3 (zand (B 13 (F 14 0 6) 18 (((1000 * (F 14 0 35)) + l3) + 1)) 1) F B else none) else none else none else none) else none else none
set_option maxHeartbeats 4000000 in
set_option maxRecDepth 100000 in
theorem b_M_goBack_92 {D : va_G} {ca : Nat → ClassId} {ad : Nat → Int → Nat → Nat} {L : List Nat} {aS vS : Nat → Nat} {A : Nat → Prop} {p : Program} {l : Launch} {e : Env} {s : State} {m : MethodId} {args : Array Value} {below : List Frame} {meth : Method} {c : Code} {K : Nat} {r : Int} {F9 : zF} {B9 : zB} {d : Nat} {o : oT_W} (X : zX D ca L aS vS A p s m args meth c prog_15_method_63_code 9 (Option.none : Option Jvm.ClassFile.FieldType) "StaveHouseModel") (ho : oH_W l D ca ad L aS vS d o) : ∀ {n : Nat} {l3 : Int} {F : zF} {B : zB} {H : Heap} {locs : List Loc} {ls : Array Slot}, f_M_goBack_92 o K n l3 F B = some (r, F9, B9) → zH D ca ad lnM nM L F B A H → va_S A s.heap H locs → lv_has ls 9 [(3, .int (iI l3)), (0, .ref (ad 14 0 0))] → W p l e ({ frames := d + 1 + 5, cells := 0, slots := 0, locals := 28 * (d + 1) + 116 } : Room) s m args below meth c H locs 0 0 (MQ below (Q_M_goBack D ca ad L r F9 B9 A) args s 0 0 A) (F0 m 92 ls []) := by
  obtain ⟨hx, hb, hr, hml, hown, hts, hlk, hK, hA, hL, hX⟩ := id X
  intro n
  induction n with
  | zero =>
    intros
    rename_i hf _ _ _
    cases hf
  | succ n ih =>
    intro l3 F B H locs ls hf hZ hS hl
    replace hf : (if r32 l3 then if r32 (F 14 0 36) then (if (F 14 0 36) ≤ l3 then some (0, F, B) else if 0 ≤ (F 14 0 6) ∧ (F 14 0 6) < 3 then if 0 ≤ ((1000 * (F 14 0 35)) + l3) ∧ ((1000 * (F 14 0 35)) + l3) < 4000 then if r32 ((F 14 0 36) - 1) then (if ((F 14 0 36) - 1) ≤ l3 then f_M_goBack_152 o (f_M_goBack_92 o K n) K (B 13 (F 14 0 6) 18 ((1000 * (F 14 0 35)) + l3)) ((1000 * (F 14 0 35)) + l3) l3 0 F B else if 0 ≤ (((1000 * (F 14 0 35)) + l3) + 1) ∧ (((1000 * (F 14 0 35)) + l3) + 1) < 4000 then f_M_goBack_152 o (f_M_goBack_92 o K n) K (B 13 (F 14 0 6) 18 ((1000 * (F 14 0 35)) + l3)) ((1000 * (F 14 0 35)) + l3) l3 (zand (B 13 (F 14 0 6) 18 (((1000 * (F 14 0 35)) + l3) + 1)) 1) F B else none) else none else none else none) else none else none) = some (r, F9, B9) := hf
    refine lv_iload_n hx hb d_15_63_92 rfl (lv_at hl 0 rfl) ?_
    refine lv_aload_n hx hb d_15_63_93 rfl (lv_at hl 1 rfl) ?_
    refine zget (ci := 14) (C := RX14) (T := TX14) (v := .int (iI (F 14 0 36))) (k := 36) hx hb hts inW_14 hown hK hZ (by decide) (by decide) rfl (by decide) k_11_34 rfl d_15_63_94 ?_
    obtain ⟨g9, hf⟩ := gif hf
    obtain ⟨g10, hf⟩ := gif hf
    refine zge (tgt := 212) hx hb g9 g10 d_15_63_97 (by decide) (fun h11 => ?_) (fun h11 => ?_)
    · replace hf := gpos hf h11
      cases hf
      exact W.vret hx hb hr (fun t ht hW => ⟨⟨(), rfl, trivial, by rw [ht]; exact hZ, va_K.moved hW.alike hK⟩, hS.F ht⟩) hS.2.2 d_15_63_212 hlk
    · replace hf := gneg hf h11
      refine lv_sipush (v := iI 1000) hx hb d_15_63_100 (by decide) ?_
      refine lv_aload_n hx hb d_15_63_103 rfl (lv_at hl 1 rfl) ?_
      refine zget (ci := 14) (C := RX14) (T := TX14) (v := .int (iI (F 14 0 35))) (k := 35) hx hb hts inW_14 hown hK hZ (by decide) (by decide) rfl (by decide) k_11_33 rfl d_15_63_104 ?_
      refine zmul hx hb d_15_63_107 ?_
      refine lv_iload_n hx hb d_15_63_108 rfl (lv_at hl 0 rfl) ?_
      refine zadd hx hb d_15_63_109 ?_
      refine lv_istore (lv' := [(4, .int (iI ((1000 * (F 14 0 35)) + l3))), (3, .int (iI l3)), (0, .ref (ad 14 0 0))]) hx hb d_15_63_110 hl (by decide) rfl (fun ls hl => ?_)
      refine lv_aload_n hx hb d_15_63_112 rfl (lv_at hl 2 rfl) ?_
      refine zget (ci := 14) (C := RX14) (T := TX14) (v := va_rf (zrf ad 13 (F 14 0 6))) (k := 6) hx hb hts inW_14 hown hK hZ (by decide) (by decide) rfl (by decide) k_11_4 rfl d_15_63_113 ?_
      obtain ⟨g12, hf⟩ := gif hf
      refine zunrf g12.1 ?_
      refine zget (ci := 13) (C := RX13) (T := TX13) (v := .ref (ad 13 (F 14 0 6) (18 + 1))) (k := 18) hx hb hts inW_13 hown hK hZ g12.1 g12.2 rfl (by decide) k_9_154 rfl d_15_63_116 ?_
      refine lv_iload hx hb d_15_63_119 (lv_at hl 0 rfl) ?_
      obtain ⟨g13, hf⟩ := gif hf
      refine zald (ci := 13) (k := 18) hx hb hK rfl hZ g12.1 g12.2 rfl (Nat.le_of_ble_eq_true rfl) g13.1 g13.2 d_15_63_121 ?_
      refine lv_istore (lv' := [(5, .int (iI (B 13 (F 14 0 6) 18 ((1000 * (F 14 0 35)) + l3)))), (4, .int (iI ((1000 * (F 14 0 35)) + l3))), (3, .int (iI l3)), (0, .ref (ad 14 0 0))]) hx hb d_15_63_122 hl (by decide) rfl (fun ls hl => ?_)
      refine lv_iload_n hx hb d_15_63_124 rfl (lv_at hl 2 rfl) ?_
      refine lv_aload_n hx hb d_15_63_125 rfl (lv_at hl 3 rfl) ?_
      refine zget (ci := 14) (C := RX14) (T := TX14) (v := .int (iI (F 14 0 36))) (k := 36) hx hb hts inW_14 hown hK hZ (by decide) (by decide) rfl (by decide) k_11_34 rfl d_15_63_126 ?_
      refine lv_iconst (v := iI 1) hx hb d_15_63_129 rfl ?_
      refine zsub hx hb d_15_63_130 ?_
      obtain ⟨g14, hf⟩ := gif hf
      refine zge (tgt := 151) hx hb g9 g14 d_15_63_131 (by decide) (fun h15 => ?_) (fun h15 => ?_)
      · replace hf := gpos hf h15
        refine lv_iconst (v := iI 0) hx hb d_15_63_151 rfl ?_
        exact b_M_goBack_152 X ho ih hf hZ hS (lv_sub hl [0, 1, 2, 3] rfl)
      · replace hf := gneg hf h15
        refine lv_aload_n hx hb d_15_63_134 rfl (lv_at hl 3 rfl) ?_
        refine zget (ci := 14) (C := RX14) (T := TX14) (v := va_rf (zrf ad 13 (F 14 0 6))) (k := 6) hx hb hts inW_14 hown hK hZ (by decide) (by decide) rfl (by decide) k_11_4 rfl d_15_63_135 ?_
        refine zunrf g12.1 ?_
        refine zget (ci := 13) (C := RX13) (T := TX13) (v := .ref (ad 13 (F 14 0 6) (18 + 1))) (k := 18) hx hb hts inW_13 hown hK hZ g12.1 g12.2 rfl (by decide) k_9_154 rfl d_15_63_138 ?_
        refine lv_iload hx hb d_15_63_141 (lv_at hl 1 rfl) ?_
        refine lv_iconst (v := iI 1) hx hb d_15_63_143 rfl ?_
        refine zadd hx hb d_15_63_144 ?_
        obtain ⟨g16, hf⟩ := gif hf
        refine zald (ci := 13) (k := 18) hx hb hK rfl hZ g12.1 g12.2 rfl (Nat.le_of_ble_eq_true rfl) g16.1 g16.2 d_15_63_145 ?_
        refine lv_iconst (v := iI 1) hx hb d_15_63_146 rfl ?_
        refine zand_r hx hb d_15_63_147 ?_
        refine lv_goto (tgt := 152) hx hb d_15_63_148 (by decide) ?_
        exact b_M_goBack_152 X ho ih hf hZ hS (lv_sub hl [0, 1, 2, 3] rfl)

noncomputable def f_M_goBack_50 (o : oT_W) (K : Nat) : Nat → Int → Int → Int → zF → zB → zO
  | 0, _, _, _, _, _ => none
  | n + 1, l4, l3, l2, F, B => if r32 l3 then if r32 l4 then (if l4 ≤ l3 then f_M_goBack_92 o K K l2 F B else zbind (f_M_exchange K ((1000 * (F 14 0 35)) + l3) ((1000 * (F 14 0 35)) + l4) F B) (fun r8 F8 B8 => f_M_goBack_50 o K n (l4 - 1) (l3 + 1) l2 F8 B8)) else none else none
set_option maxHeartbeats 4000000 in
set_option maxRecDepth 100000 in
theorem b_M_goBack_50 {D : va_G} {ca : Nat → ClassId} {ad : Nat → Int → Nat → Nat} {L : List Nat} {aS vS : Nat → Nat} {A : Nat → Prop} {p : Program} {l : Launch} {e : Env} {s : State} {m : MethodId} {args : Array Value} {below : List Frame} {meth : Method} {c : Code} {K : Nat} {r : Int} {F9 : zF} {B9 : zB} {d : Nat} {o : oT_W} (X : zX D ca L aS vS A p s m args meth c prog_15_method_63_code 9 (Option.none : Option Jvm.ClassFile.FieldType) "StaveHouseModel") (ho : oH_W l D ca ad L aS vS d o) : ∀ {n : Nat} {l4 : Int} {l3 : Int} {l2 : Int} {F : zF} {B : zB} {H : Heap} {locs : List Loc} {ls : Array Slot}, f_M_goBack_50 o K n l4 l3 l2 F B = some (r, F9, B9) → zH D ca ad lnM nM L F B A H → va_S A s.heap H locs → lv_has ls 9 [(4, .int (iI l4)), (3, .int (iI l3)), (2, .int (iI l2)), (0, .ref (ad 14 0 0))] → W p l e ({ frames := d + 1 + 5, cells := 0, slots := 0, locals := 28 * (d + 1) + 116 } : Room) s m args below meth c H locs 0 0 (MQ below (Q_M_goBack D ca ad L r F9 B9 A) args s 0 0 A) (F0 m 50 ls []) := by
  obtain ⟨hx, hb, hr, hml, hown, hts, hlk, hK, hA, hL, hX⟩ := id X
  intro n
  induction n with
  | zero =>
    intros
    rename_i hf _ _ _
    cases hf
  | succ n ih =>
    intro l4 l3 l2 F B H locs ls hf hZ hS hl
    replace hf : (if r32 l3 then if r32 l4 then (if l4 ≤ l3 then f_M_goBack_92 o K K l2 F B else zbind (f_M_exchange K ((1000 * (F 14 0 35)) + l3) ((1000 * (F 14 0 35)) + l4) F B) (fun r8 F8 B8 => f_M_goBack_50 o K n (l4 - 1) (l3 + 1) l2 F8 B8)) else none else none) = some (r, F9, B9) := hf
    refine lv_iload_n hx hb d_15_63_50 rfl (lv_at hl 1 rfl) ?_
    refine lv_iload hx hb d_15_63_51 (lv_at hl 0 rfl) ?_
    obtain ⟨g5, hf⟩ := gif hf
    obtain ⟨g6, hf⟩ := gif hf
    refine zge (tgt := 90) hx hb g5 g6 d_15_63_53 (by decide) (fun h7 => ?_) (fun h7 => ?_)
    · replace hf := gpos hf h7
      refine lv_iload_n hx hb d_15_63_90 rfl (lv_at hl 2 rfl) ?_
      refine lv_istore_n (lv' := [(3, .int (iI l2)), (4, .int (iI l4)), (2, .int (iI l2)), (0, .ref (ad 14 0 0))]) hx hb d_15_63_91 rfl hl (by decide) rfl (fun ls hl => ?_)
      exact b_M_goBack_92 X ho hf hZ hS (lv_sub hl [0, 3] rfl)
    · replace hf := gneg hf h7
      refine lv_aload_n hx hb d_15_63_56 rfl (lv_at hl 3 rfl) ?_
      refine lv_sipush (v := iI 1000) hx hb d_15_63_57 (by decide) ?_
      refine lv_aload_n hx hb d_15_63_60 rfl (lv_at hl 3 rfl) ?_
      refine zget (ci := 14) (C := RX14) (T := TX14) (v := .int (iI (F 14 0 35))) (k := 35) hx hb hts inW_14 hown hK hZ (by decide) (by decide) rfl (by decide) k_11_33 rfl d_15_63_61 ?_
      refine zmul hx hb d_15_63_64 ?_
      refine lv_iload_n hx hb d_15_63_65 rfl (lv_at hl 1 rfl) ?_
      refine zadd hx hb d_15_63_66 ?_
      refine lv_sipush (v := iI 1000) hx hb d_15_63_67 (by decide) ?_
      refine lv_aload_n hx hb d_15_63_70 rfl (lv_at hl 3 rfl) ?_
      refine zget (ci := 14) (C := RX14) (T := TX14) (v := .int (iI (F 14 0 35))) (k := 35) hx hb hts inW_14 hown hK hZ (by decide) (by decide) rfl (by decide) k_11_33 rfl d_15_63_71 ?_
      refine zmul hx hb d_15_63_74 ?_
      refine lv_iload hx hb d_15_63_75 (lv_at hl 0 rfl) ?_
      refine zadd hx hb d_15_63_77 ?_
      obtain ⟨r8, F8, B8, hc8, hf⟩ := gbind hf
      refine va_callv (va_runV (As := [.int (iI ((1000 * (F 14 0 35)) + l3)), .int (iI ((1000 * (F 14 0 35)) + l4))]) (rest := []) ⟨hx, hb, hml, hown, hts⟩ (c_M_exchange (l := l) hc8) (cwV 2 hts (gdV k_15_16 k_15_18 ks_235 k_1_9 k_15_19) rfl rfl rfl (by decide +kernel) ⟨by dsimp only; omega, by dsimp only; omega⟩) (zPV X hZ hS (ci := 14) (by decide) (by decide) (r := (RX14, TX14, 107)) rfl [.int (iI ((1000 * (F 14 0 35)) + l3)), .int (iI ((1000 * (F 14 0 35)) + l4))]) rfl rfl hl.1 rfl (lv_room (Nat.le_of_ble_eq_true rfl)) d_15_63_78 ⟨Nat.le_of_ble_eq_true rfl, Nat.le_of_ble_eq_true rfl⟩) hS (fun q _ h => zAin X hS q h) (zAin X hS) (fun u8 t8 H8 locs8 ht8 hv8 hw8 hB8 hz8 hk8 hS8 => ?_)
      have hZ8 := zBack X ht8 hB8
      refine lv_iinc (v := iI (l3 + 1)) (lv' := [(3, .int (iI (l3 + 1))), (4, .int (iI l4)), (2, .int (iI l2)), (0, .ref (ad 14 0 0))]) hx hb d_15_63_81 hl (k := 1) rfl (iI_add _ 1) (by decide) rfl (fun ls hl => ?_)
      refine lv_iinc (v := iI (l4 - 1)) (lv' := [(4, .int (iI (l4 - 1))), (3, .int (iI (l3 + 1))), (2, .int (iI l2)), (0, .ref (ad 14 0 0))]) hx hb d_15_63_84 hl (k := 1) rfl (by rw [show Int32.ofInt (-1) = iI (-1) from rfl, iI_add]; congr 1) (by decide) rfl (fun ls hl => ?_)
      refine lv_goto (tgt := 50) hx hb d_15_63_87 (by decide) ?_
      exact ih hf hZ8 hS8 (lv_sub hl [0, 1, 2, 3] rfl)

noncomputable def fb_M_goBack (o : oT_W) (K : Nat) (l1 : Int) (F : zF) (B : zB) : zO := if 0 ≤ (l1 + 1) ∧ (l1 + 1) < 3001 then zbind (o.1 (l1 + 2) (B 14 0 30 (l1 + 1)) (zup3 F 14 0 41 ((F 14 0 41) + 1)) B) (fun r3 F3 B3 => f_M_goBack_50 o K K ((F3 14 0 36) - 1) (F 14 0 36) (F 14 0 36) (zup3 F3 14 0 41 ((F3 14 0 41) - 1)) B3) else none
set_option maxHeartbeats 4000000 in
set_option maxRecDepth 100000 in
theorem cb_M_goBack {l : Launch} {D : va_G} {ca : Nat → ClassId} {ad : Nat → Int → Nat → Nat} {L : List Nat} {aS vS : Nat → Nat} {sz K : Nat} {d : Nat} {o : oT_W} (ho : oH_W l D ca ad L aS vS d o)  {l1 : Int} {F F9 : zF} {B B9 : zB} {r : Int} (hf : fb_M_goBack o K l1 F B = some (r, F9, B9)) : Met l ({ cls := "StaveHouseModel", name := "goBack", desc := "(I)V" } : Jvm.MethodName) (Cond.code ({ cls := "StaveHouseModel", name := "goBack", desc := "(I)V" } : Jvm.MethodName) prog_15_method_63_code 9 (Option.none : Option Jvm.ClassFile.FieldType) :: wAll) ({ frames := d + 1 + 5, cells := 0, slots := 0, locals := 28 * (d + 1) + 116 } : Room) (va_Pc [.ref (ad 14 0 0), .int (iI l1)] (zPre D ca ad lnM nM L aS vS F B sz)) (Q_M_goBack D ca ad L r F9 B9 (zA L sz)) 0 0 (zA L sz) := by
  refine zMet (Qc := Q_M_goBack D ca ad L r F9 B9) (lv := [(0, .ref (ad 14 0 0)), (1, .int (iI l1))]) (by decide) (Nat.le_of_ble_eq_true rfl) rfl (fun A p e s m below meth c ls X hZ hS hl => ?_)
  obtain ⟨hx, hb, hr, hml, hown, hts, hlk, hK, hA, hL, hX⟩ := id X
  replace hf : (if 0 ≤ (l1 + 1) ∧ (l1 + 1) < 3001 then zbind (o.1 (l1 + 2) (B 14 0 30 (l1 + 1)) (zup3 F 14 0 41 ((F 14 0 41) + 1)) B) (fun r3 F3 B3 => f_M_goBack_50 o K K ((F3 14 0 36) - 1) (F 14 0 36) (F 14 0 36) (zup3 F3 14 0 41 ((F3 14 0 41) - 1)) B3) else none) = some (r, F9, B9) := hf
  refine lv_aload_n hx hb d_15_63_0 rfl (lv_at hl 0 rfl) ?_
  refine zget (ci := 14) (C := RX14) (T := TX14) (v := .int (iI (F 14 0 36))) (k := 36) hx hb hts inW_14 hown hK hZ (by decide) (by decide) rfl (by decide) k_11_34 rfl d_15_63_1 ?_
  refine lv_istore_n (lv' := [(2, .int (iI (F 14 0 36))), (0, .ref (ad 14 0 0)), (1, .int (iI l1))]) hx hb d_15_63_4 rfl hl (by decide) rfl (fun ls hl => ?_)
  refine lv_aload_n hx hb d_15_63_5 rfl (lv_at hl 1 rfl) ?_
  refine lv_dup hx hb d_15_63_6 rfl ?_
  refine zget (ci := 14) (C := RX14) (T := TX14) (v := .int (iI (F 14 0 41))) (k := 41) hx hb hts inW_14 hown hK hZ (by decide) (by decide) rfl (by decide) k_11_39 rfl d_15_63_7 ?_
  refine lv_iconst (v := iI 1) hx hb d_15_63_10 rfl ?_
  refine zadd hx hb d_15_63_11 ?_
  refine zput (ci := 14) (C := RX14) (T := TX14) (k := 41) (v := ((F 14 0 41) + 1)) (w := .int (iI ((F 14 0 41) + 1))) hx hb hts inW_14 tyX14 tyX14_ok nmX14 hown hK hZ hS (by decide) (by decide) rfl (by decide) k_11_39 rfl (fun G h => congrArg (fun q => Value.int (iI q)) h) rfl rfl (zno (by decide)) d_15_63_12 (fun H1 locs1 hZ1 hS1 => ?_)
  refine lv_aload_n hx hb d_15_63_15 rfl (lv_at hl 1 rfl) ?_
  refine lv_iload_n hx hb d_15_63_16 rfl (lv_at hl 2 rfl) ?_
  refine lv_iconst (v := iI 2) hx hb d_15_63_17 rfl ?_
  refine zadd hx hb d_15_63_18 ?_
  refine lv_aload_n hx hb d_15_63_19 rfl (lv_at hl 1 rfl) ?_
  refine zget (ci := 14) (C := RX14) (T := TX14) (v := .ref (ad 14 0 (30 + 1))) (k := 30) hx hb hts inW_14 hown hK hZ1 (by decide) (by decide) rfl (by decide) k_11_28 rfl d_15_63_20 ?_
  refine lv_iload_n hx hb d_15_63_23 rfl (lv_at hl 2 rfl) ?_
  refine lv_iconst (v := iI 1) hx hb d_15_63_24 rfl ?_
  refine zadd hx hb d_15_63_25 ?_
  obtain ⟨g2, hf⟩ := gif hf
  refine zald (ci := 14) (k := 30) hx hb hK rfl hZ1 (by decide) (by decide) rfl (Nat.le_of_ble_eq_true rfl) g2.1 g2.2 d_15_63_26 ?_
  obtain ⟨r3, F3, B3, hc3, hf⟩ := gbind hf
  refine va_callv (va_runV (As := [.int (iI (l1 + 2)), .int (iI (B 14 0 30 (l1 + 1)))]) (rest := []) ⟨hx, hb, hml, hown, hts⟩ (ho.1 hc3) (cwV 2 hts (gdV k_14_207 k_14_209 ks_223 k_1_9 k_14_210) rfl rfl rfl (by decide +kernel) ⟨by dsimp only; omega, by dsimp only; omega⟩) (zPV X hZ1 hS1 (ci := 14) (by decide) (by decide) (r := (RX14, TX14, 107)) rfl [.int (iI (l1 + 2)), .int (iI (B 14 0 30 (l1 + 1)))]) rfl rfl hl.1 rfl (lv_room (Nat.le_of_ble_eq_true rfl)) d_15_63_27 ⟨Nat.le_of_ble_eq_true rfl, Nat.le_of_ble_eq_true rfl⟩) hS1 (fun q _ h => zAin X hS1 q h) (zAin X hS1) (fun u3 t3 H3 locs3 ht3 hv3 hw3 hB3 hz3 hk3 hS3 => ?_)
  have hZ3 := zBack X ht3 hB3
  refine lv_aload_n hx hb d_15_63_30 rfl (lv_at hl 1 rfl) ?_
  refine lv_dup hx hb d_15_63_31 rfl ?_
  refine zget (ci := 14) (C := RX14) (T := TX14) (v := .int (iI (F3 14 0 41))) (k := 41) hx hb hts inW_14 hown hK hZ3 (by decide) (by decide) rfl (by decide) k_11_39 rfl d_15_63_32 ?_
  refine lv_iconst (v := iI 1) hx hb d_15_63_35 rfl ?_
  refine zsub hx hb d_15_63_36 ?_
  refine zput (ci := 14) (C := RX14) (T := TX14) (k := 41) (v := ((F3 14 0 41) - 1)) (w := .int (iI ((F3 14 0 41) - 1))) hx hb hts inW_14 tyX14 tyX14_ok nmX14 hown hK hZ3 hS3 (by decide) (by decide) rfl (by decide) k_11_39 rfl (fun G h => congrArg (fun q => Value.int (iI q)) h) rfl rfl (zno (by decide)) d_15_63_37 (fun H4 locs4 hZ4 hS4 => ?_)
  refine lv_iload_n hx hb d_15_63_40 rfl (lv_at hl 0 rfl) ?_
  refine lv_istore_n (lv' := [(3, .int (iI (F 14 0 36))), (2, .int (iI (F 14 0 36))), (0, .ref (ad 14 0 0)), (1, .int (iI l1))]) hx hb d_15_63_41 rfl hl (by decide) rfl (fun ls hl => ?_)
  refine lv_aload_n hx hb d_15_63_42 rfl (lv_at hl 2 rfl) ?_
  refine zget (ci := 14) (C := RX14) (T := TX14) (v := .int (iI (F3 14 0 36))) (k := 36) hx hb hts inW_14 hown hK hZ4 (by decide) (by decide) rfl (by decide) k_11_34 rfl d_15_63_43 ?_
  refine lv_iconst (v := iI 1) hx hb d_15_63_46 rfl ?_
  refine zsub hx hb d_15_63_47 ?_
  refine lv_istore (lv' := [(4, .int (iI ((F3 14 0 36) - 1))), (3, .int (iI (F 14 0 36))), (2, .int (iI (F 14 0 36))), (0, .ref (ad 14 0 0)), (1, .int (iI l1))]) hx hb d_15_63_48 hl (by decide) rfl (fun ls hl => ?_)
  exact b_M_goBack_50 X ho hf hZ4 hS4 (lv_sub hl [0, 1, 2, 3] rfl)

noncomputable def fb_M_goSlow (o : oT_W) (K : Nat) (l1 : Int) (F : zF) (B : zB) : zO := if 0 ≤ (l1 + 1) ∧ (l1 + 1) < 3001 then zbind (f_M_power K (B 14 0 9 (l1 + 1)) 1 F B) (fun r2 F2 B2 => if 0 ≤ (l1 + 3) ∧ (l1 + 3) < 3001 then zbind (f_M_power K (B2 14 0 9 (l1 + 3)) (-1) F2 B2) (fun r4 F4 B4 => if 0 ≤ (l1 + 4) ∧ (l1 + 4) < 3001 then zbind (o.1 ((l1 + 4) + 1) (B4 14 0 30 (l1 + 4)) F4 B4) (fun r6 F6 B6 => zbind (f_M_power K (B6 14 0 9 (l1 + 1)) (-1) F6 B6) (fun r7 F7 B7 => zbind (f_M_power K (B7 14 0 9 (l1 + 3)) 1 F7 B7) (fun r8 F8 B8 => some (0, F8, B8)))) else none) else none) else none
set_option maxHeartbeats 4000000 in
set_option maxRecDepth 100000 in
theorem cb_M_goSlow {l : Launch} {D : va_G} {ca : Nat → ClassId} {ad : Nat → Int → Nat → Nat} {L : List Nat} {aS vS : Nat → Nat} {sz K : Nat} {d : Nat} {o : oT_W} (ho : oH_W l D ca ad L aS vS d o)  {l1 : Int} {F F9 : zF} {B B9 : zB} {r : Int} (hf : fb_M_goSlow o K l1 F B = some (r, F9, B9)) : Met l ({ cls := "StaveHouseModel", name := "goSlow", desc := "(I)V" } : Jvm.MethodName) (Cond.code ({ cls := "StaveHouseModel", name := "goSlow", desc := "(I)V" } : Jvm.MethodName) prog_15_method_61_code 3 (Option.none : Option Jvm.ClassFile.FieldType) :: wAll) ({ frames := d + 1 + 5, cells := 0, slots := 0, locals := 28 * (d + 1) + 116 } : Room) (va_Pc [.ref (ad 14 0 0), .int (iI l1)] (zPre D ca ad lnM nM L aS vS F B sz)) (Q_M_goSlow D ca ad L r F9 B9 (zA L sz)) 0 0 (zA L sz) := by
  refine zMet (Qc := Q_M_goSlow D ca ad L r F9 B9) (lv := [(0, .ref (ad 14 0 0)), (1, .int (iI l1))]) (by decide) (Nat.le_of_ble_eq_true rfl) rfl (fun A p e s m below meth c ls X hZ hS hl => ?_)
  obtain ⟨hx, hb, hr, hml, hown, hts, hlk, hK, hA, hL, hX⟩ := id X
  replace hf : (if 0 ≤ (l1 + 1) ∧ (l1 + 1) < 3001 then zbind (f_M_power K (B 14 0 9 (l1 + 1)) 1 F B) (fun r2 F2 B2 => if 0 ≤ (l1 + 3) ∧ (l1 + 3) < 3001 then zbind (f_M_power K (B2 14 0 9 (l1 + 3)) (-1) F2 B2) (fun r4 F4 B4 => if 0 ≤ (l1 + 4) ∧ (l1 + 4) < 3001 then zbind (o.1 ((l1 + 4) + 1) (B4 14 0 30 (l1 + 4)) F4 B4) (fun r6 F6 B6 => zbind (f_M_power K (B6 14 0 9 (l1 + 1)) (-1) F6 B6) (fun r7 F7 B7 => zbind (f_M_power K (B7 14 0 9 (l1 + 3)) 1 F7 B7) (fun r8 F8 B8 => some (0, F8, B8)))) else none) else none) else none) = some (r, F9, B9) := hf
  refine lv_iload_n hx hb d_15_61_0 rfl (lv_at hl 1 rfl) ?_
  refine lv_iconst (v := iI 4) hx hb d_15_61_1 rfl ?_
  refine zadd hx hb d_15_61_2 ?_
  refine lv_istore_n (lv' := [(2, .int (iI (l1 + 4))), (0, .ref (ad 14 0 0)), (1, .int (iI l1))]) hx hb d_15_61_3 rfl hl (by decide) rfl (fun ls hl => ?_)
  refine lv_aload_n hx hb d_15_61_4 rfl (lv_at hl 1 rfl) ?_
  refine lv_aload_n hx hb d_15_61_5 rfl (lv_at hl 1 rfl) ?_
  refine zget (ci := 14) (C := RX14) (T := TX14) (v := .ref (ad 14 0 (9 + 1))) (k := 9) hx hb hts inW_14 hown hK hZ (by decide) (by decide) rfl (by decide) k_11_7 rfl d_15_61_6 ?_
  refine lv_iload_n hx hb d_15_61_9 rfl (lv_at hl 2 rfl) ?_
  refine lv_iconst (v := iI 1) hx hb d_15_61_10 rfl ?_
  refine zadd hx hb d_15_61_11 ?_
  obtain ⟨g1, hf⟩ := gif hf
  refine zald (ci := 14) (k := 9) hx hb hK rfl hZ (by decide) (by decide) rfl (Nat.le_of_ble_eq_true rfl) g1.1 g1.2 d_15_61_12 ?_
  refine lv_iconst (v := iI 1) hx hb d_15_61_13 rfl ?_
  obtain ⟨r2, F2, B2, hc2, hf⟩ := gbind hf
  refine va_callv (va_runV (As := [.int (iI (B 14 0 9 (l1 + 1))), .int (iI 1)]) (rest := []) ⟨hx, hb, hml, hown, hts⟩ (c_M_power (l := l) hc2) (cwV 2 hts (gdV k_15_30 k_15_32 ks_237 k_1_9 k_15_33) rfl rfl rfl (by decide +kernel) ⟨by dsimp only; omega, by dsimp only; omega⟩) (zPV X hZ hS (ci := 14) (by decide) (by decide) (r := (RX14, TX14, 107)) rfl [.int (iI (B 14 0 9 (l1 + 1))), .int (iI 1)]) rfl rfl hl.1 rfl (lv_room (Nat.le_of_ble_eq_true rfl)) d_15_61_14 ⟨Nat.le_of_ble_eq_true rfl, Nat.le_of_ble_eq_true rfl⟩) hS (fun q _ h => zAin X hS q h) (zAin X hS) (fun u2 t2 H2 locs2 ht2 hv2 hw2 hB2 hz2 hk2 hS2 => ?_)
  have hZ2 := zBack X ht2 hB2
  refine lv_aload_n hx hb d_15_61_17 rfl (lv_at hl 1 rfl) ?_
  refine lv_aload_n hx hb d_15_61_18 rfl (lv_at hl 1 rfl) ?_
  refine zget (ci := 14) (C := RX14) (T := TX14) (v := .ref (ad 14 0 (9 + 1))) (k := 9) hx hb hts inW_14 hown hK hZ2 (by decide) (by decide) rfl (by decide) k_11_7 rfl d_15_61_19 ?_
  refine lv_iload_n hx hb d_15_61_22 rfl (lv_at hl 2 rfl) ?_
  refine lv_iconst (v := iI 3) hx hb d_15_61_23 rfl ?_
  refine zadd hx hb d_15_61_24 ?_
  obtain ⟨g3, hf⟩ := gif hf
  refine zald (ci := 14) (k := 9) hx hb hK rfl hZ2 (by decide) (by decide) rfl (Nat.le_of_ble_eq_true rfl) g3.1 g3.2 d_15_61_25 ?_
  refine lv_iconst (v := iI (-1)) hx hb d_15_61_26 rfl ?_
  obtain ⟨r4, F4, B4, hc4, hf⟩ := gbind hf
  refine va_callv (va_runV (As := [.int (iI (B2 14 0 9 (l1 + 3))), .int (iI (-1))]) (rest := []) ⟨hx, hb, hml, hown, hts⟩ (c_M_power (l := l) hc4) (cwV 2 hts (gdV k_15_30 k_15_32 ks_237 k_1_9 k_15_33) rfl rfl rfl (by decide +kernel) ⟨by dsimp only; omega, by dsimp only; omega⟩) (zPV X hZ2 hS2 (ci := 14) (by decide) (by decide) (r := (RX14, TX14, 107)) rfl [.int (iI (B2 14 0 9 (l1 + 3))), .int (iI (-1))]) rfl rfl hl.1 rfl (lv_room (Nat.le_of_ble_eq_true rfl)) d_15_61_27 ⟨Nat.le_of_ble_eq_true rfl, Nat.le_of_ble_eq_true rfl⟩) hS2 (fun q _ h => zAin X hS2 q h) (zAin X hS2) (fun u4 t4 H4 locs4 ht4 hv4 hw4 hB4 hz4 hk4 hS4 => ?_)
  have hZ4 := zBack X ht4 hB4
  refine lv_aload_n hx hb d_15_61_30 rfl (lv_at hl 1 rfl) ?_
  refine lv_iload_n hx hb d_15_61_31 rfl (lv_at hl 0 rfl) ?_
  refine lv_iconst (v := iI 1) hx hb d_15_61_32 rfl ?_
  refine zadd hx hb d_15_61_33 ?_
  refine lv_aload_n hx hb d_15_61_34 rfl (lv_at hl 1 rfl) ?_
  refine zget (ci := 14) (C := RX14) (T := TX14) (v := .ref (ad 14 0 (30 + 1))) (k := 30) hx hb hts inW_14 hown hK hZ4 (by decide) (by decide) rfl (by decide) k_11_28 rfl d_15_61_35 ?_
  refine lv_iload_n hx hb d_15_61_38 rfl (lv_at hl 0 rfl) ?_
  obtain ⟨g5, hf⟩ := gif hf
  refine zald (ci := 14) (k := 30) hx hb hK rfl hZ4 (by decide) (by decide) rfl (Nat.le_of_ble_eq_true rfl) g5.1 g5.2 d_15_61_39 ?_
  obtain ⟨r6, F6, B6, hc6, hf⟩ := gbind hf
  refine va_callv (va_runV (As := [.int (iI ((l1 + 4) + 1)), .int (iI (B4 14 0 30 (l1 + 4)))]) (rest := []) ⟨hx, hb, hml, hown, hts⟩ (ho.1 hc6) (cwV 2 hts (gdV k_14_207 k_14_209 ks_223 k_1_9 k_14_210) rfl rfl rfl (by decide +kernel) ⟨by dsimp only; omega, by dsimp only; omega⟩) (zPV X hZ4 hS4 (ci := 14) (by decide) (by decide) (r := (RX14, TX14, 107)) rfl [.int (iI ((l1 + 4) + 1)), .int (iI (B4 14 0 30 (l1 + 4)))]) rfl rfl hl.1 rfl (lv_room (Nat.le_of_ble_eq_true rfl)) d_15_61_40 ⟨Nat.le_of_ble_eq_true rfl, Nat.le_of_ble_eq_true rfl⟩) hS4 (fun q _ h => zAin X hS4 q h) (zAin X hS4) (fun u6 t6 H6 locs6 ht6 hv6 hw6 hB6 hz6 hk6 hS6 => ?_)
  have hZ6 := zBack X ht6 hB6
  refine lv_aload_n hx hb d_15_61_43 rfl (lv_at hl 1 rfl) ?_
  refine lv_aload_n hx hb d_15_61_44 rfl (lv_at hl 1 rfl) ?_
  refine zget (ci := 14) (C := RX14) (T := TX14) (v := .ref (ad 14 0 (9 + 1))) (k := 9) hx hb hts inW_14 hown hK hZ6 (by decide) (by decide) rfl (by decide) k_11_7 rfl d_15_61_45 ?_
  refine lv_iload_n hx hb d_15_61_48 rfl (lv_at hl 2 rfl) ?_
  refine lv_iconst (v := iI 1) hx hb d_15_61_49 rfl ?_
  refine zadd hx hb d_15_61_50 ?_
  refine zald (ci := 14) (k := 9) hx hb hK rfl hZ6 (by decide) (by decide) rfl (Nat.le_of_ble_eq_true rfl) g1.1 g1.2 d_15_61_51 ?_
  refine lv_iconst (v := iI (-1)) hx hb d_15_61_52 rfl ?_
  obtain ⟨r7, F7, B7, hc7, hf⟩ := gbind hf
  refine va_callv (va_runV (As := [.int (iI (B6 14 0 9 (l1 + 1))), .int (iI (-1))]) (rest := []) ⟨hx, hb, hml, hown, hts⟩ (c_M_power (l := l) hc7) (cwV 2 hts (gdV k_15_30 k_15_32 ks_237 k_1_9 k_15_33) rfl rfl rfl (by decide +kernel) ⟨by dsimp only; omega, by dsimp only; omega⟩) (zPV X hZ6 hS6 (ci := 14) (by decide) (by decide) (r := (RX14, TX14, 107)) rfl [.int (iI (B6 14 0 9 (l1 + 1))), .int (iI (-1))]) rfl rfl hl.1 rfl (lv_room (Nat.le_of_ble_eq_true rfl)) d_15_61_53 ⟨Nat.le_of_ble_eq_true rfl, Nat.le_of_ble_eq_true rfl⟩) hS6 (fun q _ h => zAin X hS6 q h) (zAin X hS6) (fun u7 t7 H7 locs7 ht7 hv7 hw7 hB7 hz7 hk7 hS7 => ?_)
  have hZ7 := zBack X ht7 hB7
  refine lv_aload_n hx hb d_15_61_56 rfl (lv_at hl 1 rfl) ?_
  refine lv_aload_n hx hb d_15_61_57 rfl (lv_at hl 1 rfl) ?_
  refine zget (ci := 14) (C := RX14) (T := TX14) (v := .ref (ad 14 0 (9 + 1))) (k := 9) hx hb hts inW_14 hown hK hZ7 (by decide) (by decide) rfl (by decide) k_11_7 rfl d_15_61_58 ?_
  refine lv_iload_n hx hb d_15_61_61 rfl (lv_at hl 2 rfl) ?_
  refine lv_iconst (v := iI 3) hx hb d_15_61_62 rfl ?_
  refine zadd hx hb d_15_61_63 ?_
  refine zald (ci := 14) (k := 9) hx hb hK rfl hZ7 (by decide) (by decide) rfl (Nat.le_of_ble_eq_true rfl) g3.1 g3.2 d_15_61_64 ?_
  refine lv_iconst (v := iI 1) hx hb d_15_61_65 rfl ?_
  obtain ⟨r8, F8, B8, hc8, hf⟩ := gbind hf
  refine va_callv (va_runV (As := [.int (iI (B7 14 0 9 (l1 + 3))), .int (iI 1)]) (rest := []) ⟨hx, hb, hml, hown, hts⟩ (c_M_power (l := l) hc8) (cwV 2 hts (gdV k_15_30 k_15_32 ks_237 k_1_9 k_15_33) rfl rfl rfl (by decide +kernel) ⟨by dsimp only; omega, by dsimp only; omega⟩) (zPV X hZ7 hS7 (ci := 14) (by decide) (by decide) (r := (RX14, TX14, 107)) rfl [.int (iI (B7 14 0 9 (l1 + 3))), .int (iI 1)]) rfl rfl hl.1 rfl (lv_room (Nat.le_of_ble_eq_true rfl)) d_15_61_66 ⟨Nat.le_of_ble_eq_true rfl, Nat.le_of_ble_eq_true rfl⟩) hS7 (fun q _ h => zAin X hS7 q h) (zAin X hS7) (fun u8 t8 H8 locs8 ht8 hv8 hw8 hB8 hz8 hk8 hS8 => ?_)
  have hZ8 := zBack X ht8 hB8
  cases hf
  exact W.vret hx hb hr (fun t ht hW => ⟨⟨(), rfl, trivial, by rw [ht]; exact hZ8, va_K.moved hW.alike hK⟩, hS8.F ht⟩) hS8.2.2 d_15_61_69 hlk

noncomputable def gr_W (K : Nat) : Nat → oT_W
  | 0 => (fun _ _ _ _ => none, fun _ _ _ => none, fun _ _ _ => none, fun _ _ _ => none, fun _ _ _ => none, fun _ _ _ => none, fun _ _ _ => none, fun _ _ _ => none)
  | d + 1 => (fun l1 l2 F B => fb_M_walk (gr_W K d) K l1 l2 F B, fun l1 F B => fb_M_go (gr_W K d) K l1 F B, fun l1 F B => fb_M_goSign (gr_W K d) K l1 F B, fun l1 F B => fb_M_goRepeat (gr_W K d) K l1 F B, fun l1 F B => fb_M_goUse (gr_W K d) K l1 F B, fun l1 F B => fb_M_goChange (gr_W K d) K l1 F B, fun l1 F B => fb_M_goBack (gr_W K d) K l1 F B, fun l1 F B => fb_M_goSlow (gr_W K d) K l1 F B)
theorem gh_W {l : Launch} {D : va_G} {ca : Nat → ClassId} {ad : Nat → Int → Nat → Nat} {L : List Nat} {aS vS : Nat → Nat} {K : Nat} : ∀ d, oH_W l D ca ad L aS vS d (gr_W K d) := by
  intro d
  induction d with
  | zero => exact ⟨(fun hf => by cases hf), (fun hf => by cases hf), (fun hf => by cases hf), (fun hf => by cases hf), (fun hf => by cases hf), (fun hf => by cases hf), (fun hf => by cases hf), (fun hf => by cases hf)⟩
  | succ d ih => exact ⟨(fun hf => cb_M_walk ih hf), (fun hf => cb_M_go ih hf), (fun hf => cb_M_goSign ih hf), (fun hf => cb_M_goRepeat ih hf), (fun hf => cb_M_goUse ih hf), (fun hf => cb_M_goChange ih hf), (fun hf => cb_M_goBack ih hf), (fun hf => cb_M_goSlow ih hf)⟩
noncomputable def f_M_walk (K : Nat) (l1 : Int) (l2 : Int) (F : zF) (B : zB) : zO := (gr_W K 200).1 l1 l2 F B
theorem c_M_walk {l : Launch} {D : va_G} {ca : Nat → ClassId} {ad : Nat → Int → Nat → Nat} {L : List Nat} {aS vS : Nat → Nat} {sz K : Nat} {l1 : Int} {l2 : Int} {F F9 : zF} {B B9 : zB} {r : Int} (hf : f_M_walk K l1 l2 F B = some (r, F9, B9)) : Met l ({ cls := "StaveHouseModel", name := "walk", desc := "(II)V" } : Jvm.MethodName) (Cond.code ({ cls := "StaveHouseModel", name := "walk", desc := "(II)V" } : Jvm.MethodName) prog_15_method_54_code 4 (Option.none : Option Jvm.ClassFile.FieldType) :: wAll) ({ frames := 205, cells := 0, slots := 0, locals := 5716 } : Room) (va_Pc [.ref (ad 14 0 0), .int (iI l1), .int (iI l2)] (zPre D ca ad lnM nM L aS vS F B sz)) (Q_M_walk D ca ad L r F9 B9 (zA L sz)) 0 0 (zA L sz) := (gh_W 200).1 hf
noncomputable def f_M_go (K : Nat) (l1 : Int) (F : zF) (B : zB) : zO := (gr_W K 200).2.1 l1 F B
theorem c_M_go {l : Launch} {D : va_G} {ca : Nat → ClassId} {ad : Nat → Int → Nat → Nat} {L : List Nat} {aS vS : Nat → Nat} {sz K : Nat} {l1 : Int} {F F9 : zF} {B B9 : zB} {r : Int} (hf : f_M_go K l1 F B = some (r, F9, B9)) : Met l ({ cls := "StaveHouseModel", name := "go", desc := "(I)V" } : Jvm.MethodName) (Cond.code ({ cls := "StaveHouseModel", name := "go", desc := "(I)V" } : Jvm.MethodName) prog_15_method_56_code 2 (Option.none : Option Jvm.ClassFile.FieldType) :: wAll) ({ frames := 205, cells := 0, slots := 0, locals := 5716 } : Room) (va_Pc [.ref (ad 14 0 0), .int (iI l1)] (zPre D ca ad lnM nM L aS vS F B sz)) (Q_M_go D ca ad L r F9 B9 (zA L sz)) 0 0 (zA L sz) := (gh_W 200).2.1 hf
noncomputable def f_M_goSign (K : Nat) (l1 : Int) (F : zF) (B : zB) : zO := (gr_W K 200).2.2.1 l1 F B
theorem c_M_goSign {l : Launch} {D : va_G} {ca : Nat → ClassId} {ad : Nat → Int → Nat → Nat} {L : List Nat} {aS vS : Nat → Nat} {sz K : Nat} {l1 : Int} {F F9 : zF} {B B9 : zB} {r : Int} (hf : f_M_goSign K l1 F B = some (r, F9, B9)) : Met l ({ cls := "StaveHouseModel", name := "goSign", desc := "(I)V" } : Jvm.MethodName) (Cond.code ({ cls := "StaveHouseModel", name := "goSign", desc := "(I)V" } : Jvm.MethodName) prog_15_method_57_code 2 (Option.none : Option Jvm.ClassFile.FieldType) :: wAll) ({ frames := 205, cells := 0, slots := 0, locals := 5716 } : Room) (va_Pc [.ref (ad 14 0 0), .int (iI l1)] (zPre D ca ad lnM nM L aS vS F B sz)) (Q_M_goSign D ca ad L r F9 B9 (zA L sz)) 0 0 (zA L sz) := (gh_W 200).2.2.1 hf
noncomputable def f_M_goRepeat (K : Nat) (l1 : Int) (F : zF) (B : zB) : zO := (gr_W K 200).2.2.2.1 l1 F B
theorem c_M_goRepeat {l : Launch} {D : va_G} {ca : Nat → ClassId} {ad : Nat → Int → Nat → Nat} {L : List Nat} {aS vS : Nat → Nat} {sz K : Nat} {l1 : Int} {F F9 : zF} {B B9 : zB} {r : Int} (hf : f_M_goRepeat K l1 F B = some (r, F9, B9)) : Met l ({ cls := "StaveHouseModel", name := "goRepeat", desc := "(I)V" } : Jvm.MethodName) (Cond.code ({ cls := "StaveHouseModel", name := "goRepeat", desc := "(I)V" } : Jvm.MethodName) prog_15_method_58_code 9 (Option.none : Option Jvm.ClassFile.FieldType) :: wAll) ({ frames := 205, cells := 0, slots := 0, locals := 5716 } : Room) (va_Pc [.ref (ad 14 0 0), .int (iI l1)] (zPre D ca ad lnM nM L aS vS F B sz)) (Q_M_goRepeat D ca ad L r F9 B9 (zA L sz)) 0 0 (zA L sz) := (gh_W 200).2.2.2.1 hf
noncomputable def f_M_goUse (K : Nat) (l1 : Int) (F : zF) (B : zB) : zO := (gr_W K 200).2.2.2.2.1 l1 F B
theorem c_M_goUse {l : Launch} {D : va_G} {ca : Nat → ClassId} {ad : Nat → Int → Nat → Nat} {L : List Nat} {aS vS : Nat → Nat} {sz K : Nat} {l1 : Int} {F F9 : zF} {B B9 : zB} {r : Int} (hf : f_M_goUse K l1 F B = some (r, F9, B9)) : Met l ({ cls := "StaveHouseModel", name := "goUse", desc := "(I)V" } : Jvm.MethodName) (Cond.code ({ cls := "StaveHouseModel", name := "goUse", desc := "(I)V" } : Jvm.MethodName) prog_15_method_59_code 3 (Option.none : Option Jvm.ClassFile.FieldType) :: wAll) ({ frames := 205, cells := 0, slots := 0, locals := 5716 } : Room) (va_Pc [.ref (ad 14 0 0), .int (iI l1)] (zPre D ca ad lnM nM L aS vS F B sz)) (Q_M_goUse D ca ad L r F9 B9 (zA L sz)) 0 0 (zA L sz) := (gh_W 200).2.2.2.2.1 hf
noncomputable def f_M_goChange (K : Nat) (l1 : Int) (F : zF) (B : zB) : zO := (gr_W K 200).2.2.2.2.2.1 l1 F B
theorem c_M_goChange {l : Launch} {D : va_G} {ca : Nat → ClassId} {ad : Nat → Int → Nat → Nat} {L : List Nat} {aS vS : Nat → Nat} {sz K : Nat} {l1 : Int} {F F9 : zF} {B B9 : zB} {r : Int} (hf : f_M_goChange K l1 F B = some (r, F9, B9)) : Met l ({ cls := "StaveHouseModel", name := "goChange", desc := "(I)V" } : Jvm.MethodName) (Cond.code ({ cls := "StaveHouseModel", name := "goChange", desc := "(I)V" } : Jvm.MethodName) prog_15_method_60_code 5 (Option.none : Option Jvm.ClassFile.FieldType) :: wAll) ({ frames := 205, cells := 0, slots := 0, locals := 5716 } : Room) (va_Pc [.ref (ad 14 0 0), .int (iI l1)] (zPre D ca ad lnM nM L aS vS F B sz)) (Q_M_goChange D ca ad L r F9 B9 (zA L sz)) 0 0 (zA L sz) := (gh_W 200).2.2.2.2.2.1 hf
noncomputable def f_M_goBack (K : Nat) (l1 : Int) (F : zF) (B : zB) : zO := (gr_W K 200).2.2.2.2.2.2.1 l1 F B
theorem c_M_goBack {l : Launch} {D : va_G} {ca : Nat → ClassId} {ad : Nat → Int → Nat → Nat} {L : List Nat} {aS vS : Nat → Nat} {sz K : Nat} {l1 : Int} {F F9 : zF} {B B9 : zB} {r : Int} (hf : f_M_goBack K l1 F B = some (r, F9, B9)) : Met l ({ cls := "StaveHouseModel", name := "goBack", desc := "(I)V" } : Jvm.MethodName) (Cond.code ({ cls := "StaveHouseModel", name := "goBack", desc := "(I)V" } : Jvm.MethodName) prog_15_method_63_code 9 (Option.none : Option Jvm.ClassFile.FieldType) :: wAll) ({ frames := 205, cells := 0, slots := 0, locals := 5716 } : Room) (va_Pc [.ref (ad 14 0 0), .int (iI l1)] (zPre D ca ad lnM nM L aS vS F B sz)) (Q_M_goBack D ca ad L r F9 B9 (zA L sz)) 0 0 (zA L sz) := (gh_W 200).2.2.2.2.2.2.1 hf
noncomputable def f_M_goSlow (K : Nat) (l1 : Int) (F : zF) (B : zB) : zO := (gr_W K 200).2.2.2.2.2.2.2 l1 F B
theorem c_M_goSlow {l : Launch} {D : va_G} {ca : Nat → ClassId} {ad : Nat → Int → Nat → Nat} {L : List Nat} {aS vS : Nat → Nat} {sz K : Nat} {l1 : Int} {F F9 : zF} {B B9 : zB} {r : Int} (hf : f_M_goSlow K l1 F B = some (r, F9, B9)) : Met l ({ cls := "StaveHouseModel", name := "goSlow", desc := "(I)V" } : Jvm.MethodName) (Cond.code ({ cls := "StaveHouseModel", name := "goSlow", desc := "(I)V" } : Jvm.MethodName) prog_15_method_61_code 3 (Option.none : Option Jvm.ClassFile.FieldType) :: wAll) ({ frames := 205, cells := 0, slots := 0, locals := 5716 } : Room) (va_Pc [.ref (ad 14 0 0), .int (iI l1)] (zPre D ca ad lnM nM L aS vS F B sz)) (Q_M_goSlow D ca ad L r F9 B9 (zA L sz)) 0 0 (zA L sz) := (gh_W 200).2.2.2.2.2.2.2 hf
noncomputable abbrev Q_M_through (D : va_G) (ca : Nat → ClassId) (ad : Nat → Int → Nat → Nat) (L : List Nat) (r : Int) (F : zF) (B : zB) (A : Nat → Prop) : Array Value → State → Outcome → State → Prop := va_Qv (S := Unit) (fun _ => True) (fun _ => zPo D ca ad lnM nM L F B A) A
noncomputable def f_M_through_339 (K : Nat)  (F : zF) (B : zB) : zO := some (0, F, B)
set_option maxHeartbeats 4000000 in
set_option maxRecDepth 100000 in
theorem b_M_through_339 {D : va_G} {ca : Nat → ClassId} {ad : Nat → Int → Nat → Nat} {L : List Nat} {aS vS : Nat → Nat} {A : Nat → Prop} {p : Program} {l : Launch} {e : Env} {s : State} {m : MethodId} {args : Array Value} {below : List Frame} {meth : Method} {c : Code} {K : Nat} {r : Int} {F9 : zF} {B9 : zB} (X : zX D ca L aS vS A p s m args meth c prog_15_method_53_code 8 (Option.none : Option Jvm.ClassFile.FieldType) "StaveHouseModel")  {F : zF} {B : zB} {H : Heap} {locs : List Loc} {ls : Array Slot} (hf : f_M_through_339 K  F B = some (r, F9, B9)) (hZ : zH D ca ad lnM nM L F B A H) (hS : va_S A s.heap H locs) (hl : lv_has ls 8 []) : W p l e ({ frames := 206, cells := 0, slots := 0, locals := 5739 } : Room) s m args below meth c H locs 0 0 (MQ below (Q_M_through D ca ad L r F9 B9 A) args s 0 0 A) (F0 m 339 ls []) := by
  obtain ⟨hx, hb, hr, hml, hown, hts, hlk, hK, hA, hL, hX⟩ := id X
  replace hf : (some (0, F, B)) = some (r, F9, B9) := hf
  cases hf
  exact W.vret hx hb hr (fun t ht hW => ⟨⟨(), rfl, trivial, by rw [ht]; exact hZ, va_K.moved hW.alike hK⟩, hS.F ht⟩) hS.2.2 d_15_53_339 hlk

noncomputable def f_M_through_333 (rec163 : Int → zF → zB → zO) (K : Nat) (l1 : Int) (F : zF) (B : zB) : zO := rec163 (l1 + 1) F B
set_option maxHeartbeats 4000000 in
set_option maxRecDepth 100000 in
theorem b_M_through_333 {D : va_G} {ca : Nat → ClassId} {ad : Nat → Int → Nat → Nat} {L : List Nat} {aS vS : Nat → Nat} {A : Nat → Prop} {p : Program} {l : Launch} {e : Env} {s : State} {m : MethodId} {args : Array Value} {below : List Frame} {meth : Method} {c : Code} {K : Nat} {r : Int} {F9 : zF} {B9 : zB} (X : zX D ca L aS vS A p s m args meth c prog_15_method_53_code 8 (Option.none : Option Jvm.ClassFile.FieldType) "StaveHouseModel") {rec163 : Int → zF → zB → zO} (hrec163 : ∀ {l1 : Int} {F : zF} {B : zB} {H : Heap} {locs : List Loc} {ls : Array Slot}, rec163 l1 F B = some (r, F9, B9) → zH D ca ad lnM nM L F B A H → va_S A s.heap H locs → lv_has ls 8 [(1, .int (iI l1)), (0, .ref (ad 14 0 0))] → W p l e ({ frames := 206, cells := 0, slots := 0, locals := 5739 } : Room) s m args below meth c H locs 0 0 (MQ below (Q_M_through D ca ad L r F9 B9 A) args s 0 0 A) (F0 m 163 ls [])) {l1 : Int} {F : zF} {B : zB} {H : Heap} {locs : List Loc} {ls : Array Slot} (hf : f_M_through_333 rec163 K l1 F B = some (r, F9, B9)) (hZ : zH D ca ad lnM nM L F B A H) (hS : va_S A s.heap H locs) (hl : lv_has ls 8 [(1, .int (iI l1)), (0, .ref (ad 14 0 0))]) : W p l e ({ frames := 206, cells := 0, slots := 0, locals := 5739 } : Room) s m args below meth c H locs 0 0 (MQ below (Q_M_through D ca ad L r F9 B9 A) args s 0 0 A) (F0 m 333 ls []) := by
  obtain ⟨hx, hb, hr, hml, hown, hts, hlk, hK, hA, hL, hX⟩ := id X
  replace hf : (rec163 (l1 + 1) F B) = some (r, F9, B9) := hf
  refine lv_iinc (v := iI (l1 + 1)) (lv' := [(1, .int (iI (l1 + 1))), (0, .ref (ad 14 0 0))]) hx hb d_15_53_333 hl (k := 0) rfl (iI_add _ 1) (by decide) rfl (fun ls hl => ?_)
  refine lv_goto (tgt := 163) hx hb d_15_53_336 (by decide) ?_
  exact hrec163 hf hZ hS (lv_sub hl [0, 1] rfl)

noncomputable def f_M_through_163 (K : Nat) : Nat → Int → zF → zB → zO
  | 0, _, _, _ => none
  | n + 1, l1, F, B => if 0 ≤ (F 14 0 6) ∧ (F 14 0 6) < 3 then if r32 l1 then if r32 (F 13 (F 14 0 6) 1) then (if (F 13 (F 14 0 6) 1) ≤ l1 then f_M_through_339 K F B else zbind (f_M_good K F B) (fun r38 F38 B38 => if r32 r38 then (if r38 = 0 then f_M_through_339 K F38 B38 else if 0 ≤ (F38 14 0 6) ∧ (F38 14 0 6) < 3 then if 0 ≤ l1 ∧ l1 < 4 then if 0 ≤ (((1000 * l1) + (B38 13 (F38 14 0 6) 12 l1)) - 1) ∧ (((1000 * l1) + (B38 13 (F38 14 0 6) 12 l1)) - 1) < 4000 then zbind (f_M_plus K (B38 13 (F38 14 0 6) 14 (((1000 * l1) + (B38 13 (F38 14 0 6) 12 l1)) - 1)) (B38 13 (F38 14 0 6) 15 (((1000 * l1) + (B38 13 (F38 14 0 6) 12 l1)) - 1)) (B38 13 (F38 14 0 6) 16 (((1000 * l1) + (B38 13 (F38 14 0 6) 12 l1)) - 1)) (B38 13 (F38 14 0 6) 17 (((1000 * l1) + (B38 13 (F38 14 0 6) 12 l1)) - 1)) F38 B38) (fun r44 F44 B44 => if 0 ≤ (F44 14 0 6) ∧ (F44 14 0 6) < 3 then if 0 ≤ ((B38 13 (F38 14 0 6) 12 0) - 1) ∧ ((B38 13 (F38 14 0 6) 12 0) - 1) < 4000 then zbind (f_M_plus K (B44 13 (F44 14 0 6) 14 ((B38 13 (F38 14 0 6) 12 0) - 1)) (B44 13 (F44 14 0 6) 15 ((B38 13 (F38 14 0 6) 12 0) - 1)) (B44 13 (F44 14 0 6) 16 ((B38 13 (F38 14 0 6) 12 0) - 1)) (B44 13 (F44 14 0 6) 17 ((B38 13 (F38 14 0 6) 12 0) - 1)) F44 B44) (fun r47 F47 B47 => zbind (f_M_compare K (F44 14 0 0) (F44 14 0 1) (F47 14 0 0) (F47 14 0 1) F47 B47) (fun r48 F48 B48 => if r32 r48 then (if r48 = 0 then f_M_through_333 (f_M_through_163 K n) K l1 F48 B48 else zbind (f_M_failAt K 6 (B48 14 0 28 l1) F48 B48) (fun r51 F51 B51 => f_M_through_333 (f_M_through_163 K n) K l1 F51 B51)) else none)) else none else none) else none else none else none) else none)) else none else none else none
set_option maxHeartbeats 4000000 in
set_option maxRecDepth 100000 in
theorem b_M_through_163 {D : va_G} {ca : Nat → ClassId} {ad : Nat → Int → Nat → Nat} {L : List Nat} {aS vS : Nat → Nat} {A : Nat → Prop} {p : Program} {l : Launch} {e : Env} {s : State} {m : MethodId} {args : Array Value} {below : List Frame} {meth : Method} {c : Code} {K : Nat} {r : Int} {F9 : zF} {B9 : zB} (X : zX D ca L aS vS A p s m args meth c prog_15_method_53_code 8 (Option.none : Option Jvm.ClassFile.FieldType) "StaveHouseModel") : ∀ {n : Nat} {l1 : Int} {F : zF} {B : zB} {H : Heap} {locs : List Loc} {ls : Array Slot}, f_M_through_163 K n l1 F B = some (r, F9, B9) → zH D ca ad lnM nM L F B A H → va_S A s.heap H locs → lv_has ls 8 [(1, .int (iI l1)), (0, .ref (ad 14 0 0))] → W p l e ({ frames := 206, cells := 0, slots := 0, locals := 5739 } : Room) s m args below meth c H locs 0 0 (MQ below (Q_M_through D ca ad L r F9 B9 A) args s 0 0 A) (F0 m 163 ls []) := by
  obtain ⟨hx, hb, hr, hml, hown, hts, hlk, hK, hA, hL, hX⟩ := id X
  intro n
  induction n with
  | zero =>
    intros
    rename_i hf _ _ _
    cases hf
  | succ n ih =>
    intro l1 F B H locs ls hf hZ hS hl
    replace hf : (if 0 ≤ (F 14 0 6) ∧ (F 14 0 6) < 3 then if r32 l1 then if r32 (F 13 (F 14 0 6) 1) then (if (F 13 (F 14 0 6) 1) ≤ l1 then f_M_through_339 K F B else zbind (f_M_good K F B) (fun r38 F38 B38 => if r32 r38 then (if r38 = 0 then f_M_through_339 K F38 B38 else if 0 ≤ (F38 14 0 6) ∧ (F38 14 0 6) < 3 then if 0 ≤ l1 ∧ l1 < 4 then if 0 ≤ (((1000 * l1) + (B38 13 (F38 14 0 6) 12 l1)) - 1) ∧ (((1000 * l1) + (B38 13 (F38 14 0 6) 12 l1)) - 1) < 4000 then zbind (f_M_plus K (B38 13 (F38 14 0 6) 14 (((1000 * l1) + (B38 13 (F38 14 0 6) 12 l1)) - 1)) (B38 13 (F38 14 0 6) 15 (((1000 * l1) + (B38 13 (F38 14 0 6) 12 l1)) - 1)) (B38 13 (F38 14 0 6) 16 (((1000 * l1) + (B38 13 (F38 14 0 6) 12 l1)) - 1)) (B38 13 (F38 14 0 6) 17 (((1000 * l1) + (B38 13 (F38 14 0 6) 12 l1)) - 1)) F38 B38) (fun r44 F44 B44 => if 0 ≤ (F44 14 0 6) ∧ (F44 14 0 6) < 3 then if 0 ≤ ((B38 13 (F38 14 0 6) 12 0) - 1) ∧ ((B38 13 (F38 14 0 6) 12 0) - 1) < 4000 then zbind (f_M_plus K (B44 13 (F44 14 0 6) 14 ((B38 13 (F38 14 0 6) 12 0) - 1)) (B44 13 (F44 14 0 6) 15 ((B38 13 (F38 14 0 6) 12 0) - 1)) (B44 13 (F44 14 0 6) 16 ((B38 13 (F38 14 0 6) 12 0) - 1)) (B44 13 (F44 14 0 6) 17 ((B38 13 (F38 14 0 6) 12 0) - 1)) F44 B44) (fun r47 F47 B47 => zbind (f_M_compare K (F44 14 0 0) (F44 14 0 1) (F47 14 0 0) (F47 14 0 1) F47 B47) (fun r48 F48 B48 => if r32 r48 then (if r48 = 0 then f_M_through_333 (f_M_through_163 K n) K l1 F48 B48 else zbind (f_M_failAt K 6 (B48 14 0 28 l1) F48 B48) (fun r51 F51 B51 => f_M_through_333 (f_M_through_163 K n) K l1 F51 B51)) else none)) else none else none) else none else none else none) else none)) else none else none else none) = some (r, F9, B9) := hf
    refine lv_iload_n hx hb d_15_53_163 rfl (lv_at hl 0 rfl) ?_
    refine lv_aload_n hx hb d_15_53_164 rfl (lv_at hl 1 rfl) ?_
    refine zget (ci := 14) (C := RX14) (T := TX14) (v := va_rf (zrf ad 13 (F 14 0 6))) (k := 6) hx hb hts inW_14 hown hK hZ (by decide) (by decide) rfl (by decide) k_11_4 rfl d_15_53_165 ?_
    obtain ⟨g34, hf⟩ := gif hf
    refine zunrf g34.1 ?_
    refine zget (ci := 13) (C := RX13) (T := TX13) (v := .int (iI (F 13 (F 14 0 6) 1))) (k := 1) hx hb hts inW_13 hown hK hZ g34.1 g34.2 rfl (by decide) k_9_126 rfl d_15_53_168 ?_
    obtain ⟨g35, hf⟩ := gif hf
    obtain ⟨g36, hf⟩ := gif hf
    refine zge (tgt := 339) hx hb g35 g36 d_15_53_171 (by decide) (fun h37 => ?_) (fun h37 => ?_)
    · replace hf := gpos hf h37
      exact b_M_through_339 X hf hZ hS (lv_sub hl [] rfl)
    · replace hf := gneg hf h37
      refine lv_aload_n hx hb d_15_53_174 rfl (lv_at hl 1 rfl) ?_
      obtain ⟨r38, F38, B38, hc38, hf⟩ := gbind hf
      refine va_calli (va_runV (As := []) (rest := []) ⟨hx, hb, hml, hown, hts⟩ (c_M_good (l := l) hc38) (cwV 0 hts (gdV k_13_15 k_13_17 ks_152 k_1_9 k_13_18) rfl rfl rfl (by decide +kernel) ⟨Nat.le_of_ble_eq_true rfl, Nat.le_of_ble_eq_true rfl⟩) (zPV X hZ hS (ci := 14) (by decide) (by decide) (r := (RX14, TX14, 107)) rfl []) rfl rfl hl.1 rfl (lv_room (Nat.le_of_ble_eq_true rfl)) d_15_53_175 ⟨Nat.le_of_ble_eq_true rfl, Nat.le_of_ble_eq_true rfl⟩) hS (fun q _ h => zAin X hS q h) (zAin X hS) (fun p38 u38 t38 H38 locs38 ht38 hv38 hw38 hB38 hz38 hk38 hS38 => ?_)
      have hZ38 := zBack X ht38 hB38
      subst hw38
      obtain ⟨g39, hf⟩ := gif hf
      refine z0eq (tgt := 339) hx hb g39 d_15_53_178 (by decide) (fun h40 => ?_) (fun h40 => ?_)
      · replace hf := gpos hf h40
        exact b_M_through_339 X hf hZ38 hS38 (lv_sub hl [] rfl)
      · replace hf := gneg hf h40
        refine lv_sipush (v := iI 1000) hx hb d_15_53_181 (by decide) ?_
        refine lv_iload_n hx hb d_15_53_184 rfl (lv_at hl 0 rfl) ?_
        refine zmul hx hb d_15_53_185 ?_
        refine lv_aload_n hx hb d_15_53_186 rfl (lv_at hl 1 rfl) ?_
        refine zget (ci := 14) (C := RX14) (T := TX14) (v := va_rf (zrf ad 13 (F38 14 0 6))) (k := 6) hx hb hts inW_14 hown hK hZ38 (by decide) (by decide) rfl (by decide) k_11_4 rfl d_15_53_187 ?_
        obtain ⟨g41, hf⟩ := gif hf
        refine zunrf g41.1 ?_
        refine zget (ci := 13) (C := RX13) (T := TX13) (v := .ref (ad 13 (F38 14 0 6) (12 + 1))) (k := 12) hx hb hts inW_13 hown hK hZ38 g41.1 g41.2 rfl (by decide) k_9_142 rfl d_15_53_190 ?_
        refine lv_iload_n hx hb d_15_53_193 rfl (lv_at hl 0 rfl) ?_
        obtain ⟨g42, hf⟩ := gif hf
        refine zald (ci := 13) (k := 12) hx hb hK rfl hZ38 g41.1 g41.2 rfl (Nat.le_of_ble_eq_true rfl) g42.1 g42.2 d_15_53_194 ?_
        refine zadd hx hb d_15_53_195 ?_
        refine lv_iconst (v := iI 1) hx hb d_15_53_196 rfl ?_
        refine zsub hx hb d_15_53_197 ?_
        refine lv_istore_n (lv' := [(2, .int (iI (((1000 * l1) + (B38 13 (F38 14 0 6) 12 l1)) - 1))), (1, .int (iI l1)), (0, .ref (ad 14 0 0))]) hx hb d_15_53_198 rfl hl (by decide) rfl (fun ls hl => ?_)
        refine lv_aload_n hx hb d_15_53_199 rfl (lv_at hl 2 rfl) ?_
        refine zget (ci := 14) (C := RX14) (T := TX14) (v := va_rf (zrf ad 13 (F38 14 0 6))) (k := 6) hx hb hts inW_14 hown hK hZ38 (by decide) (by decide) rfl (by decide) k_11_4 rfl d_15_53_200 ?_
        refine zunrf g41.1 ?_
        refine zget (ci := 13) (C := RX13) (T := TX13) (v := .ref (ad 13 (F38 14 0 6) (12 + 1))) (k := 12) hx hb hts inW_13 hown hK hZ38 g41.1 g41.2 rfl (by decide) k_9_142 rfl d_15_53_203 ?_
        refine lv_iconst (v := iI 0) hx hb d_15_53_206 rfl ?_
        refine zald (ci := 13) (k := 12) hx hb hK rfl hZ38 g41.1 g41.2 rfl (Nat.le_of_ble_eq_true rfl) (by decide) (show (0 : Int) < 4 by decide) d_15_53_207 ?_
        refine lv_iconst (v := iI 1) hx hb d_15_53_208 rfl ?_
        refine zsub hx hb d_15_53_209 ?_
        refine lv_istore_n (lv' := [(3, .int (iI ((B38 13 (F38 14 0 6) 12 0) - 1))), (2, .int (iI (((1000 * l1) + (B38 13 (F38 14 0 6) 12 l1)) - 1))), (1, .int (iI l1)), (0, .ref (ad 14 0 0))]) hx hb d_15_53_210 rfl hl (by decide) rfl (fun ls hl => ?_)
        refine lv_aload_n hx hb d_15_53_211 rfl (lv_at hl 3 rfl) ?_
        refine lv_aload_n hx hb d_15_53_212 rfl (lv_at hl 3 rfl) ?_
        refine zget (ci := 14) (C := RX14) (T := TX14) (v := va_rf (zrf ad 13 (F38 14 0 6))) (k := 6) hx hb hts inW_14 hown hK hZ38 (by decide) (by decide) rfl (by decide) k_11_4 rfl d_15_53_213 ?_
        refine zunrf g41.1 ?_
        refine zget (ci := 13) (C := RX13) (T := TX13) (v := .ref (ad 13 (F38 14 0 6) (14 + 1))) (k := 14) hx hb hts inW_13 hown hK hZ38 g41.1 g41.2 rfl (by decide) k_9_146 rfl d_15_53_216 ?_
        refine lv_iload_n hx hb d_15_53_219 rfl (lv_at hl 1 rfl) ?_
        obtain ⟨g43, hf⟩ := gif hf
        refine zlald (ci := 13) (k := 14) hx hb hK rfl hZ38 g41.1 g41.2 rfl (Nat.le_of_ble_eq_true rfl) g43.1 g43.2 d_15_53_220 ?_
        refine lv_aload_n hx hb d_15_53_221 rfl (lv_at hl 3 rfl) ?_
        refine zget (ci := 14) (C := RX14) (T := TX14) (v := va_rf (zrf ad 13 (F38 14 0 6))) (k := 6) hx hb hts inW_14 hown hK hZ38 (by decide) (by decide) rfl (by decide) k_11_4 rfl d_15_53_222 ?_
        refine zunrf g41.1 ?_
        refine zget (ci := 13) (C := RX13) (T := TX13) (v := .ref (ad 13 (F38 14 0 6) (15 + 1))) (k := 15) hx hb hts inW_13 hown hK hZ38 g41.1 g41.2 rfl (by decide) k_9_148 rfl d_15_53_225 ?_
        refine lv_iload_n hx hb d_15_53_228 rfl (lv_at hl 1 rfl) ?_
        refine zlald (ci := 13) (k := 15) hx hb hK rfl hZ38 g41.1 g41.2 rfl (Nat.le_of_ble_eq_true rfl) g43.1 g43.2 d_15_53_229 ?_
        refine lv_aload_n hx hb d_15_53_230 rfl (lv_at hl 3 rfl) ?_
        refine zget (ci := 14) (C := RX14) (T := TX14) (v := va_rf (zrf ad 13 (F38 14 0 6))) (k := 6) hx hb hts inW_14 hown hK hZ38 (by decide) (by decide) rfl (by decide) k_11_4 rfl d_15_53_231 ?_
        refine zunrf g41.1 ?_
        refine zget (ci := 13) (C := RX13) (T := TX13) (v := .ref (ad 13 (F38 14 0 6) (16 + 1))) (k := 16) hx hb hts inW_13 hown hK hZ38 g41.1 g41.2 rfl (by decide) k_9_150 rfl d_15_53_234 ?_
        refine lv_iload_n hx hb d_15_53_237 rfl (lv_at hl 1 rfl) ?_
        refine zlald (ci := 13) (k := 16) hx hb hK rfl hZ38 g41.1 g41.2 rfl (Nat.le_of_ble_eq_true rfl) g43.1 g43.2 d_15_53_238 ?_
        refine lv_aload_n hx hb d_15_53_239 rfl (lv_at hl 3 rfl) ?_
        refine zget (ci := 14) (C := RX14) (T := TX14) (v := va_rf (zrf ad 13 (F38 14 0 6))) (k := 6) hx hb hts inW_14 hown hK hZ38 (by decide) (by decide) rfl (by decide) k_11_4 rfl d_15_53_240 ?_
        refine zunrf g41.1 ?_
        refine zget (ci := 13) (C := RX13) (T := TX13) (v := .ref (ad 13 (F38 14 0 6) (17 + 1))) (k := 17) hx hb hts inW_13 hown hK hZ38 g41.1 g41.2 rfl (by decide) k_9_152 rfl d_15_53_243 ?_
        refine lv_iload_n hx hb d_15_53_246 rfl (lv_at hl 1 rfl) ?_
        refine zlald (ci := 13) (k := 17) hx hb hK rfl hZ38 g41.1 g41.2 rfl (Nat.le_of_ble_eq_true rfl) g43.1 g43.2 d_15_53_247 ?_
        obtain ⟨r44, F44, B44, hc44, hf⟩ := gbind hf
        refine va_callv (va_runV (As := [.long (lI (B38 13 (F38 14 0 6) 14 (((1000 * l1) + (B38 13 (F38 14 0 6) 12 l1)) - 1))), .long (lI (B38 13 (F38 14 0 6) 15 (((1000 * l1) + (B38 13 (F38 14 0 6) 12 l1)) - 1))), .long (lI (B38 13 (F38 14 0 6) 16 (((1000 * l1) + (B38 13 (F38 14 0 6) 12 l1)) - 1))), .long (lI (B38 13 (F38 14 0 6) 17 (((1000 * l1) + (B38 13 (F38 14 0 6) 12 l1)) - 1)))]) (rest := []) ⟨hx, hb, hml, hown, hts⟩ (c_M_plus (l := l) hc44) (cwV 4 hts (gdV k_12_147 k_12_149 ks_135 k_1_9 k_12_150) rfl rfl rfl (by decide +kernel) ⟨Nat.le_of_ble_eq_true rfl, Nat.le_of_ble_eq_true rfl⟩) (zPV X hZ38 hS38 (ci := 14) (by decide) (by decide) (r := (RX14, TX14, 107)) rfl [.long (lI (B38 13 (F38 14 0 6) 14 (((1000 * l1) + (B38 13 (F38 14 0 6) 12 l1)) - 1))), .long (lI (B38 13 (F38 14 0 6) 15 (((1000 * l1) + (B38 13 (F38 14 0 6) 12 l1)) - 1))), .long (lI (B38 13 (F38 14 0 6) 16 (((1000 * l1) + (B38 13 (F38 14 0 6) 12 l1)) - 1))), .long (lI (B38 13 (F38 14 0 6) 17 (((1000 * l1) + (B38 13 (F38 14 0 6) 12 l1)) - 1)))]) rfl rfl hl.1 rfl (lv_room (Nat.le_of_ble_eq_true rfl)) d_15_53_248 ⟨Nat.le_of_ble_eq_true rfl, Nat.le_of_ble_eq_true rfl⟩) hS38 (fun q _ h => zAin X hS38 q h) (zAin X hS38) (fun u44 t44 H44 locs44 ht44 hv44 hw44 hB44 hz44 hk44 hS44 => ?_)
        have hZ44 := zBack X ht44 hB44
        refine lv_aload_n hx hb d_15_53_251 rfl (lv_at hl 3 rfl) ?_
        refine zget (ci := 14) (C := RX14) (T := TX14) (v := .long (lI (F44 14 0 0))) (k := 0) hx hb hts inW_14 hown hK hZ44 (by decide) (by decide) rfl (by decide) k_10_238 rfl d_15_53_252 ?_
        refine lv_lstore (lv' := [(4, .long (lI (F44 14 0 0))), (3, .int (iI ((B38 13 (F38 14 0 6) 12 0) - 1))), (2, .int (iI (((1000 * l1) + (B38 13 (F38 14 0 6) 12 l1)) - 1))), (1, .int (iI l1)), (0, .ref (ad 14 0 0))]) hx hb d_15_53_255 hl (by decide) rfl (fun ls hl => ?_)
        refine lv_aload_n hx hb d_15_53_257 rfl (lv_at hl 4 rfl) ?_
        refine zget (ci := 14) (C := RX14) (T := TX14) (v := .long (lI (F44 14 0 1))) (k := 1) hx hb hts inW_14 hown hK hZ44 (by decide) (by decide) rfl (by decide) k_10_239 rfl d_15_53_258 ?_
        refine lv_lstore (lv' := [(6, .long (lI (F44 14 0 1))), (4, .long (lI (F44 14 0 0))), (3, .int (iI ((B38 13 (F38 14 0 6) 12 0) - 1))), (2, .int (iI (((1000 * l1) + (B38 13 (F38 14 0 6) 12 l1)) - 1))), (1, .int (iI l1)), (0, .ref (ad 14 0 0))]) hx hb d_15_53_261 hl (by decide) rfl (fun ls hl => ?_)
        refine lv_aload_n hx hb d_15_53_263 rfl (lv_at hl 5 rfl) ?_
        refine lv_aload_n hx hb d_15_53_264 rfl (lv_at hl 5 rfl) ?_
        refine zget (ci := 14) (C := RX14) (T := TX14) (v := va_rf (zrf ad 13 (F44 14 0 6))) (k := 6) hx hb hts inW_14 hown hK hZ44 (by decide) (by decide) rfl (by decide) k_11_4 rfl d_15_53_265 ?_
        obtain ⟨g45, hf⟩ := gif hf
        refine zunrf g45.1 ?_
        refine zget (ci := 13) (C := RX13) (T := TX13) (v := .ref (ad 13 (F44 14 0 6) (14 + 1))) (k := 14) hx hb hts inW_13 hown hK hZ44 g45.1 g45.2 rfl (by decide) k_9_146 rfl d_15_53_268 ?_
        refine lv_iload_n hx hb d_15_53_271 rfl (lv_at hl 2 rfl) ?_
        obtain ⟨g46, hf⟩ := gif hf
        refine zlald (ci := 13) (k := 14) hx hb hK rfl hZ44 g45.1 g45.2 rfl (Nat.le_of_ble_eq_true rfl) g46.1 g46.2 d_15_53_272 ?_
        refine lv_aload_n hx hb d_15_53_273 rfl (lv_at hl 5 rfl) ?_
        refine zget (ci := 14) (C := RX14) (T := TX14) (v := va_rf (zrf ad 13 (F44 14 0 6))) (k := 6) hx hb hts inW_14 hown hK hZ44 (by decide) (by decide) rfl (by decide) k_11_4 rfl d_15_53_274 ?_
        refine zunrf g45.1 ?_
        refine zget (ci := 13) (C := RX13) (T := TX13) (v := .ref (ad 13 (F44 14 0 6) (15 + 1))) (k := 15) hx hb hts inW_13 hown hK hZ44 g45.1 g45.2 rfl (by decide) k_9_148 rfl d_15_53_277 ?_
        refine lv_iload_n hx hb d_15_53_280 rfl (lv_at hl 2 rfl) ?_
        refine zlald (ci := 13) (k := 15) hx hb hK rfl hZ44 g45.1 g45.2 rfl (Nat.le_of_ble_eq_true rfl) g46.1 g46.2 d_15_53_281 ?_
        refine lv_aload_n hx hb d_15_53_282 rfl (lv_at hl 5 rfl) ?_
        refine zget (ci := 14) (C := RX14) (T := TX14) (v := va_rf (zrf ad 13 (F44 14 0 6))) (k := 6) hx hb hts inW_14 hown hK hZ44 (by decide) (by decide) rfl (by decide) k_11_4 rfl d_15_53_283 ?_
        refine zunrf g45.1 ?_
        refine zget (ci := 13) (C := RX13) (T := TX13) (v := .ref (ad 13 (F44 14 0 6) (16 + 1))) (k := 16) hx hb hts inW_13 hown hK hZ44 g45.1 g45.2 rfl (by decide) k_9_150 rfl d_15_53_286 ?_
        refine lv_iload_n hx hb d_15_53_289 rfl (lv_at hl 2 rfl) ?_
        refine zlald (ci := 13) (k := 16) hx hb hK rfl hZ44 g45.1 g45.2 rfl (Nat.le_of_ble_eq_true rfl) g46.1 g46.2 d_15_53_290 ?_
        refine lv_aload_n hx hb d_15_53_291 rfl (lv_at hl 5 rfl) ?_
        refine zget (ci := 14) (C := RX14) (T := TX14) (v := va_rf (zrf ad 13 (F44 14 0 6))) (k := 6) hx hb hts inW_14 hown hK hZ44 (by decide) (by decide) rfl (by decide) k_11_4 rfl d_15_53_292 ?_
        refine zunrf g45.1 ?_
        refine zget (ci := 13) (C := RX13) (T := TX13) (v := .ref (ad 13 (F44 14 0 6) (17 + 1))) (k := 17) hx hb hts inW_13 hown hK hZ44 g45.1 g45.2 rfl (by decide) k_9_152 rfl d_15_53_295 ?_
        refine lv_iload_n hx hb d_15_53_298 rfl (lv_at hl 2 rfl) ?_
        refine zlald (ci := 13) (k := 17) hx hb hK rfl hZ44 g45.1 g45.2 rfl (Nat.le_of_ble_eq_true rfl) g46.1 g46.2 d_15_53_299 ?_
        obtain ⟨r47, F47, B47, hc47, hf⟩ := gbind hf
        refine va_callv (va_runV (As := [.long (lI (B44 13 (F44 14 0 6) 14 ((B38 13 (F38 14 0 6) 12 0) - 1))), .long (lI (B44 13 (F44 14 0 6) 15 ((B38 13 (F38 14 0 6) 12 0) - 1))), .long (lI (B44 13 (F44 14 0 6) 16 ((B38 13 (F38 14 0 6) 12 0) - 1))), .long (lI (B44 13 (F44 14 0 6) 17 ((B38 13 (F38 14 0 6) 12 0) - 1)))]) (rest := []) ⟨hx, hb, hml, hown, hts⟩ (c_M_plus (l := l) hc47) (cwV 4 hts (gdV k_12_147 k_12_149 ks_135 k_1_9 k_12_150) rfl rfl rfl (by decide +kernel) ⟨Nat.le_of_ble_eq_true rfl, Nat.le_of_ble_eq_true rfl⟩) (zPV X hZ44 hS44 (ci := 14) (by decide) (by decide) (r := (RX14, TX14, 107)) rfl [.long (lI (B44 13 (F44 14 0 6) 14 ((B38 13 (F38 14 0 6) 12 0) - 1))), .long (lI (B44 13 (F44 14 0 6) 15 ((B38 13 (F38 14 0 6) 12 0) - 1))), .long (lI (B44 13 (F44 14 0 6) 16 ((B38 13 (F38 14 0 6) 12 0) - 1))), .long (lI (B44 13 (F44 14 0 6) 17 ((B38 13 (F38 14 0 6) 12 0) - 1)))]) rfl rfl hl.1 rfl (lv_room (Nat.le_of_ble_eq_true rfl)) d_15_53_300 ⟨Nat.le_of_ble_eq_true rfl, Nat.le_of_ble_eq_true rfl⟩) hS44 (fun q _ h => zAin X hS44 q h) (zAin X hS44) (fun u47 t47 H47 locs47 ht47 hv47 hw47 hB47 hz47 hk47 hS47 => ?_)
        have hZ47 := zBack X ht47 hB47
        refine lv_lload hx hb d_15_53_303 (lv_at hl 1 rfl) ?_
        refine lv_lload hx hb d_15_53_305 (lv_at hl 0 rfl) ?_
        refine lv_aload_n hx hb d_15_53_307 rfl (lv_at hl 5 rfl) ?_
        refine zget (ci := 14) (C := RX14) (T := TX14) (v := .long (lI (F47 14 0 0))) (k := 0) hx hb hts inW_14 hown hK hZ47 (by decide) (by decide) rfl (by decide) k_10_238 rfl d_15_53_308 ?_
        refine lv_aload_n hx hb d_15_53_311 rfl (lv_at hl 5 rfl) ?_
        refine zget (ci := 14) (C := RX14) (T := TX14) (v := .long (lI (F47 14 0 1))) (k := 1) hx hb hts inW_14 hown hK hZ47 (by decide) (by decide) rfl (by decide) k_10_239 rfl d_15_53_312 ?_
        obtain ⟨r48, F48, B48, hc48, hf⟩ := gbind hf
        refine va_calli (va_runS (As := [.long (lI (F44 14 0 0)), .long (lI (F44 14 0 1)), .long (lI (F47 14 0 0)), .long (lI (F47 14 0 1))]) (rest := []) ⟨hx, hb, hml, hown, hts⟩ (c_M_compare (l := l) hc48) (va_cwS 4 hts (gdS k_13_104 k_13_105 k_1_9 k_13_106) rfl rfl rfl (by decide +kernel) ⟨Nat.le_of_ble_eq_true rfl, Nat.le_of_ble_eq_true rfl⟩) (zPS X hZ47 hS47 [.long (lI (F44 14 0 0)), .long (lI (F44 14 0 1)), .long (lI (F47 14 0 0)), .long (lI (F47 14 0 1))]) rfl rfl hl.1 rfl (lv_room (Nat.le_of_ble_eq_true rfl)) d_15_53_315 ⟨Nat.le_of_ble_eq_true rfl, Nat.le_of_ble_eq_true rfl⟩) hS47 (fun q _ h => zAin X hS47 q h) (zAin X hS47) (fun p48 u48 t48 H48 locs48 ht48 hv48 hw48 hB48 hz48 hk48 hS48 => ?_)
        have hZ48 := zBack X ht48 hB48
        subst hw48
        obtain ⟨g49, hf⟩ := gif hf
        refine z0eq (tgt := 333) hx hb g49 d_15_53_318 (by decide) (fun h50 => ?_) (fun h50 => ?_)
        · replace hf := gpos hf h50
          exact b_M_through_333 X ih hf hZ48 hS48 (lv_sub hl [4, 5] rfl)
        · replace hf := gneg hf h50
          refine lv_aload_n hx hb d_15_53_321 rfl (lv_at hl 5 rfl) ?_
          refine lv_bipush (v := iI 6) hx hb d_15_53_322 (by decide) ?_
          refine lv_aload_n hx hb d_15_53_324 rfl (lv_at hl 5 rfl) ?_
          refine zget (ci := 14) (C := RX14) (T := TX14) (v := .ref (ad 14 0 (28 + 1))) (k := 28) hx hb hts inW_14 hown hK hZ48 (by decide) (by decide) rfl (by decide) k_11_26 rfl d_15_53_325 ?_
          refine lv_iload_n hx hb d_15_53_328 rfl (lv_at hl 4 rfl) ?_
          refine zald (ci := 14) (k := 28) hx hb hK rfl hZ48 (by decide) (by decide) rfl (Nat.le_of_ble_eq_true rfl) g42.1 g42.2 d_15_53_329 ?_
          obtain ⟨r51, F51, B51, hc51, hf⟩ := gbind hf
          refine va_callv (va_runV (As := [.int (iI 6), .int (iI (B48 14 0 28 l1))]) (rest := []) ⟨hx, hb, hml, hown, hts⟩ (c_M_failAt (l := l) hc51) (cwV 2 hts (gdV k_14_132 k_14_134 ks_205 k_1_9 k_14_135) rfl rfl rfl (by decide +kernel) ⟨Nat.le_of_ble_eq_true rfl, Nat.le_of_ble_eq_true rfl⟩) (zPV X hZ48 hS48 (ci := 14) (by decide) (by decide) (r := (RX14, TX14, 107)) rfl [.int (iI 6), .int (iI (B48 14 0 28 l1))]) rfl rfl hl.1 rfl (lv_room (Nat.le_of_ble_eq_true rfl)) d_15_53_330 ⟨Nat.le_of_ble_eq_true rfl, Nat.le_of_ble_eq_true rfl⟩) hS48 (fun q _ h => zAin X hS48 q h) (zAin X hS48) (fun u51 t51 H51 locs51 ht51 hv51 hw51 hB51 hz51 hk51 hS51 => ?_)
          have hZ51 := zBack X ht51 hB51
          exact b_M_through_333 X ih hf hZ51 hS51 (lv_sub hl [4, 5] rfl)

noncomputable def f_M_through_161 (K : Nat)  (F : zF) (B : zB) : zO := f_M_through_163 K K 1 F B
set_option maxHeartbeats 4000000 in
set_option maxRecDepth 100000 in
theorem b_M_through_161 {D : va_G} {ca : Nat → ClassId} {ad : Nat → Int → Nat → Nat} {L : List Nat} {aS vS : Nat → Nat} {A : Nat → Prop} {p : Program} {l : Launch} {e : Env} {s : State} {m : MethodId} {args : Array Value} {below : List Frame} {meth : Method} {c : Code} {K : Nat} {r : Int} {F9 : zF} {B9 : zB} (X : zX D ca L aS vS A p s m args meth c prog_15_method_53_code 8 (Option.none : Option Jvm.ClassFile.FieldType) "StaveHouseModel")  {F : zF} {B : zB} {H : Heap} {locs : List Loc} {ls : Array Slot} (hf : f_M_through_161 K  F B = some (r, F9, B9)) (hZ : zH D ca ad lnM nM L F B A H) (hS : va_S A s.heap H locs) (hl : lv_has ls 8 [(0, .ref (ad 14 0 0))]) : W p l e ({ frames := 206, cells := 0, slots := 0, locals := 5739 } : Room) s m args below meth c H locs 0 0 (MQ below (Q_M_through D ca ad L r F9 B9 A) args s 0 0 A) (F0 m 161 ls []) := by
  obtain ⟨hx, hb, hr, hml, hown, hts, hlk, hK, hA, hL, hX⟩ := id X
  replace hf : (f_M_through_163 K K 1 F B) = some (r, F9, B9) := hf
  refine lv_iconst (v := iI 1) hx hb d_15_53_161 rfl ?_
  refine lv_istore_n (lv' := [(1, .int (iI 1)), (0, .ref (ad 14 0 0))]) hx hb d_15_53_162 rfl hl (by decide) rfl (fun ls hl => ?_)
  exact b_M_through_163 X hf hZ hS (lv_sub hl [0, 1] rfl)

noncomputable def f_M_through_148 (rec5 : zF → zB → zO) (K : Nat)  (F : zF) (B : zB) : zO := rec5 (zup3 F 14 0 35 ((F 14 0 35) + 1)) B
set_option maxHeartbeats 4000000 in
set_option maxRecDepth 100000 in
theorem b_M_through_148 {D : va_G} {ca : Nat → ClassId} {ad : Nat → Int → Nat → Nat} {L : List Nat} {aS vS : Nat → Nat} {A : Nat → Prop} {p : Program} {l : Launch} {e : Env} {s : State} {m : MethodId} {args : Array Value} {below : List Frame} {meth : Method} {c : Code} {K : Nat} {r : Int} {F9 : zF} {B9 : zB} (X : zX D ca L aS vS A p s m args meth c prog_15_method_53_code 8 (Option.none : Option Jvm.ClassFile.FieldType) "StaveHouseModel") {rec5 : zF → zB → zO} (hrec5 : ∀  {F : zF} {B : zB} {H : Heap} {locs : List Loc} {ls : Array Slot}, rec5  F B = some (r, F9, B9) → zH D ca ad lnM nM L F B A H → va_S A s.heap H locs → lv_has ls 8 [(0, .ref (ad 14 0 0))] → W p l e ({ frames := 206, cells := 0, slots := 0, locals := 5739 } : Room) s m args below meth c H locs 0 0 (MQ below (Q_M_through D ca ad L r F9 B9 A) args s 0 0 A) (F0 m 5 ls []))  {F : zF} {B : zB} {H : Heap} {locs : List Loc} {ls : Array Slot} (hf : f_M_through_148 rec5 K  F B = some (r, F9, B9)) (hZ : zH D ca ad lnM nM L F B A H) (hS : va_S A s.heap H locs) (hl : lv_has ls 8 [(0, .ref (ad 14 0 0))]) : W p l e ({ frames := 206, cells := 0, slots := 0, locals := 5739 } : Room) s m args below meth c H locs 0 0 (MQ below (Q_M_through D ca ad L r F9 B9 A) args s 0 0 A) (F0 m 148 ls []) := by
  obtain ⟨hx, hb, hr, hml, hown, hts, hlk, hK, hA, hL, hX⟩ := id X
  replace hf : (rec5 (zup3 F 14 0 35 ((F 14 0 35) + 1)) B) = some (r, F9, B9) := hf
  refine lv_aload_n hx hb d_15_53_148 rfl (lv_at hl 0 rfl) ?_
  refine lv_dup hx hb d_15_53_149 rfl ?_
  refine zget (ci := 14) (C := RX14) (T := TX14) (v := .int (iI (F 14 0 35))) (k := 35) hx hb hts inW_14 hown hK hZ (by decide) (by decide) rfl (by decide) k_11_33 rfl d_15_53_150 ?_
  refine lv_iconst (v := iI 1) hx hb d_15_53_153 rfl ?_
  refine zadd hx hb d_15_53_154 ?_
  refine zput (ci := 14) (C := RX14) (T := TX14) (k := 35) (v := ((F 14 0 35) + 1)) (w := .int (iI ((F 14 0 35) + 1))) hx hb hts inW_14 tyX14 tyX14_ok nmX14 hown hK hZ hS (by decide) (by decide) rfl (by decide) k_11_33 rfl (fun G h => congrArg (fun q => Value.int (iI q)) h) rfl rfl (zno (by decide)) d_15_53_155 (fun H33 locs33 hZ33 hS33 => ?_)
  refine lv_goto (tgt := 5) hx hb d_15_53_158 (by decide) ?_
  exact hrec5 hf hZ33 hS33 (lv_sub hl [0] rfl)

noncomputable def f_M_through_73 (rec5 : zF → zB → zO) (K : Nat) : Nat → Int → zF → zB → zO
  | 0, _, _, _ => none
  | n + 1, l1, F, B => if r32 l1 then (if 8 ≤ l1 then if 0 ≤ (F 14 0 35) ∧ (F 14 0 35) < 4 then if 0 ≤ (B 14 0 29 (F 14 0 35)) ∧ (B 14 0 29 (F 14 0 35)) < 3001 then zbind (f_M_walk K ((B 14 0 29 (F 14 0 35)) + 1) (B 14 0 30 (B 14 0 29 (F 14 0 35))) F B) (fun r22 F22 B22 => if 0 ≤ (F22 14 0 6) ∧ (F22 14 0 6) < 3 then if 0 ≤ (F22 14 0 35) ∧ (F22 14 0 35) < 4 then zbind (f_M_good K F22 (zup4 B22 13 (F22 14 0 6) 12 (F22 14 0 35) (F22 14 0 36))) (fun r26 F26 B26 => if r32 r26 then (if r26 = 0 then f_M_through_148 rec5 K F26 B26 else zbind (f_M_judge K F26 B26) (fun r29 F29 B29 => f_M_through_148 rec5 K F29 B29)) else none) else none else none) else none else none else if 0 ≤ l1 ∧ l1 < 8 then f_M_through_73 rec5 K n (l1 + 1) F (zup4 B 14 0 51 l1 0) else none) else none
set_option maxHeartbeats 4000000 in
set_option maxRecDepth 100000 in
theorem b_M_through_73 {D : va_G} {ca : Nat → ClassId} {ad : Nat → Int → Nat → Nat} {L : List Nat} {aS vS : Nat → Nat} {A : Nat → Prop} {p : Program} {l : Launch} {e : Env} {s : State} {m : MethodId} {args : Array Value} {below : List Frame} {meth : Method} {c : Code} {K : Nat} {r : Int} {F9 : zF} {B9 : zB} (X : zX D ca L aS vS A p s m args meth c prog_15_method_53_code 8 (Option.none : Option Jvm.ClassFile.FieldType) "StaveHouseModel") {rec5 : zF → zB → zO} (hrec5 : ∀  {F : zF} {B : zB} {H : Heap} {locs : List Loc} {ls : Array Slot}, rec5  F B = some (r, F9, B9) → zH D ca ad lnM nM L F B A H → va_S A s.heap H locs → lv_has ls 8 [(0, .ref (ad 14 0 0))] → W p l e ({ frames := 206, cells := 0, slots := 0, locals := 5739 } : Room) s m args below meth c H locs 0 0 (MQ below (Q_M_through D ca ad L r F9 B9 A) args s 0 0 A) (F0 m 5 ls [])) : ∀ {n : Nat} {l1 : Int} {F : zF} {B : zB} {H : Heap} {locs : List Loc} {ls : Array Slot}, f_M_through_73 rec5 K n l1 F B = some (r, F9, B9) → zH D ca ad lnM nM L F B A H → va_S A s.heap H locs → lv_has ls 8 [(1, .int (iI l1)), (0, .ref (ad 14 0 0))] → W p l e ({ frames := 206, cells := 0, slots := 0, locals := 5739 } : Room) s m args below meth c H locs 0 0 (MQ below (Q_M_through D ca ad L r F9 B9 A) args s 0 0 A) (F0 m 73 ls []) := by
  obtain ⟨hx, hb, hr, hml, hown, hts, hlk, hK, hA, hL, hX⟩ := id X
  intro n
  induction n with
  | zero =>
    intros
    rename_i hf _ _ _
    cases hf
  | succ n ih =>
    intro l1 F B H locs ls hf hZ hS hl
    replace hf : (if r32 l1 then (if 8 ≤ l1 then if 0 ≤ (F 14 0 35) ∧ (F 14 0 35) < 4 then if 0 ≤ (B 14 0 29 (F 14 0 35)) ∧ (B 14 0 29 (F 14 0 35)) < 3001 then zbind (f_M_walk K ((B 14 0 29 (F 14 0 35)) + 1) (B 14 0 30 (B 14 0 29 (F 14 0 35))) F B) (fun r22 F22 B22 => if 0 ≤ (F22 14 0 6) ∧ (F22 14 0 6) < 3 then if 0 ≤ (F22 14 0 35) ∧ (F22 14 0 35) < 4 then zbind (f_M_good K F22 (zup4 B22 13 (F22 14 0 6) 12 (F22 14 0 35) (F22 14 0 36))) (fun r26 F26 B26 => if r32 r26 then (if r26 = 0 then f_M_through_148 rec5 K F26 B26 else zbind (f_M_judge K F26 B26) (fun r29 F29 B29 => f_M_through_148 rec5 K F29 B29)) else none) else none else none) else none else none else if 0 ≤ l1 ∧ l1 < 8 then f_M_through_73 rec5 K n (l1 + 1) F (zup4 B 14 0 51 l1 0) else none) else none) = some (r, F9, B9) := hf
    refine lv_iload_n hx hb d_15_53_73 rfl (lv_at hl 0 rfl) ?_
    refine lv_bipush (v := iI 8) hx hb d_15_53_74 (by decide) ?_
    obtain ⟨g18, hf⟩ := gif hf
    refine zge (tgt := 92) hx hb g18 (by decide) d_15_53_76 (by decide) (fun h19 => ?_) (fun h19 => ?_)
    · replace hf := gpos hf h19
      refine lv_aload_n hx hb d_15_53_92 rfl (lv_at hl 1 rfl) ?_
      refine lv_aload_n hx hb d_15_53_93 rfl (lv_at hl 1 rfl) ?_
      refine zget (ci := 14) (C := RX14) (T := TX14) (v := .ref (ad 14 0 (29 + 1))) (k := 29) hx hb hts inW_14 hown hK hZ (by decide) (by decide) rfl (by decide) k_11_27 rfl d_15_53_94 ?_
      refine lv_aload_n hx hb d_15_53_97 rfl (lv_at hl 1 rfl) ?_
      refine zget (ci := 14) (C := RX14) (T := TX14) (v := .int (iI (F 14 0 35))) (k := 35) hx hb hts inW_14 hown hK hZ (by decide) (by decide) rfl (by decide) k_11_33 rfl d_15_53_98 ?_
      obtain ⟨g20, hf⟩ := gif hf
      refine zald (ci := 14) (k := 29) hx hb hK rfl hZ (by decide) (by decide) rfl (Nat.le_of_ble_eq_true rfl) g20.1 g20.2 d_15_53_101 ?_
      refine lv_iconst (v := iI 1) hx hb d_15_53_102 rfl ?_
      refine zadd hx hb d_15_53_103 ?_
      refine lv_aload_n hx hb d_15_53_104 rfl (lv_at hl 1 rfl) ?_
      refine zget (ci := 14) (C := RX14) (T := TX14) (v := .ref (ad 14 0 (30 + 1))) (k := 30) hx hb hts inW_14 hown hK hZ (by decide) (by decide) rfl (by decide) k_11_28 rfl d_15_53_105 ?_
      refine lv_aload_n hx hb d_15_53_108 rfl (lv_at hl 1 rfl) ?_
      refine zget (ci := 14) (C := RX14) (T := TX14) (v := .ref (ad 14 0 (29 + 1))) (k := 29) hx hb hts inW_14 hown hK hZ (by decide) (by decide) rfl (by decide) k_11_27 rfl d_15_53_109 ?_
      refine lv_aload_n hx hb d_15_53_112 rfl (lv_at hl 1 rfl) ?_
      refine zget (ci := 14) (C := RX14) (T := TX14) (v := .int (iI (F 14 0 35))) (k := 35) hx hb hts inW_14 hown hK hZ (by decide) (by decide) rfl (by decide) k_11_33 rfl d_15_53_113 ?_
      refine zald (ci := 14) (k := 29) hx hb hK rfl hZ (by decide) (by decide) rfl (Nat.le_of_ble_eq_true rfl) g20.1 g20.2 d_15_53_116 ?_
      obtain ⟨g21, hf⟩ := gif hf
      refine zald (ci := 14) (k := 30) hx hb hK rfl hZ (by decide) (by decide) rfl (Nat.le_of_ble_eq_true rfl) g21.1 g21.2 d_15_53_117 ?_
      obtain ⟨r22, F22, B22, hc22, hf⟩ := gbind hf
      refine va_callv (va_runV (As := [.int (iI ((B 14 0 29 (F 14 0 35)) + 1)), .int (iI (B 14 0 30 (B 14 0 29 (F 14 0 35))))]) (rest := []) ⟨hx, hb, hml, hown, hts⟩ (c_M_walk (l := l) hc22) (cwV 2 hts (gdV k_14_207 k_14_209 ks_223 k_1_9 k_14_210) rfl rfl rfl (by decide +kernel) ⟨Nat.le_of_ble_eq_true rfl, Nat.le_of_ble_eq_true rfl⟩) (zPV X hZ hS (ci := 14) (by decide) (by decide) (r := (RX14, TX14, 107)) rfl [.int (iI ((B 14 0 29 (F 14 0 35)) + 1)), .int (iI (B 14 0 30 (B 14 0 29 (F 14 0 35))))]) rfl rfl hl.1 rfl (lv_room (Nat.le_of_ble_eq_true rfl)) d_15_53_118 ⟨Nat.le_of_ble_eq_true rfl, Nat.le_of_ble_eq_true rfl⟩) hS (fun q _ h => zAin X hS q h) (zAin X hS) (fun u22 t22 H22 locs22 ht22 hv22 hw22 hB22 hz22 hk22 hS22 => ?_)
      have hZ22 := zBack X ht22 hB22
      refine lv_aload_n hx hb d_15_53_121 rfl (lv_at hl 1 rfl) ?_
      refine zget (ci := 14) (C := RX14) (T := TX14) (v := va_rf (zrf ad 13 (F22 14 0 6))) (k := 6) hx hb hts inW_14 hown hK hZ22 (by decide) (by decide) rfl (by decide) k_11_4 rfl d_15_53_122 ?_
      obtain ⟨g23, hf⟩ := gif hf
      refine zunrf g23.1 ?_
      refine zget (ci := 13) (C := RX13) (T := TX13) (v := .ref (ad 13 (F22 14 0 6) (12 + 1))) (k := 12) hx hb hts inW_13 hown hK hZ22 g23.1 g23.2 rfl (by decide) k_9_142 rfl d_15_53_125 ?_
      refine lv_aload_n hx hb d_15_53_128 rfl (lv_at hl 1 rfl) ?_
      refine zget (ci := 14) (C := RX14) (T := TX14) (v := .int (iI (F22 14 0 35))) (k := 35) hx hb hts inW_14 hown hK hZ22 (by decide) (by decide) rfl (by decide) k_11_33 rfl d_15_53_129 ?_
      refine lv_aload_n hx hb d_15_53_132 rfl (lv_at hl 1 rfl) ?_
      refine zget (ci := 14) (C := RX14) (T := TX14) (v := .int (iI (F22 14 0 36))) (k := 36) hx hb hts inW_14 hown hK hZ22 (by decide) (by decide) rfl (by decide) k_11_34 rfl d_15_53_133 ?_
      obtain ⟨g24, hf⟩ := gif hf
      refine zast (ci := 13) (k := 12) hx hb hK rfl hZ22 hS22 g23.1 g23.2 rfl (Nat.le_of_ble_eq_true rfl) g24.1 g24.2 d_15_53_136 (fun H25 locs25 hZ25 hS25 => ?_)
      refine lv_aload_n hx hb d_15_53_137 rfl (lv_at hl 1 rfl) ?_
      obtain ⟨r26, F26, B26, hc26, hf⟩ := gbind hf
      refine va_calli (va_runV (As := []) (rest := []) ⟨hx, hb, hml, hown, hts⟩ (c_M_good (l := l) hc26) (cwV 0 hts (gdV k_13_15 k_13_17 ks_152 k_1_9 k_13_18) rfl rfl rfl (by decide +kernel) ⟨Nat.le_of_ble_eq_true rfl, Nat.le_of_ble_eq_true rfl⟩) (zPV X hZ25 hS25 (ci := 14) (by decide) (by decide) (r := (RX14, TX14, 107)) rfl []) rfl rfl hl.1 rfl (lv_room (Nat.le_of_ble_eq_true rfl)) d_15_53_138 ⟨Nat.le_of_ble_eq_true rfl, Nat.le_of_ble_eq_true rfl⟩) hS25 (fun q _ h => zAin X hS25 q h) (zAin X hS25) (fun p26 u26 t26 H26 locs26 ht26 hv26 hw26 hB26 hz26 hk26 hS26 => ?_)
      have hZ26 := zBack X ht26 hB26
      subst hw26
      obtain ⟨g27, hf⟩ := gif hf
      refine z0eq (tgt := 148) hx hb g27 d_15_53_141 (by decide) (fun h28 => ?_) (fun h28 => ?_)
      · replace hf := gpos hf h28
        exact b_M_through_148 X hrec5 hf hZ26 hS26 (lv_sub hl [1] rfl)
      · replace hf := gneg hf h28
        refine lv_aload_n hx hb d_15_53_144 rfl (lv_at hl 1 rfl) ?_
        obtain ⟨r29, F29, B29, hc29, hf⟩ := gbind hf
        refine va_callv (va_runV (As := []) (rest := []) ⟨hx, hb, hml, hown, hts⟩ (c_M_judge (l := l) hc29) (cwV 0 hts (gdV k_15_34 k_15_36 ks_238 k_1_9 k_15_37) rfl rfl rfl (by decide +kernel) ⟨Nat.le_of_ble_eq_true rfl, Nat.le_of_ble_eq_true rfl⟩) (zPV X hZ26 hS26 (ci := 14) (by decide) (by decide) (r := (RX14, TX14, 107)) rfl []) rfl rfl hl.1 rfl (lv_room (Nat.le_of_ble_eq_true rfl)) d_15_53_145 ⟨Nat.le_of_ble_eq_true rfl, Nat.le_of_ble_eq_true rfl⟩) hS26 (fun q _ h => zAin X hS26 q h) (zAin X hS26) (fun u29 t29 H29 locs29 ht29 hv29 hw29 hB29 hz29 hk29 hS29 => ?_)
        have hZ29 := zBack X ht29 hB29
        exact b_M_through_148 X hrec5 hf hZ29 hS29 (lv_sub hl [1] rfl)
    · replace hf := gneg hf h19
      refine lv_aload_n hx hb d_15_53_79 rfl (lv_at hl 1 rfl) ?_
      refine zget (ci := 14) (C := RX14) (T := TX14) (v := .ref (ad 14 0 (51 + 1))) (k := 51) hx hb hts inW_14 hown hK hZ (by decide) (by decide) rfl (by decide) k_11_49 rfl d_15_53_80 ?_
      refine lv_iload_n hx hb d_15_53_83 rfl (lv_at hl 0 rfl) ?_
      refine lv_iconst (v := iI 0) hx hb d_15_53_84 rfl ?_
      obtain ⟨g30, hf⟩ := gif hf
      refine zast (ci := 14) (k := 51) hx hb hK rfl hZ hS (by decide) (by decide) rfl (Nat.le_of_ble_eq_true rfl) g30.1 g30.2 d_15_53_85 (fun H31 locs31 hZ31 hS31 => ?_)
      refine lv_iinc (v := iI (l1 + 1)) (lv' := [(1, .int (iI (l1 + 1))), (0, .ref (ad 14 0 0))]) hx hb d_15_53_86 hl (k := 0) rfl (iI_add _ 1) (by decide) rfl (fun ls hl => ?_)
      refine lv_goto (tgt := 73) hx hb d_15_53_89 (by decide) ?_
      exact ih hf hZ31 hS31 (lv_sub hl [0, 1] rfl)

noncomputable def f_M_through_5 (K : Nat) : Nat → zF → zB → zO
  | 0, _, _ => none
  | n + 1, F, B => if 0 ≤ (F 14 0 6) ∧ (F 14 0 6) < 3 then if r32 (F 14 0 35) then if r32 (F 13 (F 14 0 6) 1) then (if (F 13 (F 14 0 6) 1) ≤ (F 14 0 35) then f_M_through_161 K F B else zbind (f_M_good K F B) (fun r6 F6 B6 => if r32 r6 then (if r6 = 0 then f_M_through_161 K F6 B6 else f_M_through_73 (f_M_through_5 K n) K K 0 (zup3 (zup3 (zup3 (zup3 (zup3 (zup3 (zup3 (zup3 (zup3 F6 14 0 36 0) 14 0 37 0) 14 0 38 0) 14 0 39 1) 14 0 40 4) 14 0 41 0) 14 0 45 0) 14 0 48 0) 14 0 50 0) B6) else none)) else none else none else none
set_option maxHeartbeats 4000000 in
set_option maxRecDepth 100000 in
theorem b_M_through_5 {D : va_G} {ca : Nat → ClassId} {ad : Nat → Int → Nat → Nat} {L : List Nat} {aS vS : Nat → Nat} {A : Nat → Prop} {p : Program} {l : Launch} {e : Env} {s : State} {m : MethodId} {args : Array Value} {below : List Frame} {meth : Method} {c : Code} {K : Nat} {r : Int} {F9 : zF} {B9 : zB} (X : zX D ca L aS vS A p s m args meth c prog_15_method_53_code 8 (Option.none : Option Jvm.ClassFile.FieldType) "StaveHouseModel") : ∀ {n : Nat}  {F : zF} {B : zB} {H : Heap} {locs : List Loc} {ls : Array Slot}, f_M_through_5 K n  F B = some (r, F9, B9) → zH D ca ad lnM nM L F B A H → va_S A s.heap H locs → lv_has ls 8 [(0, .ref (ad 14 0 0))] → W p l e ({ frames := 206, cells := 0, slots := 0, locals := 5739 } : Room) s m args below meth c H locs 0 0 (MQ below (Q_M_through D ca ad L r F9 B9 A) args s 0 0 A) (F0 m 5 ls []) := by
  obtain ⟨hx, hb, hr, hml, hown, hts, hlk, hK, hA, hL, hX⟩ := id X
  intro n
  induction n with
  | zero =>
    intros
    rename_i hf _ _ _
    cases hf
  | succ n ih =>
    intro F B H locs ls hf hZ hS hl
    replace hf : (if 0 ≤ (F 14 0 6) ∧ (F 14 0 6) < 3 then if r32 (F 14 0 35) then if r32 (F 13 (F 14 0 6) 1) then (if (F 13 (F 14 0 6) 1) ≤ (F 14 0 35) then f_M_through_161 K F B else zbind (f_M_good K F B) (fun r6 F6 B6 => if r32 r6 then (if r6 = 0 then f_M_through_161 K F6 B6 else f_M_through_73 (f_M_through_5 K n) K K 0 (zup3 (zup3 (zup3 (zup3 (zup3 (zup3 (zup3 (zup3 (zup3 F6 14 0 36 0) 14 0 37 0) 14 0 38 0) 14 0 39 1) 14 0 40 4) 14 0 41 0) 14 0 45 0) 14 0 48 0) 14 0 50 0) B6) else none)) else none else none else none) = some (r, F9, B9) := hf
    refine lv_aload_n hx hb d_15_53_5 rfl (lv_at hl 0 rfl) ?_
    refine zget (ci := 14) (C := RX14) (T := TX14) (v := .int (iI (F 14 0 35))) (k := 35) hx hb hts inW_14 hown hK hZ (by decide) (by decide) rfl (by decide) k_11_33 rfl d_15_53_6 ?_
    refine lv_aload_n hx hb d_15_53_9 rfl (lv_at hl 0 rfl) ?_
    refine zget (ci := 14) (C := RX14) (T := TX14) (v := va_rf (zrf ad 13 (F 14 0 6))) (k := 6) hx hb hts inW_14 hown hK hZ (by decide) (by decide) rfl (by decide) k_11_4 rfl d_15_53_10 ?_
    obtain ⟨g2, hf⟩ := gif hf
    refine zunrf g2.1 ?_
    refine zget (ci := 13) (C := RX13) (T := TX13) (v := .int (iI (F 13 (F 14 0 6) 1))) (k := 1) hx hb hts inW_13 hown hK hZ g2.1 g2.2 rfl (by decide) k_9_126 rfl d_15_53_13 ?_
    obtain ⟨g3, hf⟩ := gif hf
    obtain ⟨g4, hf⟩ := gif hf
    refine zge (tgt := 161) hx hb g3 g4 d_15_53_16 (by decide) (fun h5 => ?_) (fun h5 => ?_)
    · replace hf := gpos hf h5
      exact b_M_through_161 X hf hZ hS (lv_sub hl [0] rfl)
    · replace hf := gneg hf h5
      refine lv_aload_n hx hb d_15_53_19 rfl (lv_at hl 0 rfl) ?_
      obtain ⟨r6, F6, B6, hc6, hf⟩ := gbind hf
      refine va_calli (va_runV (As := []) (rest := []) ⟨hx, hb, hml, hown, hts⟩ (c_M_good (l := l) hc6) (cwV 0 hts (gdV k_13_15 k_13_17 ks_152 k_1_9 k_13_18) rfl rfl rfl (by decide +kernel) ⟨Nat.le_of_ble_eq_true rfl, Nat.le_of_ble_eq_true rfl⟩) (zPV X hZ hS (ci := 14) (by decide) (by decide) (r := (RX14, TX14, 107)) rfl []) rfl rfl hl.1 rfl (lv_room (Nat.le_of_ble_eq_true rfl)) d_15_53_20 ⟨Nat.le_of_ble_eq_true rfl, Nat.le_of_ble_eq_true rfl⟩) hS (fun q _ h => zAin X hS q h) (zAin X hS) (fun p6 u6 t6 H6 locs6 ht6 hv6 hw6 hB6 hz6 hk6 hS6 => ?_)
      have hZ6 := zBack X ht6 hB6
      subst hw6
      obtain ⟨g7, hf⟩ := gif hf
      refine z0eq (tgt := 161) hx hb g7 d_15_53_23 (by decide) (fun h8 => ?_) (fun h8 => ?_)
      · replace hf := gpos hf h8
        exact b_M_through_161 X hf hZ6 hS6 (lv_sub hl [0] rfl)
      · replace hf := gneg hf h8
        refine lv_aload_n hx hb d_15_53_26 rfl (lv_at hl 0 rfl) ?_
        refine lv_iconst (v := iI 0) hx hb d_15_53_27 rfl ?_
        refine zput (ci := 14) (C := RX14) (T := TX14) (k := 36) (v := 0) (w := .int (iI 0)) hx hb hts inW_14 tyX14 tyX14_ok nmX14 hown hK hZ6 hS6 (by decide) (by decide) rfl (by decide) k_11_34 rfl (fun G h => congrArg (fun q => Value.int (iI q)) h) rfl rfl (zno (by decide)) d_15_53_28 (fun H9 locs9 hZ9 hS9 => ?_)
        refine lv_aload_n hx hb d_15_53_31 rfl (lv_at hl 0 rfl) ?_
        refine lv_iconst (v := iI 0) hx hb d_15_53_32 rfl ?_
        refine zput (ci := 14) (C := RX14) (T := TX14) (k := 37) (v := 0) (w := .int (iI 0)) hx hb hts inW_14 tyX14 tyX14_ok nmX14 hown hK hZ9 hS9 (by decide) (by decide) rfl (by decide) k_11_35 rfl (fun G h => congrArg (fun q => Value.int (iI q)) h) rfl rfl (zno (by decide)) d_15_53_33 (fun H10 locs10 hZ10 hS10 => ?_)
        refine lv_aload_n hx hb d_15_53_36 rfl (lv_at hl 0 rfl) ?_
        refine lv_lconst (v := lI 0) hx hb d_15_53_37 (by decide) ?_
        refine zput (ci := 14) (C := RX14) (T := TX14) (k := 38) (v := 0) (w := .long (lI 0)) hx hb hts inW_14 tyX14 tyX14_ok nmX14 hown hK hZ10 hS10 (by decide) (by decide) rfl (by decide) k_11_36 rfl (fun G h => congrArg (fun q => Value.long (lI q)) h) rfl rfl (zno (by decide)) d_15_53_38 (fun H11 locs11 hZ11 hS11 => ?_)
        refine lv_aload_n hx hb d_15_53_41 rfl (lv_at hl 0 rfl) ?_
        refine lv_lconst (v := lI 1) hx hb d_15_53_42 (by decide) ?_
        refine zput (ci := 14) (C := RX14) (T := TX14) (k := 39) (v := 1) (w := .long (lI 1)) hx hb hts inW_14 tyX14 tyX14_ok nmX14 hown hK hZ11 hS11 (by decide) (by decide) rfl (by decide) k_11_37 rfl (fun G h => congrArg (fun q => Value.long (lI q)) h) rfl rfl (zno (by decide)) d_15_53_43 (fun H12 locs12 hZ12 hS12 => ?_)
        refine lv_aload_n hx hb d_15_53_46 rfl (lv_at hl 0 rfl) ?_
        refine lv_iconst (v := iI 4) hx hb d_15_53_47 rfl ?_
        refine zput (ci := 14) (C := RX14) (T := TX14) (k := 40) (v := 4) (w := .int (iI 4)) hx hb hts inW_14 tyX14 tyX14_ok nmX14 hown hK hZ12 hS12 (by decide) (by decide) rfl (by decide) k_11_38 rfl (fun G h => congrArg (fun q => Value.int (iI q)) h) rfl rfl (zno (by decide)) d_15_53_48 (fun H13 locs13 hZ13 hS13 => ?_)
        refine lv_aload_n hx hb d_15_53_51 rfl (lv_at hl 0 rfl) ?_
        refine lv_iconst (v := iI 0) hx hb d_15_53_52 rfl ?_
        refine zput (ci := 14) (C := RX14) (T := TX14) (k := 41) (v := 0) (w := .int (iI 0)) hx hb hts inW_14 tyX14 tyX14_ok nmX14 hown hK hZ13 hS13 (by decide) (by decide) rfl (by decide) k_11_39 rfl (fun G h => congrArg (fun q => Value.int (iI q)) h) rfl rfl (zno (by decide)) d_15_53_53 (fun H14 locs14 hZ14 hS14 => ?_)
        refine lv_aload_n hx hb d_15_53_56 rfl (lv_at hl 0 rfl) ?_
        refine lv_iconst (v := iI 0) hx hb d_15_53_57 rfl ?_
        refine zput (ci := 14) (C := RX14) (T := TX14) (k := 45) (v := 0) (w := .int (iI 0)) hx hb hts inW_14 tyX14 tyX14_ok nmX14 hown hK hZ14 hS14 (by decide) (by decide) rfl (by decide) k_11_43 rfl (fun G h => congrArg (fun q => Value.int (iI q)) h) rfl rfl (zno (by decide)) d_15_53_58 (fun H15 locs15 hZ15 hS15 => ?_)
        refine lv_aload_n hx hb d_15_53_61 rfl (lv_at hl 0 rfl) ?_
        refine lv_iconst (v := iI 0) hx hb d_15_53_62 rfl ?_
        refine zput (ci := 14) (C := RX14) (T := TX14) (k := 48) (v := 0) (w := .int (iI 0)) hx hb hts inW_14 tyX14 tyX14_ok nmX14 hown hK hZ15 hS15 (by decide) (by decide) rfl (by decide) k_11_46 rfl (fun G h => congrArg (fun q => Value.int (iI q)) h) rfl rfl (zno (by decide)) d_15_53_63 (fun H16 locs16 hZ16 hS16 => ?_)
        refine lv_aload_n hx hb d_15_53_66 rfl (lv_at hl 0 rfl) ?_
        refine lv_iconst (v := iI 0) hx hb d_15_53_67 rfl ?_
        refine zput (ci := 14) (C := RX14) (T := TX14) (k := 50) (v := 0) (w := .int (iI 0)) hx hb hts inW_14 tyX14 tyX14_ok nmX14 hown hK hZ16 hS16 (by decide) (by decide) rfl (by decide) k_11_48 rfl (fun G h => congrArg (fun q => Value.int (iI q)) h) rfl rfl (zno (by decide)) d_15_53_68 (fun H17 locs17 hZ17 hS17 => ?_)
        refine lv_iconst (v := iI 0) hx hb d_15_53_71 rfl ?_
        refine lv_istore_n (lv' := [(1, .int (iI 0)), (0, .ref (ad 14 0 0))]) hx hb d_15_53_72 rfl hl (by decide) rfl (fun ls hl => ?_)
        exact b_M_through_73 X ih hf hZ17 hS17 (lv_sub hl [0, 1] rfl)

noncomputable def f_M_through (K : Nat)  (F : zF) (B : zB) : zO := f_M_through_5 K K (zup3 F 14 0 35 0) B
set_option maxHeartbeats 4000000 in
set_option maxRecDepth 100000 in
theorem c_M_through {l : Launch} {D : va_G} {ca : Nat → ClassId} {ad : Nat → Int → Nat → Nat} {L : List Nat} {aS vS : Nat → Nat} {sz K : Nat}   {F F9 : zF} {B B9 : zB} {r : Int} (hf : f_M_through K  F B = some (r, F9, B9)) : Met l ({ cls := "StaveHouseModel", name := "through", desc := "()V" } : Jvm.MethodName) (Cond.code ({ cls := "StaveHouseModel", name := "through", desc := "()V" } : Jvm.MethodName) prog_15_method_53_code 8 (Option.none : Option Jvm.ClassFile.FieldType) :: wAll) ({ frames := 206, cells := 0, slots := 0, locals := 5739 } : Room) (va_Pc [.ref (ad 14 0 0)] (zPre D ca ad lnM nM L aS vS F B sz)) (Q_M_through D ca ad L r F9 B9 (zA L sz)) 0 0 (zA L sz) := by
  refine zMet (Qc := Q_M_through D ca ad L r F9 B9) (lv := [(0, .ref (ad 14 0 0))]) (by decide) (Nat.le_of_ble_eq_true rfl) rfl (fun A p e s m below meth c ls X hZ hS hl => ?_)
  obtain ⟨hx, hb, hr, hml, hown, hts, hlk, hK, hA, hL, hX⟩ := id X
  replace hf : (f_M_through_5 K K (zup3 F 14 0 35 0) B) = some (r, F9, B9) := hf
  refine lv_aload_n hx hb d_15_53_0 rfl (lv_at hl 0 rfl) ?_
  refine lv_iconst (v := iI 0) hx hb d_15_53_1 rfl ?_
  refine zput (ci := 14) (C := RX14) (T := TX14) (k := 35) (v := 0) (w := .int (iI 0)) hx hb hts inW_14 tyX14 tyX14_ok nmX14 hown hK hZ hS (by decide) (by decide) rfl (by decide) k_11_33 rfl (fun G h => congrArg (fun q => Value.int (iI q)) h) rfl rfl (zno (by decide)) d_15_53_2 (fun H1 locs1 hZ1 hS1 => ?_)
  exact b_M_through_5 X hf hZ1 hS1 (lv_sub hl [0] rfl)

