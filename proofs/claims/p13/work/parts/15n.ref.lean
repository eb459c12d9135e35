theorem k_10_207 : (Jvm.Cond.fieldLink "StaveHouseModel" (99 : Nat) "StaveHouseModel" "KEY" "J") ∈ wAll := wA_10 (j := 207) rfl rfl
theorem k_10_213 : (Jvm.Cond.fieldLink "StaveHouseModel" (108 : Nat) "StaveHouseModel" "TIME" "J") ∈ wAll := wA_10 (j := 213) rfl rfl
theorem k_10_215 : (Jvm.Cond.fieldLink "StaveHouseModel" (111 : Nat) "StaveHouseModel" "TEMPO" "J") ∈ wAll := wA_10 (j := 215) rfl rfl
theorem k_14_148 : (Jvm.Cond.methodLink "StaveHouseModel" (430 : Nat) ({ cls := "StaveHouseModel", name := "headLet", desc := "()V" } : Jvm.MethodName)) ∈ wAll := wA_14 (j := 148) rfl rfl
theorem k_14_150 : (Jvm.Cond.instanceMethod ({ cls := "StaveHouseModel", name := "headLet", desc := "()V" } : Jvm.MethodName)) ∈ wAll := wA_14 (j := 150) rfl rfl
theorem ks_209 : (Jvm.Cond.selects "StaveHouseModel" ({ cls := "StaveHouseModel", name := "headLet", desc := "()V" } : Jvm.MethodName) ({ cls := "StaveHouseModel", name := "headLet", desc := "()V" } : Jvm.MethodName)) ∈ wAll := wA_s (j := 209) rfl rfl
theorem k_14_151 : (Jvm.Cond.code ({ cls := "StaveHouseModel", name := "headLet", desc := "()V" } : Jvm.MethodName) prog_15_method_43_code (1 : Nat) (Option.none : Option Jvm.ClassFile.FieldType)) ∈ wAll := wA_14 (j := 151) rfl rfl
theorem k_11_22 : (Jvm.Cond.fieldLink "StaveHouseModel" (401 : Nat) "StaveHouseModel" "hadTempo" "Z") ∈ wAll := wA_11 (j := 22) rfl rfl
theorem k_11_21 : (Jvm.Cond.fieldLink "StaveHouseModel" (398 : Nat) "StaveHouseModel" "hadTime" "Z") ∈ wAll := wA_11 (j := 21) rfl rfl
theorem k_14_120 : (Jvm.Cond.methodLink "StaveHouseModel" (423 : Nat) ({ cls := "StaveHouseModel", name := "headKey", desc := "()V" } : Jvm.MethodName)) ∈ wAll := wA_14 (j := 120) rfl rfl
theorem k_14_122 : (Jvm.Cond.instanceMethod ({ cls := "StaveHouseModel", name := "headKey", desc := "()V" } : Jvm.MethodName)) ∈ wAll := wA_14 (j := 122) rfl rfl
theorem ks_202 : (Jvm.Cond.selects "StaveHouseModel" ({ cls := "StaveHouseModel", name := "headKey", desc := "()V" } : Jvm.MethodName) ({ cls := "StaveHouseModel", name := "headKey", desc := "()V" } : Jvm.MethodName)) ∈ wAll := wA_s (j := 202) rfl rfl
theorem k_14_123 : (Jvm.Cond.code ({ cls := "StaveHouseModel", name := "headKey", desc := "()V" } : Jvm.MethodName) prog_15_method_42_code (3 : Nat) (Option.none : Option Jvm.ClassFile.FieldType)) ∈ wAll := wA_14 (j := 123) rfl rfl
theorem k_10_217 : (Jvm.Cond.fieldLink "StaveHouseModel" (114 : Nat) "StaveHouseModel" "LET" "J") ∈ wAll := wA_10 (j := 217) rfl rfl
theorem k_14_116 : (Jvm.Cond.methodLink "StaveHouseModel" (417 : Nat) ({ cls := "StaveHouseModel", name := "head", desc := "()V" } : Jvm.MethodName)) ∈ wAll := wA_14 (j := 116) rfl rfl
theorem k_14_118 : (Jvm.Cond.instanceMethod ({ cls := "StaveHouseModel", name := "head", desc := "()V" } : Jvm.MethodName)) ∈ wAll := wA_14 (j := 118) rfl rfl
theorem ks_201 : (Jvm.Cond.selects "StaveHouseModel" ({ cls := "StaveHouseModel", name := "head", desc := "()V" } : Jvm.MethodName) ({ cls := "StaveHouseModel", name := "head", desc := "()V" } : Jvm.MethodName)) ∈ wAll := wA_s (j := 201) rfl rfl
theorem k_14_119 : (Jvm.Cond.code ({ cls := "StaveHouseModel", name := "head", desc := "()V" } : Jvm.MethodName) prog_15_method_41_code (1 : Nat) (Option.none : Option Jvm.ClassFile.FieldType)) ∈ wAll := wA_14 (j := 119) rfl rfl
theorem k_10_219 : (Jvm.Cond.fieldLink "StaveHouseModel" (117 : Nat) "StaveHouseModel" "VOICE" "J") ∈ wAll := wA_10 (j := 219) rfl rfl
theorem k_14_199 : (Jvm.Cond.methodLink "StaveHouseModel" (420 : Nat) ({ cls := "StaveHouseModel", name := "voiceText", desc := "()V" } : Jvm.MethodName)) ∈ wAll := wA_14 (j := 199) rfl rfl
theorem k_14_201 : (Jvm.Cond.instanceMethod ({ cls := "StaveHouseModel", name := "voiceText", desc := "()V" } : Jvm.MethodName)) ∈ wAll := wA_14 (j := 201) rfl rfl
theorem ks_221 : (Jvm.Cond.selects "StaveHouseModel" ({ cls := "StaveHouseModel", name := "voiceText", desc := "()V" } : Jvm.MethodName) ({ cls := "StaveHouseModel", name := "voiceText", desc := "()V" } : Jvm.MethodName)) ∈ wAll := wA_s (j := 221) rfl rfl
theorem k_14_202 : (Jvm.Cond.code ({ cls := "StaveHouseModel", name := "voiceText", desc := "()V" } : Jvm.MethodName) prog_15_method_44_code (5 : Nat) (Option.none : Option Jvm.ClassFile.FieldType)) ∈ wAll := wA_14 (j := 202) rfl rfl
theorem k_14_211 : (Jvm.Cond.methodLink "StaveHouseModel" (541 : Nat) ({ cls := "StaveHouseModel", name := "counts", desc := "(I)V" } : Jvm.MethodName)) ∈ wAll := wA_14 (j := 211) rfl rfl
theorem k_14_213 : (Jvm.Cond.instanceMethod ({ cls := "StaveHouseModel", name := "counts", desc := "(I)V" } : Jvm.MethodName)) ∈ wAll := wA_14 (j := 213) rfl rfl
theorem ks_224 : (Jvm.Cond.selects "StaveHouseModel" ({ cls := "StaveHouseModel", name := "counts", desc := "(I)V" } : Jvm.MethodName) ({ cls := "StaveHouseModel", name := "counts", desc := "(I)V" } : Jvm.MethodName)) ∈ wAll := wA_s (j := 224) rfl rfl
theorem k_14_214 : (Jvm.Cond.code ({ cls := "StaveHouseModel", name := "counts", desc := "(I)V" } : Jvm.MethodName) prog_15_method_55_code (2 : Nat) (Option.none : Option Jvm.ClassFile.FieldType)) ∈ wAll := wA_14 (j := 214) rfl rfl
theorem k_14_215 : (Jvm.Cond.methodLink "StaveHouseModel" (544 : Nat) ({ cls := "StaveHouseModel", name := "go", desc := "(I)V" } : Jvm.MethodName)) ∈ wAll := wA_14 (j := 215) rfl rfl
theorem k_14_217 : (Jvm.Cond.instanceMethod ({ cls := "StaveHouseModel", name := "go", desc := "(I)V" } : Jvm.MethodName)) ∈ wAll := wA_14 (j := 217) rfl rfl
theorem ks_225 : (Jvm.Cond.selects "StaveHouseModel" ({ cls := "StaveHouseModel", name := "go", desc := "(I)V" } : Jvm.MethodName) ({ cls := "StaveHouseModel", name := "go", desc := "(I)V" } : Jvm.MethodName)) ∈ wAll := wA_s (j := 225) rfl rfl
theorem k_14_218 : (Jvm.Cond.code ({ cls := "StaveHouseModel", name := "go", desc := "(I)V" } : Jvm.MethodName) prog_15_method_56_code (2 : Nat) (Option.none : Option Jvm.ClassFile.FieldType)) ∈ wAll := wA_14 (j := 218) rfl rfl
theorem k_14_219 : (Jvm.Cond.methodLink "StaveHouseModel" (547 : Nat) ({ cls := "StaveHouseModel", name := "event", desc := "(I)V" } : Jvm.MethodName)) ∈ wAll := wA_14 (j := 219) rfl rfl
theorem k_14_221 : (Jvm.Cond.instanceMethod ({ cls := "StaveHouseModel", name := "event", desc := "(I)V" } : Jvm.MethodName)) ∈ wAll := wA_14 (j := 221) rfl rfl
theorem ks_226 : (Jvm.Cond.selects "StaveHouseModel" ({ cls := "StaveHouseModel", name := "event", desc := "(I)V" } : Jvm.MethodName) ({ cls := "StaveHouseModel", name := "event", desc := "(I)V" } : Jvm.MethodName)) ∈ wAll := wA_s (j := 226) rfl rfl
theorem k_14_222 : (Jvm.Cond.code ({ cls := "StaveHouseModel", name := "event", desc := "(I)V" } : Jvm.MethodName) prog_15_method_68_code (12 : Nat) (Option.none : Option Jvm.ClassFile.FieldType)) ∈ wAll := wA_14 (j := 222) rfl rfl
theorem k_15_26 : (Jvm.Cond.methodLink "StaveHouseModel" (565 : Nat) ({ cls := "StaveHouseModel", name := "goSlow", desc := "(I)V" } : Jvm.MethodName)) ∈ wAll := wA_15 (j := 26) rfl rfl
theorem k_15_28 : (Jvm.Cond.instanceMethod ({ cls := "StaveHouseModel", name := "goSlow", desc := "(I)V" } : Jvm.MethodName)) ∈ wAll := wA_15 (j := 28) rfl rfl
theorem ks_236 : (Jvm.Cond.selects "StaveHouseModel" ({ cls := "StaveHouseModel", name := "goSlow", desc := "(I)V" } : Jvm.MethodName) ({ cls := "StaveHouseModel", name := "goSlow", desc := "(I)V" } : Jvm.MethodName)) ∈ wAll := wA_s (j := 236) rfl rfl
theorem k_15_29 : (Jvm.Cond.code ({ cls := "StaveHouseModel", name := "goSlow", desc := "(I)V" } : Jvm.MethodName) prog_15_method_61_code (3 : Nat) (Option.none : Option Jvm.ClassFile.FieldType)) ∈ wAll := wA_15 (j := 29) rfl rfl
theorem k_15_12 : (Jvm.Cond.methodLink "StaveHouseModel" (562 : Nat) ({ cls := "StaveHouseModel", name := "goBack", desc := "(I)V" } : Jvm.MethodName)) ∈ wAll := wA_15 (j := 12) rfl rfl
theorem k_15_14 : (Jvm.Cond.instanceMethod ({ cls := "StaveHouseModel", name := "goBack", desc := "(I)V" } : Jvm.MethodName)) ∈ wAll := wA_15 (j := 14) rfl rfl
theorem ks_234 : (Jvm.Cond.selects "StaveHouseModel" ({ cls := "StaveHouseModel", name := "goBack", desc := "(I)V" } : Jvm.MethodName) ({ cls := "StaveHouseModel", name := "goBack", desc := "(I)V" } : Jvm.MethodName)) ∈ wAll := wA_s (j := 234) rfl rfl
theorem k_15_15 : (Jvm.Cond.code ({ cls := "StaveHouseModel", name := "goBack", desc := "(I)V" } : Jvm.MethodName) prog_15_method_63_code (9 : Nat) (Option.none : Option Jvm.ClassFile.FieldType)) ∈ wAll := wA_15 (j := 15) rfl rfl
theorem k_15_4 : (Jvm.Cond.methodLink "StaveHouseModel" (556 : Nat) ({ cls := "StaveHouseModel", name := "goUse", desc := "(I)V" } : Jvm.MethodName)) ∈ wAll := wA_15 (j := 4) rfl rfl
theorem k_15_6 : (Jvm.Cond.instanceMethod ({ cls := "StaveHouseModel", name := "goUse", desc := "(I)V" } : Jvm.MethodName)) ∈ wAll := wA_15 (j := 6) rfl rfl
theorem ks_232 : (Jvm.Cond.selects "StaveHouseModel" ({ cls := "StaveHouseModel", name := "goUse", desc := "(I)V" } : Jvm.MethodName) ({ cls := "StaveHouseModel", name := "goUse", desc := "(I)V" } : Jvm.MethodName)) ∈ wAll := wA_s (j := 232) rfl rfl
theorem k_15_7 : (Jvm.Cond.code ({ cls := "StaveHouseModel", name := "goUse", desc := "(I)V" } : Jvm.MethodName) prog_15_method_59_code (3 : Nat) (Option.none : Option Jvm.ClassFile.FieldType)) ∈ wAll := wA_15 (j := 7) rfl rfl
theorem k_15_0 : (Jvm.Cond.methodLink "StaveHouseModel" (553 : Nat) ({ cls := "StaveHouseModel", name := "goRepeat", desc := "(I)V" } : Jvm.MethodName)) ∈ wAll := wA_15 (j := 0) rfl rfl
theorem k_15_2 : (Jvm.Cond.instanceMethod ({ cls := "StaveHouseModel", name := "goRepeat", desc := "(I)V" } : Jvm.MethodName)) ∈ wAll := wA_15 (j := 2) rfl rfl
theorem ks_231 : (Jvm.Cond.selects "StaveHouseModel" ({ cls := "StaveHouseModel", name := "goRepeat", desc := "(I)V" } : Jvm.MethodName) ({ cls := "StaveHouseModel", name := "goRepeat", desc := "(I)V" } : Jvm.MethodName)) ∈ wAll := wA_s (j := 231) rfl rfl
theorem k_15_3 : (Jvm.Cond.code ({ cls := "StaveHouseModel", name := "goRepeat", desc := "(I)V" } : Jvm.MethodName) prog_15_method_58_code (9 : Nat) (Option.none : Option Jvm.ClassFile.FieldType)) ∈ wAll := wA_15 (j := 3) rfl rfl
theorem k_14_236 : (Jvm.Cond.methodLink "StaveHouseModel" (550 : Nat) ({ cls := "StaveHouseModel", name := "goSign", desc := "(I)V" } : Jvm.MethodName)) ∈ wAll := wA_14 (j := 236) rfl rfl
theorem k_14_238 : (Jvm.Cond.instanceMethod ({ cls := "StaveHouseModel", name := "goSign", desc := "(I)V" } : Jvm.MethodName)) ∈ wAll := wA_14 (j := 238) rfl rfl
theorem ks_230 : (Jvm.Cond.selects "StaveHouseModel" ({ cls := "StaveHouseModel", name := "goSign", desc := "(I)V" } : Jvm.MethodName) ({ cls := "StaveHouseModel", name := "goSign", desc := "(I)V" } : Jvm.MethodName)) ∈ wAll := wA_s (j := 230) rfl rfl
theorem k_14_239 : (Jvm.Cond.code ({ cls := "StaveHouseModel", name := "goSign", desc := "(I)V" } : Jvm.MethodName) prog_15_method_57_code (2 : Nat) (Option.none : Option Jvm.ClassFile.FieldType)) ∈ wAll := wA_14 (j := 239) rfl rfl
theorem k_15_8 : (Jvm.Cond.methodLink "StaveHouseModel" (559 : Nat) ({ cls := "StaveHouseModel", name := "goChange", desc := "(I)V" } : Jvm.MethodName)) ∈ wAll := wA_15 (j := 8) rfl rfl
theorem k_15_10 : (Jvm.Cond.instanceMethod ({ cls := "StaveHouseModel", name := "goChange", desc := "(I)V" } : Jvm.MethodName)) ∈ wAll := wA_15 (j := 10) rfl rfl
theorem ks_233 : (Jvm.Cond.selects "StaveHouseModel" ({ cls := "StaveHouseModel", name := "goChange", desc := "(I)V" } : Jvm.MethodName) ({ cls := "StaveHouseModel", name := "goChange", desc := "(I)V" } : Jvm.MethodName)) ∈ wAll := wA_s (j := 233) rfl rfl
theorem k_15_11 : (Jvm.Cond.code ({ cls := "StaveHouseModel", name := "goChange", desc := "(I)V" } : Jvm.MethodName) prog_15_method_60_code (5 : Nat) (Option.none : Option Jvm.ClassFile.FieldType)) ∈ wAll := wA_15 (j := 11) rfl rfl
theorem k_11_39 : (Jvm.Cond.fieldLink "StaveHouseModel" (500 : Nat) "StaveHouseModel" "backs" "I") ∈ wAll := wA_11 (j := 39) rfl rfl
theorem k_14_207 : (Jvm.Cond.methodLink "StaveHouseModel" (512 : Nat) ({ cls := "StaveHouseModel", name := "walk", desc := "(II)V" } : Jvm.MethodName)) ∈ wAll := wA_14 (j := 207) rfl rfl
theorem k_14_209 : (Jvm.Cond.instanceMethod ({ cls := "StaveHouseModel", name := "walk", desc := "(II)V" } : Jvm.MethodName)) ∈ wAll := wA_14 (j := 209) rfl rfl
theorem ks_223 : (Jvm.Cond.selects "StaveHouseModel" ({ cls := "StaveHouseModel", name := "walk", desc := "(II)V" } : Jvm.MethodName) ({ cls := "StaveHouseModel", name := "walk", desc := "(II)V" } : Jvm.MethodName)) ∈ wAll := wA_s (j := 223) rfl rfl
theorem k_14_210 : (Jvm.Cond.code ({ cls := "StaveHouseModel", name := "walk", desc := "(II)V" } : Jvm.MethodName) prog_15_method_54_code (4 : Nat) (Option.none : Option Jvm.ClassFile.FieldType)) ∈ wAll := wA_14 (j := 210) rfl rfl
theorem k_15_16 : (Jvm.Cond.methodLink "StaveHouseModel" (581 : Nat) ({ cls := "StaveHouseModel", name := "exchange", desc := "(II)V" } : Jvm.MethodName)) ∈ wAll := wA_15 (j := 16) rfl rfl
theorem k_15_18 : (Jvm.Cond.instanceMethod ({ cls := "StaveHouseModel", name := "exchange", desc := "(II)V" } : Jvm.MethodName)) ∈ wAll := wA_15 (j := 18) rfl rfl
theorem ks_235 : (Jvm.Cond.selects "StaveHouseModel" ({ cls := "StaveHouseModel", name := "exchange", desc := "(II)V" } : Jvm.MethodName) ({ cls := "StaveHouseModel", name := "exchange", desc := "(II)V" } : Jvm.MethodName)) ∈ wAll := wA_s (j := 235) rfl rfl
theorem k_15_19 : (Jvm.Cond.code ({ cls := "StaveHouseModel", name := "exchange", desc := "(II)V" } : Jvm.MethodName) prog_15_method_66_code (4 : Nat) (Option.none : Option Jvm.ClassFile.FieldType)) ∈ wAll := wA_15 (j := 19) rfl rfl
theorem k_15_30 : (Jvm.Cond.methodLink "StaveHouseModel" (578 : Nat) ({ cls := "StaveHouseModel", name := "power", desc := "(II)V" } : Jvm.MethodName)) ∈ wAll := wA_15 (j := 30) rfl rfl
theorem k_15_32 : (Jvm.Cond.instanceMethod ({ cls := "StaveHouseModel", name := "power", desc := "(II)V" } : Jvm.MethodName)) ∈ wAll := wA_15 (j := 32) rfl rfl
theorem ks_237 : (Jvm.Cond.selects "StaveHouseModel" ({ cls := "StaveHouseModel", name := "power", desc := "(II)V" } : Jvm.MethodName) ({ cls := "StaveHouseModel", name := "power", desc := "(II)V" } : Jvm.MethodName)) ∈ wAll := wA_s (j := 237) rfl rfl
theorem k_15_33 : (Jvm.Cond.code ({ cls := "StaveHouseModel", name := "power", desc := "(II)V" } : Jvm.MethodName) prog_15_method_62_code (5 : Nat) (Option.none : Option Jvm.ClassFile.FieldType)) ∈ wAll := wA_15 (j := 33) rfl rfl
theorem k_15_34 : (Jvm.Cond.methodLink "StaveHouseModel" (518 : Nat) ({ cls := "StaveHouseModel", name := "judge", desc := "()V" } : Jvm.MethodName)) ∈ wAll := wA_15 (j := 34) rfl rfl
theorem k_15_36 : (Jvm.Cond.instanceMethod ({ cls := "StaveHouseModel", name := "judge", desc := "()V" } : Jvm.MethodName)) ∈ wAll := wA_15 (j := 36) rfl rfl
theorem ks_238 : (Jvm.Cond.selects "StaveHouseModel" ({ cls := "StaveHouseModel", name := "judge", desc := "()V" } : Jvm.MethodName) ({ cls := "StaveHouseModel", name := "judge", desc := "()V" } : Jvm.MethodName)) ∈ wAll := wA_s (j := 238) rfl rfl
theorem k_15_37 : (Jvm.Cond.code ({ cls := "StaveHouseModel", name := "judge", desc := "()V" } : Jvm.MethodName) prog_15_method_73_code (6 : Nat) (Option.none : Option Jvm.ClassFile.FieldType)) ∈ wAll := wA_15 (j := 37) rfl rfl
theorem W_prog_15_method_41_code_0 : chW prog_15_method_41_code 0 [42, 178, 0, 99, 182, 1, 157, 153, 0, 10, 42, 182, 1, 167, 167, 0, 138, 42, 178, 0, 108, 182, 1, 157, 153, 0, 68, 42, 180, 1, 142, 153, 0, 7, 42, 182] := chW_of (by decide +kernel)
theorem W_prog_15_method_41_code_64 : chW prog_15_method_41_code 64 [170, 181, 1, 148, 42, 16, 47, 182, 1, 133, 42, 180, 0, 44, 42, 5, 16, 16, 4, 182, 1, 170, 181, 1, 151, 167, 0, 63, 42, 178, 0, 111, 182, 1, 157, 153] := chW_of (by decide +kernel)
theorem W_prog_15_method_41_code_96 : chW prog_15_method_41_code 96 [182, 1, 157, 153, 0, 49, 42, 180, 1, 145, 153, 0, 7, 42, 182, 1, 127, 42, 4, 181, 1, 145, 42, 89, 180, 1, 106, 4, 96, 181, 1, 106, 42, 180, 0, 44] := chW_of (by decide +kernel)
theorem W_prog_15_method_41_code_128 : chW prog_15_method_41_code 128 [42, 180, 0, 44, 42, 16, 20, 17, 1, 44, 3, 182, 1, 170, 181, 1, 154, 167, 0, 7, 42, 182, 1, 174, 177] := chW_of (by decide +kernel)
theorem W_prog_15_method_41_code_32 : chW prog_15_method_41_code 32 [0, 7, 42, 182, 1, 127, 42, 4, 181, 1, 142, 42, 89, 180, 1, 106, 4, 96, 181, 1, 106, 42, 180, 0, 44, 42, 4, 16, 12, 3, 182, 1, 170, 181, 1, 148] := chW_of (by decide +kernel)
theorem W_prog_15_method_40_code_0 : chW prog_15_method_40_code 0 [42, 3, 181, 1, 106, 42, 3, 181, 1, 100, 42, 3, 181, 1, 130, 42, 3, 181, 1, 136, 42, 3, 181, 1, 139, 42, 3, 181, 1, 142, 42, 3, 181, 1, 145, 42] := chW_of (by decide +kernel)
theorem W_prog_15_method_40_code_32 : chW prog_15_method_40_code 32 [181, 1, 145, 42, 180, 0, 44, 3, 181, 1, 48, 42, 180, 0, 44, 3, 181, 1, 54, 42, 180, 0, 44, 3, 181, 1, 57, 42, 180, 0, 44, 7, 181, 1, 148, 42] := chW_of (by decide +kernel)
theorem W_prog_15_method_40_code_64 : chW prog_15_method_40_code 64 [181, 1, 148, 42, 180, 0, 44, 7, 181, 1, 151, 42, 180, 0, 44, 16, 120, 181, 1, 154, 42, 182, 1, 120, 153, 0, 50, 42, 178, 0, 99, 182, 1, 157, 154, 0] := chW_of (by decide +kernel)
theorem W_prog_15_method_40_code_96 : chW prog_15_method_40_code 96 [1, 157, 154, 0, 33, 42, 178, 0, 108, 182, 1, 157, 154, 0, 23, 42, 178, 0, 111, 182, 1, 157, 154, 0, 13, 42, 178, 0, 114, 182, 1, 157, 153, 0, 10, 42] := chW_of (by decide +kernel)
theorem W_prog_15_method_40_code_128 : chW prog_15_method_40_code 128 [153, 0, 10, 42, 182, 1, 161, 167, 255, 205, 4, 60, 42, 182, 1, 120, 153, 0, 67, 27, 153, 0, 63, 42, 178, 0, 117, 182, 1, 157, 153, 0, 21, 42, 180, 0] := chW_of (by decide +kernel)
theorem W_prog_15_method_40_code_160 : chW prog_15_method_40_code 160 [21, 42, 180, 0, 44, 180, 1, 48, 7, 162, 0, 10, 42, 182, 1, 164, 167, 0, 7, 42, 182, 1, 127, 42, 182, 1, 120, 153, 0, 19, 42, 180, 0, 48, 42, 180] := chW_of (by decide +kernel)
theorem W_prog_15_method_40_code_192 : chW prog_15_method_40_code 192 [0, 48, 42, 180, 1, 106, 46, 153, 0, 7, 4, 167, 0, 4, 3, 60, 167, 255, 188, 177] := chW_of (by decide +kernel)
theorem W_prog_15_method_54_code_0 : chW prog_15_method_54_code 0 [27, 62, 42, 182, 1, 120, 153, 0, 35, 29, 28, 162, 0, 30, 42, 29, 182, 2, 29, 42, 182, 1, 120, 153, 0, 8, 42, 29, 182, 2, 32, 42, 180, 0, 162, 29] := chW_of (by decide +kernel)
theorem W_prog_15_method_54_code_32 : chW prog_15_method_54_code 32 [180, 0, 162, 29, 46, 62, 167, 255, 220, 177] := chW_of (by decide +kernel)
theorem W_prog_15_method_56_code_0 : chW prog_15_method_56_code 0 [42, 180, 0, 48, 27, 46, 5, 159, 0, 47, 42, 180, 0, 48, 27, 46, 8, 160, 0, 14, 42, 180, 0, 55, 27, 46, 16, 60, 159, 0, 26, 42, 180, 0, 48, 27] := chW_of (by decide +kernel)
theorem W_prog_15_method_56_code_32 : chW prog_15_method_56_code 32 [180, 0, 48, 27, 46, 7, 160, 0, 24, 42, 180, 0, 61, 27, 47, 178, 0, 141, 148, 154, 0, 11, 42, 27, 182, 2, 35, 167, 0, 123, 42, 180, 0, 48, 27, 46] := chW_of (by decide +kernel)
theorem W_prog_15_method_56_code_160 : chW prog_15_method_56_code 160 [27, 47, 178, 0, 135, 148, 154, 0, 11, 42, 27, 182, 2, 50, 167, 0, 8, 42, 27, 182, 2, 53, 177] := chW_of (by decide +kernel)
theorem W_prog_15_method_56_code_64 : chW prog_15_method_56_code 64 [0, 48, 27, 46, 8, 160, 0, 11, 42, 27, 182, 2, 38, 167, 0, 105, 42, 180, 0, 61, 27, 47, 178, 0, 120, 148, 154, 0, 11, 42, 27, 182, 2, 41, 167, 0] := chW_of (by decide +kernel)
theorem W_prog_15_method_56_code_96 : chW prog_15_method_56_code 96 [2, 41, 167, 0, 84, 42, 180, 0, 61, 27, 47, 178, 0, 126, 148, 154, 0, 11, 42, 27, 182, 2, 44, 167, 0, 63, 42, 180, 0, 61, 27, 47, 178, 0, 129, 148] := chW_of (by decide +kernel)
theorem W_prog_15_method_56_code_128 : chW prog_15_method_56_code 128 [178, 0, 129, 148, 153, 0, 16, 42, 180, 0, 61, 27, 47, 178, 0, 132, 148, 154, 0, 11, 42, 27, 182, 2, 47, 167, 0, 29, 42, 180, 0, 61, 27, 47, 178, 0] := chW_of (by decide +kernel)
theorem W_prog_15_method_57_code_0 : chW prog_15_method_57_code 0 [42, 180, 0, 55, 27, 46, 16, 33, 160, 0, 27, 42, 42, 180, 0, 96, 16, 8, 42, 180, 0, 61, 27, 4, 96, 47, 184, 1, 116, 181, 1, 241, 167, 0, 150, 42] := chW_of (by decide +kernel)
theorem W_prog_15_method_57_code_32 : chW prog_15_method_57_code 32 [167, 0, 150, 42, 180, 0, 55, 27, 46, 16, 124, 160, 0, 50, 42, 180, 1, 244, 154, 0, 132, 42, 180, 1, 235, 42, 180, 1, 238, 42, 180, 0, 44, 180, 1, 148] := chW_of (by decide +kernel)
theorem W_prog_15_method_57_code_64 : chW prog_15_method_57_code 64 [44, 180, 1, 148, 133, 42, 180, 0, 44, 180, 1, 151, 133, 184, 2, 56, 154, 0, 102, 42, 16, 7, 27, 182, 1, 109, 167, 0, 92, 42, 180, 1, 250, 154, 0, 18] := chW_of (by decide +kernel)
theorem W_prog_15_method_57_code_96 : chW prog_15_method_57_code 96 [250, 154, 0, 18, 42, 27, 181, 2, 60, 42, 89, 180, 1, 253, 4, 96, 181, 1, 253, 42, 180, 0, 184, 42, 180, 1, 250, 42, 180, 0, 55, 27, 4, 96, 46, 79] := chW_of (by decide +kernel)
theorem W_prog_15_method_57_code_160 : chW prog_15_method_57_code 160 [27, 8, 96, 42, 180, 0, 159, 27, 46, 182, 2, 0, 42, 89, 180, 1, 250, 4, 100, 181, 1, 250, 177] := chW_of (by decide +kernel)
theorem W_prog_15_method_57_code_128 : chW prog_15_method_57_code 128 [4, 96, 46, 79, 42, 180, 0, 187, 42, 180, 1, 250, 42, 180, 0, 55, 27, 6, 96, 46, 79, 42, 89, 180, 1, 250, 4, 96, 181, 1, 250, 42, 27, 8, 96, 42] := chW_of (by decide +kernel)
theorem W_prog_15_method_58_code_0 : chW prog_15_method_58_code 0 [27, 5, 96, 61, 42, 180, 0, 159, 28, 46, 4, 96, 62, 29, 42, 180, 0, 162, 27, 46, 162, 0, 7, 4, 167, 0, 4, 3, 54, 4, 3, 54, 5, 29, 4, 96] := chW_of (by decide +kernel)
theorem W_prog_15_method_58_code_32 : chW prog_15_method_58_code 32 [5, 29, 4, 96, 54, 6, 21, 4, 153, 0, 31, 21, 6, 42, 180, 0, 162, 27, 46, 162, 0, 20, 132, 5, 1, 42, 180, 0, 159, 21, 6, 46, 4, 96, 54, 6] := chW_of (by decide +kernel)
theorem d_15_58_54 : decode prog_15_method_58_code 54 = .ok (.iinc 5 1, 3) := D_132 W_prog_15_method_58_code_32 22 rfl rfl rfl
theorem W_prog_15_method_58_code_64 : chW prog_15_method_58_code 64 [4, 96, 54, 6, 167, 255, 226, 4, 54, 6, 21, 6, 42, 180, 0, 55, 27, 4, 96, 46, 163, 0, 108, 42, 182, 1, 120, 153, 0, 101, 42, 27, 182, 2, 29, 42] := chW_of (by decide +kernel)
theorem W_prog_15_method_58_code_96 : chW prog_15_method_58_code 96 [182, 2, 29, 42, 28, 4, 96, 42, 180, 0, 159, 28, 46, 182, 2, 0, 21, 5, 153, 0, 72, 42, 182, 1, 120, 154, 0, 6, 167, 0, 62, 29, 4, 96, 54, 7] := chW_of (by decide +kernel)
theorem W_prog_15_method_58_code_128 : chW prog_15_method_58_code 128 [4, 96, 54, 7, 4, 54, 8, 21, 8, 21, 6, 162, 0, 27, 21, 8, 21, 5, 162, 0, 20, 42, 180, 0, 159, 21, 7, 46, 4, 96, 54, 7, 132, 8, 1, 167] := chW_of (by decide +kernel)
theorem W_prog_15_method_58_code_160 : chW prog_15_method_58_code 160 [132, 8, 1, 167, 255, 228, 42, 27, 182, 2, 29, 42, 21, 7, 4, 96, 42, 180, 0, 159, 21, 7, 46, 182, 2, 0, 132, 6, 1, 167, 255, 141, 177] := chW_of (by decide +kernel)
theorem d_15_58_186 : decode prog_15_method_58_code 186 = .ok (.iinc 6 1, 3) := D_132 W_prog_15_method_58_code_160 26 rfl rfl rfl
theorem d_15_58_160 : decode prog_15_method_58_code 160 = .ok (.iinc 8 1, 3) := D_132 W_prog_15_method_58_code_160 0 rfl rfl rfl
theorem W_prog_15_method_58_code_192 : chW prog_15_method_58_code 192 [177] := chW_of (by decide +kernel)
theorem W_prog_15_method_59_code_0 : chW prog_15_method_59_code 0 [42, 180, 0, 150, 42, 180, 0, 147, 42, 180, 1, 136, 42, 180, 0, 61, 27, 4, 96, 47, 184, 1, 116, 46, 61, 42, 28, 4, 96, 42, 180, 0, 159, 28, 46, 182] := chW_of (by decide +kernel)
theorem W_prog_15_method_59_code_32 : chW prog_15_method_59_code 32 [159, 28, 46, 182, 2, 0, 177] := chW_of (by decide +kernel)
theorem W_prog_15_method_60_code_0 : chW prog_15_method_60_code 0 [42, 180, 0, 61, 27, 47, 178, 0, 132, 148, 154, 0, 7, 4, 167, 0, 4, 3, 61, 27, 4, 96, 62, 28, 153, 0, 9, 27, 5, 96, 167, 0, 6, 27, 6, 96] := chW_of (by decide +kernel)
theorem W_prog_15_method_60_code_32 : chW prog_15_method_60_code 32 [6, 27, 6, 96, 54, 4, 42, 180, 0, 174, 42, 180, 1, 247, 28, 84, 42, 180, 0, 178, 42, 180, 1, 247, 28, 153, 0, 12, 42, 180, 0, 55, 29, 46, 167, 0] := chW_of (by decide +kernel)
theorem W_prog_15_method_60_code_64 : chW prog_15_method_60_code 64 [29, 46, 167, 0, 18, 42, 180, 0, 55, 29, 4, 96, 46, 42, 180, 0, 55, 29, 46, 100, 79, 42, 180, 0, 181, 42, 180, 1, 247, 28, 153, 0, 21, 42, 180, 0] := chW_of (by decide +kernel)
theorem W_prog_15_method_60_code_96 : chW prog_15_method_60_code 96 [21, 42, 180, 0, 55, 29, 46, 42, 180, 0, 58, 29, 46, 184, 2, 63, 167, 0, 38, 42, 180, 0, 55, 29, 4, 96, 46, 42, 180, 0, 58, 29, 4, 96, 46, 184] := chW_of (by decide +kernel)
theorem W_prog_15_method_60_code_128 : chW prog_15_method_60_code 128 [4, 96, 46, 184, 2, 63, 42, 180, 0, 55, 29, 46, 42, 180, 0, 58, 29, 46, 184, 2, 63, 100, 79, 42, 89, 180, 1, 247, 4, 96, 181, 1, 247, 42, 21, 4] := chW_of (by decide +kernel)
theorem W_prog_15_method_60_code_160 : chW prog_15_method_60_code 160 [247, 42, 21, 4, 4, 96, 42, 180, 0, 159, 21, 4, 46, 182, 2, 0, 42, 89, 180, 1, 247, 4, 100, 181, 1, 247, 177] := chW_of (by decide +kernel)
theorem W_prog_15_method_63_code_0 : chW prog_15_method_63_code 0 [42, 180, 1, 229, 61, 42, 89, 180, 1, 244, 4, 96, 181, 1, 244, 42, 27, 5, 96, 42, 180, 0, 159, 27, 4, 96, 46, 182, 2, 0, 42, 89, 180, 1, 244, 4] := chW_of (by decide +kernel)
theorem W_prog_15_method_63_code_32 : chW prog_15_method_63_code 32 [180, 1, 244, 4, 100, 181, 1, 244, 28, 62, 42, 180, 1, 229, 4, 100, 54, 4, 29, 21, 4, 162, 0, 37, 42, 17, 3, 232, 42, 180, 1, 226, 104, 29, 96, 17] := chW_of (by decide +kernel)
theorem W_prog_15_method_63_code_64 : chW prog_15_method_63_code 64 [104, 29, 96, 17, 3, 232, 42, 180, 1, 226, 104, 21, 4, 96, 182, 2, 69, 132, 3, 1, 132, 4, 255, 167, 255, 219, 28, 62, 29, 42, 180, 1, 229, 162, 0, 115] := chW_of (by decide +kernel)
theorem d_15_63_81 : decode prog_15_method_63_code 81 = .ok (.iinc 3 1, 3) := D_132 W_prog_15_method_63_code_64 17 rfl rfl rfl
theorem d_15_63_84 : decode prog_15_method_63_code 84 = .ok (.iinc 4 (-1), 3) := D_132 W_prog_15_method_63_code_64 20 rfl rfl rfl
theorem W_prog_15_method_63_code_96 : chW prog_15_method_63_code 96 [229, 162, 0, 115, 17, 3, 232, 42, 180, 1, 226, 104, 29, 96, 54, 4, 42, 180, 0, 44, 180, 2, 72, 21, 4, 46, 54, 5, 29, 42, 180, 1, 229, 4, 100, 162] := chW_of (by decide +kernel)
theorem W_prog_15_method_63_code_192 : chW prog_15_method_63_code 192 [5, 16, 248, 126, 21, 6, 128, 21, 7, 128, 21, 8, 128, 79, 132, 3, 1, 167, 255, 139, 177] := chW_of (by decide +kernel)
theorem W_prog_15_method_63_code_128 : chW prog_15_method_63_code 128 [229, 4, 100, 162, 0, 20, 42, 180, 0, 44, 180, 2, 72, 21, 4, 4, 96, 46, 4, 126, 167, 0, 4, 3, 54, 6, 21, 5, 7, 126, 158, 0, 7, 5, 167, 0] := chW_of (by decide +kernel)
theorem W_prog_15_method_63_code_160 : chW prog_15_method_63_code 160 [7, 5, 167, 0, 4, 3, 54, 7, 21, 5, 5, 126, 158, 0, 7, 7, 167, 0, 4, 3, 54, 8, 42, 180, 0, 44, 180, 2, 72, 21, 4, 21, 5, 16, 248, 126] := chW_of (by decide +kernel)
theorem d_15_63_206 : decode prog_15_method_63_code 206 = .ok (.iinc 3 1, 3) := D_132 W_prog_15_method_63_code_192 14 rfl rfl rfl
theorem W_prog_15_method_61_code_0 : chW prog_15_method_61_code 0 [27, 7, 96, 61, 42, 42, 180, 0, 55, 27, 4, 96, 46, 4, 182, 2, 66, 42, 42, 180, 0, 55, 27, 6, 96, 46, 2, 182, 2, 66, 42, 28, 4, 96, 42, 180] := chW_of (by decide +kernel)
theorem W_prog_15_method_61_code_32 : chW prog_15_method_61_code 32 [4, 96, 42, 180, 0, 159, 28, 46, 182, 2, 0, 42, 42, 180, 0, 55, 27, 4, 96, 46, 2, 182, 2, 66, 42, 42, 180, 0, 55, 27, 6, 96, 46, 4, 182, 2] := chW_of (by decide +kernel)
theorem W_prog_15_method_61_code_64 : chW prog_15_method_61_code 64 [46, 4, 182, 2, 66, 177] := chW_of (by decide +kernel)
theorem W_prog_15_method_53_code_0 : chW prog_15_method_53_code 0 [42, 3, 181, 1, 226, 42, 180, 1, 226, 42, 180, 0, 44, 180, 1, 48, 162, 0, 145, 42, 182, 1, 120, 153, 0, 138, 42, 3, 181, 1, 229, 42, 3, 181, 1, 232] := chW_of (by decide +kernel)
theorem W_prog_15_method_53_code_32 : chW prog_15_method_53_code 32 [3, 181, 1, 232, 42, 9, 181, 1, 235, 42, 10, 181, 1, 238, 42, 7, 181, 1, 241, 42, 3, 181, 1, 244, 42, 3, 181, 1, 247, 42, 3, 181, 1, 250, 42, 3] := chW_of (by decide +kernel)
theorem W_prog_15_method_53_code_64 : chW prog_15_method_53_code 64 [1, 250, 42, 3, 181, 1, 253, 3, 60, 27, 16, 8, 162, 0, 16, 42, 180, 0, 190, 27, 3, 79, 132, 1, 1, 167, 255, 240, 42, 42, 180, 0, 156, 42, 180, 1] := chW_of (by decide +kernel)
theorem W_prog_15_method_53_code_96 : chW prog_15_method_53_code 96 [156, 42, 180, 1, 226, 46, 4, 96, 42, 180, 0, 159, 42, 180, 0, 156, 42, 180, 1, 226, 46, 46, 182, 2, 0, 42, 180, 0, 44, 180, 2, 3, 42, 180, 1, 226] := chW_of (by decide +kernel)
theorem W_prog_15_method_53_code_128 : chW prog_15_method_53_code 128 [42, 180, 1, 226, 42, 180, 1, 229, 79, 42, 182, 1, 120, 153, 0, 7, 42, 182, 2, 6, 42, 89, 180, 1, 226, 4, 96, 181, 1, 226, 167, 255, 103, 4, 60, 27] := chW_of (by decide +kernel)
theorem d_15_53_86 : decode prog_15_method_53_code 86 = .ok (.iinc 1 1, 3) := D_132 W_prog_15_method_53_code_64 22 rfl rfl rfl
theorem W_prog_15_method_53_code_160 : chW prog_15_method_53_code 160 [103, 4, 60, 27, 42, 180, 0, 44, 180, 1, 48, 162, 0, 168, 42, 182, 1, 120, 153, 0, 161, 17, 3, 232, 27, 104, 42, 180, 0, 44, 180, 2, 3, 27, 46, 96] := chW_of (by decide +kernel)
theorem W_prog_15_method_53_code_192 : chW prog_15_method_53_code 192 [3, 27, 46, 96, 4, 100, 61, 42, 180, 0, 44, 180, 2, 3, 3, 46, 4, 100, 62, 42, 42, 180, 0, 44, 180, 2, 9, 28, 47, 42, 180, 0, 44, 180, 2, 12] := chW_of (by decide +kernel)
theorem W_prog_15_method_53_code_224 : chW prog_15_method_53_code 224 [44, 180, 2, 12, 28, 47, 42, 180, 0, 44, 180, 2, 15, 28, 47, 42, 180, 0, 44, 180, 2, 18, 28, 47, 182, 2, 21, 42, 180, 0, 9, 55, 4, 42, 180, 0] := chW_of (by decide +kernel)
theorem W_prog_15_method_53_code_256 : chW prog_15_method_53_code 256 [4, 42, 180, 0, 13, 55, 6, 42, 42, 180, 0, 44, 180, 2, 9, 29, 47, 42, 180, 0, 44, 180, 2, 12, 29, 47, 42, 180, 0, 44, 180, 2, 15, 29, 47, 42] := chW_of (by decide +kernel)
theorem W_prog_15_method_53_code_288 : chW prog_15_method_53_code 288 [15, 29, 47, 42, 180, 0, 44, 180, 2, 18, 29, 47, 182, 2, 21, 22, 4, 22, 6, 42, 180, 0, 9, 42, 180, 0, 13, 184, 2, 25, 153, 0, 15, 42, 16, 6] := chW_of (by decide +kernel)
theorem W_prog_15_method_53_code_320 : chW prog_15_method_53_code 320 [15, 42, 16, 6, 42, 180, 0, 153, 27, 46, 182, 1, 109, 132, 1, 1, 167, 255, 83, 177] := chW_of (by decide +kernel)
theorem d_15_53_333 : decode prog_15_method_53_code 333 = .ok (.iinc 1 1, 3) := D_132 W_prog_15_method_53_code_320 13 rfl rfl rfl
abbrev Q_M_head (D : va_G) (ca : Nat → ClassId) (ad : Nat → Int → Nat → Nat) (L : List Nat) (r : Int) (F : zF) (B : zB) (A : Nat → Prop) : Array Value → State → Outcome → State → Prop := va_Qv (S := Unit) (fun _ => True) (fun _ => zPo D ca ad lnM nM L F B A) A
def f_M_head_152 (K : Nat)  (F : zF) (B : zB) : zO := some (0, F, B)
set_option maxHeartbeats 4000000 in
set_option maxRecDepth 100000 in
theorem b_M_head_152 {D : va_G} {ca : Nat → ClassId} {ad : Nat → Int → Nat → Nat} {L : List Nat} {aS vS : Nat → Nat} {A : Nat → Prop} {p : Program} {l : Launch} {e : Env} {s : State} {m : MethodId} {args : Array Value} {below : List Frame} {meth : Method} {c : Code} {K : Nat} {r : Int} {F9 : zF} {B9 : zB} (X : zX D ca L aS vS A p s m args meth c prog_15_method_41_code 1 (Option.none : Option Jvm.ClassFile.FieldType) "StaveHouseModel")  {F : zF} {B : zB} {H : Heap} {locs : List Loc} {ls : Array Slot} (hf : f_M_head_152 K  F B = some (r, F9, B9)) (hZ : zH D ca ad lnM nM L F B A H) (hS : va_S A s.heap H locs) (hl : lv_has ls 1 []) : W p l e ({ frames := 48, cells := 0, slots := 0, locals := 1071 } : Room) s m args below meth c H locs 0 0 (MQ below (Q_M_head D ca ad L r F9 B9 A) args s 0 0 A) (F0 m 152 ls []) := by
  obtain ⟨hx, hb, hr, hml, hown, hts, hlk, hK, hA, hL, hX⟩ := id X
  replace hf : (some (0, F, B)) = some (r, F9, B9) := hf
  cases hf
  exact W.vret hx hb hr (fun t ht hW => ⟨⟨(), rfl, trivial, by rw [ht]; exact hZ, va_K.moved hW.alike hK⟩, hS.F ht⟩) hS.2.2 (D_177 W_prog_15_method_41_code_128 24 rfl rfl) hlk

def f_M_head_113 (K : Nat)  (F : zF) (B : zB) : zO := if 0 ≤ (F 14 0 6) ∧ (F 14 0 6) < 3 then zbind (f_M_number K 20 300 0 (zup3 (zup3 F 14 0 24 1) 14 0 16 ((F 14 0 16) + 1)) B) (fun r30 F30 B30 => f_M_head_152 K (zup3 F30 13 (F 14 0 6) 6 r30) B30) else none
set_option maxHeartbeats 4000000 in
set_option maxRecDepth 100000 in
theorem b_M_head_113 {D : va_G} {ca : Nat → ClassId} {ad : Nat → Int → Nat → Nat} {L : List Nat} {aS vS : Nat → Nat} {A : Nat → Prop} {p : Program} {l : Launch} {e : Env} {s : State} {m : MethodId} {args : Array Value} {below : List Frame} {meth : Method} {c : Code} {K : Nat} {r : Int} {F9 : zF} {B9 : zB} (X : zX D ca L aS vS A p s m args meth c prog_15_method_41_code 1 (Option.none : Option Jvm.ClassFile.FieldType) "StaveHouseModel")  {F : zF} {B : zB} {H : Heap} {locs : List Loc} {ls : Array Slot} (hf : f_M_head_113 K  F B = some (r, F9, B9)) (hZ : zH D ca ad lnM nM L F B A H) (hS : va_S A s.heap H locs) (hl : lv_has ls 1 [(0, .ref (ad 14 0 0))]) : W p l e ({ frames := 48, cells := 0, slots := 0, locals := 1071 } : Room) s m args below meth c H locs 0 0 (MQ below (Q_M_head D ca ad L r F9 B9 A) args s 0 0 A) (F0 m 113 ls []) := by
  obtain ⟨hx, hb, hr, hml, hown, hts, hlk, hK, hA, hL, hX⟩ := id X
  replace hf : (if 0 ≤ (F 14 0 6) ∧ (F 14 0 6) < 3 then zbind (f_M_number K 20 300 0 (zup3 (zup3 F 14 0 24 1) 14 0 16 ((F 14 0 16) + 1)) B) (fun r30 F30 B30 => f_M_head_152 K (zup3 F30 13 (F 14 0 6) 6 r30) B30) else none) = some (r, F9, B9) := hf
  refine lv_aload_n hx hb (D_42 W_prog_15_method_41_code_96 17 rfl rfl) rfl (lv_at hl 0 rfl) ?_
  refine lv_iconst (v := iI 1) hx hb (D_4 W_prog_15_method_41_code_96 18 rfl rfl) rfl ?_
  refine zput (ci := 14) (C := RX14) (T := TX14) (k := 24) (v := 1) (w := .int (iI 1)) hx hb hts inW_14 tyX14 tyX14_ok nmX14 hown hK hZ hS (by decide) (by decide) rfl (by decide) k_11_22 rfl (fun G h => congrArg (fun q => Value.int (iI q)) h) rfl rfl (zno (by decide)) (D_181 W_prog_15_method_41_code_96 19 rfl rfl rfl) (fun H27 locs27 hZ27 hS27 => ?_)
  refine lv_aload_n hx hb (D_42 W_prog_15_method_41_code_96 22 rfl rfl) rfl (lv_at hl 0 rfl) ?_
  refine lv_dup hx hb (D_89 W_prog_15_method_41_code_96 23 rfl rfl) rfl ?_
  refine zget (ci := 14) (C := RX14) (T := TX14) (v := .int (iI (F 14 0 16))) (k := 16) hx hb hts inW_14 hown hK hZ27 (by decide) (by decide) rfl (by decide) k_11_14 rfl (D_180 W_prog_15_method_41_code_96 24 rfl rfl rfl) ?_
  refine lv_iconst (v := iI 1) hx hb (D_4 W_prog_15_method_41_code_96 27 rfl rfl) rfl ?_
  refine zadd hx hb (D_96 W_prog_15_method_41_code_96 28 rfl rfl) ?_
  refine zput (ci := 14) (C := RX14) (T := TX14) (k := 16) (v := ((F 14 0 16) + 1)) (w := .int (iI ((F 14 0 16) + 1))) hx hb hts inW_14 tyX14 tyX14_ok nmX14 hown hK hZ27 hS27 (by decide) (by decide) rfl (by decide) k_11_14 rfl (fun G h => congrArg (fun q => Value.int (iI q)) h) rfl rfl (zno (by decide)) (D_181 W_prog_15_method_41_code_96 29 rfl rfl rfl) (fun H28 locs28 hZ28 hS28 => ?_)
  refine lv_aload_n hx hb (D_42 W_prog_15_method_41_code_128 0 rfl rfl) rfl (lv_at hl 0 rfl) ?_
  refine zget (ci := 14) (C := RX14) (T := TX14) (v := va_rf (zrf ad 13 (F 14 0 6))) (k := 6) hx hb hts inW_14 hown hK hZ28 (by decide) (by decide) rfl (by decide) k_11_4 rfl (D_180 W_prog_15_method_41_code_128 1 rfl rfl rfl) ?_
  refine lv_aload_n hx hb (D_42 W_prog_15_method_41_code_128 4 rfl rfl) rfl (lv_at hl 0 rfl) ?_
  refine lv_bipush (v := iI 20) hx hb (D_16 W_prog_15_method_41_code_128 5 rfl rfl rfl) (by decide) ?_
  refine lv_sipush (v := iI 300) hx hb (D_17 W_prog_15_method_41_code_128 7 rfl rfl rfl) (by decide) ?_
  refine lv_iconst (v := iI 0) hx hb (D_3 W_prog_15_method_41_code_128 10 rfl rfl) rfl ?_
  obtain ⟨g29, hf⟩ := gif hf
  refine W.eq (g2 := F0 m 139 ls [.int (iI 0), .int (iI 300), .int (iI 20), .ref (ad 14 0 0), .ref (ad 13 (F 14 0 6) 0)]) (by rw [zrf_pos (ad := ad) (t := 13) g29.1]; try rfl) ?_
  obtain ⟨r30, F30, B30, hc30, hf⟩ := gbind hf
  refine va_calli (va_runV (As := [.int (iI 20), .int (iI 300), .int (iI 0)]) (rest := [.ref (ad 13 (F 14 0 6) 0)]) ⟨hx, hb, hml, hown, hts⟩ (c_M_number (l := l) hc30) (cwV 3 hts (gdV k_14_140 k_14_142 ks_207 k_1_9 k_14_143) rfl rfl rfl (by decide +kernel) ⟨Nat.le_of_ble_eq_true rfl, Nat.le_of_ble_eq_true rfl⟩) (zPV X hZ28 hS28 (ci := 14) (by decide) (by decide) (r := (RX14, TX14, 107)) rfl [.int (iI 20), .int (iI 300), .int (iI 0)]) rfl rfl hl.1 rfl (lv_room (Nat.le_of_ble_eq_true rfl)) (D_182 W_prog_15_method_41_code_128 11 rfl rfl rfl) ⟨Nat.le_of_ble_eq_true rfl, Nat.le_of_ble_eq_true rfl⟩) hS28 (fun q _ h => zAin X hS28 q h) (zAin X hS28) (fun p30 u30 t30 H30 locs30 ht30 hv30 hw30 hB30 hz30 hk30 hS30 => ?_)
  have hZ30 := zBack X ht30 hB30
  subst hw30
  refine zput (ci := 13) (C := RX13) (T := TX13) (k := 6) (v := r30) (w := .int (iI r30)) hx hb hts inW_13 tyX13 tyX13_ok nmX13 hown hK hZ30 hS30 g29.1 g29.2 rfl (by decide) k_9_131 rfl (fun G h => congrArg (fun q => Value.int (iI q)) h) rfl rfl (zno (by decide)) (D_181 W_prog_15_method_41_code_128 14 rfl rfl rfl) (fun H31 locs31 hZ31 hS31 => ?_)
  refine lv_goto (tgt := 152) hx hb (D_167 W_prog_15_method_41_code_128 17 rfl rfl rfl) (by decide) ?_
  exact b_M_head_152 X hf hZ31 hS31 (lv_sub hl [] rfl)

def f_M_head_38 (K : Nat)  (F : zF) (B : zB) : zO := if 0 ≤ (F 14 0 6) ∧ (F 14 0 6) < 3 then zbind (f_M_number K 1 12 0 (zup3 (zup3 F 14 0 23 1) 14 0 16 ((F 14 0 16) + 1)) B) (fun r21 F21 B21 => zbind (f_M_need K 47 (zup3 F21 13 (F 14 0 6) 4 r21) B21) (fun r23 F23 B23 => if 0 ≤ (F23 14 0 6) ∧ (F23 14 0 6) < 3 then zbind (f_M_number K 2 16 1 F23 B23) (fun r25 F25 B25 => f_M_head_152 K (zup3 F25 13 (F23 14 0 6) 5 r25) B25) else none)) else none
set_option maxHeartbeats 4000000 in
set_option maxRecDepth 100000 in
theorem b_M_head_38 {D : va_G} {ca : Nat → ClassId} {ad : Nat → Int → Nat → Nat} {L : List Nat} {aS vS : Nat → Nat} {A : Nat → Prop} {p : Program} {l : Launch} {e : Env} {s : State} {m : MethodId} {args : Array Value} {below : List Frame} {meth : Method} {c : Code} {K : Nat} {r : Int} {F9 : zF} {B9 : zB} (X : zX D ca L aS vS A p s m args meth c prog_15_method_41_code 1 (Option.none : Option Jvm.ClassFile.FieldType) "StaveHouseModel")  {F : zF} {B : zB} {H : Heap} {locs : List Loc} {ls : Array Slot} (hf : f_M_head_38 K  F B = some (r, F9, B9)) (hZ : zH D ca ad lnM nM L F B A H) (hS : va_S A s.heap H locs) (hl : lv_has ls 1 [(0, .ref (ad 14 0 0))]) : W p l e ({ frames := 48, cells := 0, slots := 0, locals := 1071 } : Room) s m args below meth c H locs 0 0 (MQ below (Q_M_head D ca ad L r F9 B9 A) args s 0 0 A) (F0 m 38 ls []) := by
  obtain ⟨hx, hb, hr, hml, hown, hts, hlk, hK, hA, hL, hX⟩ := id X
  replace hf : (if 0 ≤ (F 14 0 6) ∧ (F 14 0 6) < 3 then zbind (f_M_number K 1 12 0 (zup3 (zup3 F 14 0 23 1) 14 0 16 ((F 14 0 16) + 1)) B) (fun r21 F21 B21 => zbind (f_M_need K 47 (zup3 F21 13 (F 14 0 6) 4 r21) B21) (fun r23 F23 B23 => if 0 ≤ (F23 14 0 6) ∧ (F23 14 0 6) < 3 then zbind (f_M_number K 2 16 1 F23 B23) (fun r25 F25 B25 => f_M_head_152 K (zup3 F25 13 (F23 14 0 6) 5 r25) B25) else none)) else none) = some (r, F9, B9) := hf
  refine lv_aload_n hx hb (D_42 W_prog_15_method_41_code_32 6 rfl rfl) rfl (lv_at hl 0 rfl) ?_
  refine lv_iconst (v := iI 1) hx hb (D_4 W_prog_15_method_41_code_32 7 rfl rfl) rfl ?_
  refine zput (ci := 14) (C := RX14) (T := TX14) (k := 23) (v := 1) (w := .int (iI 1)) hx hb hts inW_14 tyX14 tyX14_ok nmX14 hown hK hZ hS (by decide) (by decide) rfl (by decide) k_11_21 rfl (fun G h => congrArg (fun q => Value.int (iI q)) h) rfl rfl (zno (by decide)) (D_181 W_prog_15_method_41_code_32 8 rfl rfl rfl) (fun H18 locs18 hZ18 hS18 => ?_)
  refine lv_aload_n hx hb (D_42 W_prog_15_method_41_code_32 11 rfl rfl) rfl (lv_at hl 0 rfl) ?_
  refine lv_dup hx hb (D_89 W_prog_15_method_41_code_32 12 rfl rfl) rfl ?_
  refine zget (ci := 14) (C := RX14) (T := TX14) (v := .int (iI (F 14 0 16))) (k := 16) hx hb hts inW_14 hown hK hZ18 (by decide) (by decide) rfl (by decide) k_11_14 rfl (D_180 W_prog_15_method_41_code_32 13 rfl rfl rfl) ?_
  refine lv_iconst (v := iI 1) hx hb (D_4 W_prog_15_method_41_code_32 16 rfl rfl) rfl ?_
  refine zadd hx hb (D_96 W_prog_15_method_41_code_32 17 rfl rfl) ?_
  refine zput (ci := 14) (C := RX14) (T := TX14) (k := 16) (v := ((F 14 0 16) + 1)) (w := .int (iI ((F 14 0 16) + 1))) hx hb hts inW_14 tyX14 tyX14_ok nmX14 hown hK hZ18 hS18 (by decide) (by decide) rfl (by decide) k_11_14 rfl (fun G h => congrArg (fun q => Value.int (iI q)) h) rfl rfl (zno (by decide)) (D_181 W_prog_15_method_41_code_32 18 rfl rfl rfl) (fun H19 locs19 hZ19 hS19 => ?_)
  refine lv_aload_n hx hb (D_42 W_prog_15_method_41_code_32 21 rfl rfl) rfl (lv_at hl 0 rfl) ?_
  refine zget (ci := 14) (C := RX14) (T := TX14) (v := va_rf (zrf ad 13 (F 14 0 6))) (k := 6) hx hb hts inW_14 hown hK hZ19 (by decide) (by decide) rfl (by decide) k_11_4 rfl (D_180 W_prog_15_method_41_code_32 22 rfl rfl rfl) ?_
  refine lv_aload_n hx hb (D_42 W_prog_15_method_41_code_32 25 rfl rfl) rfl (lv_at hl 0 rfl) ?_
  refine lv_iconst (v := iI 1) hx hb (D_4 W_prog_15_method_41_code_32 26 rfl rfl) rfl ?_
  refine lv_bipush (v := iI 12) hx hb (D_16 W_prog_15_method_41_code_32 27 rfl rfl rfl) (by decide) ?_
  refine lv_iconst (v := iI 0) hx hb (D_3 W_prog_15_method_41_code_32 29 rfl rfl) rfl ?_
  obtain ⟨g20, hf⟩ := gif hf
  refine W.eq (g2 := F0 m 62 ls [.int (iI 0), .int (iI 12), .int (iI 1), .ref (ad 14 0 0), .ref (ad 13 (F 14 0 6) 0)]) (by rw [zrf_pos (ad := ad) (t := 13) g20.1]; try rfl) ?_
  obtain ⟨r21, F21, B21, hc21, hf⟩ := gbind hf
  refine va_calli (va_runV (As := [.int (iI 1), .int (iI 12), .int (iI 0)]) (rest := [.ref (ad 13 (F 14 0 6) 0)]) ⟨hx, hb, hml, hown, hts⟩ (c_M_number (l := l) hc21) (cwV 3 hts (gdV k_14_140 k_14_142 ks_207 k_1_9 k_14_143) rfl rfl rfl (by decide +kernel) ⟨Nat.le_of_ble_eq_true rfl, Nat.le_of_ble_eq_true rfl⟩) (zPV X hZ19 hS19 (ci := 14) (by decide) (by decide) (r := (RX14, TX14, 107)) rfl [.int (iI 1), .int (iI 12), .int (iI 0)]) rfl rfl hl.1 rfl (lv_room (Nat.le_of_ble_eq_true rfl)) (D_182 W_prog_15_method_41_code_32 30 rfl rfl rfl) ⟨Nat.le_of_ble_eq_true rfl, Nat.le_of_ble_eq_true rfl⟩) hS19 (fun q _ h => zAin X hS19 q h) (zAin X hS19) (fun p21 u21 t21 H21 locs21 ht21 hv21 hw21 hB21 hz21 hk21 hS21 => ?_)
  have hZ21 := zBack X ht21 hB21
  subst hw21
  refine zput (ci := 13) (C := RX13) (T := TX13) (k := 4) (v := r21) (w := .int (iI r21)) hx hb hts inW_13 tyX13 tyX13_ok nmX13 hown hK hZ21 hS21 g20.1 g20.2 rfl (by decide) k_9_129 rfl (fun G h => congrArg (fun q => Value.int (iI q)) h) rfl rfl (zno (by decide)) (D_181 W_prog_15_method_41_code_64 1 rfl rfl rfl) (fun H22 locs22 hZ22 hS22 => ?_)
  refine lv_aload_n hx hb (D_42 W_prog_15_method_41_code_64 4 rfl rfl) rfl (lv_at hl 0 rfl) ?_
  refine lv_bipush (v := iI 47) hx hb (D_16 W_prog_15_method_41_code_64 5 rfl rfl rfl) (by decide) ?_
  obtain ⟨r23, F23, B23, hc23, hf⟩ := gbind hf
  refine va_callv (va_runV (As := [.int (iI 47)]) (rest := []) ⟨hx, hb, hml, hown, hts⟩ (c_M_need (l := l) hc23) (cwV 1 hts (gdV k_14_144 k_14_146 ks_208 k_1_9 k_14_147) rfl rfl rfl (by decide +kernel) ⟨Nat.le_of_ble_eq_true rfl, Nat.le_of_ble_eq_true rfl⟩) (zPV X hZ22 hS22 (ci := 14) (by decide) (by decide) (r := (RX14, TX14, 107)) rfl [.int (iI 47)]) rfl rfl hl.1 rfl (lv_room (Nat.le_of_ble_eq_true rfl)) (D_182 W_prog_15_method_41_code_64 7 rfl rfl rfl) ⟨Nat.le_of_ble_eq_true rfl, Nat.le_of_ble_eq_true rfl⟩) hS22 (fun q _ h => zAin X hS22 q h) (zAin X hS22) (fun u23 t23 H23 locs23 ht23 hv23 hw23 hB23 hz23 hk23 hS23 => ?_)
  have hZ23 := zBack X ht23 hB23
  refine lv_aload_n hx hb (D_42 W_prog_15_method_41_code_64 10 rfl rfl) rfl (lv_at hl 0 rfl) ?_
  refine zget (ci := 14) (C := RX14) (T := TX14) (v := va_rf (zrf ad 13 (F23 14 0 6))) (k := 6) hx hb hts inW_14 hown hK hZ23 (by decide) (by decide) rfl (by decide) k_11_4 rfl (D_180 W_prog_15_method_41_code_64 11 rfl rfl rfl) ?_
  refine lv_aload_n hx hb (D_42 W_prog_15_method_41_code_64 14 rfl rfl) rfl (lv_at hl 0 rfl) ?_
  refine lv_iconst (v := iI 2) hx hb (D_5 W_prog_15_method_41_code_64 15 rfl rfl) rfl ?_
  refine lv_bipush (v := iI 16) hx hb (D_16 W_prog_15_method_41_code_64 16 rfl rfl rfl) (by decide) ?_
  refine lv_iconst (v := iI 1) hx hb (D_4 W_prog_15_method_41_code_64 18 rfl rfl) rfl ?_
  obtain ⟨g24, hf⟩ := gif hf
  refine W.eq (g2 := F0 m 83 ls [.int (iI 1), .int (iI 16), .int (iI 2), .ref (ad 14 0 0), .ref (ad 13 (F23 14 0 6) 0)]) (by rw [zrf_pos (ad := ad) (t := 13) g24.1]; try rfl) ?_
  obtain ⟨r25, F25, B25, hc25, hf⟩ := gbind hf
  refine va_calli (va_runV (As := [.int (iI 2), .int (iI 16), .int (iI 1)]) (rest := [.ref (ad 13 (F23 14 0 6) 0)]) ⟨hx, hb, hml, hown, hts⟩ (c_M_number (l := l) hc25) (cwV 3 hts (gdV k_14_140 k_14_142 ks_207 k_1_9 k_14_143) rfl rfl rfl (by decide +kernel) ⟨Nat.le_of_ble_eq_true rfl, Nat.le_of_ble_eq_true rfl⟩) (zPV X hZ23 hS23 (ci := 14) (by decide) (by decide) (r := (RX14, TX14, 107)) rfl [.int (iI 2), .int (iI 16), .int (iI 1)]) rfl rfl hl.1 rfl (lv_room (Nat.le_of_ble_eq_true rfl)) (D_182 W_prog_15_method_41_code_64 19 rfl rfl rfl) ⟨Nat.le_of_ble_eq_true rfl, Nat.le_of_ble_eq_true rfl⟩) hS23 (fun q _ h => zAin X hS23 q h) (zAin X hS23) (fun p25 u25 t25 H25 locs25 ht25 hv25 hw25 hB25 hz25 hk25 hS25 => ?_)
  have hZ25 := zBack X ht25 hB25
  subst hw25
  refine zput (ci := 13) (C := RX13) (T := TX13) (k := 5) (v := r25) (w := .int (iI r25)) hx hb hts inW_13 tyX13 tyX13_ok nmX13 hown hK hZ25 hS25 g24.1 g24.2 rfl (by decide) k_9_130 rfl (fun G h => congrArg (fun q => Value.int (iI q)) h) rfl rfl (zno (by decide)) (D_181 W_prog_15_method_41_code_64 22 rfl rfl rfl) (fun H26 locs26 hZ26 hS26 => ?_)
  refine lv_goto (tgt := 152) hx hb (D_167 W_prog_15_method_41_code_64 25 rfl rfl rfl) (by decide) ?_
  exact b_M_head_152 X hf hZ26 hS26 (lv_sub hl [] rfl)

def f_M_head (K : Nat)  (F : zF) (B : zB) : zO := zbind (f_M_isWord K 7038329 F B) (fun r1 F1 B1 => if r32 r1 then (if r1 = 0 then zbind (f_M_isWord K 1953066341 F1 B1) (fun r4 F4 B4 => if r32 r4 then (if r4 = 0 then zbind (f_M_isWord K 499917877359 F4 B4) (fun r7 F7 B7 => if r32 r7 then (if r7 = 0 then zbind (f_M_headLet K F7 B7) (fun r10 F10 B10 => f_M_head_152 K F10 B10) else if r32 (F7 14 0 24) then (if (F7 14 0 24) = 0 then f_M_head_113 K F7 B7 else zbind (f_M_wrong K F7 B7) (fun r13 F13 B13 => f_M_head_113 K F13 B13)) else none) else none) else if r32 (F4 14 0 23) then (if (F4 14 0 23) = 0 then f_M_head_38 K F4 B4 else zbind (f_M_wrong K F4 B4) (fun r16 F16 B16 => f_M_head_38 K F16 B16)) else none) else none) else zbind (f_M_headKey K F1 B1) (fun r17 F17 B17 => f_M_head_152 K F17 B17)) else none)
set_option maxHeartbeats 4000000 in
set_option maxRecDepth 100000 in
theorem c_M_head {l : Launch} {D : va_G} {ca : Nat → ClassId} {ad : Nat → Int → Nat → Nat} {L : List Nat} {aS vS : Nat → Nat} {sz K : Nat}   {F F9 : zF} {B B9 : zB} {r : Int} (hf : f_M_head K  F B = some (r, F9, B9)) : Met l ({ cls := "StaveHouseModel", name := "head", desc := "()V" } : Jvm.MethodName) (Cond.code ({ cls := "StaveHouseModel", name := "head", desc := "()V" } : Jvm.MethodName) prog_15_method_41_code 1 (Option.none : Option Jvm.ClassFile.FieldType) :: wAll) ({ frames := 48, cells := 0, slots := 0, locals := 1071 } : Room) (va_Pc [.ref (ad 14 0 0)] (zPre D ca ad lnM nM L aS vS F B sz)) (Q_M_head D ca ad L r F9 B9 (zA L sz)) 0 0 (zA L sz) := by
  refine zMet (Qc := Q_M_head D ca ad L r F9 B9) (lv := [(0, .ref (ad 14 0 0))]) (by decide) (Nat.le_of_ble_eq_true rfl) rfl (fun A p e s m below meth c ls X hZ hS hl => ?_)
  obtain ⟨hx, hb, hr, hml, hown, hts, hlk, hK, hA, hL, hX⟩ := id X
  replace hf : (zbind (f_M_isWord K 7038329 F B) (fun r1 F1 B1 => if r32 r1 then (if r1 = 0 then zbind (f_M_isWord K 1953066341 F1 B1) (fun r4 F4 B4 => if r32 r4 then (if r4 = 0 then zbind (f_M_isWord K 499917877359 F4 B4) (fun r7 F7 B7 => if r32 r7 then (if r7 = 0 then zbind (f_M_headLet K F7 B7) (fun r10 F10 B10 => f_M_head_152 K F10 B10) else if r32 (F7 14 0 24) then (if (F7 14 0 24) = 0 then f_M_head_113 K F7 B7 else zbind (f_M_wrong K F7 B7) (fun r13 F13 B13 => f_M_head_113 K F13 B13)) else none) else none) else if r32 (F4 14 0 23) then (if (F4 14 0 23) = 0 then f_M_head_38 K F4 B4 else zbind (f_M_wrong K F4 B4) (fun r16 F16 B16 => f_M_head_38 K F16 B16)) else none) else none) else zbind (f_M_headKey K F1 B1) (fun r17 F17 B17 => f_M_head_152 K F17 B17)) else none)) = some (r, F9, B9) := hf
  refine lv_aload_n hx hb (D_42 W_prog_15_method_41_code_0 0 rfl rfl) rfl (lv_at hl 0 rfl) ?_
  refine va_gets hx hb (hX.2.2.2.1 _ (List.mem_of_getElem? (i := 1) rfl) :) hS hown (hts _ k_10_207) (fun _ h => h) (D_178 W_prog_15_method_41_code_0 1 rfl rfl rfl) ?_
  refine W.eq (g2 := F0 m 4 ls [.long (lI 7038329), .ref (ad 14 0 0)]) rfl ?_
  obtain ⟨r1, F1, B1, hc1, hf⟩ := gbind hf
  refine va_calli (va_runV (As := [.long (lI 7038329)]) (rest := []) ⟨hx, hb, hml, hown, hts⟩ (c_M_isWord (l := l) hc1) (cwV 1 hts (gdV k_14_112 k_14_114 ks_200 k_1_9 k_14_115) rfl rfl rfl (by decide +kernel) ⟨Nat.le_of_ble_eq_true rfl, Nat.le_of_ble_eq_true rfl⟩) (zPV X hZ hS (ci := 14) (by decide) (by decide) (r := (RX14, TX14, 107)) rfl [.long (lI 7038329)]) rfl rfl hl.1 rfl (lv_room (Nat.le_of_ble_eq_true rfl)) (D_182 W_prog_15_method_41_code_0 4 rfl rfl rfl) ⟨Nat.le_of_ble_eq_true rfl, Nat.le_of_ble_eq_true rfl⟩) hS (fun q _ h => zAin X hS q h) (zAin X hS) (fun p1 u1 t1 H1 locs1 ht1 hv1 hw1 hB1 hz1 hk1 hS1 => ?_)
  have hZ1 := zBack X ht1 hB1
  subst hw1
  obtain ⟨g2, hf⟩ := gif hf
  refine z0eq (tgt := 17) hx hb g2 (D_153 W_prog_15_method_41_code_0 7 rfl rfl rfl) (by decide) (fun h3 => ?_) (fun h3 => ?_)
  · replace hf := gpos hf h3
    refine lv_aload_n hx hb (D_42 W_prog_15_method_41_code_0 17 rfl rfl) rfl (lv_at hl 0 rfl) ?_
    refine va_gets hx hb (hX.2.2.2.1 _ (List.mem_of_getElem? (i := 4) rfl) :) hS1 hown (hts _ k_10_213) (fun _ h => h) (D_178 W_prog_15_method_41_code_0 18 rfl rfl rfl) ?_
    refine W.eq (g2 := F0 m 21 ls [.long (lI 1953066341), .ref (ad 14 0 0)]) rfl ?_
    obtain ⟨r4, F4, B4, hc4, hf⟩ := gbind hf
    refine va_calli (va_runV (As := [.long (lI 1953066341)]) (rest := []) ⟨hx, hb, hml, hown, hts⟩ (c_M_isWord (l := l) hc4) (cwV 1 hts (gdV k_14_112 k_14_114 ks_200 k_1_9 k_14_115) rfl rfl rfl (by decide +kernel) ⟨Nat.le_of_ble_eq_true rfl, Nat.le_of_ble_eq_true rfl⟩) (zPV X hZ1 hS1 (ci := 14) (by decide) (by decide) (r := (RX14, TX14, 107)) rfl [.long (lI 1953066341)]) rfl rfl hl.1 rfl (lv_room (Nat.le_of_ble_eq_true rfl)) (D_182 W_prog_15_method_41_code_0 21 rfl rfl rfl) ⟨Nat.le_of_ble_eq_true rfl, Nat.le_of_ble_eq_true rfl⟩) hS1 (fun q _ h => zAin X hS1 q h) (zAin X hS1) (fun p4 u4 t4 H4 locs4 ht4 hv4 hw4 hB4 hz4 hk4 hS4 => ?_)
    have hZ4 := zBack X ht4 hB4
    subst hw4
    obtain ⟨g5, hf⟩ := gif hf
    refine z0eq (tgt := 92) hx hb g5 (D_153 W_prog_15_method_41_code_0 24 rfl rfl rfl) (by decide) (fun h6 => ?_) (fun h6 => ?_)
    · replace hf := gpos hf h6
      refine lv_aload_n hx hb (D_42 W_prog_15_method_41_code_64 28 rfl rfl) rfl (lv_at hl 0 rfl) ?_
      refine va_gets hx hb (hX.2.2.2.1 _ (List.mem_of_getElem? (i := 5) rfl) :) hS4 hown (hts _ k_10_215) (fun _ h => h) (D_178 W_prog_15_method_41_code_64 29 rfl rfl rfl) ?_
      refine W.eq (g2 := F0 m 96 ls [.long (lI 499917877359), .ref (ad 14 0 0)]) rfl ?_
      obtain ⟨r7, F7, B7, hc7, hf⟩ := gbind hf
      refine va_calli (va_runV (As := [.long (lI 499917877359)]) (rest := []) ⟨hx, hb, hml, hown, hts⟩ (c_M_isWord (l := l) hc7) (cwV 1 hts (gdV k_14_112 k_14_114 ks_200 k_1_9 k_14_115) rfl rfl rfl (by decide +kernel) ⟨Nat.le_of_ble_eq_true rfl, Nat.le_of_ble_eq_true rfl⟩) (zPV X hZ4 hS4 (ci := 14) (by decide) (by decide) (r := (RX14, TX14, 107)) rfl [.long (lI 499917877359)]) rfl rfl hl.1 rfl (lv_room (Nat.le_of_ble_eq_true rfl)) (D_182 W_prog_15_method_41_code_96 0 rfl rfl rfl) ⟨Nat.le_of_ble_eq_true rfl, Nat.le_of_ble_eq_true rfl⟩) hS4 (fun q _ h => zAin X hS4 q h) (zAin X hS4) (fun p7 u7 t7 H7 locs7 ht7 hv7 hw7 hB7 hz7 hk7 hS7 => ?_)
      have hZ7 := zBack X ht7 hB7
      subst hw7
      obtain ⟨g8, hf⟩ := gif hf
      refine z0eq (tgt := 148) hx hb g8 (D_153 W_prog_15_method_41_code_96 3 rfl rfl rfl) (by decide) (fun h9 => ?_) (fun h9 => ?_)
      · replace hf := gpos hf h9
        refine lv_aload_n hx hb (D_42 W_prog_15_method_41_code_128 20 rfl rfl) rfl (lv_at hl 0 rfl) ?_
        obtain ⟨r10, F10, B10, hc10, hf⟩ := gbind hf
        refine va_callv (va_runV (As := []) (rest := []) ⟨hx, hb, hml, hown, hts⟩ (c_M_headLet (l := l) hc10) (cwV 0 hts (gdV k_14_148 k_14_150 ks_209 k_1_9 k_14_151) rfl rfl rfl (by decide +kernel) ⟨Nat.le_of_ble_eq_true rfl, Nat.le_of_ble_eq_true rfl⟩) (zPV X hZ7 hS7 (ci := 14) (by decide) (by decide) (r := (RX14, TX14, 107)) rfl []) rfl rfl hl.1 rfl (lv_room (Nat.le_of_ble_eq_true rfl)) (D_182 W_prog_15_method_41_code_128 21 rfl rfl rfl) ⟨Nat.le_of_ble_eq_true rfl, Nat.le_of_ble_eq_true rfl⟩) hS7 (fun q _ h => zAin X hS7 q h) (zAin X hS7) (fun u10 t10 H10 locs10 ht10 hv10 hw10 hB10 hz10 hk10 hS10 => ?_)
        have hZ10 := zBack X ht10 hB10
        exact b_M_head_152 X hf hZ10 hS10 (lv_sub hl [] rfl)
      · replace hf := gneg hf h9
        refine lv_aload_n hx hb (D_42 W_prog_15_method_41_code_96 6 rfl rfl) rfl (lv_at hl 0 rfl) ?_
        refine zget (ci := 14) (C := RX14) (T := TX14) (v := .int (iI (F7 14 0 24))) (k := 24) hx hb hts inW_14 hown hK hZ7 (by decide) (by decide) rfl (by decide) k_11_22 rfl (D_180 W_prog_15_method_41_code_96 7 rfl rfl rfl) ?_
        obtain ⟨g11, hf⟩ := gif hf
        refine z0eq (tgt := 113) hx hb g11 (D_153 W_prog_15_method_41_code_96 10 rfl rfl rfl) (by decide) (fun h12 => ?_) (fun h12 => ?_)
        · replace hf := gpos hf h12
          exact b_M_head_113 X hf hZ7 hS7 (lv_sub hl [0] rfl)
        · replace hf := gneg hf h12
          refine lv_aload_n hx hb (D_42 W_prog_15_method_41_code_96 13 rfl rfl) rfl (lv_at hl 0 rfl) ?_
          obtain ⟨r13, F13, B13, hc13, hf⟩ := gbind hf
          refine va_callv (va_runV (As := []) (rest := []) ⟨hx, hb, hml, hown, hts⟩ (c_M_wrong (l := l) hc13) (cwV 0 hts (gdV k_14_124 k_14_126 ks_203 k_1_9 k_14_127) rfl rfl rfl (by decide +kernel) ⟨Nat.le_of_ble_eq_true rfl, Nat.le_of_ble_eq_true rfl⟩) (zPV X hZ7 hS7 (ci := 14) (by decide) (by decide) (r := (RX14, TX14, 107)) rfl []) rfl rfl hl.1 rfl (lv_room (Nat.le_of_ble_eq_true rfl)) (D_182 W_prog_15_method_41_code_96 14 rfl rfl rfl) ⟨Nat.le_of_ble_eq_true rfl, Nat.le_of_ble_eq_true rfl⟩) hS7 (fun q _ h => zAin X hS7 q h) (zAin X hS7) (fun u13 t13 H13 locs13 ht13 hv13 hw13 hB13 hz13 hk13 hS13 => ?_)
          have hZ13 := zBack X ht13 hB13
          exact b_M_head_113 X hf hZ13 hS13 (lv_sub hl [0] rfl)
    · replace hf := gneg hf h6
      refine lv_aload_n hx hb (D_42 W_prog_15_method_41_code_0 27 rfl rfl) rfl (lv_at hl 0 rfl) ?_
      refine zget (ci := 14) (C := RX14) (T := TX14) (v := .int (iI (F4 14 0 23))) (k := 23) hx hb hts inW_14 hown hK hZ4 (by decide) (by decide) rfl (by decide) k_11_21 rfl (D_180 W_prog_15_method_41_code_0 28 rfl rfl rfl) ?_
      obtain ⟨g14, hf⟩ := gif hf
      refine z0eq (tgt := 38) hx hb g14 (D_153 W_prog_15_method_41_code_0 31 rfl rfl rfl) (by decide) (fun h15 => ?_) (fun h15 => ?_)
      · replace hf := gpos hf h15
        exact b_M_head_38 X hf hZ4 hS4 (lv_sub hl [0] rfl)
      · replace hf := gneg hf h15
        refine lv_aload_n hx hb (D_42 W_prog_15_method_41_code_32 2 rfl rfl) rfl (lv_at hl 0 rfl) ?_
        obtain ⟨r16, F16, B16, hc16, hf⟩ := gbind hf
        refine va_callv (va_runV (As := []) (rest := []) ⟨hx, hb, hml, hown, hts⟩ (c_M_wrong (l := l) hc16) (cwV 0 hts (gdV k_14_124 k_14_126 ks_203 k_1_9 k_14_127) rfl rfl rfl (by decide +kernel) ⟨Nat.le_of_ble_eq_true rfl, Nat.le_of_ble_eq_true rfl⟩) (zPV X hZ4 hS4 (ci := 14) (by decide) (by decide) (r := (RX14, TX14, 107)) rfl []) rfl rfl hl.1 rfl (lv_room (Nat.le_of_ble_eq_true rfl)) (D_182 W_prog_15_method_41_code_32 3 rfl rfl rfl) ⟨Nat.le_of_ble_eq_true rfl, Nat.le_of_ble_eq_true rfl⟩) hS4 (fun q _ h => zAin X hS4 q h) (zAin X hS4) (fun u16 t16 H16 locs16 ht16 hv16 hw16 hB16 hz16 hk16 hS16 => ?_)
        have hZ16 := zBack X ht16 hB16
        exact b_M_head_38 X hf hZ16 hS16 (lv_sub hl [0] rfl)
  · replace hf := gneg hf h3
    refine lv_aload_n hx hb (D_42 W_prog_15_method_41_code_0 10 rfl rfl) rfl (lv_at hl 0 rfl) ?_
    obtain ⟨r17, F17, B17, hc17, hf⟩ := gbind hf
    refine va_callv (va_runV (As := []) (rest := []) ⟨hx, hb, hml, hown, hts⟩ (c_M_headKey (l := l) hc17) (cwV 0 hts (gdV k_14_120 k_14_122 ks_202 k_1_9 k_14_123) rfl rfl rfl (by decide +kernel) ⟨Nat.le_of_ble_eq_true rfl, Nat.le_of_ble_eq_true rfl⟩) (zPV X hZ1 hS1 (ci := 14) (by decide) (by decide) (r := (RX14, TX14, 107)) rfl []) rfl rfl hl.1 rfl (lv_room (Nat.le_of_ble_eq_true rfl)) (D_182 W_prog_15_method_41_code_0 11 rfl rfl rfl) ⟨Nat.le_of_ble_eq_true rfl, Nat.le_of_ble_eq_true rfl⟩) hS1 (fun q _ h => zAin X hS1 q h) (zAin X hS1) (fun u17 t17 H17 locs17 ht17 hv17 hw17 hB17 hz17 hk17 hS17 => ?_)
    have hZ17 := zBack X ht17 hB17
    refine lv_goto (tgt := 152) hx hb (D_167 W_prog_15_method_41_code_0 14 rfl rfl rfl) (by decide) ?_
    exact b_M_head_152 X hf hZ17 hS17 (lv_sub hl [] rfl)

abbrev Q_M_text (D : va_G) (ca : Nat → ClassId) (ad : Nat → Int → Nat → Nat) (L : List Nat) (r : Int) (F : zF) (B : zB) (A : Nat → Prop) : Array Value → State → Outcome → State → Prop := va_Qv (S := Unit) (fun _ => True) (fun _ => zPo D ca ad lnM nM L F B A) A
def f_M_text_211 (K : Nat)  (F : zF) (B : zB) : zO := some (0, F, B)
set_option maxHeartbeats 4000000 in
set_option maxRecDepth 100000 in
theorem b_M_text_211 {D : va_G} {ca : Nat → ClassId} {ad : Nat → Int → Nat → Nat} {L : List Nat} {aS vS : Nat → Nat} {A : Nat → Prop} {p : Program} {l : Launch} {e : Env} {s : State} {m : MethodId} {args : Array Value} {below : List Frame} {meth : Method} {c : Code} {K : Nat} {r : Int} {F9 : zF} {B9 : zB} (X : zX D ca L aS vS A p s m args meth c prog_15_method_40_code 2 (Option.none : Option Jvm.ClassFile.FieldType) "StaveHouseModel")  {F : zF} {B : zB} {H : Heap} {locs : List Loc} {ls : Array Slot} (hf : f_M_text_211 K  F B = some (r, F9, B9)) (hZ : zH D ca ad lnM nM L F B A H) (hS : va_S A s.heap H locs) (hl : lv_has ls 2 []) : W p l e ({ frames := 49, cells := 0, slots := 0, locals := 1091 } : Room) s m args below meth c H locs 0 0 (MQ below (Q_M_text D ca ad L r F9 B9 A) args s 0 0 A) (F0 m 211 ls []) := by
  obtain ⟨hx, hb, hr, hml, hown, hts, hlk, hK, hA, hL, hX⟩ := id X
  replace hf : (some (0, F, B)) = some (r, F9, B9) := hf
  cases hf
  exact W.vret hx hb hr (fun t ht hW => ⟨⟨(), rfl, trivial, by rw [ht]; exact hZ, va_K.moved hW.alike hK⟩, hS.F ht⟩) hS.2.2 (D_177 W_prog_15_method_40_code_192 19 rfl rfl) hlk

def f_M_text_207 (rec140 : Int → zF → zB → zO) (K : Nat) (s0 : Int) (F : zF) (B : zB) : zO := rec140 s0 F B
set_option maxHeartbeats 4000000 in
set_option maxRecDepth 100000 in
theorem b_M_text_207 {D : va_G} {ca : Nat → ClassId} {ad : Nat → Int → Nat → Nat} {L : List Nat} {aS vS : Nat → Nat} {A : Nat → Prop} {p : Program} {l : Launch} {e : Env} {s : State} {m : MethodId} {args : Array Value} {below : List Frame} {meth : Method} {c : Code} {K : Nat} {r : Int} {F9 : zF} {B9 : zB} (X : zX D ca L aS vS A p s m args meth c prog_15_method_40_code 2 (Option.none : Option Jvm.ClassFile.FieldType) "StaveHouseModel") {rec140 : Int → zF → zB → zO} (hrec140 : ∀ {l1 : Int} {F : zF} {B : zB} {H : Heap} {locs : List Loc} {ls : Array Slot}, rec140 l1 F B = some (r, F9, B9) → zH D ca ad lnM nM L F B A H → va_S A s.heap H locs → lv_has ls 2 [(1, .int (iI l1)), (0, .ref (ad 14 0 0))] → W p l e ({ frames := 49, cells := 0, slots := 0, locals := 1091 } : Room) s m args below meth c H locs 0 0 (MQ below (Q_M_text D ca ad L r F9 B9 A) args s 0 0 A) (F0 m 140 ls [])) {s0 : Int} {F : zF} {B : zB} {H : Heap} {locs : List Loc} {ls : Array Slot} (hf : f_M_text_207 rec140 K s0 F B = some (r, F9, B9)) (hZ : zH D ca ad lnM nM L F B A H) (hS : va_S A s.heap H locs) (hl : lv_has ls 2 [(0, .ref (ad 14 0 0))]) : W p l e ({ frames := 49, cells := 0, slots := 0, locals := 1091 } : Room) s m args below meth c H locs 0 0 (MQ below (Q_M_text D ca ad L r F9 B9 A) args s 0 0 A) (F0 m 207 ls [.int (iI s0)]) := by
  obtain ⟨hx, hb, hr, hml, hown, hts, hlk, hK, hA, hL, hX⟩ := id X
  replace hf : (rec140 s0 F B) = some (r, F9, B9) := hf
  refine lv_istore_n (lv' := [(1, .int (iI s0)), (0, .ref (ad 14 0 0))]) hx hb (D_60 W_prog_15_method_40_code_192 15 rfl rfl) rfl hl (by decide) rfl (fun ls hl => ?_)
  refine lv_goto (tgt := 140) hx hb (D_167 W_prog_15_method_40_code_192 16 rfl rfl rfl) (by decide) ?_
  exact hrec140 hf hZ hS (lv_sub hl [0, 1] rfl)

def f_M_text_206 (rec140 : Int → zF → zB → zO) (K : Nat)  (F : zF) (B : zB) : zO := f_M_text_207 rec140 K 0 F B
set_option maxHeartbeats 4000000 in
set_option maxRecDepth 100000 in
theorem b_M_text_206 {D : va_G} {ca : Nat → ClassId} {ad : Nat → Int → Nat → Nat} {L : List Nat} {aS vS : Nat → Nat} {A : Nat → Prop} {p : Program} {l : Launch} {e : Env} {s : State} {m : MethodId} {args : Array Value} {below : List Frame} {meth : Method} {c : Code} {K : Nat} {r : Int} {F9 : zF} {B9 : zB} (X : zX D ca L aS vS A p s m args meth c prog_15_method_40_code 2 (Option.none : Option Jvm.ClassFile.FieldType) "StaveHouseModel") {rec140 : Int → zF → zB → zO} (hrec140 : ∀ {l1 : Int} {F : zF} {B : zB} {H : Heap} {locs : List Loc} {ls : Array Slot}, rec140 l1 F B = some (r, F9, B9) → zH D ca ad lnM nM L F B A H → va_S A s.heap H locs → lv_has ls 2 [(1, .int (iI l1)), (0, .ref (ad 14 0 0))] → W p l e ({ frames := 49, cells := 0, slots := 0, locals := 1091 } : Room) s m args below meth c H locs 0 0 (MQ below (Q_M_text D ca ad L r F9 B9 A) args s 0 0 A) (F0 m 140 ls []))  {F : zF} {B : zB} {H : Heap} {locs : List Loc} {ls : Array Slot} (hf : f_M_text_206 rec140 K  F B = some (r, F9, B9)) (hZ : zH D ca ad lnM nM L F B A H) (hS : va_S A s.heap H locs) (hl : lv_has ls 2 [(0, .ref (ad 14 0 0))]) : W p l e ({ frames := 49, cells := 0, slots := 0, locals := 1091 } : Room) s m args below meth c H locs 0 0 (MQ below (Q_M_text D ca ad L r F9 B9 A) args s 0 0 A) (F0 m 206 ls []) := by
  obtain ⟨hx, hb, hr, hml, hown, hts, hlk, hK, hA, hL, hX⟩ := id X
  replace hf : (f_M_text_207 rec140 K 0 F B) = some (r, F9, B9) := hf
  refine lv_iconst (v := iI 0) hx hb (D_3 W_prog_15_method_40_code_192 14 rfl rfl) rfl ?_
  exact b_M_text_207 X hrec140 hf hZ hS (lv_sub hl [0] rfl)

def f_M_text_183 (rec140 : Int → zF → zB → zO) (K : Nat)  (F : zF) (B : zB) : zO := zbind (f_M_good K F B) (fun r44 F44 B44 => if r32 r44 then (if r44 = 0 then f_M_text_206 rec140 K F44 B44 else if 0 ≤ (F44 14 0 16) ∧ (F44 14 0 16) < 3001 then if r32 (B44 14 0 7 (F44 14 0 16)) then (if (B44 14 0 7 (F44 14 0 16)) = 0 then f_M_text_206 rec140 K F44 B44 else f_M_text_207 rec140 K 1 F44 B44) else none else none) else none)
set_option maxHeartbeats 4000000 in
set_option maxRecDepth 100000 in
theorem b_M_text_183 {D : va_G} {ca : Nat → ClassId} {ad : Nat → Int → Nat → Nat} {L : List Nat} {aS vS : Nat → Nat} {A : Nat → Prop} {p : Program} {l : Launch} {e : Env} {s : State} {m : MethodId} {args : Array Value} {below : List Frame} {meth : Method} {c : Code} {K : Nat} {r : Int} {F9 : zF} {B9 : zB} (X : zX D ca L aS vS A p s m args meth c prog_15_method_40_code 2 (Option.none : Option Jvm.ClassFile.FieldType) "StaveHouseModel") {rec140 : Int → zF → zB → zO} (hrec140 : ∀ {l1 : Int} {F : zF} {B : zB} {H : Heap} {locs : List Loc} {ls : Array Slot}, rec140 l1 F B = some (r, F9, B9) → zH D ca ad lnM nM L F B A H → va_S A s.heap H locs → lv_has ls 2 [(1, .int (iI l1)), (0, .ref (ad 14 0 0))] → W p l e ({ frames := 49, cells := 0, slots := 0, locals := 1091 } : Room) s m args below meth c H locs 0 0 (MQ below (Q_M_text D ca ad L r F9 B9 A) args s 0 0 A) (F0 m 140 ls []))  {F : zF} {B : zB} {H : Heap} {locs : List Loc} {ls : Array Slot} (hf : f_M_text_183 rec140 K  F B = some (r, F9, B9)) (hZ : zH D ca ad lnM nM L F B A H) (hS : va_S A s.heap H locs) (hl : lv_has ls 2 [(0, .ref (ad 14 0 0))]) : W p l e ({ frames := 49, cells := 0, slots := 0, locals := 1091 } : Room) s m args below meth c H locs 0 0 (MQ below (Q_M_text D ca ad L r F9 B9 A) args s 0 0 A) (F0 m 183 ls []) := by
  obtain ⟨hx, hb, hr, hml, hown, hts, hlk, hK, hA, hL, hX⟩ := id X
  replace hf : (zbind (f_M_good K F B) (fun r44 F44 B44 => if r32 r44 then (if r44 = 0 then f_M_text_206 rec140 K F44 B44 else if 0 ≤ (F44 14 0 16) ∧ (F44 14 0 16) < 3001 then if r32 (B44 14 0 7 (F44 14 0 16)) then (if (B44 14 0 7 (F44 14 0 16)) = 0 then f_M_text_206 rec140 K F44 B44 else f_M_text_207 rec140 K 1 F44 B44) else none else none) else none)) = some (r, F9, B9) := hf
  refine lv_aload_n hx hb (D_42 W_prog_15_method_40_code_160 23 rfl rfl) rfl (lv_at hl 0 rfl) ?_
  obtain ⟨r44, F44, B44, hc44, hf⟩ := gbind hf
  refine va_calli (va_runV (As := []) (rest := []) ⟨hx, hb, hml, hown, hts⟩ (c_M_good (l := l) hc44) (cwV 0 hts (gdV k_13_15 k_13_17 ks_152 k_1_9 k_13_18) rfl rfl rfl (by decide +kernel) ⟨Nat.le_of_ble_eq_true rfl, Nat.le_of_ble_eq_true rfl⟩) (zPV X hZ hS (ci := 14) (by decide) (by decide) (r := (RX14, TX14, 107)) rfl []) rfl rfl hl.1 rfl (lv_room (Nat.le_of_ble_eq_true rfl)) (D_182 W_prog_15_method_40_code_160 24 rfl rfl rfl) ⟨Nat.le_of_ble_eq_true rfl, Nat.le_of_ble_eq_true rfl⟩) hS (fun q _ h => zAin X hS q h) (zAin X hS) (fun p44 u44 t44 H44 locs44 ht44 hv44 hw44 hB44 hz44 hk44 hS44 => ?_)
  have hZ44 := zBack X ht44 hB44
  subst hw44
  obtain ⟨g45, hf⟩ := gif hf
  refine z0eq (tgt := 206) hx hb g45 (D_153 W_prog_15_method_40_code_160 27 rfl rfl rfl) (by decide) (fun h46 => ?_) (fun h46 => ?_)
  · replace hf := gpos hf h46
    exact b_M_text_206 X hrec140 hf hZ44 hS44 (lv_sub hl [0] rfl)
  · replace hf := gneg hf h46
    refine lv_aload_n hx hb (D_42 W_prog_15_method_40_code_160 30 rfl rfl) rfl (lv_at hl 0 rfl) ?_
    refine zget (ci := 14) (C := RX14) (T := TX14) (v := .ref (ad 14 0 (7 + 1))) (k := 7) hx hb hts inW_14 hown hK hZ44 (by decide) (by decide) rfl (by decide) k_11_5 rfl (D_180 W_prog_15_method_40_code_160 31 rfl rfl rfl) ?_
    refine lv_aload_n hx hb (D_42 W_prog_15_method_40_code_192 2 rfl rfl) rfl (lv_at hl 0 rfl) ?_
    refine zget (ci := 14) (C := RX14) (T := TX14) (v := .int (iI (F44 14 0 16))) (k := 16) hx hb hts inW_14 hown hK hZ44 (by decide) (by decide) rfl (by decide) k_11_14 rfl (D_180 W_prog_15_method_40_code_192 3 rfl rfl rfl) ?_
    obtain ⟨g47, hf⟩ := gif hf
    refine zald (ci := 14) (k := 7) hx hb hK rfl hZ44 (by decide) (by decide) rfl (Nat.le_of_ble_eq_true rfl) g47.1 g47.2 (D_46 W_prog_15_method_40_code_192 6 rfl rfl) ?_
    obtain ⟨g48, hf⟩ := gif hf
    refine z0eq (tgt := 206) hx hb g48 (D_153 W_prog_15_method_40_code_192 7 rfl rfl rfl) (by decide) (fun h49 => ?_) (fun h49 => ?_)
    · replace hf := gpos hf h49
      exact b_M_text_206 X hrec140 hf hZ44 hS44 (lv_sub hl [0] rfl)
    · replace hf := gneg hf h49
      refine lv_iconst (v := iI 1) hx hb (D_4 W_prog_15_method_40_code_192 10 rfl rfl) rfl ?_
      refine lv_goto (tgt := 207) hx hb (D_167 W_prog_15_method_40_code_192 11 rfl rfl rfl) (by decide) ?_
      exact b_M_text_207 X hrec140 hf hZ44 hS44 (lv_sub hl [0] rfl)

def f_M_text_179 (rec140 : Int → zF → zB → zO) (K : Nat)  (F : zF) (B : zB) : zO := zbind (f_M_wrong K F B) (fun r50 F50 B50 => f_M_text_183 rec140 K F50 B50)
set_option maxHeartbeats 4000000 in
set_option maxRecDepth 100000 in
theorem b_M_text_179 {D : va_G} {ca : Nat → ClassId} {ad : Nat → Int → Nat → Nat} {L : List Nat} {aS vS : Nat → Nat} {A : Nat → Prop} {p : Program} {l : Launch} {e : Env} {s : State} {m : MethodId} {args : Array Value} {below : List Frame} {meth : Method} {c : Code} {K : Nat} {r : Int} {F9 : zF} {B9 : zB} (X : zX D ca L aS vS A p s m args meth c prog_15_method_40_code 2 (Option.none : Option Jvm.ClassFile.FieldType) "StaveHouseModel") {rec140 : Int → zF → zB → zO} (hrec140 : ∀ {l1 : Int} {F : zF} {B : zB} {H : Heap} {locs : List Loc} {ls : Array Slot}, rec140 l1 F B = some (r, F9, B9) → zH D ca ad lnM nM L F B A H → va_S A s.heap H locs → lv_has ls 2 [(1, .int (iI l1)), (0, .ref (ad 14 0 0))] → W p l e ({ frames := 49, cells := 0, slots := 0, locals := 1091 } : Room) s m args below meth c H locs 0 0 (MQ below (Q_M_text D ca ad L r F9 B9 A) args s 0 0 A) (F0 m 140 ls []))  {F : zF} {B : zB} {H : Heap} {locs : List Loc} {ls : Array Slot} (hf : f_M_text_179 rec140 K  F B = some (r, F9, B9)) (hZ : zH D ca ad lnM nM L F B A H) (hS : va_S A s.heap H locs) (hl : lv_has ls 2 [(0, .ref (ad 14 0 0))]) : W p l e ({ frames := 49, cells := 0, slots := 0, locals := 1091 } : Room) s m args below meth c H locs 0 0 (MQ below (Q_M_text D ca ad L r F9 B9 A) args s 0 0 A) (F0 m 179 ls []) := by
  obtain ⟨hx, hb, hr, hml, hown, hts, hlk, hK, hA, hL, hX⟩ := id X
  replace hf : (zbind (f_M_wrong K F B) (fun r50 F50 B50 => f_M_text_183 rec140 K F50 B50)) = some (r, F9, B9) := hf
  refine lv_aload_n hx hb (D_42 W_prog_15_method_40_code_160 19 rfl rfl) rfl (lv_at hl 0 rfl) ?_
  obtain ⟨r50, F50, B50, hc50, hf⟩ := gbind hf
  refine va_callv (va_runV (As := []) (rest := []) ⟨hx, hb, hml, hown, hts⟩ (c_M_wrong (l := l) hc50) (cwV 0 hts (gdV k_14_124 k_14_126 ks_203 k_1_9 k_14_127) rfl rfl rfl (by decide +kernel) ⟨Nat.le_of_ble_eq_true rfl, Nat.le_of_ble_eq_true rfl⟩) (zPV X hZ hS (ci := 14) (by decide) (by decide) (r := (RX14, TX14, 107)) rfl []) rfl rfl hl.1 rfl (lv_room (Nat.le_of_ble_eq_true rfl)) (D_182 W_prog_15_method_40_code_160 20 rfl rfl rfl) ⟨Nat.le_of_ble_eq_true rfl, Nat.le_of_ble_eq_true rfl⟩) hS (fun q _ h => zAin X hS q h) (zAin X hS) (fun u50 t50 H50 locs50 ht50 hv50 hw50 hB50 hz50 hk50 hS50 => ?_)
  have hZ50 := zBack X ht50 hB50
  exact b_M_text_183 X hrec140 hf hZ50 hS50 (lv_sub hl [0] rfl)

def f_M_text_140 (K : Nat) : Nat → Int → zF → zB → zO
  | 0, _, _, _ => none
  | n + 1, l1, F, B => zbind (f_M_good K F B) (fun r31 F31 B31 => if r32 r31 then (if r31 = 0 then f_M_text_211 K F31 B31 else if r32 l1 then (if l1 = 0 then f_M_text_211 K F31 B31 else zbind (f_M_isWord K 508675318629 F31 B31) (fun r37 F37 B37 => if r32 r37 then (if r37 = 0 then f_M_text_179 (f_M_text_140 K n) K F37 B37 else if 0 ≤ (F37 14 0 6) ∧ (F37 14 0 6) < 3 then if r32 (F37 13 (F37 14 0 6) 1) then (if 4 ≤ (F37 13 (F37 14 0 6) 1) then f_M_text_179 (f_M_text_140 K n) K F37 B37 else zbind (f_M_voiceText K F37 B37) (fun r43 F43 B43 => f_M_text_183 (f_M_text_140 K n) K F43 B43)) else none else none) else none)) else none) else none)
set_option maxHeartbeats 4000000 in
set_option maxRecDepth 100000 in
theorem b_M_text_140 {D : va_G} {ca : Nat → ClassId} {ad : Nat → Int → Nat → Nat} {L : List Nat} {aS vS : Nat → Nat} {A : Nat → Prop} {p : Program} {l : Launch} {e : Env} {s : State} {m : MethodId} {args : Array Value} {below : List Frame} {meth : Method} {c : Code} {K : Nat} {r : Int} {F9 : zF} {B9 : zB} (X : zX D ca L aS vS A p s m args meth c prog_15_method_40_code 2 (Option.none : Option Jvm.ClassFile.FieldType) "StaveHouseModel") : ∀ {n : Nat} {l1 : Int} {F : zF} {B : zB} {H : Heap} {locs : List Loc} {ls : Array Slot}, f_M_text_140 K n l1 F B = some (r, F9, B9) → zH D ca ad lnM nM L F B A H → va_S A s.heap H locs → lv_has ls 2 [(1, .int (iI l1)), (0, .ref (ad 14 0 0))] → W p l e ({ frames := 49, cells := 0, slots := 0, locals := 1091 } : Room) s m args below meth c H locs 0 0 (MQ below (Q_M_text D ca ad L r F9 B9 A) args s 0 0 A) (F0 m 140 ls []) := by
  obtain ⟨hx, hb, hr, hml, hown, hts, hlk, hK, hA, hL, hX⟩ := id X
  intro n
  induction n with
  | zero =>
    intros
    rename_i hf _ _ _
    cases hf
  | succ n ih =>
    intro l1 F B H locs ls hf hZ hS hl
    replace hf : (zbind (f_M_good K F B) (fun r31 F31 B31 => if r32 r31 then (if r31 = 0 then f_M_text_211 K F31 B31 else if r32 l1 then (if l1 = 0 then f_M_text_211 K F31 B31 else zbind (f_M_isWord K 508675318629 F31 B31) (fun r37 F37 B37 => if r32 r37 then (if r37 = 0 then f_M_text_179 (f_M_text_140 K n) K F37 B37 else if 0 ≤ (F37 14 0 6) ∧ (F37 14 0 6) < 3 then if r32 (F37 13 (F37 14 0 6) 1) then (if 4 ≤ (F37 13 (F37 14 0 6) 1) then f_M_text_179 (f_M_text_140 K n) K F37 B37 else zbind (f_M_voiceText K F37 B37) (fun r43 F43 B43 => f_M_text_183 (f_M_text_140 K n) K F43 B43)) else none else none) else none)) else none) else none)) = some (r, F9, B9) := hf
    refine lv_aload_n hx hb (D_42 W_prog_15_method_40_code_128 12 rfl rfl) rfl (lv_at hl 1 rfl) ?_
    obtain ⟨r31, F31, B31, hc31, hf⟩ := gbind hf
    refine va_calli (va_runV (As := []) (rest := []) ⟨hx, hb, hml, hown, hts⟩ (c_M_good (l := l) hc31) (cwV 0 hts (gdV k_13_15 k_13_17 ks_152 k_1_9 k_13_18) rfl rfl rfl (by decide +kernel) ⟨Nat.le_of_ble_eq_true rfl, Nat.le_of_ble_eq_true rfl⟩) (zPV X hZ hS (ci := 14) (by decide) (by decide) (r := (RX14, TX14, 107)) rfl []) rfl rfl hl.1 rfl (lv_room (Nat.le_of_ble_eq_true rfl)) (D_182 W_prog_15_method_40_code_128 13 rfl rfl rfl) ⟨Nat.le_of_ble_eq_true rfl, Nat.le_of_ble_eq_true rfl⟩) hS (fun q _ h => zAin X hS q h) (zAin X hS) (fun p31 u31 t31 H31 locs31 ht31 hv31 hw31 hB31 hz31 hk31 hS31 => ?_)
    have hZ31 := zBack X ht31 hB31
    subst hw31
    obtain ⟨g33, hf⟩ := gif hf
    refine z0eq (tgt := 211) hx hb g33 (D_153 W_prog_15_method_40_code_128 16 rfl rfl rfl) (by decide) (fun h34 => ?_) (fun h34 => ?_)
    · replace hf := gpos hf h34
      exact b_M_text_211 X hf hZ31 hS31 (lv_sub hl [] rfl)
    · replace hf := gneg hf h34
      refine lv_iload_n hx hb (D_27 W_prog_15_method_40_code_128 19 rfl rfl) rfl (lv_at hl 0 rfl) ?_
      obtain ⟨g35, hf⟩ := gif hf
      refine z0eq (tgt := 211) hx hb g35 (D_153 W_prog_15_method_40_code_128 20 rfl rfl rfl) (by decide) (fun h36 => ?_) (fun h36 => ?_)
      · replace hf := gpos hf h36
        exact b_M_text_211 X hf hZ31 hS31 (lv_sub hl [] rfl)
      · replace hf := gneg hf h36
        refine lv_aload_n hx hb (D_42 W_prog_15_method_40_code_128 23 rfl rfl) rfl (lv_at hl 1 rfl) ?_
        refine va_gets hx hb (hX.2.2.2.1 _ (List.mem_of_getElem? (i := 7) rfl) :) hS31 hown (hts _ k_10_219) (fun _ h => h) (D_178 W_prog_15_method_40_code_128 24 rfl rfl rfl) ?_
        refine W.eq (g2 := F0 m 155 ls [.long (lI 508675318629), .ref (ad 14 0 0)]) rfl ?_
        obtain ⟨r37, F37, B37, hc37, hf⟩ := gbind hf
        refine va_calli (va_runV (As := [.long (lI 508675318629)]) (rest := []) ⟨hx, hb, hml, hown, hts⟩ (c_M_isWord (l := l) hc37) (cwV 1 hts (gdV k_14_112 k_14_114 ks_200 k_1_9 k_14_115) rfl rfl rfl (by decide +kernel) ⟨Nat.le_of_ble_eq_true rfl, Nat.le_of_ble_eq_true rfl⟩) (zPV X hZ31 hS31 (ci := 14) (by decide) (by decide) (r := (RX14, TX14, 107)) rfl [.long (lI 508675318629)]) rfl rfl hl.1 rfl (lv_room (Nat.le_of_ble_eq_true rfl)) (D_182 W_prog_15_method_40_code_128 27 rfl rfl rfl) ⟨Nat.le_of_ble_eq_true rfl, Nat.le_of_ble_eq_true rfl⟩) hS31 (fun q _ h => zAin X hS31 q h) (zAin X hS31) (fun p37 u37 t37 H37 locs37 ht37 hv37 hw37 hB37 hz37 hk37 hS37 => ?_)
        have hZ37 := zBack X ht37 hB37
        subst hw37
        obtain ⟨g38, hf⟩ := gif hf
        refine z0eq (tgt := 179) hx hb g38 (D_153 W_prog_15_method_40_code_128 30 rfl rfl rfl) (by decide) (fun h39 => ?_) (fun h39 => ?_)
        · replace hf := gpos hf h39
          exact b_M_text_179 X ih hf hZ37 hS37 (lv_sub hl [1] rfl)
        · replace hf := gneg hf h39
          refine lv_aload_n hx hb (D_42 W_prog_15_method_40_code_160 1 rfl rfl) rfl (lv_at hl 1 rfl) ?_
          refine zget (ci := 14) (C := RX14) (T := TX14) (v := va_rf (zrf ad 13 (F37 14 0 6))) (k := 6) hx hb hts inW_14 hown hK hZ37 (by decide) (by decide) rfl (by decide) k_11_4 rfl (D_180 W_prog_15_method_40_code_160 2 rfl rfl rfl) ?_
          obtain ⟨g40, hf⟩ := gif hf
          refine zunrf g40.1 ?_
          refine zget (ci := 13) (C := RX13) (T := TX13) (v := .int (iI (F37 13 (F37 14 0 6) 1))) (k := 1) hx hb hts inW_13 hown hK hZ37 g40.1 g40.2 rfl (by decide) k_9_126 rfl (D_180 W_prog_15_method_40_code_160 5 rfl rfl rfl) ?_
          refine lv_iconst (v := iI 4) hx hb (D_7 W_prog_15_method_40_code_160 8 rfl rfl) rfl ?_
          obtain ⟨g41, hf⟩ := gif hf
          refine zge (tgt := 179) hx hb g41 (by decide) (D_162 W_prog_15_method_40_code_160 9 rfl rfl rfl) (by decide) (fun h42 => ?_) (fun h42 => ?_)
          · replace hf := gpos hf h42
            exact b_M_text_179 X ih hf hZ37 hS37 (lv_sub hl [1] rfl)
          · replace hf := gneg hf h42
            refine lv_aload_n hx hb (D_42 W_prog_15_method_40_code_160 12 rfl rfl) rfl (lv_at hl 1 rfl) ?_
            obtain ⟨r43, F43, B43, hc43, hf⟩ := gbind hf
            refine va_callv (va_runV (As := []) (rest := []) ⟨hx, hb, hml, hown, hts⟩ (c_M_voiceText (l := l) hc43) (cwV 0 hts (gdV k_14_199 k_14_201 ks_221 k_1_9 k_14_202) rfl rfl rfl (by decide +kernel) ⟨Nat.le_of_ble_eq_true rfl, Nat.le_of_ble_eq_true rfl⟩) (zPV X hZ37 hS37 (ci := 14) (by decide) (by decide) (r := (RX14, TX14, 107)) rfl []) rfl rfl hl.1 rfl (lv_room (Nat.le_of_ble_eq_true rfl)) (D_182 W_prog_15_method_40_code_160 13 rfl rfl rfl) ⟨Nat.le_of_ble_eq_true rfl, Nat.le_of_ble_eq_true rfl⟩) hS37 (fun q _ h => zAin X hS37 q h) (zAin X hS37) (fun u43 t43 H43 locs43 ht43 hv43 hw43 hB43 hz43 hk43 hS43 => ?_)
            have hZ43 := zBack X ht43 hB43
            refine lv_goto (tgt := 183) hx hb (D_167 W_prog_15_method_40_code_160 16 rfl rfl rfl) (by decide) ?_
            exact b_M_text_183 X ih hf hZ43 hS43 (lv_sub hl [1] rfl)

def f_M_text_138 (K : Nat)  (F : zF) (B : zB) : zO := f_M_text_140 K K 1 F B
set_option maxHeartbeats 4000000 in
set_option maxRecDepth 100000 in
theorem b_M_text_138 {D : va_G} {ca : Nat → ClassId} {ad : Nat → Int → Nat → Nat} {L : List Nat} {aS vS : Nat → Nat} {A : Nat → Prop} {p : Program} {l : Launch} {e : Env} {s : State} {m : MethodId} {args : Array Value} {below : List Frame} {meth : Method} {c : Code} {K : Nat} {r : Int} {F9 : zF} {B9 : zB} (X : zX D ca L aS vS A p s m args meth c prog_15_method_40_code 2 (Option.none : Option Jvm.ClassFile.FieldType) "StaveHouseModel")  {F : zF} {B : zB} {H : Heap} {locs : List Loc} {ls : Array Slot} (hf : f_M_text_138 K  F B = some (r, F9, B9)) (hZ : zH D ca ad lnM nM L F B A H) (hS : va_S A s.heap H locs) (hl : lv_has ls 2 [(0, .ref (ad 14 0 0))]) : W p l e ({ frames := 49, cells := 0, slots := 0, locals := 1091 } : Room) s m args below meth c H locs 0 0 (MQ below (Q_M_text D ca ad L r F9 B9 A) args s 0 0 A) (F0 m 138 ls []) := by
  obtain ⟨hx, hb, hr, hml, hown, hts, hlk, hK, hA, hL, hX⟩ := id X
  replace hf : (f_M_text_140 K K 1 F B) = some (r, F9, B9) := hf
  refine lv_iconst (v := iI 1) hx hb (D_4 W_prog_15_method_40_code_128 10 rfl rfl) rfl ?_
  refine lv_istore_n (lv' := [(1, .int (iI 1)), (0, .ref (ad 14 0 0))]) hx hb (D_60 W_prog_15_method_40_code_128 11 rfl rfl) rfl hl (by decide) rfl (fun ls hl => ?_)
  exact b_M_text_140 X hf hZ hS (lv_sub hl [0, 1] rfl)

def f_M_text_131 (rec84 : zF → zB → zO) (K : Nat)  (F : zF) (B : zB) : zO := zbind (f_M_head K F B) (fun r30 F30 B30 => rec84 F30 B30)
set_option maxHeartbeats 4000000 in
set_option maxRecDepth 100000 in
theorem b_M_text_131 {D : va_G} {ca : Nat → ClassId} {ad : Nat → Int → Nat → Nat} {L : List Nat} {aS vS : Nat → Nat} {A : Nat → Prop} {p : Program} {l : Launch} {e : Env} {s : State} {m : MethodId} {args : Array Value} {below : List Frame} {meth : Method} {c : Code} {K : Nat} {r : Int} {F9 : zF} {B9 : zB} (X : zX D ca L aS vS A p s m args meth c prog_15_method_40_code 2 (Option.none : Option Jvm.ClassFile.FieldType) "StaveHouseModel") {rec84 : zF → zB → zO} (hrec84 : ∀  {F : zF} {B : zB} {H : Heap} {locs : List Loc} {ls : Array Slot}, rec84  F B = some (r, F9, B9) → zH D ca ad lnM nM L F B A H → va_S A s.heap H locs → lv_has ls 2 [(0, .ref (ad 14 0 0))] → W p l e ({ frames := 49, cells := 0, slots := 0, locals := 1091 } : Room) s m args below meth c H locs 0 0 (MQ below (Q_M_text D ca ad L r F9 B9 A) args s 0 0 A) (F0 m 84 ls []))  {F : zF} {B : zB} {H : Heap} {locs : List Loc} {ls : Array Slot} (hf : f_M_text_131 rec84 K  F B = some (r, F9, B9)) (hZ : zH D ca ad lnM nM L F B A H) (hS : va_S A s.heap H locs) (hl : lv_has ls 2 [(0, .ref (ad 14 0 0))]) : W p l e ({ frames := 49, cells := 0, slots := 0, locals := 1091 } : Room) s m args below meth c H locs 0 0 (MQ below (Q_M_text D ca ad L r F9 B9 A) args s 0 0 A) (F0 m 131 ls []) := by
  obtain ⟨hx, hb, hr, hml, hown, hts, hlk, hK, hA, hL, hX⟩ := id X
  replace hf : (zbind (f_M_head K F B) (fun r30 F30 B30 => rec84 F30 B30)) = some (r, F9, B9) := hf
  refine lv_aload_n hx hb (D_42 W_prog_15_method_40_code_128 3 rfl rfl) rfl (lv_at hl 0 rfl) ?_
  obtain ⟨r30, F30, B30, hc30, hf⟩ := gbind hf
  refine va_callv (va_runV (As := []) (rest := []) ⟨hx, hb, hml, hown, hts⟩ (c_M_head (l := l) hc30) (cwV 0 hts (gdV k_14_116 k_14_118 ks_201 k_1_9 k_14_119) rfl rfl rfl (by decide +kernel) ⟨Nat.le_of_ble_eq_true rfl, Nat.le_of_ble_eq_true rfl⟩) (zPV X hZ hS (ci := 14) (by decide) (by decide) (r := (RX14, TX14, 107)) rfl []) rfl rfl hl.1 rfl (lv_room (Nat.le_of_ble_eq_true rfl)) (D_182 W_prog_15_method_40_code_128 4 rfl rfl rfl) ⟨Nat.le_of_ble_eq_true rfl, Nat.le_of_ble_eq_true rfl⟩) hS (fun q _ h => zAin X hS q h) (zAin X hS) (fun u30 t30 H30 locs30 ht30 hv30 hw30 hB30 hz30 hk30 hS30 => ?_)
  have hZ30 := zBack X ht30 hB30
  refine lv_goto (tgt := 84) hx hb (D_167 W_prog_15_method_40_code_128 7 rfl rfl rfl) (by decide) ?_
  exact hrec84 hf hZ30 hS30 (lv_sub hl [0] rfl)

def f_M_text_84 (K : Nat) : Nat → zF → zB → zO
  | 0, _, _ => none
  | n + 1, F, B => zbind (f_M_good K F B) (fun r15 F15 B15 => if r32 r15 then (if r15 = 0 then f_M_text_138 K F15 B15 else zbind (f_M_isWord K 7038329 F15 B15) (fun r18 F18 B18 => if r32 r18 then (if r18 = 0 then zbind (f_M_isWord K 1953066341 F18 B18) (fun r21 F21 B21 => if r32 r21 then (if r21 = 0 then zbind (f_M_isWord K 499917877359 F21 B21) (fun r24 F24 B24 => if r32 r24 then (if r24 = 0 then zbind (f_M_isWord K 7103860 F24 B24) (fun r27 F27 B27 => if r32 r27 then (if r27 = 0 then f_M_text_138 K F27 B27 else f_M_text_131 (f_M_text_84 K n) K F27 B27) else none) else f_M_text_131 (f_M_text_84 K n) K F24 B24) else none) else f_M_text_131 (f_M_text_84 K n) K F21 B21) else none) else f_M_text_131 (f_M_text_84 K n) K F18 B18) else none)) else none)
set_option maxHeartbeats 4000000 in
set_option maxRecDepth 100000 in
theorem b_M_text_84 {D : va_G} {ca : Nat → ClassId} {ad : Nat → Int → Nat → Nat} {L : List Nat} {aS vS : Nat → Nat} {A : Nat → Prop} {p : Program} {l : Launch} {e : Env} {s : State} {m : MethodId} {args : Array Value} {below : List Frame} {meth : Method} {c : Code} {K : Nat} {r : Int} {F9 : zF} {B9 : zB} (X : zX D ca L aS vS A p s m args meth c prog_15_method_40_code 2 (Option.none : Option Jvm.ClassFile.FieldType) "StaveHouseModel") : ∀ {n : Nat}  {F : zF} {B : zB} {H : Heap} {locs : List Loc} {ls : Array Slot}, f_M_text_84 K n  F B = some (r, F9, B9) → zH D ca ad lnM nM L F B A H → va_S A s.heap H locs → lv_has ls 2 [(0, .ref (ad 14 0 0))] → W p l e ({ frames := 49, cells := 0, slots := 0, locals := 1091 } : Room) s m args below meth c H locs 0 0 (MQ below (Q_M_text D ca ad L r F9 B9 A) args s 0 0 A) (F0 m 84 ls []) := by
  obtain ⟨hx, hb, hr, hml, hown, hts, hlk, hK, hA, hL, hX⟩ := id X
  intro n
  induction n with
  | zero =>
    intros
    rename_i hf _ _ _
    cases hf
  | succ n ih =>
    intro F B H locs ls hf hZ hS hl
    replace hf : (zbind (f_M_good K F B) (fun r15 F15 B15 => if r32 r15 then (if r15 = 0 then f_M_text_138 K F15 B15 else zbind (f_M_isWord K 7038329 F15 B15) (fun r18 F18 B18 => if r32 r18 then (if r18 = 0 then zbind (f_M_isWord K 1953066341 F18 B18) (fun r21 F21 B21 => if r32 r21 then (if r21 = 0 then zbind (f_M_isWord K 499917877359 F21 B21) (fun r24 F24 B24 => if r32 r24 then (if r24 = 0 then zbind (f_M_isWord K 7103860 F24 B24) (fun r27 F27 B27 => if r32 r27 then (if r27 = 0 then f_M_text_138 K F27 B27 else f_M_text_131 (f_M_text_84 K n) K F27 B27) else none) else f_M_text_131 (f_M_text_84 K n) K F24 B24) else none) else f_M_text_131 (f_M_text_84 K n) K F21 B21) else none) else f_M_text_131 (f_M_text_84 K n) K F18 B18) else none)) else none)) = some (r, F9, B9) := hf
    refine lv_aload_n hx hb (D_42 W_prog_15_method_40_code_64 20 rfl rfl) rfl (lv_at hl 0 rfl) ?_
    obtain ⟨r15, F15, B15, hc15, hf⟩ := gbind hf
    refine va_calli (va_runV (As := []) (rest := []) ⟨hx, hb, hml, hown, hts⟩ (c_M_good (l := l) hc15) (cwV 0 hts (gdV k_13_15 k_13_17 ks_152 k_1_9 k_13_18) rfl rfl rfl (by decide +kernel) ⟨Nat.le_of_ble_eq_true rfl, Nat.le_of_ble_eq_true rfl⟩) (zPV X hZ hS (ci := 14) (by decide) (by decide) (r := (RX14, TX14, 107)) rfl []) rfl rfl hl.1 rfl (lv_room (Nat.le_of_ble_eq_true rfl)) (D_182 W_prog_15_method_40_code_64 21 rfl rfl rfl) ⟨Nat.le_of_ble_eq_true rfl, Nat.le_of_ble_eq_true rfl⟩) hS (fun q _ h => zAin X hS q h) (zAin X hS) (fun p15 u15 t15 H15 locs15 ht15 hv15 hw15 hB15 hz15 hk15 hS15 => ?_)
    have hZ15 := zBack X ht15 hB15
    subst hw15
    obtain ⟨g16, hf⟩ := gif hf
    refine z0eq (tgt := 138) hx hb g16 (D_153 W_prog_15_method_40_code_64 24 rfl rfl rfl) (by decide) (fun h17 => ?_) (fun h17 => ?_)
    · replace hf := gpos hf h17
      exact b_M_text_138 X hf hZ15 hS15 (lv_sub hl [0] rfl)
    · replace hf := gneg hf h17
      refine lv_aload_n hx hb (D_42 W_prog_15_method_40_code_64 27 rfl rfl) rfl (lv_at hl 0 rfl) ?_
      refine va_gets hx hb (hX.2.2.2.1 _ (List.mem_of_getElem? (i := 1) rfl) :) hS15 hown (hts _ k_10_207) (fun _ h => h) (D_178 W_prog_15_method_40_code_64 28 rfl rfl rfl) ?_
      refine W.eq (g2 := F0 m 95 ls [.long (lI 7038329), .ref (ad 14 0 0)]) rfl ?_
      obtain ⟨r18, F18, B18, hc18, hf⟩ := gbind hf
      refine va_calli (va_runV (As := [.long (lI 7038329)]) (rest := []) ⟨hx, hb, hml, hown, hts⟩ (c_M_isWord (l := l) hc18) (cwV 1 hts (gdV k_14_112 k_14_114 ks_200 k_1_9 k_14_115) rfl rfl rfl (by decide +kernel) ⟨Nat.le_of_ble_eq_true rfl, Nat.le_of_ble_eq_true rfl⟩) (zPV X hZ15 hS15 (ci := 14) (by decide) (by decide) (r := (RX14, TX14, 107)) rfl [.long (lI 7038329)]) rfl rfl hl.1 rfl (lv_room (Nat.le_of_ble_eq_true rfl)) (D_182 W_prog_15_method_40_code_64 31 rfl rfl rfl) ⟨Nat.le_of_ble_eq_true rfl, Nat.le_of_ble_eq_true rfl⟩) hS15 (fun q _ h => zAin X hS15 q h) (zAin X hS15) (fun p18 u18 t18 H18 locs18 ht18 hv18 hw18 hB18 hz18 hk18 hS18 => ?_)
      have hZ18 := zBack X ht18 hB18
      subst hw18
      obtain ⟨g19, hf⟩ := gif hf
      refine z0ne (tgt := 131) hx hb g19 (D_154 W_prog_15_method_40_code_96 2 rfl rfl rfl) (by decide) (fun h20 => ?_) (fun h20 => ?_)
      · replace hf := gneg hf h20
        exact b_M_text_131 X ih hf hZ18 hS18 (lv_sub hl [0] rfl)
      · replace hf := gpos hf h20
        refine lv_aload_n hx hb (D_42 W_prog_15_method_40_code_96 5 rfl rfl) rfl (lv_at hl 0 rfl) ?_
        refine va_gets hx hb (hX.2.2.2.1 _ (List.mem_of_getElem? (i := 4) rfl) :) hS18 hown (hts _ k_10_213) (fun _ h => h) (D_178 W_prog_15_method_40_code_96 6 rfl rfl rfl) ?_
        refine W.eq (g2 := F0 m 105 ls [.long (lI 1953066341), .ref (ad 14 0 0)]) rfl ?_
        obtain ⟨r21, F21, B21, hc21, hf⟩ := gbind hf
        refine va_calli (va_runV (As := [.long (lI 1953066341)]) (rest := []) ⟨hx, hb, hml, hown, hts⟩ (c_M_isWord (l := l) hc21) (cwV 1 hts (gdV k_14_112 k_14_114 ks_200 k_1_9 k_14_115) rfl rfl rfl (by decide +kernel) ⟨Nat.le_of_ble_eq_true rfl, Nat.le_of_ble_eq_true rfl⟩) (zPV X hZ18 hS18 (ci := 14) (by decide) (by decide) (r := (RX14, TX14, 107)) rfl [.long (lI 1953066341)]) rfl rfl hl.1 rfl (lv_room (Nat.le_of_ble_eq_true rfl)) (D_182 W_prog_15_method_40_code_96 9 rfl rfl rfl) ⟨Nat.le_of_ble_eq_true rfl, Nat.le_of_ble_eq_true rfl⟩) hS18 (fun q _ h => zAin X hS18 q h) (zAin X hS18) (fun p21 u21 t21 H21 locs21 ht21 hv21 hw21 hB21 hz21 hk21 hS21 => ?_)
        have hZ21 := zBack X ht21 hB21
        subst hw21
        obtain ⟨g22, hf⟩ := gif hf
        refine z0ne (tgt := 131) hx hb g22 (D_154 W_prog_15_method_40_code_96 12 rfl rfl rfl) (by decide) (fun h23 => ?_) (fun h23 => ?_)
        · replace hf := gneg hf h23
          exact b_M_text_131 X ih hf hZ21 hS21 (lv_sub hl [0] rfl)
        · replace hf := gpos hf h23
          refine lv_aload_n hx hb (D_42 W_prog_15_method_40_code_96 15 rfl rfl) rfl (lv_at hl 0 rfl) ?_
          refine va_gets hx hb (hX.2.2.2.1 _ (List.mem_of_getElem? (i := 5) rfl) :) hS21 hown (hts _ k_10_215) (fun _ h => h) (D_178 W_prog_15_method_40_code_96 16 rfl rfl rfl) ?_
          refine W.eq (g2 := F0 m 115 ls [.long (lI 499917877359), .ref (ad 14 0 0)]) rfl ?_
          obtain ⟨r24, F24, B24, hc24, hf⟩ := gbind hf
          refine va_calli (va_runV (As := [.long (lI 499917877359)]) (rest := []) ⟨hx, hb, hml, hown, hts⟩ (c_M_isWord (l := l) hc24) (cwV 1 hts (gdV k_14_112 k_14_114 ks_200 k_1_9 k_14_115) rfl rfl rfl (by decide +kernel) ⟨Nat.le_of_ble_eq_true rfl, Nat.le_of_ble_eq_true rfl⟩) (zPV X hZ21 hS21 (ci := 14) (by decide) (by decide) (r := (RX14, TX14, 107)) rfl [.long (lI 499917877359)]) rfl rfl hl.1 rfl (lv_room (Nat.le_of_ble_eq_true rfl)) (D_182 W_prog_15_method_40_code_96 19 rfl rfl rfl) ⟨Nat.le_of_ble_eq_true rfl, Nat.le_of_ble_eq_true rfl⟩) hS21 (fun q _ h => zAin X hS21 q h) (zAin X hS21) (fun p24 u24 t24 H24 locs24 ht24 hv24 hw24 hB24 hz24 hk24 hS24 => ?_)
          have hZ24 := zBack X ht24 hB24
          subst hw24
          obtain ⟨g25, hf⟩ := gif hf
          refine z0ne (tgt := 131) hx hb g25 (D_154 W_prog_15_method_40_code_96 22 rfl rfl rfl) (by decide) (fun h26 => ?_) (fun h26 => ?_)
          · replace hf := gneg hf h26
            exact b_M_text_131 X ih hf hZ24 hS24 (lv_sub hl [0] rfl)
          · replace hf := gpos hf h26
            refine lv_aload_n hx hb (D_42 W_prog_15_method_40_code_96 25 rfl rfl) rfl (lv_at hl 0 rfl) ?_
            refine va_gets hx hb (hX.2.2.2.1 _ (List.mem_of_getElem? (i := 6) rfl) :) hS24 hown (hts _ k_10_217) (fun _ h => h) (D_178 W_prog_15_method_40_code_96 26 rfl rfl rfl) ?_
            refine W.eq (g2 := F0 m 125 ls [.long (lI 7103860), .ref (ad 14 0 0)]) rfl ?_
            obtain ⟨r27, F27, B27, hc27, hf⟩ := gbind hf
            refine va_calli (va_runV (As := [.long (lI 7103860)]) (rest := []) ⟨hx, hb, hml, hown, hts⟩ (c_M_isWord (l := l) hc27) (cwV 1 hts (gdV k_14_112 k_14_114 ks_200 k_1_9 k_14_115) rfl rfl rfl (by decide +kernel) ⟨Nat.le_of_ble_eq_true rfl, Nat.le_of_ble_eq_true rfl⟩) (zPV X hZ24 hS24 (ci := 14) (by decide) (by decide) (r := (RX14, TX14, 107)) rfl [.long (lI 7103860)]) rfl rfl hl.1 rfl (lv_room (Nat.le_of_ble_eq_true rfl)) (D_182 W_prog_15_method_40_code_96 29 rfl rfl rfl) ⟨Nat.le_of_ble_eq_true rfl, Nat.le_of_ble_eq_true rfl⟩) hS24 (fun q _ h => zAin X hS24 q h) (zAin X hS24) (fun p27 u27 t27 H27 locs27 ht27 hv27 hw27 hB27 hz27 hk27 hS27 => ?_)
            have hZ27 := zBack X ht27 hB27
            subst hw27
            obtain ⟨g28, hf⟩ := gif hf
            refine z0eq (tgt := 138) hx hb g28 (D_153 W_prog_15_method_40_code_128 0 rfl rfl rfl) (by decide) (fun h29 => ?_) (fun h29 => ?_)
            · replace hf := gpos hf h29
              exact b_M_text_138 X hf hZ27 hS27 (lv_sub hl [0] rfl)
            · replace hf := gneg hf h29
              exact b_M_text_131 X ih hf hZ27 hS27 (lv_sub hl [0] rfl)

def f_M_text (K : Nat)  (F : zF) (B : zB) : zO := if 0 ≤ (F 14 0 6) ∧ (F 14 0 6) < 3 then f_M_text_84 K K (zup3 (zup3 (zup3 (zup3 (zup3 (zup3 (zup3 (zup3 (zup3 (zup3 (zup3 (zup3 (zup3 F 14 0 16 0) 14 0 17 0) 14 0 19 0) 14 0 27 0) 14 0 22 0) 14 0 23 0) 14 0 24 0) 13 (F 14 0 6) 1 0) 13 (F 14 0 6) 2 0) 13 (F 14 0 6) 3 0) 13 (F 14 0 6) 4 4) 13 (F 14 0 6) 5 4) 13 (F 14 0 6) 6 120) B else none
set_option maxHeartbeats 4000000 in
set_option maxRecDepth 100000 in
theorem c_M_text {l : Launch} {D : va_G} {ca : Nat → ClassId} {ad : Nat → Int → Nat → Nat} {L : List Nat} {aS vS : Nat → Nat} {sz K : Nat}   {F F9 : zF} {B B9 : zB} {r : Int} (hf : f_M_text K  F B = some (r, F9, B9)) : Met l ({ cls := "StaveHouseModel", name := "text", desc := "()V" } : Jvm.MethodName) (Cond.code ({ cls := "StaveHouseModel", name := "text", desc := "()V" } : Jvm.MethodName) prog_15_method_40_code 2 (Option.none : Option Jvm.ClassFile.FieldType) :: wAll) ({ frames := 49, cells := 0, slots := 0, locals := 1091 } : Room) (va_Pc [.ref (ad 14 0 0)] (zPre D ca ad lnM nM L aS vS F B sz)) (Q_M_text D ca ad L r F9 B9 (zA L sz)) 0 0 (zA L sz) := by
  refine zMet (Qc := Q_M_text D ca ad L r F9 B9) (lv := [(0, .ref (ad 14 0 0))]) (by decide) (Nat.le_of_ble_eq_true rfl) rfl (fun A p e s m below meth c ls X hZ hS hl => ?_)
  obtain ⟨hx, hb, hr, hml, hown, hts, hlk, hK, hA, hL, hX⟩ := id X
  replace hf : (if 0 ≤ (F 14 0 6) ∧ (F 14 0 6) < 3 then f_M_text_84 K K (zup3 (zup3 (zup3 (zup3 (zup3 (zup3 (zup3 (zup3 (zup3 (zup3 (zup3 (zup3 (zup3 F 14 0 16 0) 14 0 17 0) 14 0 19 0) 14 0 27 0) 14 0 22 0) 14 0 23 0) 14 0 24 0) 13 (F 14 0 6) 1 0) 13 (F 14 0 6) 2 0) 13 (F 14 0 6) 3 0) 13 (F 14 0 6) 4 4) 13 (F 14 0 6) 5 4) 13 (F 14 0 6) 6 120) B else none) = some (r, F9, B9) := hf
  refine lv_aload_n hx hb (D_42 W_prog_15_method_40_code_0 0 rfl rfl) rfl (lv_at hl 0 rfl) ?_
  refine lv_iconst (v := iI 0) hx hb (D_3 W_prog_15_method_40_code_0 1 rfl rfl) rfl ?_
  refine zput (ci := 14) (C := RX14) (T := TX14) (k := 16) (v := 0) (w := .int (iI 0)) hx hb hts inW_14 tyX14 tyX14_ok nmX14 hown hK hZ hS (by decide) (by decide) rfl (by decide) k_11_14 rfl (fun G h => congrArg (fun q => Value.int (iI q)) h) rfl rfl (zno (by decide)) (D_181 W_prog_15_method_40_code_0 2 rfl rfl rfl) (fun H1 locs1 hZ1 hS1 => ?_)
  refine lv_aload_n hx hb (D_42 W_prog_15_method_40_code_0 5 rfl rfl) rfl (lv_at hl 0 rfl) ?_
  refine lv_iconst (v := iI 0) hx hb (D_3 W_prog_15_method_40_code_0 6 rfl rfl) rfl ?_
  refine zput (ci := 14) (C := RX14) (T := TX14) (k := 17) (v := 0) (w := .int (iI 0)) hx hb hts inW_14 tyX14 tyX14_ok nmX14 hown hK hZ1 hS1 (by decide) (by decide) rfl (by decide) k_11_15 rfl (fun G h => congrArg (fun q => Value.int (iI q)) h) rfl rfl (zno (by decide)) (D_181 W_prog_15_method_40_code_0 7 rfl rfl rfl) (fun H2 locs2 hZ2 hS2 => ?_)
  refine lv_aload_n hx hb (D_42 W_prog_15_method_40_code_0 10 rfl rfl) rfl (lv_at hl 0 rfl) ?_
  refine lv_iconst (v := iI 0) hx hb (D_3 W_prog_15_method_40_code_0 11 rfl rfl) rfl ?_
  refine zput (ci := 14) (C := RX14) (T := TX14) (k := 19) (v := 0) (w := .int (iI 0)) hx hb hts inW_14 tyX14 tyX14_ok nmX14 hown hK hZ2 hS2 (by decide) (by decide) rfl (by decide) k_11_17 rfl (fun G h => congrArg (fun q => Value.int (iI q)) h) rfl rfl (zno (by decide)) (D_181 W_prog_15_method_40_code_0 12 rfl rfl rfl) (fun H3 locs3 hZ3 hS3 => ?_)
  refine lv_aload_n hx hb (D_42 W_prog_15_method_40_code_0 15 rfl rfl) rfl (lv_at hl 0 rfl) ?_
  refine lv_iconst (v := iI 0) hx hb (D_3 W_prog_15_method_40_code_0 16 rfl rfl) rfl ?_
  refine zput (ci := 14) (C := RX14) (T := TX14) (k := 27) (v := 0) (w := .int (iI 0)) hx hb hts inW_14 tyX14 tyX14_ok nmX14 hown hK hZ3 hS3 (by decide) (by decide) rfl (by decide) k_11_25 rfl (fun G h => congrArg (fun q => Value.int (iI q)) h) rfl rfl (zno (by decide)) (D_181 W_prog_15_method_40_code_0 17 rfl rfl rfl) (fun H4 locs4 hZ4 hS4 => ?_)
  refine lv_aload_n hx hb (D_42 W_prog_15_method_40_code_0 20 rfl rfl) rfl (lv_at hl 0 rfl) ?_
  refine lv_iconst (v := iI 0) hx hb (D_3 W_prog_15_method_40_code_0 21 rfl rfl) rfl ?_
  refine zput (ci := 14) (C := RX14) (T := TX14) (k := 22) (v := 0) (w := .int (iI 0)) hx hb hts inW_14 tyX14 tyX14_ok nmX14 hown hK hZ4 hS4 (by decide) (by decide) rfl (by decide) k_11_20 rfl (fun G h => congrArg (fun q => Value.int (iI q)) h) rfl rfl (zno (by decide)) (D_181 W_prog_15_method_40_code_0 22 rfl rfl rfl) (fun H5 locs5 hZ5 hS5 => ?_)
  refine lv_aload_n hx hb (D_42 W_prog_15_method_40_code_0 25 rfl rfl) rfl (lv_at hl 0 rfl) ?_
  refine lv_iconst (v := iI 0) hx hb (D_3 W_prog_15_method_40_code_0 26 rfl rfl) rfl ?_
  refine zput (ci := 14) (C := RX14) (T := TX14) (k := 23) (v := 0) (w := .int (iI 0)) hx hb hts inW_14 tyX14 tyX14_ok nmX14 hown hK hZ5 hS5 (by decide) (by decide) rfl (by decide) k_11_21 rfl (fun G h => congrArg (fun q => Value.int (iI q)) h) rfl rfl (zno (by decide)) (D_181 W_prog_15_method_40_code_0 27 rfl rfl rfl) (fun H6 locs6 hZ6 hS6 => ?_)
  refine lv_aload_n hx hb (D_42 W_prog_15_method_40_code_0 30 rfl rfl) rfl (lv_at hl 0 rfl) ?_
  refine lv_iconst (v := iI 0) hx hb (D_3 W_prog_15_method_40_code_0 31 rfl rfl) rfl ?_
  refine zput (ci := 14) (C := RX14) (T := TX14) (k := 24) (v := 0) (w := .int (iI 0)) hx hb hts inW_14 tyX14 tyX14_ok nmX14 hown hK hZ6 hS6 (by decide) (by decide) rfl (by decide) k_11_22 rfl (fun G h => congrArg (fun q => Value.int (iI q)) h) rfl rfl (zno (by decide)) (D_181 W_prog_15_method_40_code_32 0 rfl rfl rfl) (fun H7 locs7 hZ7 hS7 => ?_)
  refine lv_aload_n hx hb (D_42 W_prog_15_method_40_code_32 3 rfl rfl) rfl (lv_at hl 0 rfl) ?_
  refine zget (ci := 14) (C := RX14) (T := TX14) (v := va_rf (zrf ad 13 (F 14 0 6))) (k := 6) hx hb hts inW_14 hown hK hZ7 (by decide) (by decide) rfl (by decide) k_11_4 rfl (D_180 W_prog_15_method_40_code_32 4 rfl rfl rfl) ?_
  refine lv_iconst (v := iI 0) hx hb (D_3 W_prog_15_method_40_code_32 7 rfl rfl) rfl ?_
  obtain ⟨g8, hf⟩ := gif hf
  refine W.eq (g2 := F0 m 40 ls [.int (iI 0), .ref (ad 13 (F 14 0 6) 0)]) (by rw [zrf_pos (ad := ad) (t := 13) g8.1]; try rfl) ?_
  refine zput (ci := 13) (C := RX13) (T := TX13) (k := 1) (v := 0) (w := .int (iI 0)) hx hb hts inW_13 tyX13 tyX13_ok nmX13 hown hK hZ7 hS7 g8.1 g8.2 rfl (by decide) k_9_126 rfl (fun G h => congrArg (fun q => Value.int (iI q)) h) rfl rfl (zno (by decide)) (D_181 W_prog_15_method_40_code_32 8 rfl rfl rfl) (fun H9 locs9 hZ9 hS9 => ?_)
  refine lv_aload_n hx hb (D_42 W_prog_15_method_40_code_32 11 rfl rfl) rfl (lv_at hl 0 rfl) ?_
  refine zget (ci := 14) (C := RX14) (T := TX14) (v := va_rf (zrf ad 13 (F 14 0 6))) (k := 6) hx hb hts inW_14 hown hK hZ9 (by decide) (by decide) rfl (by decide) k_11_4 (congrArg (fun q : Int => va_rf (zrf ad 13 q)) (show (zup3 (zup3 (zup3 (zup3 (zup3 (zup3 (zup3 (zup3 F 14 0 16 0) 14 0 17 0) 14 0 19 0) 14 0 27 0) 14 0 22 0) 14 0 23 0) 14 0 24 0) 13 (F 14 0 6) 1 0) 14 0 6 = F 14 0 6 by simp [zup3])) (D_180 W_prog_15_method_40_code_32 12 rfl rfl rfl) ?_
  refine lv_iconst (v := iI 0) hx hb (D_3 W_prog_15_method_40_code_32 15 rfl rfl) rfl ?_
  refine W.eq (g2 := F0 m 48 ls [.int (iI 0), .ref (ad 13 (F 14 0 6) 0)]) (by rw [zrf_pos (ad := ad) (t := 13) g8.1]; try rfl) ?_
  refine zput (ci := 13) (C := RX13) (T := TX13) (k := 2) (v := 0) (w := .int (iI 0)) hx hb hts inW_13 tyX13 tyX13_ok nmX13 hown hK hZ9 hS9 g8.1 g8.2 rfl (by decide) k_9_127 rfl (fun G h => congrArg (fun q => Value.int (iI q)) h) rfl rfl (zno (by decide)) (D_181 W_prog_15_method_40_code_32 16 rfl rfl rfl) (fun H10 locs10 hZ10 hS10 => ?_)
  refine lv_aload_n hx hb (D_42 W_prog_15_method_40_code_32 19 rfl rfl) rfl (lv_at hl 0 rfl) ?_
  refine zget (ci := 14) (C := RX14) (T := TX14) (v := va_rf (zrf ad 13 (F 14 0 6))) (k := 6) hx hb hts inW_14 hown hK hZ10 (by decide) (by decide) rfl (by decide) k_11_4 (congrArg (fun q : Int => va_rf (zrf ad 13 q)) (show (zup3 (zup3 (zup3 (zup3 (zup3 (zup3 (zup3 (zup3 (zup3 F 14 0 16 0) 14 0 17 0) 14 0 19 0) 14 0 27 0) 14 0 22 0) 14 0 23 0) 14 0 24 0) 13 (F 14 0 6) 1 0) 13 (F 14 0 6) 2 0) 14 0 6 = F 14 0 6 by simp [zup3])) (D_180 W_prog_15_method_40_code_32 20 rfl rfl rfl) ?_
  refine lv_iconst (v := iI 0) hx hb (D_3 W_prog_15_method_40_code_32 23 rfl rfl) rfl ?_
  refine W.eq (g2 := F0 m 56 ls [.int (iI 0), .ref (ad 13 (F 14 0 6) 0)]) (by rw [zrf_pos (ad := ad) (t := 13) g8.1]; try rfl) ?_
  refine zput (ci := 13) (C := RX13) (T := TX13) (k := 3) (v := 0) (w := .int (iI 0)) hx hb hts inW_13 tyX13 tyX13_ok nmX13 hown hK hZ10 hS10 g8.1 g8.2 rfl (by decide) k_9_128 rfl (fun G h => congrArg (fun q => Value.int (iI q)) h) rfl rfl (zno (by decide)) (D_181 W_prog_15_method_40_code_32 24 rfl rfl rfl) (fun H11 locs11 hZ11 hS11 => ?_)
  refine lv_aload_n hx hb (D_42 W_prog_15_method_40_code_32 27 rfl rfl) rfl (lv_at hl 0 rfl) ?_
  refine zget (ci := 14) (C := RX14) (T := TX14) (v := va_rf (zrf ad 13 (F 14 0 6))) (k := 6) hx hb hts inW_14 hown hK hZ11 (by decide) (by decide) rfl (by decide) k_11_4 (congrArg (fun q : Int => va_rf (zrf ad 13 q)) (show (zup3 (zup3 (zup3 (zup3 (zup3 (zup3 (zup3 (zup3 (zup3 (zup3 F 14 0 16 0) 14 0 17 0) 14 0 19 0) 14 0 27 0) 14 0 22 0) 14 0 23 0) 14 0 24 0) 13 (F 14 0 6) 1 0) 13 (F 14 0 6) 2 0) 13 (F 14 0 6) 3 0) 14 0 6 = F 14 0 6 by simp [zup3])) (D_180 W_prog_15_method_40_code_32 28 rfl rfl rfl) ?_
  refine lv_iconst (v := iI 4) hx hb (D_7 W_prog_15_method_40_code_32 31 rfl rfl) rfl ?_
  refine W.eq (g2 := F0 m 64 ls [.int (iI 4), .ref (ad 13 (F 14 0 6) 0)]) (by rw [zrf_pos (ad := ad) (t := 13) g8.1]; try rfl) ?_
  refine zput (ci := 13) (C := RX13) (T := TX13) (k := 4) (v := 4) (w := .int (iI 4)) hx hb hts inW_13 tyX13 tyX13_ok nmX13 hown hK hZ11 hS11 g8.1 g8.2 rfl (by decide) k_9_129 rfl (fun G h => congrArg (fun q => Value.int (iI q)) h) rfl rfl (zno (by decide)) (D_181 W_prog_15_method_40_code_64 0 rfl rfl rfl) (fun H12 locs12 hZ12 hS12 => ?_)
  refine lv_aload_n hx hb (D_42 W_prog_15_method_40_code_64 3 rfl rfl) rfl (lv_at hl 0 rfl) ?_
  refine zget (ci := 14) (C := RX14) (T := TX14) (v := va_rf (zrf ad 13 (F 14 0 6))) (k := 6) hx hb hts inW_14 hown hK hZ12 (by decide) (by decide) rfl (by decide) k_11_4 (congrArg (fun q : Int => va_rf (zrf ad 13 q)) (show (zup3 (zup3 (zup3 (zup3 (zup3 (zup3 (zup3 (zup3 (zup3 (zup3 (zup3 F 14 0 16 0) 14 0 17 0) 14 0 19 0) 14 0 27 0) 14 0 22 0) 14 0 23 0) 14 0 24 0) 13 (F 14 0 6) 1 0) 13 (F 14 0 6) 2 0) 13 (F 14 0 6) 3 0) 13 (F 14 0 6) 4 4) 14 0 6 = F 14 0 6 by simp [zup3])) (D_180 W_prog_15_method_40_code_64 4 rfl rfl rfl) ?_
  refine lv_iconst (v := iI 4) hx hb (D_7 W_prog_15_method_40_code_64 7 rfl rfl) rfl ?_
  refine W.eq (g2 := F0 m 72 ls [.int (iI 4), .ref (ad 13 (F 14 0 6) 0)]) (by rw [zrf_pos (ad := ad) (t := 13) g8.1]; try rfl) ?_
  refine zput (ci := 13) (C := RX13) (T := TX13) (k := 5) (v := 4) (w := .int (iI 4)) hx hb hts inW_13 tyX13 tyX13_ok nmX13 hown hK hZ12 hS12 g8.1 g8.2 rfl (by decide) k_9_130 rfl (fun G h => congrArg (fun q => Value.int (iI q)) h) rfl rfl (zno (by decide)) (D_181 W_prog_15_method_40_code_64 8 rfl rfl rfl) (fun H13 locs13 hZ13 hS13 => ?_)
  refine lv_aload_n hx hb (D_42 W_prog_15_method_40_code_64 11 rfl rfl) rfl (lv_at hl 0 rfl) ?_
  refine zget (ci := 14) (C := RX14) (T := TX14) (v := va_rf (zrf ad 13 (F 14 0 6))) (k := 6) hx hb hts inW_14 hown hK hZ13 (by decide) (by decide) rfl (by decide) k_11_4 (congrArg (fun q : Int => va_rf (zrf ad 13 q)) (show (zup3 (zup3 (zup3 (zup3 (zup3 (zup3 (zup3 (zup3 (zup3 (zup3 (zup3 (zup3 F 14 0 16 0) 14 0 17 0) 14 0 19 0) 14 0 27 0) 14 0 22 0) 14 0 23 0) 14 0 24 0) 13 (F 14 0 6) 1 0) 13 (F 14 0 6) 2 0) 13 (F 14 0 6) 3 0) 13 (F 14 0 6) 4 4) 13 (F 14 0 6) 5 4) 14 0 6 = F 14 0 6 by simp [zup3])) (D_180 W_prog_15_method_40_code_64 12 rfl rfl rfl) ?_
  refine lv_bipush (v := iI 120) hx hb (D_16 W_prog_15_method_40_code_64 15 rfl rfl rfl) (by decide) ?_
  refine W.eq (g2 := F0 m 81 ls [.int (iI 120), .ref (ad 13 (F 14 0 6) 0)]) (by rw [zrf_pos (ad := ad) (t := 13) g8.1]; try rfl) ?_
  refine zput (ci := 13) (C := RX13) (T := TX13) (k := 6) (v := 120) (w := .int (iI 120)) hx hb hts inW_13 tyX13 tyX13_ok nmX13 hown hK hZ13 hS13 g8.1 g8.2 rfl (by decide) k_9_131 rfl (fun G h => congrArg (fun q => Value.int (iI q)) h) rfl rfl (zno (by decide)) (D_181 W_prog_15_method_40_code_64 17 rfl rfl rfl) (fun H14 locs14 hZ14 hS14 => ?_)
  exact b_M_text_84 X hf hZ14 hS14 (lv_sub hl [0] rfl)

abbrev Q_M_walk (D : va_G) (ca : Nat → ClassId) (ad : Nat → Int → Nat → Nat) (L : List Nat) (r : Int) (F : zF) (B : zB) (A : Nat → Prop) : Array Value → State → Outcome → State → Prop := va_Qv (S := Unit) (fun _ => True) (fun _ => zPo D ca ad lnM nM L F B A) A
abbrev Q_M_go (D : va_G) (ca : Nat → ClassId) (ad : Nat → Int → Nat → Nat) (L : List Nat) (r : Int) (F : zF) (B : zB) (A : Nat → Prop) : Array Value → State → Outcome → State → Prop := va_Qv (S := Unit) (fun _ => True) (fun _ => zPo D ca ad lnM nM L F B A) A
abbrev Q_M_goSign (D : va_G) (ca : Nat → ClassId) (ad : Nat → Int → Nat → Nat) (L : List Nat) (r : Int) (F : zF) (B : zB) (A : Nat → Prop) : Array Value → State → Outcome → State → Prop := va_Qv (S := Unit) (fun _ => True) (fun _ => zPo D ca ad lnM nM L F B A) A
abbrev Q_M_goRepeat (D : va_G) (ca : Nat → ClassId) (ad : Nat → Int → Nat → Nat) (L : List Nat) (r : Int) (F : zF) (B : zB) (A : Nat → Prop) : Array Value → State → Outcome → State → Prop := va_Qv (S := Unit) (fun _ => True) (fun _ => zPo D ca ad lnM nM L F B A) A
abbrev Q_M_goUse (D : va_G) (ca : Nat → ClassId) (ad : Nat → Int → Nat → Nat) (L : List Nat) (r : Int) (F : zF) (B : zB) (A : Nat → Prop) : Array Value → State → Outcome → State → Prop := va_Qv (S := Unit) (fun _ => True) (fun _ => zPo D ca ad lnM nM L F B A) A
abbrev Q_M_goChange (D : va_G) (ca : Nat → ClassId) (ad : Nat → Int → Nat → Nat) (L : List Nat) (r : Int) (F : zF) (B : zB) (A : Nat → Prop) : Array Value → State → Outcome → State → Prop := va_Qv (S := Unit) (fun _ => True) (fun _ => zPo D ca ad lnM nM L F B A) A
abbrev Q_M_goBack (D : va_G) (ca : Nat → ClassId) (ad : Nat → Int → Nat → Nat) (L : List Nat) (r : Int) (F : zF) (B : zB) (A : Nat → Prop) : Array Value → State → Outcome → State → Prop := va_Qv (S := Unit) (fun _ => True) (fun _ => zPo D ca ad lnM nM L F B A) A
abbrev Q_M_goSlow (D : va_G) (ca : Nat → ClassId) (ad : Nat → Int → Nat → Nat) (L : List Nat) (r : Int) (F : zF) (B : zB) (A : Nat → Prop) : Array Value → State → Outcome → State → Prop := va_Qv (S := Unit) (fun _ => True) (fun _ => zPo D ca ad lnM nM L F B A) A
abbrev oT_W : Type := (Int → Int → zF → zB → zO) × (Int → zF → zB → zO) × (Int → zF → zB → zO) × (Int → zF → zB → zO) × (Int → zF → zB → zO) × (Int → zF → zB → zO) × (Int → zF → zB → zO) × (Int → zF → zB → zO)
def oH_W (l : Launch) (D : va_G) (ca : Nat → ClassId) (ad : Nat → Int → Nat → Nat) (L : List Nat) (aS vS : Nat → Nat) (d : Nat) (o : oT_W) : Prop := (∀ {sz : Nat} {l1 : Int} {l2 : Int} {F F9 : zF} {B B9 : zB} {r : Int}, o.1 l1 l2 F B = some (r, F9, B9) → Met l ({ cls := "StaveHouseModel", name := "walk", desc := "(II)V" } : Jvm.MethodName) (Cond.code ({ cls := "StaveHouseModel", name := "walk", desc := "(II)V" } : Jvm.MethodName) prog_15_method_54_code 4 (Option.none : Option Jvm.ClassFile.FieldType) :: wAll) ({ frames := d + 5, cells := 0, slots := 0, locals := 28 * d + 116 } : Room) (va_Pc [.ref (ad 14 0 0), .int (iI l1), .int (iI l2)] (zPre D ca ad lnM nM L aS vS F B sz)) (Q_M_walk D ca ad L r F9 B9 (zA L sz)) 0 0 (zA L sz)) ∧ (∀ {sz : Nat} {l1 : Int} {F F9 : zF} {B B9 : zB} {r : Int}, o.2.1 l1 F B = some (r, F9, B9) → Met l ({ cls := "StaveHouseModel", name := "go", desc := "(I)V" } : Jvm.MethodName) (Cond.code ({ cls := "StaveHouseModel", name := "go", desc := "(I)V" } : Jvm.MethodName) prog_15_method_56_code 2 (Option.none : Option Jvm.ClassFile.FieldType) :: wAll) ({ frames := d + 5, cells := 0, slots := 0, locals := 28 * d + 116 } : Room) (va_Pc [.ref (ad 14 0 0), .int (iI l1)] (zPre D ca ad lnM nM L aS vS F B sz)) (Q_M_go D ca ad L r F9 B9 (zA L sz)) 0 0 (zA L sz)) ∧ (∀ {sz : Nat} {l1 : Int} {F F9 : zF} {B B9 : zB} {r : Int}, o.2.2.1 l1 F B = some (r, F9, B9) → Met l ({ cls := "StaveHouseModel", name := "goSign", desc := "(I)V" } : Jvm.MethodName) (Cond.code ({ cls := "StaveHouseModel", name := "goSign", desc := "(I)V" } : Jvm.MethodName) prog_15_method_57_code 2 (Option.none : Option Jvm.ClassFile.FieldType) :: wAll) ({ frames := d + 5, cells := 0, slots := 0, locals := 28 * d + 116 } : Room) (va_Pc [.ref (ad 14 0 0), .int (iI l1)] (zPre D ca ad lnM nM L aS vS F B sz)) (Q_M_goSign D ca ad L r F9 B9 (zA L sz)) 0 0 (zA L sz)) ∧ (∀ {sz : Nat} {l1 : Int} {F F9 : zF} {B B9 : zB} {r : Int}, o.2.2.2.1 l1 F B = some (r, F9, B9) → Met l ({ cls := "StaveHouseModel", name := "goRepeat", desc := "(I)V" } : Jvm.MethodName) (Cond.code ({ cls := "StaveHouseModel", name := "goRepeat", desc := "(I)V" } : Jvm.MethodName) prog_15_method_58_code 9 (Option.none : Option Jvm.ClassFile.FieldType) :: wAll) ({ frames := d + 5, cells := 0, slots := 0, locals := 28 * d + 116 } : Room) (va_Pc [.ref (ad 14 0 0), .int (iI l1)] (zPre D ca ad lnM nM L aS vS F B sz)) (Q_M_goRepeat D ca ad L r F9 B9 (zA L sz)) 0 0 (zA L sz)) ∧ (∀ {sz : Nat} {l1 : Int} {F F9 : zF} {B B9 : zB} {r : Int}, o.2.2.2.2.1 l1 F B = some (r, F9, B9) → Met l ({ cls := "StaveHouseModel", name := "goUse", desc := "(I)V" } : Jvm.MethodName) (Cond.code ({ cls := "StaveHouseModel", name := "goUse", desc := "(I)V" } : Jvm.MethodName) prog_15_method_59_code 3 (Option.none : Option Jvm.ClassFile.FieldType) :: wAll) ({ frames := d + 5, cells := 0, slots := 0, locals := 28 * d + 116 } : Room) (va_Pc [.ref (ad 14 0 0), .int (iI l1)] (zPre D ca ad lnM nM L aS vS F B sz)) (Q_M_goUse D ca ad L r F9 B9 (zA L sz)) 0 0 (zA L sz)) ∧ (∀ {sz : Nat} {l1 : Int} {F F9 : zF} {B B9 : zB} {r : Int}, o.2.2.2.2.2.1 l1 F B = some (r, F9, B9) → Met l ({ cls := "StaveHouseModel", name := "goChange", desc := "(I)V" } : Jvm.MethodName) (Cond.code ({ cls := "StaveHouseModel", name := "goChange", desc := "(I)V" } : Jvm.MethodName) prog_15_method_60_code 5 (Option.none : Option Jvm.ClassFile.FieldType) :: wAll) ({ frames := d + 5, cells := 0, slots := 0, locals := 28 * d + 116 } : Room) (va_Pc [.ref (ad 14 0 0), .int (iI l1)] (zPre D ca ad lnM nM L aS vS F B sz)) (Q_M_goChange D ca ad L r F9 B9 (zA L sz)) 0 0 (zA L sz)) ∧ (∀ {sz : Nat} {l1 : Int} {F F9 : zF} {B B9 : zB} {r : Int}, o.2.2.2.2.2.2.1 l1 F B = some (r, F9, B9) → Met l ({ cls := "StaveHouseModel", name := "goBack", desc := "(I)V" } : Jvm.MethodName) (Cond.code ({ cls := "StaveHouseModel", name := "goBack", desc := "(I)V" } : Jvm.MethodName) prog_15_method_63_code 9 (Option.none : Option Jvm.ClassFile.FieldType) :: wAll) ({ frames := d + 5, cells := 0, slots := 0, locals := 28 * d + 116 } : Room) (va_Pc [.ref (ad 14 0 0), .int (iI l1)] (zPre D ca ad lnM nM L aS vS F B sz)) (Q_M_goBack D ca ad L r F9 B9 (zA L sz)) 0 0 (zA L sz)) ∧ (∀ {sz : Nat} {l1 : Int} {F F9 : zF} {B B9 : zB} {r : Int}, o.2.2.2.2.2.2.2 l1 F B = some (r, F9, B9) → Met l ({ cls := "StaveHouseModel", name := "goSlow", desc := "(I)V" } : Jvm.MethodName) (Cond.code ({ cls := "StaveHouseModel", name := "goSlow", desc := "(I)V" } : Jvm.MethodName) prog_15_method_61_code 3 (Option.none : Option Jvm.ClassFile.FieldType) :: wAll) ({ frames := d + 5, cells := 0, slots := 0, locals := 28 * d + 116 } : Room) (va_Pc [.ref (ad 14 0 0), .int (iI l1)] (zPre D ca ad lnM nM L aS vS F B sz)) (Q_M_goSlow D ca ad L r F9 B9 (zA L sz)) 0 0 (zA L sz))
def f_M_walk_41 (o : oT_W) (K : Nat)  (F : zF) (B : zB) : zO := some (0, F, B)
set_option maxHeartbeats 4000000 in
set_option maxRecDepth 100000 in
theorem b_M_walk_41 {D : va_G} {ca : Nat → ClassId} {ad : Nat → Int → Nat → Nat} {L : List Nat} {aS vS : Nat → Nat} {A : Nat → Prop} {p : Program} {l : Launch} {e : Env} {s : State} {m : MethodId} {args : Array Value} {below : List Frame} {meth : Method} {c : Code} {K : Nat} {r : Int} {F9 : zF} {B9 : zB} {d : Nat} {o : oT_W} (X : zX D ca L aS vS A p s m args meth c prog_15_method_54_code 4 (Option.none : Option Jvm.ClassFile.FieldType) "StaveHouseModel") (ho : oH_W l D ca ad L aS vS d o)  {F : zF} {B : zB} {H : Heap} {locs : List Loc} {ls : Array Slot} (hf : f_M_walk_41 o K  F B = some (r, F9, B9)) (hZ : zH D ca ad lnM nM L F B A H) (hS : va_S A s.heap H locs) (hl : lv_has ls 4 []) : W p l e ({ frames := d + 1 + 5, cells := 0, slots := 0, locals := 28 * (d + 1) + 116 } : Room) s m args below meth c H locs 0 0 (MQ below (Q_M_walk D ca ad L r F9 B9 A) args s 0 0 A) (F0 m 41 ls []) := by
  obtain ⟨hx, hb, hr, hml, hown, hts, hlk, hK, hA, hL, hX⟩ := id X
  replace hf : (some (0, F, B)) = some (r, F9, B9) := hf
  cases hf
  exact W.vret hx hb hr (fun t ht hW => ⟨⟨(), rfl, trivial, by rw [ht]; exact hZ, va_K.moved hW.alike hK⟩, hS.F ht⟩) hS.2.2 (D_177 W_prog_15_method_54_code_32 9 rfl rfl) hlk

def f_M_walk_31 (o : oT_W) (rec2 : Int → Int → zF → zB → zO) (K : Nat) (l3 : Int) (l2 : Int) (F : zF) (B : zB) : zO := if 0 ≤ l3 ∧ l3 < 3001 then rec2 (B 14 0 31 l3) l2 F B else none
set_option maxHeartbeats 4000000 in
set_option maxRecDepth 100000 in
theorem b_M_walk_31 {D : va_G} {ca : Nat → ClassId} {ad : Nat → Int → Nat → Nat} {L : List Nat} {aS vS : Nat → Nat} {A : Nat → Prop} {p : Program} {l : Launch} {e : Env} {s : State} {m : MethodId} {args : Array Value} {below : List Frame} {meth : Method} {c : Code} {K : Nat} {r : Int} {F9 : zF} {B9 : zB} {d : Nat} {o : oT_W} (X : zX D ca L aS vS A p s m args meth c prog_15_method_54_code 4 (Option.none : Option Jvm.ClassFile.FieldType) "StaveHouseModel") (ho : oH_W l D ca ad L aS vS d o) {rec2 : Int → Int → zF → zB → zO} (hrec2 : ∀ {l3 : Int} {l2 : Int} {F : zF} {B : zB} {H : Heap} {locs : List Loc} {ls : Array Slot}, rec2 l3 l2 F B = some (r, F9, B9) → zH D ca ad lnM nM L F B A H → va_S A s.heap H locs → lv_has ls 4 [(3, .int (iI l3)), (0, .ref (ad 14 0 0)), (2, .int (iI l2))] → W p l e ({ frames := d + 1 + 5, cells := 0, slots := 0, locals := 28 * (d + 1) + 116 } : Room) s m args below meth c H locs 0 0 (MQ below (Q_M_walk D ca ad L r F9 B9 A) args s 0 0 A) (F0 m 2 ls [])) {l3 : Int} {l2 : Int} {F : zF} {B : zB} {H : Heap} {locs : List Loc} {ls : Array Slot} (hf : f_M_walk_31 o rec2 K l3 l2 F B = some (r, F9, B9)) (hZ : zH D ca ad lnM nM L F B A H) (hS : va_S A s.heap H locs) (hl : lv_has ls 4 [(3, .int (iI l3)), (0, .ref (ad 14 0 0)), (2, .int (iI l2))]) : W p l e ({ frames := d + 1 + 5, cells := 0, slots := 0, locals := 28 * (d + 1) + 116 } : Room) s m args below meth c H locs 0 0 (MQ below (Q_M_walk D ca ad L r F9 B9 A) args s 0 0 A) (F0 m 31 ls []) := by
  obtain ⟨hx, hb, hr, hml, hown, hts, hlk, hK, hA, hL, hX⟩ := id X
  replace hf : (if 0 ≤ l3 ∧ l3 < 3001 then rec2 (B 14 0 31 l3) l2 F B else none) = some (r, F9, B9) := hf
  refine lv_aload_n hx hb (D_42 W_prog_15_method_54_code_0 31 rfl rfl) rfl (lv_at hl 1 rfl) ?_
  refine zget (ci := 14) (C := RX14) (T := TX14) (v := .ref (ad 14 0 (31 + 1))) (k := 31) hx hb hts inW_14 hown hK hZ (by decide) (by decide) rfl (by decide) k_11_29 rfl (D_180 W_prog_15_method_54_code_32 0 rfl rfl rfl) ?_
  refine lv_iload_n hx hb (D_29 W_prog_15_method_54_code_32 3 rfl rfl) rfl (lv_at hl 0 rfl) ?_
  obtain ⟨g12, hf⟩ := gif hf
  refine zald (ci := 14) (k := 31) hx hb hK rfl hZ (by decide) (by decide) rfl (Nat.le_of_ble_eq_true rfl) g12.1 g12.2 (D_46 W_prog_15_method_54_code_32 4 rfl rfl) ?_
  refine lv_istore_n (lv' := [(3, .int (iI (B 14 0 31 l3))), (0, .ref (ad 14 0 0)), (2, .int (iI l2))]) hx hb (D_62 W_prog_15_method_54_code_32 5 rfl rfl) rfl hl (by decide) rfl (fun ls hl => ?_)
  refine lv_goto (tgt := 2) hx hb (D_167 W_prog_15_method_54_code_32 6 rfl rfl rfl) (by decide) ?_
  exact hrec2 hf hZ hS (lv_sub hl [0, 1, 2] rfl)

def f_M_walk_2 (o : oT_W) (K : Nat) : Nat → Int → Int → zF → zB → zO
  | 0, _, _, _, _ => none
  | n + 1, l3, l2, F, B => zbind (f_M_good K F B) (fun r1 F1 B1 => if r32 r1 then (if r1 = 0 then f_M_walk_41 o K F1 B1 else if r32 l3 then if r32 l2 then (if l2 ≤ l3 then f_M_walk_41 o K F1 B1 else zbind (f_M_counts K l3 F1 B1) (fun r7 F7 B7 => zbind (f_M_good K F7 B7) (fun r8 F8 B8 => if r32 r8 then (if r8 = 0 then f_M_walk_31 o (f_M_walk_2 o K n) K l3 l2 F8 B8 else zbind (o.2.1 l3 F8 B8) (fun r11 F11 B11 => f_M_walk_31 o (f_M_walk_2 o K n) K l3 l2 F11 B11)) else none))) else none else none) else none)
set_option maxHeartbeats 4000000 in
set_option maxRecDepth 100000 in
theorem b_M_walk_2 {D : va_G} {ca : Nat → ClassId} {ad : Nat → Int → Nat → Nat} {L : List Nat} {aS vS : Nat → Nat} {A : Nat → Prop} {p : Program} {l : Launch} {e : Env} {s : State} {m : MethodId} {args : Array Value} {below : List Frame} {meth : Method} {c : Code} {K : Nat} {r : Int} {F9 : zF} {B9 : zB} {d : Nat} {o : oT_W} (X : zX D ca L aS vS A p s m args meth c prog_15_method_54_code 4 (Option.none : Option Jvm.ClassFile.FieldType) "StaveHouseModel") (ho : oH_W l D ca ad L aS vS d o) : ∀ {n : Nat} {l3 : Int} {l2 : Int} {F : zF} {B : zB} {H : Heap} {locs : List Loc} {ls : Array Slot}, f_M_walk_2 o K n l3 l2 F B = some (r, F9, B9) → zH D ca ad lnM nM L F B A H → va_S A s.heap H locs → lv_has ls 4 [(3, .int (iI l3)), (0, .ref (ad 14 0 0)), (2, .int (iI l2))] → W p l e ({ frames := d + 1 + 5, cells := 0, slots := 0, locals := 28 * (d + 1) + 116 } : Room) s m args below meth c H locs 0 0 (MQ below (Q_M_walk D ca ad L r F9 B9 A) args s 0 0 A) (F0 m 2 ls []) := by
  obtain ⟨hx, hb, hr, hml, hown, hts, hlk, hK, hA, hL, hX⟩ := id X
  intro n
  induction n with
  | zero =>
    intros
    rename_i hf _ _ _
    cases hf
  | succ n ih =>
    intro l3 l2 F B H locs ls hf hZ hS hl
    replace hf : (zbind (f_M_good K F B) (fun r1 F1 B1 => if r32 r1 then (if r1 = 0 then f_M_walk_41 o K F1 B1 else if r32 l3 then if r32 l2 then (if l2 ≤ l3 then f_M_walk_41 o K F1 B1 else zbind (f_M_counts K l3 F1 B1) (fun r7 F7 B7 => zbind (f_M_good K F7 B7) (fun r8 F8 B8 => if r32 r8 then (if r8 = 0 then f_M_walk_31 o (f_M_walk_2 o K n) K l3 l2 F8 B8 else zbind (o.2.1 l3 F8 B8) (fun r11 F11 B11 => f_M_walk_31 o (f_M_walk_2 o K n) K l3 l2 F11 B11)) else none))) else none else none) else none)) = some (r, F9, B9) := hf
    refine lv_aload_n hx hb (D_42 W_prog_15_method_54_code_0 2 rfl rfl) rfl (lv_at hl 1 rfl) ?_
    obtain ⟨r1, F1, B1, hc1, hf⟩ := gbind hf
    refine va_calli (va_runV (As := []) (rest := []) ⟨hx, hb, hml, hown, hts⟩ (c_M_good (l := l) hc1) (cwV 0 hts (gdV k_13_15 k_13_17 ks_152 k_1_9 k_13_18) rfl rfl rfl (by decide +kernel) ⟨by dsimp only; omega, by dsimp only; omega⟩) (zPV X hZ hS (ci := 14) (by decide) (by decide) (r := (RX14, TX14, 107)) rfl []) rfl rfl hl.1 rfl (lv_room (Nat.le_of_ble_eq_true rfl)) (D_182 W_prog_15_method_54_code_0 3 rfl rfl rfl) ⟨Nat.le_of_ble_eq_true rfl, Nat.le_of_ble_eq_true rfl⟩) hS (fun q _ h => zAin X hS q h) (zAin X hS) (fun p1 u1 t1 H1 locs1 ht1 hv1 hw1 hB1 hz1 hk1 hS1 => ?_)
    have hZ1 := zBack X ht1 hB1
    subst hw1
    obtain ⟨g2, hf⟩ := gif hf
    refine z0eq (tgt := 41) hx hb g2 (D_153 W_prog_15_method_54_code_0 6 rfl rfl rfl) (by decide) (fun h3 => ?_) (fun h3 => ?_)
    · replace hf := gpos hf h3
      exact b_M_walk_41 X ho hf hZ1 hS1 (lv_sub hl [] rfl)
    · replace hf := gneg hf h3
      refine lv_iload_n hx hb (D_29 W_prog_15_method_54_code_0 9 rfl rfl) rfl (lv_at hl 0 rfl) ?_
      refine lv_iload_n hx hb (D_28 W_prog_15_method_54_code_0 10 rfl rfl) rfl (lv_at hl 2 rfl) ?_
      obtain ⟨g4, hf⟩ := gif hf
      obtain ⟨g5, hf⟩ := gif hf
      refine zge (tgt := 41) hx hb g4 g5 (D_162 W_prog_15_method_54_code_0 11 rfl rfl rfl) (by decide) (fun h6 => ?_) (fun h6 => ?_)
      · replace hf := gpos hf h6
        exact b_M_walk_41 X ho hf hZ1 hS1 (lv_sub hl [] rfl)
      · replace hf := gneg hf h6
        refine lv_aload_n hx hb (D_42 W_prog_15_method_54_code_0 14 rfl rfl) rfl (lv_at hl 1 rfl) ?_
        refine lv_iload_n hx hb (D_29 W_prog_15_method_54_code_0 15 rfl rfl) rfl (lv_at hl 0 rfl) ?_
        obtain ⟨r7, F7, B7, hc7, hf⟩ := gbind hf
        refine va_callv (va_runV (As := [.int (iI l3)]) (rest := []) ⟨hx, hb, hml, hown, hts⟩ (c_M_counts (l := l) hc7) (cwV 1 hts (gdV k_14_211 k_14_213 ks_224 k_1_9 k_14_214) rfl rfl rfl (by decide +kernel) ⟨by dsimp only; omega, by dsimp only; omega⟩) (zPV X hZ1 hS1 (ci := 14) (by decide) (by decide) (r := (RX14, TX14, 107)) rfl [.int (iI l3)]) rfl rfl hl.1 rfl (lv_room (Nat.le_of_ble_eq_true rfl)) (D_182 W_prog_15_method_54_code_0 16 rfl rfl rfl) ⟨Nat.le_of_ble_eq_true rfl, Nat.le_of_ble_eq_true rfl⟩) hS1 (fun q _ h => zAin X hS1 q h) (zAin X hS1) (fun u7 t7 H7 locs7 ht7 hv7 hw7 hB7 hz7 hk7 hS7 => ?_)
        have hZ7 := zBack X ht7 hB7
        refine lv_aload_n hx hb (D_42 W_prog_15_method_54_code_0 19 rfl rfl) rfl (lv_at hl 1 rfl) ?_
        obtain ⟨r8, F8, B8, hc8, hf⟩ := gbind hf
        refine va_calli (va_runV (As := []) (rest := []) ⟨hx, hb, hml, hown, hts⟩ (c_M_good (l := l) hc8) (cwV 0 hts (gdV k_13_15 k_13_17 ks_152 k_1_9 k_13_18) rfl rfl rfl (by decide +kernel) ⟨by dsimp only; omega, by dsimp only; omega⟩) (zPV X hZ7 hS7 (ci := 14) (by decide) (by decide) (r := (RX14, TX14, 107)) rfl []) rfl rfl hl.1 rfl (lv_room (Nat.le_of_ble_eq_true rfl)) (D_182 W_prog_15_method_54_code_0 20 rfl rfl rfl) ⟨Nat.le_of_ble_eq_true rfl, Nat.le_of_ble_eq_true rfl⟩) hS7 (fun q _ h => zAin X hS7 q h) (zAin X hS7) (fun p8 u8 t8 H8 locs8 ht8 hv8 hw8 hB8 hz8 hk8 hS8 => ?_)
        have hZ8 := zBack X ht8 hB8
        subst hw8
        obtain ⟨g9, hf⟩ := gif hf
        refine z0eq (tgt := 31) hx hb g9 (D_153 W_prog_15_method_54_code_0 23 rfl rfl rfl) (by decide) (fun h10 => ?_) (fun h10 => ?_)
        · replace hf := gpos hf h10
          exact b_M_walk_31 X ho ih hf hZ8 hS8 (lv_sub hl [0, 1, 2] rfl)
        · replace hf := gneg hf h10
          refine lv_aload_n hx hb (D_42 W_prog_15_method_54_code_0 26 rfl rfl) rfl (lv_at hl 1 rfl) ?_
          refine lv_iload_n hx hb (D_29 W_prog_15_method_54_code_0 27 rfl rfl) rfl (lv_at hl 0 rfl) ?_
          obtain ⟨r11, F11, B11, hc11, hf⟩ := gbind hf
          refine va_callv (va_runV (As := [.int (iI l3)]) (rest := []) ⟨hx, hb, hml, hown, hts⟩ (ho.2.1 hc11) (cwV 1 hts (gdV k_14_215 k_14_217 ks_225 k_1_9 k_14_218) rfl rfl rfl (by decide +kernel) ⟨by dsimp only; omega, by dsimp only; omega⟩) (zPV X hZ8 hS8 (ci := 14) (by decide) (by decide) (r := (RX14, TX14, 107)) rfl [.int (iI l3)]) rfl rfl hl.1 rfl (lv_room (Nat.le_of_ble_eq_true rfl)) (D_182 W_prog_15_method_54_code_0 28 rfl rfl rfl) ⟨Nat.le_of_ble_eq_true rfl, Nat.le_of_ble_eq_true rfl⟩) hS8 (fun q _ h => zAin X hS8 q h) (zAin X hS8) (fun u11 t11 H11 locs11 ht11 hv11 hw11 hB11 hz11 hk11 hS11 => ?_)
          have hZ11 := zBack X ht11 hB11
          exact b_M_walk_31 X ho ih hf hZ11 hS11 (lv_sub hl [0, 1, 2] rfl)

def fb_M_walk (o : oT_W) (K : Nat) (l1 : Int) (l2 : Int) (F : zF) (B : zB) : zO := f_M_walk_2 o K K l1 l2 F B
set_option maxHeartbeats 4000000 in
set_option maxRecDepth 100000 in
theorem cb_M_walk {l : Launch} {D : va_G} {ca : Nat → ClassId} {ad : Nat → Int → Nat → Nat} {L : List Nat} {aS vS : Nat → Nat} {sz K : Nat} {d : Nat} {o : oT_W} (ho : oH_W l D ca ad L aS vS d o)  {l1 : Int} {l2 : Int} {F F9 : zF} {B B9 : zB} {r : Int} (hf : fb_M_walk o K l1 l2 F B = some (r, F9, B9)) : Met l ({ cls := "StaveHouseModel", name := "walk", desc := "(II)V" } : Jvm.MethodName) (Cond.code ({ cls := "StaveHouseModel", name := "walk", desc := "(II)V" } : Jvm.MethodName) prog_15_method_54_code 4 (Option.none : Option Jvm.ClassFile.FieldType) :: wAll) ({ frames := d + 1 + 5, cells := 0, slots := 0, locals := 28 * (d + 1) + 116 } : Room) (va_Pc [.ref (ad 14 0 0), .int (iI l1), .int (iI l2)] (zPre D ca ad lnM nM L aS vS F B sz)) (Q_M_walk D ca ad L r F9 B9 (zA L sz)) 0 0 (zA L sz) := by
  refine zMet (Qc := Q_M_walk D ca ad L r F9 B9) (lv := [(0, .ref (ad 14 0 0)), (1, .int (iI l1)), (2, .int (iI l2))]) (by decide) (Nat.le_of_ble_eq_true rfl) rfl (fun A p e s m below meth c ls X hZ hS hl => ?_)
  obtain ⟨hx, hb, hr, hml, hown, hts, hlk, hK, hA, hL, hX⟩ := id X
  replace hf : (f_M_walk_2 o K K l1 l2 F B) = some (r, F9, B9) := hf
  refine lv_iload_n hx hb (D_27 W_prog_15_method_54_code_0 0 rfl rfl) rfl (lv_at hl 1 rfl) ?_
  refine lv_istore_n (lv' := [(3, .int (iI l1)), (0, .ref (ad 14 0 0)), (1, .int (iI l1)), (2, .int (iI l2))]) hx hb (D_62 W_prog_15_method_54_code_0 1 rfl rfl) rfl hl (by decide) rfl (fun ls hl => ?_)
  exact b_M_walk_2 X ho hf hZ hS (lv_sub hl [0, 1, 3] rfl)

def f_M_go_182 (o : oT_W) (K : Nat)  (F : zF) (B : zB) : zO := some (0, F, B)
set_option maxHeartbeats 4000000 in
set_option maxRecDepth 100000 in
theorem b_M_go_182 {D : va_G} {ca : Nat → ClassId} {ad : Nat → Int → Nat → Nat} {L : List Nat} {aS vS : Nat → Nat} {A : Nat → Prop} {p : Program} {l : Launch} {e : Env} {s : State} {m : MethodId} {args : Array Value} {below : List Frame} {meth : Method} {c : Code} {K : Nat} {r : Int} {F9 : zF} {B9 : zB} {d : Nat} {o : oT_W} (X : zX D ca L aS vS A p s m args meth c prog_15_method_56_code 2 (Option.none : Option Jvm.ClassFile.FieldType) "StaveHouseModel") (ho : oH_W l D ca ad L aS vS d o)  {F : zF} {B : zB} {H : Heap} {locs : List Loc} {ls : Array Slot} (hf : f_M_go_182 o K  F B = some (r, F9, B9)) (hZ : zH D ca ad lnM nM L F B A H) (hS : va_S A s.heap H locs) (hl : lv_has ls 2 []) : W p l e ({ frames := d + 1 + 5, cells := 0, slots := 0, locals := 28 * (d + 1) + 116 } : Room) s m args below meth c H locs 0 0 (MQ below (Q_M_go D ca ad L r F9 B9 A) args s 0 0 A) (F0 m 182 ls []) := by
  obtain ⟨hx, hb, hr, hml, hown, hts, hlk, hK, hA, hL, hX⟩ := id X
  replace hf : (some (0, F, B)) = some (r, F9, B9) := hf
  cases hf
  exact W.vret hx hb hr (fun t ht hW => ⟨⟨(), rfl, trivial, by rw [ht]; exact hZ, va_K.moved hW.alike hK⟩, hS.F ht⟩) hS.2.2 (D_177 W_prog_15_method_56_code_160 22 rfl rfl) hlk

def f_M_go_148 (o : oT_W) (K : Nat) (l1 : Int) (F : zF) (B : zB) : zO := zbind (o.2.2.2.2.2.1 l1 F B) (fun r27 F27 B27 => f_M_go_182 o K F27 B27)
set_option maxHeartbeats 4000000 in
set_option maxRecDepth 100000 in
theorem b_M_go_148 {D : va_G} {ca : Nat → ClassId} {ad : Nat → Int → Nat → Nat} {L : List Nat} {aS vS : Nat → Nat} {A : Nat → Prop} {p : Program} {l : Launch} {e : Env} {s : State} {m : MethodId} {args : Array Value} {below : List Frame} {meth : Method} {c : Code} {K : Nat} {r : Int} {F9 : zF} {B9 : zB} {d : Nat} {o : oT_W} (X : zX D ca L aS vS A p s m args meth c prog_15_method_56_code 2 (Option.none : Option Jvm.ClassFile.FieldType) "StaveHouseModel") (ho : oH_W l D ca ad L aS vS d o) {l1 : Int} {F : zF} {B : zB} {H : Heap} {locs : List Loc} {ls : Array Slot} (hf : f_M_go_148 o K l1 F B = some (r, F9, B9)) (hZ : zH D ca ad lnM nM L F B A H) (hS : va_S A s.heap H locs) (hl : lv_has ls 2 [(0, .ref (ad 14 0 0)), (1, .int (iI l1))]) : W p l e ({ frames := d + 1 + 5, cells := 0, slots := 0, locals := 28 * (d + 1) + 116 } : Room) s m args below meth c H locs 0 0 (MQ below (Q_M_go D ca ad L r F9 B9 A) args s 0 0 A) (F0 m 148 ls []) := by
  obtain ⟨hx, hb, hr, hml, hown, hts, hlk, hK, hA, hL, hX⟩ := id X
  replace hf : (zbind (o.2.2.2.2.2.1 l1 F B) (fun r27 F27 B27 => f_M_go_182 o K F27 B27)) = some (r, F9, B9) := hf
  refine lv_aload_n hx hb (D_42 W_prog_15_method_56_code_128 20 rfl rfl) rfl (lv_at hl 0 rfl) ?_
  refine lv_iload_n hx hb (D_27 W_prog_15_method_56_code_128 21 rfl rfl) rfl (lv_at hl 1 rfl) ?_
  obtain ⟨r27, F27, B27, hc27, hf⟩ := gbind hf
  refine va_callv (va_runV (As := [.int (iI l1)]) (rest := []) ⟨hx, hb, hml, hown, hts⟩ (ho.2.2.2.2.2.1 hc27) (cwV 1 hts (gdV k_15_8 k_15_10 ks_233 k_1_9 k_15_11) rfl rfl rfl (by decide +kernel) ⟨by dsimp only; omega, by dsimp only; omega⟩) (zPV X hZ hS (ci := 14) (by decide) (by decide) (r := (RX14, TX14, 107)) rfl [.int (iI l1)]) rfl rfl hl.1 rfl (lv_room (Nat.le_of_ble_eq_true rfl)) (D_182 W_prog_15_method_56_code_128 22 rfl rfl rfl) ⟨Nat.le_of_ble_eq_true rfl, Nat.le_of_ble_eq_true rfl⟩) hS (fun q _ h => zAin X hS q h) (zAin X hS) (fun u27 t27 H27 locs27 ht27 hv27 hw27 hB27 hz27 hk27 hS27 => ?_)
  have hZ27 := zBack X ht27 hB27
  refine lv_goto (tgt := 182) hx hb (D_167 W_prog_15_method_56_code_128 25 rfl rfl rfl) (by decide) ?_
  exact b_M_go_182 X ho hf hZ27 hS27 (lv_sub hl [] rfl)

def f_M_go_62 (o : oT_W) (K : Nat) (l1 : Int) (F : zF) (B : zB) : zO := if 0 ≤ l1 ∧ l1 < 3001 then if r32 (B 14 0 7 l1) then (if (B 14 0 7 l1) = 5 then zbind (o.2.2.1 l1 F B) (fun r26 F26 B26 => f_M_go_182 o K F26 B26) else if r64 (B 14 0 11 l1) then (if (zcmp (B 14 0 11 l1) 125780002955636) = 0 then zbind (o.2.2.2.1 l1 F B) (fun r25 F25 B25 => f_M_go_182 o K F25 B25) else (if (zcmp (B 14 0 11 l1) 7697253) = 0 then zbind (o.2.2.2.2.1 l1 F B) (fun r24 F24 B24 => f_M_go_182 o K F24 B24) else (if (zcmp (B 14 0 11 l1) 1836021349) = 0 then f_M_go_148 o K l1 F B else (if (zcmp (B 14 0 11 l1) 120299659095922) = 0 then f_M_go_148 o K l1 F B else (if (zcmp (B 14 0 11 l1) 1650549611) = 0 then zbind (o.2.2.2.2.2.2.1 l1 F B) (fun r23 F23 B23 => f_M_go_182 o K F23 B23) else zbind (o.2.2.2.2.2.2.2 l1 F B) (fun r22 F22 B22 => f_M_go_182 o K F22 B22)))))) else none) else none else none
set_option maxHeartbeats 4000000 in
set_option maxRecDepth 100000 in
theorem b_M_go_62 {D : va_G} {ca : Nat → ClassId} {ad : Nat → Int → Nat → Nat} {L : List Nat} {aS vS : Nat → Nat} {A : Nat → Prop} {p : Program} {l : Launch} {e : Env} {s : State} {m : MethodId} {args : Array Value} {below : List Frame} {meth : Method} {c : Code} {K : Nat} {r : Int} {F9 : zF} {B9 : zB} {d : Nat} {o : oT_W} (X : zX D ca L aS vS A p s m args meth c prog_15_method_56_code 2 (Option.none : Option Jvm.ClassFile.FieldType) "StaveHouseModel") (ho : oH_W l D ca ad L aS vS d o) {l1 : Int} {F : zF} {B : zB} {H : Heap} {locs : List Loc} {ls : Array Slot} (hf : f_M_go_62 o K l1 F B = some (r, F9, B9)) (hZ : zH D ca ad lnM nM L F B A H) (hS : va_S A s.heap H locs) (hl : lv_has ls 2 [(0, .ref (ad 14 0 0)), (1, .int (iI l1))]) : W p l e ({ frames := d + 1 + 5, cells := 0, slots := 0, locals := 28 * (d + 1) + 116 } : Room) s m args below meth c H locs 0 0 (MQ below (Q_M_go D ca ad L r F9 B9 A) args s 0 0 A) (F0 m 62 ls []) := by
  obtain ⟨hx, hb, hr, hml, hown, hts, hlk, hK, hA, hL, hX⟩ := id X
  replace hf : (if 0 ≤ l1 ∧ l1 < 3001 then if r32 (B 14 0 7 l1) then (if (B 14 0 7 l1) = 5 then zbind (o.2.2.1 l1 F B) (fun r26 F26 B26 => f_M_go_182 o K F26 B26) else if r64 (B 14 0 11 l1) then (if (zcmp (B 14 0 11 l1) 125780002955636) = 0 then zbind (o.2.2.2.1 l1 F B) (fun r25 F25 B25 => f_M_go_182 o K F25 B25) else (if (zcmp (B 14 0 11 l1) 7697253) = 0 then zbind (o.2.2.2.2.1 l1 F B) (fun r24 F24 B24 => f_M_go_182 o K F24 B24) else (if (zcmp (B 14 0 11 l1) 1836021349) = 0 then f_M_go_148 o K l1 F B else (if (zcmp (B 14 0 11 l1) 120299659095922) = 0 then f_M_go_148 o K l1 F B else (if (zcmp (B 14 0 11 l1) 1650549611) = 0 then zbind (o.2.2.2.2.2.2.1 l1 F B) (fun r23 F23 B23 => f_M_go_182 o K F23 B23) else zbind (o.2.2.2.2.2.2.2 l1 F B) (fun r22 F22 B22 => f_M_go_182 o K F22 B22)))))) else none) else none else none) = some (r, F9, B9) := hf
  refine lv_aload_n hx hb (D_42 W_prog_15_method_56_code_32 30 rfl rfl) rfl (lv_at hl 0 rfl) ?_
  refine zget (ci := 14) (C := RX14) (T := TX14) (v := .ref (ad 14 0 (7 + 1))) (k := 7) hx hb hts inW_14 hown hK hZ (by decide) (by decide) rfl (by decide) k_11_5 rfl (D_180 W_prog_15_method_56_code_32 31 rfl rfl rfl) ?_
  refine lv_iload_n hx hb (D_27 W_prog_15_method_56_code_64 2 rfl rfl) rfl (lv_at hl 1 rfl) ?_
  obtain ⟨g13, hf⟩ := gif hf
  refine zald (ci := 14) (k := 7) hx hb hK rfl hZ (by decide) (by decide) rfl (Nat.le_of_ble_eq_true rfl) g13.1 g13.2 (D_46 W_prog_15_method_56_code_64 3 rfl rfl) ?_
  refine lv_iconst (v := iI 5) hx hb (D_8 W_prog_15_method_56_code_64 4 rfl rfl) rfl ?_
  obtain ⟨g14, hf⟩ := gif hf
  refine zne (tgt := 80) hx hb g14 (by decide) (D_160 W_prog_15_method_56_code_64 5 rfl rfl rfl) (by decide) (fun h15 => ?_) (fun h15 => ?_)
  · replace hf := gneg hf h15
    refine lv_aload_n hx hb (D_42 W_prog_15_method_56_code_64 16 rfl rfl) rfl (lv_at hl 0 rfl) ?_
    refine zget (ci := 14) (C := RX14) (T := TX14) (v := .ref (ad 14 0 (11 + 1))) (k := 11) hx hb hts inW_14 hown hK hZ (by decide) (by decide) rfl (by decide) k_11_9 rfl (D_180 W_prog_15_method_56_code_64 17 rfl rfl rfl) ?_
    refine lv_iload_n hx hb (D_27 W_prog_15_method_56_code_64 20 rfl rfl) rfl (lv_at hl 1 rfl) ?_
    refine zlald (ci := 14) (k := 11) hx hb hK rfl hZ (by decide) (by decide) rfl (Nat.le_of_ble_eq_true rfl) g13.1 g13.2 (D_47 W_prog_15_method_56_code_64 21 rfl rfl) ?_
    refine va_gets hx hb (hX.2.2.2.1 _ (List.mem_of_getElem? (i := 8) rfl) :) hS hown (hts _ k_10_221) (fun _ h => h) (D_178 W_prog_15_method_56_code_64 22 rfl rfl rfl) ?_
    refine W.eq (g2 := F0 m 89 ls [.long (lI 125780002955636), .long (lI (B 14 0 11 l1))]) rfl ?_
    obtain ⟨g16, hf⟩ := gif hf
    refine zcmp_r hx hb g16 (by decide) (D_148 W_prog_15_method_56_code_64 25 rfl rfl) ?_
    refine z0ne (tgt := 101) hx hb zcmp_32 (D_154 W_prog_15_method_56_code_64 26 rfl rfl rfl) (by decide) (fun h17 => ?_) (fun h17 => ?_)
    · replace hf := gneg hf h17
      refine lv_aload_n hx hb (D_42 W_prog_15_method_56_code_96 5 rfl rfl) rfl (lv_at hl 0 rfl) ?_
      refine zget (ci := 14) (C := RX14) (T := TX14) (v := .ref (ad 14 0 (11 + 1))) (k := 11) hx hb hts inW_14 hown hK hZ (by decide) (by decide) rfl (by decide) k_11_9 rfl (D_180 W_prog_15_method_56_code_96 6 rfl rfl rfl) ?_
      refine lv_iload_n hx hb (D_27 W_prog_15_method_56_code_96 9 rfl rfl) rfl (lv_at hl 1 rfl) ?_
      refine zlald (ci := 14) (k := 11) hx hb hK rfl hZ (by decide) (by decide) rfl (Nat.le_of_ble_eq_true rfl) g13.1 g13.2 (D_47 W_prog_15_method_56_code_96 10 rfl rfl) ?_
      refine va_gets hx hb (hX.2.2.2.1 _ (List.mem_of_getElem? (i := 10) rfl) :) hS hown (hts _ k_10_225) (fun _ h => h) (D_178 W_prog_15_method_56_code_96 11 rfl rfl rfl) ?_
      refine W.eq (g2 := F0 m 110 ls [.long (lI 7697253), .long (lI (B 14 0 11 l1))]) rfl ?_
      refine zcmp_r hx hb g16 (by decide) (D_148 W_prog_15_method_56_code_96 14 rfl rfl) ?_
      refine z0ne (tgt := 122) hx hb zcmp_32 (D_154 W_prog_15_method_56_code_96 15 rfl rfl rfl) (by decide) (fun h18 => ?_) (fun h18 => ?_)
      · replace hf := gneg hf h18
        refine lv_aload_n hx hb (D_42 W_prog_15_method_56_code_96 26 rfl rfl) rfl (lv_at hl 0 rfl) ?_
        refine zget (ci := 14) (C := RX14) (T := TX14) (v := .ref (ad 14 0 (11 + 1))) (k := 11) hx hb hts inW_14 hown hK hZ (by decide) (by decide) rfl (by decide) k_11_9 rfl (D_180 W_prog_15_method_56_code_96 27 rfl rfl rfl) ?_
        refine lv_iload_n hx hb (D_27 W_prog_15_method_56_code_96 30 rfl rfl) rfl (lv_at hl 1 rfl) ?_
        refine zlald (ci := 14) (k := 11) hx hb hK rfl hZ (by decide) (by decide) rfl (Nat.le_of_ble_eq_true rfl) g13.1 g13.2 (D_47 W_prog_15_method_56_code_96 31 rfl rfl) ?_
        refine va_gets hx hb (hX.2.2.2.1 _ (List.mem_of_getElem? (i := 11) rfl) :) hS hown (hts _ k_10_227) (fun _ h => h) (D_178 W_prog_15_method_56_code_128 0 rfl rfl rfl) ?_
        refine W.eq (g2 := F0 m 131 ls [.long (lI 1836021349), .long (lI (B 14 0 11 l1))]) rfl ?_
        refine zcmp_r hx hb g16 (by decide) (D_148 W_prog_15_method_56_code_128 3 rfl rfl) ?_
        refine z0eq (tgt := 148) hx hb zcmp_32 (D_153 W_prog_15_method_56_code_128 4 rfl rfl rfl) (by decide) (fun h19 => ?_) (fun h19 => ?_)
        · replace hf := gpos hf h19
          exact b_M_go_148 X ho hf hZ hS (lv_sub hl [0, 1] rfl)
        · replace hf := gneg hf h19
          refine lv_aload_n hx hb (D_42 W_prog_15_method_56_code_128 7 rfl rfl) rfl (lv_at hl 0 rfl) ?_
          refine zget (ci := 14) (C := RX14) (T := TX14) (v := .ref (ad 14 0 (11 + 1))) (k := 11) hx hb hts inW_14 hown hK hZ (by decide) (by decide) rfl (by decide) k_11_9 rfl (D_180 W_prog_15_method_56_code_128 8 rfl rfl rfl) ?_
          refine lv_iload_n hx hb (D_27 W_prog_15_method_56_code_128 11 rfl rfl) rfl (lv_at hl 1 rfl) ?_
          refine zlald (ci := 14) (k := 11) hx hb hK rfl hZ (by decide) (by decide) rfl (Nat.le_of_ble_eq_true rfl) g13.1 g13.2 (D_47 W_prog_15_method_56_code_128 12 rfl rfl) ?_
          refine va_gets hx hb (hX.2.2.2.1 _ (List.mem_of_getElem? (i := 12) rfl) :) hS hown (hts _ k_10_229) (fun _ h => h) (D_178 W_prog_15_method_56_code_128 13 rfl rfl rfl) ?_
          refine W.eq (g2 := F0 m 144 ls [.long (lI 120299659095922), .long (lI (B 14 0 11 l1))]) rfl ?_
          refine zcmp_r hx hb g16 (by decide) (D_148 W_prog_15_method_56_code_128 16 rfl rfl) ?_
          refine z0ne (tgt := 156) hx hb zcmp_32 (D_154 W_prog_15_method_56_code_128 17 rfl rfl rfl) (by decide) (fun h20 => ?_) (fun h20 => ?_)
          · replace hf := gneg hf h20
            refine lv_aload_n hx hb (D_42 W_prog_15_method_56_code_128 28 rfl rfl) rfl (lv_at hl 0 rfl) ?_
            refine zget (ci := 14) (C := RX14) (T := TX14) (v := .ref (ad 14 0 (11 + 1))) (k := 11) hx hb hts inW_14 hown hK hZ (by decide) (by decide) rfl (by decide) k_11_9 rfl (D_180 W_prog_15_method_56_code_128 29 rfl rfl rfl) ?_
            refine lv_iload_n hx hb (D_27 W_prog_15_method_56_code_160 0 rfl rfl) rfl (lv_at hl 1 rfl) ?_
            refine zlald (ci := 14) (k := 11) hx hb hK rfl hZ (by decide) (by decide) rfl (Nat.le_of_ble_eq_true rfl) g13.1 g13.2 (D_47 W_prog_15_method_56_code_160 1 rfl rfl) ?_
            refine va_gets hx hb (hX.2.2.2.1 _ (List.mem_of_getElem? (i := 13) rfl) :) hS hown (hts _ k_10_231) (fun _ h => h) (D_178 W_prog_15_method_56_code_160 2 rfl rfl rfl) ?_
            refine W.eq (g2 := F0 m 165 ls [.long (lI 1650549611), .long (lI (B 14 0 11 l1))]) rfl ?_
            refine zcmp_r hx hb g16 (by decide) (D_148 W_prog_15_method_56_code_160 5 rfl rfl) ?_
            refine z0ne (tgt := 177) hx hb zcmp_32 (D_154 W_prog_15_method_56_code_160 6 rfl rfl rfl) (by decide) (fun h21 => ?_) (fun h21 => ?_)
            · replace hf := gneg hf h21
              refine lv_aload_n hx hb (D_42 W_prog_15_method_56_code_160 17 rfl rfl) rfl (lv_at hl 0 rfl) ?_
              refine lv_iload_n hx hb (D_27 W_prog_15_method_56_code_160 18 rfl rfl) rfl (lv_at hl 1 rfl) ?_
              obtain ⟨r22, F22, B22, hc22, hf⟩ := gbind hf
              refine va_callv (va_runV (As := [.int (iI l1)]) (rest := []) ⟨hx, hb, hml, hown, hts⟩ (ho.2.2.2.2.2.2.2 hc22) (cwV 1 hts (gdV k_15_26 k_15_28 ks_236 k_1_9 k_15_29) rfl rfl rfl (by decide +kernel) ⟨by dsimp only; omega, by dsimp only; omega⟩) (zPV X hZ hS (ci := 14) (by decide) (by decide) (r := (RX14, TX14, 107)) rfl [.int (iI l1)]) rfl rfl hl.1 rfl (lv_room (Nat.le_of_ble_eq_true rfl)) (D_182 W_prog_15_method_56_code_160 19 rfl rfl rfl) ⟨Nat.le_of_ble_eq_true rfl, Nat.le_of_ble_eq_true rfl⟩) hS (fun q _ h => zAin X hS q h) (zAin X hS) (fun u22 t22 H22 locs22 ht22 hv22 hw22 hB22 hz22 hk22 hS22 => ?_)
              have hZ22 := zBack X ht22 hB22
              exact b_M_go_182 X ho hf hZ22 hS22 (lv_sub hl [] rfl)
            · replace hf := gpos hf h21
              refine lv_aload_n hx hb (D_42 W_prog_15_method_56_code_160 9 rfl rfl) rfl (lv_at hl 0 rfl) ?_
              refine lv_iload_n hx hb (D_27 W_prog_15_method_56_code_160 10 rfl rfl) rfl (lv_at hl 1 rfl) ?_
              obtain ⟨r23, F23, B23, hc23, hf⟩ := gbind hf
              refine va_callv (va_runV (As := [.int (iI l1)]) (rest := []) ⟨hx, hb, hml, hown, hts⟩ (ho.2.2.2.2.2.2.1 hc23) (cwV 1 hts (gdV k_15_12 k_15_14 ks_234 k_1_9 k_15_15) rfl rfl rfl (by decide +kernel) ⟨by dsimp only; omega, by dsimp only; omega⟩) (zPV X hZ hS (ci := 14) (by decide) (by decide) (r := (RX14, TX14, 107)) rfl [.int (iI l1)]) rfl rfl hl.1 rfl (lv_room (Nat.le_of_ble_eq_true rfl)) (D_182 W_prog_15_method_56_code_160 11 rfl rfl rfl) ⟨Nat.le_of_ble_eq_true rfl, Nat.le_of_ble_eq_true rfl⟩) hS (fun q _ h => zAin X hS q h) (zAin X hS) (fun u23 t23 H23 locs23 ht23 hv23 hw23 hB23 hz23 hk23 hS23 => ?_)
              have hZ23 := zBack X ht23 hB23
              refine lv_goto (tgt := 182) hx hb (D_167 W_prog_15_method_56_code_160 14 rfl rfl rfl) (by decide) ?_
              exact b_M_go_182 X ho hf hZ23 hS23 (lv_sub hl [] rfl)
          · replace hf := gpos hf h20
            exact b_M_go_148 X ho hf hZ hS (lv_sub hl [0, 1] rfl)
      · replace hf := gpos hf h18
        refine lv_aload_n hx hb (D_42 W_prog_15_method_56_code_96 18 rfl rfl) rfl (lv_at hl 0 rfl) ?_
        refine lv_iload_n hx hb (D_27 W_prog_15_method_56_code_96 19 rfl rfl) rfl (lv_at hl 1 rfl) ?_
        obtain ⟨r24, F24, B24, hc24, hf⟩ := gbind hf
        refine va_callv (va_runV (As := [.int (iI l1)]) (rest := []) ⟨hx, hb, hml, hown, hts⟩ (ho.2.2.2.2.1 hc24) (cwV 1 hts (gdV k_15_4 k_15_6 ks_232 k_1_9 k_15_7) rfl rfl rfl (by decide +kernel) ⟨by dsimp only; omega, by dsimp only; omega⟩) (zPV X hZ hS (ci := 14) (by decide) (by decide) (r := (RX14, TX14, 107)) rfl [.int (iI l1)]) rfl rfl hl.1 rfl (lv_room (Nat.le_of_ble_eq_true rfl)) (D_182 W_prog_15_method_56_code_96 20 rfl rfl rfl) ⟨Nat.le_of_ble_eq_true rfl, Nat.le_of_ble_eq_true rfl⟩) hS (fun q _ h => zAin X hS q h) (zAin X hS) (fun u24 t24 H24 locs24 ht24 hv24 hw24 hB24 hz24 hk24 hS24 => ?_)
        have hZ24 := zBack X ht24 hB24
        refine lv_goto (tgt := 182) hx hb (D_167 W_prog_15_method_56_code_96 23 rfl rfl rfl) (by decide) ?_
        exact b_M_go_182 X ho hf hZ24 hS24 (lv_sub hl [] rfl)
    · replace hf := gpos hf h17
      refine lv_aload_n hx hb (D_42 W_prog_15_method_56_code_64 29 rfl rfl) rfl (lv_at hl 0 rfl) ?_
      refine lv_iload_n hx hb (D_27 W_prog_15_method_56_code_64 30 rfl rfl) rfl (lv_at hl 1 rfl) ?_
      obtain ⟨r25, F25, B25, hc25, hf⟩ := gbind hf
      refine va_callv (va_runV (As := [.int (iI l1)]) (rest := []) ⟨hx, hb, hml, hown, hts⟩ (ho.2.2.2.1 hc25) (cwV 1 hts (gdV k_15_0 k_15_2 ks_231 k_1_9 k_15_3) rfl rfl rfl (by decide +kernel) ⟨by dsimp only; omega, by dsimp only; omega⟩) (zPV X hZ hS (ci := 14) (by decide) (by decide) (r := (RX14, TX14, 107)) rfl [.int (iI l1)]) rfl rfl hl.1 rfl (lv_room (Nat.le_of_ble_eq_true rfl)) (D_182 W_prog_15_method_56_code_64 31 rfl rfl rfl) ⟨Nat.le_of_ble_eq_true rfl, Nat.le_of_ble_eq_true rfl⟩) hS (fun q _ h => zAin X hS q h) (zAin X hS) (fun u25 t25 H25 locs25 ht25 hv25 hw25 hB25 hz25 hk25 hS25 => ?_)
      have hZ25 := zBack X ht25 hB25
      refine lv_goto (tgt := 182) hx hb (D_167 W_prog_15_method_56_code_96 2 rfl rfl rfl) (by decide) ?_
      exact b_M_go_182 X ho hf hZ25 hS25 (lv_sub hl [] rfl)
  · replace hf := gpos hf h15
    refine lv_aload_n hx hb (D_42 W_prog_15_method_56_code_64 8 rfl rfl) rfl (lv_at hl 0 rfl) ?_
    refine lv_iload_n hx hb (D_27 W_prog_15_method_56_code_64 9 rfl rfl) rfl (lv_at hl 1 rfl) ?_
    obtain ⟨r26, F26, B26, hc26, hf⟩ := gbind hf
    refine va_callv (va_runV (As := [.int (iI l1)]) (rest := []) ⟨hx, hb, hml, hown, hts⟩ (ho.2.2.1 hc26) (cwV 1 hts (gdV k_14_236 k_14_238 ks_230 k_1_9 k_14_239) rfl rfl rfl (by decide +kernel) ⟨by dsimp only; omega, by dsimp only; omega⟩) (zPV X hZ hS (ci := 14) (by decide) (by decide) (r := (RX14, TX14, 107)) rfl [.int (iI l1)]) rfl rfl hl.1 rfl (lv_room (Nat.le_of_ble_eq_true rfl)) (D_182 W_prog_15_method_56_code_64 10 rfl rfl rfl) ⟨Nat.le_of_ble_eq_true rfl, Nat.le_of_ble_eq_true rfl⟩) hS (fun q _ h => zAin X hS q h) (zAin X hS) (fun u26 t26 H26 locs26 ht26 hv26 hw26 hB26 hz26 hk26 hS26 => ?_)
    have hZ26 := zBack X ht26 hB26
    refine lv_goto (tgt := 182) hx hb (D_167 W_prog_15_method_56_code_64 13 rfl rfl rfl) (by decide) ?_
    exact b_M_go_182 X ho hf hZ26 hS26 (lv_sub hl [] rfl)

def f_M_go_54 (o : oT_W) (K : Nat) (l1 : Int) (F : zF) (B : zB) : zO := zbind (f_M_event_0 K l1 F B) (fun r12 F12 B12 => f_M_go_182 o K F12 B12)
set_option maxHeartbeats 4000000 in
set_option maxRecDepth 100000 in
theorem b_M_go_54 {D : va_G} {ca : Nat → ClassId} {ad : Nat → Int → Nat → Nat} {L : List Nat} {aS vS : Nat → Nat} {A : Nat → Prop} {p : Program} {l : Launch} {e : Env} {s : State} {m : MethodId} {args : Array Value} {below : List Frame} {meth : Method} {c : Code} {K : Nat} {r : Int} {F9 : zF} {B9 : zB} {d : Nat} {o : oT_W} (X : zX D ca L aS vS A p s m args meth c prog_15_method_56_code 2 (Option.none : Option Jvm.ClassFile.FieldType) "StaveHouseModel") (ho : oH_W l D ca ad L aS vS d o) {l1 : Int} {F : zF} {B : zB} {H : Heap} {locs : List Loc} {ls : Array Slot} (hf : f_M_go_54 o K l1 F B = some (r, F9, B9)) (hZ : zH D ca ad lnM nM L F B A H) (hS : va_S A s.heap H locs) (hl : lv_has ls 2 [(0, .ref (ad 14 0 0)), (1, .int (iI l1))]) : W p l e ({ frames := d + 1 + 5, cells := 0, slots := 0, locals := 28 * (d + 1) + 116 } : Room) s m args below meth c H locs 0 0 (MQ below (Q_M_go D ca ad L r F9 B9 A) args s 0 0 A) (F0 m 54 ls []) := by
  obtain ⟨hx, hb, hr, hml, hown, hts, hlk, hK, hA, hL, hX⟩ := id X
  replace hf : (zbind (f_M_event_0 K l1 F B) (fun r12 F12 B12 => f_M_go_182 o K F12 B12)) = some (r, F9, B9) := hf
  refine lv_aload_n hx hb (D_42 W_prog_15_method_56_code_32 22 rfl rfl) rfl (lv_at hl 0 rfl) ?_
  refine lv_iload_n hx hb (D_27 W_prog_15_method_56_code_32 23 rfl rfl) rfl (lv_at hl 1 rfl) ?_
  obtain ⟨r12, F12, B12, hc12, hf⟩ := gbind hf
  refine va_callv (va_runV (As := [.int (iI l1)]) (rest := []) ⟨hx, hb, hml, hown, hts⟩ (c_M_event_0 (l := l) hc12) (cwV 1 hts (gdV k_14_219 k_14_221 ks_226 k_1_9 k_14_222) rfl rfl rfl (by decide +kernel) ⟨by dsimp only; omega, by dsimp only; omega⟩) (zPV X hZ hS (ci := 14) (by decide) (by decide) (r := (RX14, TX14, 107)) rfl [.int (iI l1)]) rfl rfl hl.1 rfl (lv_room (Nat.le_of_ble_eq_true rfl)) (D_182 W_prog_15_method_56_code_32 24 rfl rfl rfl) ⟨Nat.le_of_ble_eq_true rfl, Nat.le_of_ble_eq_true rfl⟩) hS (fun q _ h => zAin X hS q h) (zAin X hS) (fun u12 t12 H12 locs12 ht12 hv12 hw12 hB12 hz12 hk12 hS12 => ?_)
  have hZ12 := zBack X ht12 hB12
  refine lv_goto (tgt := 182) hx hb (D_167 W_prog_15_method_56_code_32 27 rfl rfl rfl) (by decide) ?_
  exact b_M_go_182 X ho hf hZ12 hS12 (lv_sub hl [] rfl)

def f_M_go_31 (o : oT_W) (K : Nat) (l1 : Int) (F : zF) (B : zB) : zO := if 0 ≤ l1 ∧ l1 < 3001 then if r32 (B 14 0 7 l1) then (if (B 14 0 7 l1) = 4 then if r64 (B 14 0 11 l1) then (if (zcmp (B 14 0 11 l1) 114) = 0 then f_M_go_54 o K l1 F B else f_M_go_62 o K l1 F B) else none else f_M_go_62 o K l1 F B) else none else none
set_option maxHeartbeats 4000000 in
set_option maxRecDepth 100000 in
theorem b_M_go_31 {D : va_G} {ca : Nat → ClassId} {ad : Nat → Int → Nat → Nat} {L : List Nat} {aS vS : Nat → Nat} {A : Nat → Prop} {p : Program} {l : Launch} {e : Env} {s : State} {m : MethodId} {args : Array Value} {below : List Frame} {meth : Method} {c : Code} {K : Nat} {r : Int} {F9 : zF} {B9 : zB} {d : Nat} {o : oT_W} (X : zX D ca L aS vS A p s m args meth c prog_15_method_56_code 2 (Option.none : Option Jvm.ClassFile.FieldType) "StaveHouseModel") (ho : oH_W l D ca ad L aS vS d o) {l1 : Int} {F : zF} {B : zB} {H : Heap} {locs : List Loc} {ls : Array Slot} (hf : f_M_go_31 o K l1 F B = some (r, F9, B9)) (hZ : zH D ca ad lnM nM L F B A H) (hS : va_S A s.heap H locs) (hl : lv_has ls 2 [(0, .ref (ad 14 0 0)), (1, .int (iI l1))]) : W p l e ({ frames := d + 1 + 5, cells := 0, slots := 0, locals := 28 * (d + 1) + 116 } : Room) s m args below meth c H locs 0 0 (MQ below (Q_M_go D ca ad L r F9 B9 A) args s 0 0 A) (F0 m 31 ls []) := by
  obtain ⟨hx, hb, hr, hml, hown, hts, hlk, hK, hA, hL, hX⟩ := id X
  replace hf : (if 0 ≤ l1 ∧ l1 < 3001 then if r32 (B 14 0 7 l1) then (if (B 14 0 7 l1) = 4 then if r64 (B 14 0 11 l1) then (if (zcmp (B 14 0 11 l1) 114) = 0 then f_M_go_54 o K l1 F B else f_M_go_62 o K l1 F B) else none else f_M_go_62 o K l1 F B) else none else none) = some (r, F9, B9) := hf
  refine lv_aload_n hx hb (D_42 W_prog_15_method_56_code_0 31 rfl rfl) rfl (lv_at hl 0 rfl) ?_
  refine zget (ci := 14) (C := RX14) (T := TX14) (v := .ref (ad 14 0 (7 + 1))) (k := 7) hx hb hts inW_14 hown hK hZ (by decide) (by decide) rfl (by decide) k_11_5 rfl (D_180 W_prog_15_method_56_code_32 0 rfl rfl rfl) ?_
  refine lv_iload_n hx hb (D_27 W_prog_15_method_56_code_32 3 rfl rfl) rfl (lv_at hl 1 rfl) ?_
  obtain ⟨g7, hf⟩ := gif hf
  refine zald (ci := 14) (k := 7) hx hb hK rfl hZ (by decide) (by decide) rfl (Nat.le_of_ble_eq_true rfl) g7.1 g7.2 (D_46 W_prog_15_method_56_code_32 4 rfl rfl) ?_
  refine lv_iconst (v := iI 4) hx hb (D_7 W_prog_15_method_56_code_32 5 rfl rfl) rfl ?_
  obtain ⟨g8, hf⟩ := gif hf
  refine zne (tgt := 62) hx hb g8 (by decide) (D_160 W_prog_15_method_56_code_32 6 rfl rfl rfl) (by decide) (fun h9 => ?_) (fun h9 => ?_)
  · replace hf := gneg hf h9
    exact b_M_go_62 X ho hf hZ hS (lv_sub hl [0, 1] rfl)
  · replace hf := gpos hf h9
    refine lv_aload_n hx hb (D_42 W_prog_15_method_56_code_32 9 rfl rfl) rfl (lv_at hl 0 rfl) ?_
    refine zget (ci := 14) (C := RX14) (T := TX14) (v := .ref (ad 14 0 (11 + 1))) (k := 11) hx hb hts inW_14 hown hK hZ (by decide) (by decide) rfl (by decide) k_11_9 rfl (D_180 W_prog_15_method_56_code_32 10 rfl rfl rfl) ?_
    refine lv_iload_n hx hb (D_27 W_prog_15_method_56_code_32 13 rfl rfl) rfl (lv_at hl 1 rfl) ?_
    refine zlald (ci := 14) (k := 11) hx hb hK rfl hZ (by decide) (by decide) rfl (Nat.le_of_ble_eq_true rfl) g7.1 g7.2 (D_47 W_prog_15_method_56_code_32 14 rfl rfl) ?_
    refine va_gets hx hb (hX.2.2.2.1 _ (List.mem_of_getElem? (i := 15) rfl) :) hS hown (hts _ k_10_235) (fun _ h => h) (D_178 W_prog_15_method_56_code_32 15 rfl rfl rfl) ?_
    refine W.eq (g2 := F0 m 50 ls [.long (lI 114), .long (lI (B 14 0 11 l1))]) rfl ?_
    obtain ⟨g10, hf⟩ := gif hf
    refine zcmp_r hx hb g10 (by decide) (D_148 W_prog_15_method_56_code_32 18 rfl rfl) ?_
    refine z0ne (tgt := 62) hx hb zcmp_32 (D_154 W_prog_15_method_56_code_32 19 rfl rfl rfl) (by decide) (fun h11 => ?_) (fun h11 => ?_)
    · replace hf := gneg hf h11
      exact b_M_go_62 X ho hf hZ hS (lv_sub hl [0, 1] rfl)
    · replace hf := gpos hf h11
      exact b_M_go_54 X ho hf hZ hS (lv_sub hl [0, 1] rfl)

def fb_M_go (o : oT_W) (K : Nat) (l1 : Int) (F : zF) (B : zB) : zO := if 0 ≤ l1 ∧ l1 < 3001 then if r32 (B 14 0 7 l1) then (if (B 14 0 7 l1) = 2 then f_M_go_54 o K l1 F B else (if (B 14 0 7 l1) = 5 then if r32 (B 14 0 9 l1) then (if (B 14 0 9 l1) = 60 then f_M_go_54 o K l1 F B else f_M_go_31 o K l1 F B) else none else f_M_go_31 o K l1 F B)) else none else none
set_option maxHeartbeats 4000000 in
set_option maxRecDepth 100000 in
theorem cb_M_go {l : Launch} {D : va_G} {ca : Nat → ClassId} {ad : Nat → Int → Nat → Nat} {L : List Nat} {aS vS : Nat → Nat} {sz K : Nat} {d : Nat} {o : oT_W} (ho : oH_W l D ca ad L aS vS d o)  {l1 : Int} {F F9 : zF} {B B9 : zB} {r : Int} (hf : fb_M_go o K l1 F B = some (r, F9, B9)) : Met l ({ cls := "StaveHouseModel", name := "go", desc := "(I)V" } : Jvm.MethodName) (Cond.code ({ cls := "StaveHouseModel", name := "go", desc := "(I)V" } : Jvm.MethodName) prog_15_method_56_code 2 (Option.none : Option Jvm.ClassFile.FieldType) :: wAll) ({ frames := d + 1 + 5, cells := 0, slots := 0, locals := 28 * (d + 1) + 116 } : Room) (va_Pc [.ref (ad 14 0 0), .int (iI l1)] (zPre D ca ad lnM nM L aS vS F B sz)) (Q_M_go D ca ad L r F9 B9 (zA L sz)) 0 0 (zA L sz) := by
  refine zMet (Qc := Q_M_go D ca ad L r F9 B9) (lv := [(0, .ref (ad 14 0 0)), (1, .int (iI l1))]) (by decide) (Nat.le_of_ble_eq_true rfl) rfl (fun A p e s m below meth c ls X hZ hS hl => ?_)
  obtain ⟨hx, hb, hr, hml, hown, hts, hlk, hK, hA, hL, hX⟩ := id X
  replace hf : (if 0 ≤ l1 ∧ l1 < 3001 then if r32 (B 14 0 7 l1) then (if (B 14 0 7 l1) = 2 then f_M_go_54 o K l1 F B else (if (B 14 0 7 l1) = 5 then if r32 (B 14 0 9 l1) then (if (B 14 0 9 l1) = 60 then f_M_go_54 o K l1 F B else f_M_go_31 o K l1 F B) else none else f_M_go_31 o K l1 F B)) else none else none) = some (r, F9, B9) := hf
  refine lv_aload_n hx hb (D_42 W_prog_15_method_56_code_0 0 rfl rfl) rfl (lv_at hl 0 rfl) ?_
  refine zget (ci := 14) (C := RX14) (T := TX14) (v := .ref (ad 14 0 (7 + 1))) (k := 7) hx hb hts inW_14 hown hK hZ (by decide) (by decide) rfl (by decide) k_11_5 rfl (D_180 W_prog_15_method_56_code_0 1 rfl rfl rfl) ?_
  refine lv_iload_n hx hb (D_27 W_prog_15_method_56_code_0 4 rfl rfl) rfl (lv_at hl 1 rfl) ?_
  obtain ⟨g1, hf⟩ := gif hf
  refine zald (ci := 14) (k := 7) hx hb hK rfl hZ (by decide) (by decide) rfl (Nat.le_of_ble_eq_true rfl) g1.1 g1.2 (D_46 W_prog_15_method_56_code_0 5 rfl rfl) ?_
  refine lv_iconst (v := iI 2) hx hb (D_5 W_prog_15_method_56_code_0 6 rfl rfl) rfl ?_
  obtain ⟨g2, hf⟩ := gif hf
  refine zeq (tgt := 54) hx hb g2 (by decide) (D_159 W_prog_15_method_56_code_0 7 rfl rfl rfl) (by decide) (fun h3 => ?_) (fun h3 => ?_)
  · replace hf := gpos hf h3
    exact b_M_go_54 X ho hf hZ hS (lv_sub hl [0, 1] rfl)
  · replace hf := gneg hf h3
    refine lv_aload_n hx hb (D_42 W_prog_15_method_56_code_0 10 rfl rfl) rfl (lv_at hl 0 rfl) ?_
    refine zget (ci := 14) (C := RX14) (T := TX14) (v := .ref (ad 14 0 (7 + 1))) (k := 7) hx hb hts inW_14 hown hK hZ (by decide) (by decide) rfl (by decide) k_11_5 rfl (D_180 W_prog_15_method_56_code_0 11 rfl rfl rfl) ?_
    refine lv_iload_n hx hb (D_27 W_prog_15_method_56_code_0 14 rfl rfl) rfl (lv_at hl 1 rfl) ?_
    refine zald (ci := 14) (k := 7) hx hb hK rfl hZ (by decide) (by decide) rfl (Nat.le_of_ble_eq_true rfl) g1.1 g1.2 (D_46 W_prog_15_method_56_code_0 15 rfl rfl) ?_
    refine lv_iconst (v := iI 5) hx hb (D_8 W_prog_15_method_56_code_0 16 rfl rfl) rfl ?_
    refine zne (tgt := 31) hx hb g2 (by decide) (D_160 W_prog_15_method_56_code_0 17 rfl rfl rfl) (by decide) (fun h4 => ?_) (fun h4 => ?_)
    · replace hf := gneg hf h4
      exact b_M_go_31 X ho hf hZ hS (lv_sub hl [0, 1] rfl)
    · replace hf := gpos hf h4
      refine lv_aload_n hx hb (D_42 W_prog_15_method_56_code_0 20 rfl rfl) rfl (lv_at hl 0 rfl) ?_
      refine zget (ci := 14) (C := RX14) (T := TX14) (v := .ref (ad 14 0 (9 + 1))) (k := 9) hx hb hts inW_14 hown hK hZ (by decide) (by decide) rfl (by decide) k_11_7 rfl (D_180 W_prog_15_method_56_code_0 21 rfl rfl rfl) ?_
      refine lv_iload_n hx hb (D_27 W_prog_15_method_56_code_0 24 rfl rfl) rfl (lv_at hl 1 rfl) ?_
      refine zald (ci := 14) (k := 9) hx hb hK rfl hZ (by decide) (by decide) rfl (Nat.le_of_ble_eq_true rfl) g1.1 g1.2 (D_46 W_prog_15_method_56_code_0 25 rfl rfl) ?_
      refine lv_bipush (v := iI 60) hx hb (D_16 W_prog_15_method_56_code_0 26 rfl rfl rfl) (by decide) ?_
      obtain ⟨g5, hf⟩ := gif hf
      refine zeq (tgt := 54) hx hb g5 (by decide) (D_159 W_prog_15_method_56_code_0 28 rfl rfl rfl) (by decide) (fun h6 => ?_) (fun h6 => ?_)
      · replace hf := gpos hf h6
        exact b_M_go_54 X ho hf hZ hS (lv_sub hl [0, 1] rfl)
      · replace hf := gneg hf h6
        exact b_M_go_31 X ho hf hZ hS (lv_sub hl [0, 1] rfl)

def f_M_goSign_182 (o : oT_W) (K : Nat)  (F : zF) (B : zB) : zO := some (0, F, B)
set_option maxHeartbeats 4000000 in
set_option maxRecDepth 100000 in
theorem b_M_goSign_182 {D : va_G} {ca : Nat → ClassId} {ad : Nat → Int → Nat → Nat} {L : List Nat} {aS vS : Nat → Nat} {A : Nat → Prop} {p : Program} {l : Launch} {e : Env} {s : State} {m : MethodId} {args : Array Value} {below : List Frame} {meth : Method} {c : Code} {K : Nat} {r : Int} {F9 : zF} {B9 : zB} {d : Nat} {o : oT_W} (X : zX D ca L aS vS A p s m args meth c prog_15_method_57_code 2 (Option.none : Option Jvm.ClassFile.FieldType) "StaveHouseModel") (ho : oH_W l D ca ad L aS vS d o)  {F : zF} {B : zB} {H : Heap} {locs : List Loc} {ls : Array Slot} (hf : f_M_goSign_182 o K  F B = some (r, F9, B9)) (hZ : zH D ca ad lnM nM L F B A H) (hS : va_S A s.heap H locs) (hl : lv_has ls 2 []) : W p l e ({ frames := d + 1 + 5, cells := 0, slots := 0, locals := 28 * (d + 1) + 116 } : Room) s m args below meth c H locs 0 0 (MQ below (Q_M_goSign D ca ad L r F9 B9 A) args s 0 0 A) (F0 m 182 ls []) := by
  obtain ⟨hx, hb, hr, hml, hown, hts, hlk, hK, hA, hL, hX⟩ := id X
  replace hf : (some (0, F, B)) = some (r, F9, B9) := hf
  cases hf
  exact W.vret hx hb hr (fun t ht hW => ⟨⟨(), rfl, trivial, by rw [ht]; exact hZ, va_K.moved hW.alike hK⟩, hS.F ht⟩) hS.2.2 (D_177 W_prog_15_method_57_code_160 22 rfl rfl) hlk

def f_M_goSign_115 (o : oT_W) (K : Nat) (l1 : Int) (F : zF) (B : zB) : zO := if 0 ≤ (l1 + 1) ∧ (l1 + 1) < 3001 then if 0 ≤ (F 14 0 48) ∧ (F 14 0 48) < 100 then if 0 ≤ (l1 + 3) ∧ (l1 + 3) < 3001 then if 0 ≤ l1 ∧ l1 < 3001 then zbind (o.1 (l1 + 5) ((zup4 (zup4 B 14 0 46 (F 14 0 48) (B 14 0 9 (l1 + 1))) 14 0 47 (F 14 0 48) ((zup4 B 14 0 46 (F 14 0 48) (B 14 0 9 (l1 + 1))) 14 0 9 (l1 + 3))) 14 0 30 l1) (zup3 F 14 0 48 ((F 14 0 48) + 1)) (zup4 (zup4 B 14 0 46 (F 14 0 48) (B 14 0 9 (l1 + 1))) 14 0 47 (F 14 0 48) ((zup4 B 14 0 46 (F 14 0 48) (B 14 0 9 (l1 + 1))) 14 0 9 (l1 + 3)))) (fun r28 F28 B28 => f_M_goSign_182 o K (zup3 F28 14 0 48 ((F28 14 0 48) - 1)) B28) else none else none else none else none
set_option maxHeartbeats 4000000 in
set_option maxRecDepth 100000 in
theorem b_M_goSign_115 {D : va_G} {ca : Nat → ClassId} {ad : Nat → Int → Nat → Nat} {L : List Nat} {aS vS : Nat → Nat} {A : Nat → Prop} {p : Program} {l : Launch} {e : Env} {s : State} {m : MethodId} {args : Array Value} {below : List Frame} {meth : Method} {c : Code} {K : Nat} {r : Int} {F9 : zF} {B9 : zB} {d : Nat} {o : oT_W} (X : zX D ca L aS vS A p s m args meth c prog_15_method_57_code 2 (Option.none : Option Jvm.ClassFile.FieldType) "StaveHouseModel") (ho : oH_W l D ca ad L aS vS d o) {l1 : Int} {F : zF} {B : zB} {H : Heap} {locs : List Loc} {ls : Array Slot} (hf : f_M_goSign_115 o K l1 F B = some (r, F9, B9)) (hZ : zH D ca ad lnM nM L F B A H) (hS : va_S A s.heap H locs) (hl : lv_has ls 2 [(0, .ref (ad 14 0 0)), (1, .int (iI l1))]) : W p l e ({ frames := d + 1 + 5, cells := 0, slots := 0, locals := 28 * (d + 1) + 116 } : Room) s m args below meth c H locs 0 0 (MQ below (Q_M_goSign D ca ad L r F9 B9 A) args s 0 0 A) (F0 m 115 ls []) := by
  obtain ⟨hx, hb, hr, hml, hown, hts, hlk, hK, hA, hL, hX⟩ := id X
  replace hf : (if 0 ≤ (l1 + 1) ∧ (l1 + 1) < 3001 then if 0 ≤ (F 14 0 48) ∧ (F 14 0 48) < 100 then if 0 ≤ (l1 + 3) ∧ (l1 + 3) < 3001 then if 0 ≤ l1 ∧ l1 < 3001 then zbind (o.1 (l1 + 5) ((zup4 (zup4 B 14 0 46 (F 14 0 48) (B 14 0 9 (l1 + 1))) 14 0 47 (F 14 0 48) ((zup4 B 14 0 46 (F 14 0 48) (B 14 0 9 (l1 + 1))) 14 0 9 (l1 + 3))) 14 0 30 l1) (zup3 F 14 0 48 ((F 14 0 48) + 1)) (zup4 (zup4 B 14 0 46 (F 14 0 48) (B 14 0 9 (l1 + 1))) 14 0 47 (F 14 0 48) ((zup4 B 14 0 46 (F 14 0 48) (B 14 0 9 (l1 + 1))) 14 0 9 (l1 + 3)))) (fun r28 F28 B28 => f_M_goSign_182 o K (zup3 F28 14 0 48 ((F28 14 0 48) - 1)) B28) else none else none else none else none) = some (r, F9, B9) := hf
  refine lv_aload_n hx hb (D_42 W_prog_15_method_57_code_96 19 rfl rfl) rfl (lv_at hl 0 rfl) ?_
  refine zget (ci := 14) (C := RX14) (T := TX14) (v := .ref (ad 14 0 (46 + 1))) (k := 46) hx hb hts inW_14 hown hK hZ (by decide) (by decide) rfl (by decide) k_11_44 rfl (D_180 W_prog_15_method_57_code_96 20 rfl rfl rfl) ?_
  refine lv_aload_n hx hb (D_42 W_prog_15_method_57_code_96 23 rfl rfl) rfl (lv_at hl 0 rfl) ?_
  refine zget (ci := 14) (C := RX14) (T := TX14) (v := .int (iI (F 14 0 48))) (k := 48) hx hb hts inW_14 hown hK hZ (by decide) (by decide) rfl (by decide) k_11_46 rfl (D_180 W_prog_15_method_57_code_96 24 rfl rfl rfl) ?_
  refine lv_aload_n hx hb (D_42 W_prog_15_method_57_code_96 27 rfl rfl) rfl (lv_at hl 0 rfl) ?_
  refine zget (ci := 14) (C := RX14) (T := TX14) (v := .ref (ad 14 0 (9 + 1))) (k := 9) hx hb hts inW_14 hown hK hZ (by decide) (by decide) rfl (by decide) k_11_7 rfl (D_180 W_prog_15_method_57_code_96 28 rfl rfl rfl) ?_
  refine lv_iload_n hx hb (D_27 W_prog_15_method_57_code_96 31 rfl rfl) rfl (lv_at hl 1 rfl) ?_
  refine lv_iconst (v := iI 1) hx hb (D_4 W_prog_15_method_57_code_128 0 rfl rfl) rfl ?_
  refine zadd hx hb (D_96 W_prog_15_method_57_code_128 1 rfl rfl) ?_
  obtain ⟨g21, hf⟩ := gif hf
  refine zald (ci := 14) (k := 9) hx hb hK rfl hZ (by decide) (by decide) rfl (Nat.le_of_ble_eq_true rfl) g21.1 g21.2 (D_46 W_prog_15_method_57_code_128 2 rfl rfl) ?_
  obtain ⟨g22, hf⟩ := gif hf
  refine zast (ci := 14) (k := 46) hx hb hK rfl hZ hS (by decide) (by decide) rfl (Nat.le_of_ble_eq_true rfl) g22.1 g22.2 (D_79 W_prog_15_method_57_code_128 3 rfl rfl) (fun H23 locs23 hZ23 hS23 => ?_)
  refine lv_aload_n hx hb (D_42 W_prog_15_method_57_code_128 4 rfl rfl) rfl (lv_at hl 0 rfl) ?_
  refine zget (ci := 14) (C := RX14) (T := TX14) (v := .ref (ad 14 0 (47 + 1))) (k := 47) hx hb hts inW_14 hown hK hZ23 (by decide) (by decide) rfl (by decide) k_11_45 rfl (D_180 W_prog_15_method_57_code_128 5 rfl rfl rfl) ?_
  refine lv_aload_n hx hb (D_42 W_prog_15_method_57_code_128 8 rfl rfl) rfl (lv_at hl 0 rfl) ?_
  refine zget (ci := 14) (C := RX14) (T := TX14) (v := .int (iI (F 14 0 48))) (k := 48) hx hb hts inW_14 hown hK hZ23 (by decide) (by decide) rfl (by decide) k_11_46 rfl (D_180 W_prog_15_method_57_code_128 9 rfl rfl rfl) ?_
  refine lv_aload_n hx hb (D_42 W_prog_15_method_57_code_128 12 rfl rfl) rfl (lv_at hl 0 rfl) ?_
  refine zget (ci := 14) (C := RX14) (T := TX14) (v := .ref (ad 14 0 (9 + 1))) (k := 9) hx hb hts inW_14 hown hK hZ23 (by decide) (by decide) rfl (by decide) k_11_7 rfl (D_180 W_prog_15_method_57_code_128 13 rfl rfl rfl) ?_
  refine lv_iload_n hx hb (D_27 W_prog_15_method_57_code_128 16 rfl rfl) rfl (lv_at hl 1 rfl) ?_
  refine lv_iconst (v := iI 3) hx hb (D_6 W_prog_15_method_57_code_128 17 rfl rfl) rfl ?_
  refine zadd hx hb (D_96 W_prog_15_method_57_code_128 18 rfl rfl) ?_
  obtain ⟨g24, hf⟩ := gif hf
  refine zald (ci := 14) (k := 9) hx hb hK rfl hZ23 (by decide) (by decide) rfl (Nat.le_of_ble_eq_true rfl) g24.1 g24.2 (D_46 W_prog_15_method_57_code_128 19 rfl rfl) ?_
  refine zast (ci := 14) (k := 47) hx hb hK rfl hZ23 hS23 (by decide) (by decide) rfl (Nat.le_of_ble_eq_true rfl) g22.1 g22.2 (D_79 W_prog_15_method_57_code_128 20 rfl rfl) (fun H25 locs25 hZ25 hS25 => ?_)
  refine lv_aload_n hx hb (D_42 W_prog_15_method_57_code_128 21 rfl rfl) rfl (lv_at hl 0 rfl) ?_
  refine lv_dup hx hb (D_89 W_prog_15_method_57_code_128 22 rfl rfl) rfl ?_
  refine zget (ci := 14) (C := RX14) (T := TX14) (v := .int (iI (F 14 0 48))) (k := 48) hx hb hts inW_14 hown hK hZ25 (by decide) (by decide) rfl (by decide) k_11_46 rfl (D_180 W_prog_15_method_57_code_128 23 rfl rfl rfl) ?_
  refine lv_iconst (v := iI 1) hx hb (D_4 W_prog_15_method_57_code_128 26 rfl rfl) rfl ?_
  refine zadd hx hb (D_96 W_prog_15_method_57_code_128 27 rfl rfl) ?_
  refine zput (ci := 14) (C := RX14) (T := TX14) (k := 48) (v := ((F 14 0 48) + 1)) (w := .int (iI ((F 14 0 48) + 1))) hx hb hts inW_14 tyX14 tyX14_ok nmX14 hown hK hZ25 hS25 (by decide) (by decide) rfl (by decide) k_11_46 rfl (fun G h => congrArg (fun q => Value.int (iI q)) h) rfl rfl (zno (by decide)) (D_181 W_prog_15_method_57_code_128 28 rfl rfl rfl) (fun H26 locs26 hZ26 hS26 => ?_)
  refine lv_aload_n hx hb (D_42 W_prog_15_method_57_code_128 31 rfl rfl) rfl (lv_at hl 0 rfl) ?_
  refine lv_iload_n hx hb (D_27 W_prog_15_method_57_code_160 0 rfl rfl) rfl (lv_at hl 1 rfl) ?_
  refine lv_iconst (v := iI 5) hx hb (D_8 W_prog_15_method_57_code_160 1 rfl rfl) rfl ?_
  refine zadd hx hb (D_96 W_prog_15_method_57_code_160 2 rfl rfl) ?_
  refine lv_aload_n hx hb (D_42 W_prog_15_method_57_code_160 3 rfl rfl) rfl (lv_at hl 0 rfl) ?_
  refine zget (ci := 14) (C := RX14) (T := TX14) (v := .ref (ad 14 0 (30 + 1))) (k := 30) hx hb hts inW_14 hown hK hZ26 (by decide) (by decide) rfl (by decide) k_11_28 rfl (D_180 W_prog_15_method_57_code_160 4 rfl rfl rfl) ?_
  refine lv_iload_n hx hb (D_27 W_prog_15_method_57_code_160 7 rfl rfl) rfl (lv_at hl 1 rfl) ?_
  obtain ⟨g27, hf⟩ := gif hf
  refine zald (ci := 14) (k := 30) hx hb hK rfl hZ26 (by decide) (by decide) rfl (Nat.le_of_ble_eq_true rfl) g27.1 g27.2 (D_46 W_prog_15_method_57_code_160 8 rfl rfl) ?_
  obtain ⟨r28, F28, B28, hc28, hf⟩ := gbind hf
  refine va_callv (va_runV (As := [.int (iI (l1 + 5)), .int (iI ((zup4 (zup4 B 14 0 46 (F 14 0 48) (B 14 0 9 (l1 + 1))) 14 0 47 (F 14 0 48) ((zup4 B 14 0 46 (F 14 0 48) (B 14 0 9 (l1 + 1))) 14 0 9 (l1 + 3))) 14 0 30 l1))]) (rest := []) ⟨hx, hb, hml, hown, hts⟩ (ho.1 hc28) (cwV 2 hts (gdV k_14_207 k_14_209 ks_223 k_1_9 k_14_210) rfl rfl rfl (by decide +kernel) ⟨by dsimp only; omega, by dsimp only; omega⟩) (zPV X hZ26 hS26 (ci := 14) (by decide) (by decide) (r := (RX14, TX14, 107)) rfl [.int (iI (l1 + 5)), .int (iI ((zup4 (zup4 B 14 0 46 (F 14 0 48) (B 14 0 9 (l1 + 1))) 14 0 47 (F 14 0 48) ((zup4 B 14 0 46 (F 14 0 48) (B 14 0 9 (l1 + 1))) 14 0 9 (l1 + 3))) 14 0 30 l1))]) rfl rfl hl.1 rfl (lv_room (Nat.le_of_ble_eq_true rfl)) (D_182 W_prog_15_method_57_code_160 9 rfl rfl rfl) ⟨Nat.le_of_ble_eq_true rfl, Nat.le_of_ble_eq_true rfl⟩) hS26 (fun q _ h => zAin X hS26 q h) (zAin X hS26) (fun u28 t28 H28 locs28 ht28 hv28 hw28 hB28 hz28 hk28 hS28 => ?_)
  have hZ28 := zBack X ht28 hB28
  refine lv_aload_n hx hb (D_42 W_prog_15_method_57_code_160 12 rfl rfl) rfl (lv_at hl 0 rfl) ?_
  refine lv_dup hx hb (D_89 W_prog_15_method_57_code_160 13 rfl rfl) rfl ?_
  refine zget (ci := 14) (C := RX14) (T := TX14) (v := .int (iI (F28 14 0 48))) (k := 48) hx hb hts inW_14 hown hK hZ28 (by decide) (by decide) rfl (by decide) k_11_46 rfl (D_180 W_prog_15_method_57_code_160 14 rfl rfl rfl) ?_
  refine lv_iconst (v := iI 1) hx hb (D_4 W_prog_15_method_57_code_160 17 rfl rfl) rfl ?_
  refine zsub hx hb (D_100 W_prog_15_method_57_code_160 18 rfl rfl) ?_
  refine zput (ci := 14) (C := RX14) (T := TX14) (k := 48) (v := ((F28 14 0 48) - 1)) (w := .int (iI ((F28 14 0 48) - 1))) hx hb hts inW_14 tyX14 tyX14_ok nmX14 hown hK hZ28 hS28 (by decide) (by decide) rfl (by decide) k_11_46 rfl (fun G h => congrArg (fun q => Value.int (iI q)) h) rfl rfl (zno (by decide)) (D_181 W_prog_15_method_57_code_160 19 rfl rfl rfl) (fun H29 locs29 hZ29 hS29 => ?_)
  exact b_M_goSign_182 X ho hf hZ29 hS29 (lv_sub hl [] rfl)

def fb_M_goSign (o : oT_W) (K : Nat) (l1 : Int) (F : zF) (B : zB) : zO := if 0 ≤ l1 ∧ l1 < 3001 then if r32 (B 14 0 9 l1) then (if (B 14 0 9 l1) = 33 then if 0 ≤ (l1 + 1) ∧ (l1 + 1) < 3001 then zbind (f_M_find K 14 0 14 8 (B 14 0 11 (l1 + 1)) F B) (fun r19 F19 B19 => f_M_goSign_182 o K (zup3 F19 14 0 40 r19) B19) else none else (if (B 14 0 9 l1) = 124 then if r32 (F 14 0 41) then (if (F 14 0 41) = 0 then if 0 ≤ (F 14 0 6) ∧ (F 14 0 6) < 3 then if r32 (F 13 (F 14 0 6) 4) then if r32 (F 13 (F 14 0 6) 5) then zbind (f_M_isMultiple K (F 14 0 38) (F 14 0 39) (F 13 (F 14 0 6) 4) (F 13 (F 14 0 6) 5) F B) (fun r14 F14 B14 => if r32 r14 then (if r14 = 0 then zbind (f_M_failAt K 7 l1 F14 B14) (fun r17 F17 B17 => f_M_goSign_182 o K F17 B17) else f_M_goSign_182 o K F14 B14) else none) else none else none else none else f_M_goSign_182 o K F B) else none else if r32 (F 14 0 48) then (if (F 14 0 48) = 0 then f_M_goSign_115 o K l1 (zup3 (zup3 F 14 0 49 l1) 14 0 50 ((F 14 0 50) + 1)) B else f_M_goSign_115 o K l1 F B) else none)) else none else none
set_option maxHeartbeats 4000000 in
set_option maxRecDepth 100000 in
theorem cb_M_goSign {l : Launch} {D : va_G} {ca : Nat → ClassId} {ad : Nat → Int → Nat → Nat} {L : List Nat} {aS vS : Nat → Nat} {sz K : Nat} {d : Nat} {o : oT_W} (ho : oH_W l D ca ad L aS vS d o)  {l1 : Int} {F F9 : zF} {B B9 : zB} {r : Int} (hf : fb_M_goSign o K l1 F B = some (r, F9, B9)) : Met l ({ cls := "StaveHouseModel", name := "goSign", desc := "(I)V" } : Jvm.MethodName) (Cond.code ({ cls := "StaveHouseModel", name := "goSign", desc := "(I)V" } : Jvm.MethodName) prog_15_method_57_code 2 (Option.none : Option Jvm.ClassFile.FieldType) :: wAll) ({ frames := d + 1 + 5, cells := 0, slots := 0, locals := 28 * (d + 1) + 116 } : Room) (va_Pc [.ref (ad 14 0 0), .int (iI l1)] (zPre D ca ad lnM nM L aS vS F B sz)) (Q_M_goSign D ca ad L r F9 B9 (zA L sz)) 0 0 (zA L sz) := by
  refine zMet (Qc := Q_M_goSign D ca ad L r F9 B9) (lv := [(0, .ref (ad 14 0 0)), (1, .int (iI l1))]) (by decide) (Nat.le_of_ble_eq_true rfl) rfl (fun A p e s m below meth c ls X hZ hS hl => ?_)
  obtain ⟨hx, hb, hr, hml, hown, hts, hlk, hK, hA, hL, hX⟩ := id X
  replace hf : (if 0 ≤ l1 ∧ l1 < 3001 then if r32 (B 14 0 9 l1) then (if (B 14 0 9 l1) = 33 then if 0 ≤ (l1 + 1) ∧ (l1 + 1) < 3001 then zbind (f_M_find K 14 0 14 8 (B 14 0 11 (l1 + 1)) F B) (fun r19 F19 B19 => f_M_goSign_182 o K (zup3 F19 14 0 40 r19) B19) else none else (if (B 14 0 9 l1) = 124 then if r32 (F 14 0 41) then (if (F 14 0 41) = 0 then if 0 ≤ (F 14 0 6) ∧ (F 14 0 6) < 3 then if r32 (F 13 (F 14 0 6) 4) then if r32 (F 13 (F 14 0 6) 5) then zbind (f_M_isMultiple K (F 14 0 38) (F 14 0 39) (F 13 (F 14 0 6) 4) (F 13 (F 14 0 6) 5) F B) (fun r14 F14 B14 => if r32 r14 then (if r14 = 0 then zbind (f_M_failAt K 7 l1 F14 B14) (fun r17 F17 B17 => f_M_goSign_182 o K F17 B17) else f_M_goSign_182 o K F14 B14) else none) else none else none else none else f_M_goSign_182 o K F B) else none else if r32 (F 14 0 48) then (if (F 14 0 48) = 0 then f_M_goSign_115 o K l1 (zup3 (zup3 F 14 0 49 l1) 14 0 50 ((F 14 0 50) + 1)) B else f_M_goSign_115 o K l1 F B) else none)) else none else none) = some (r, F9, B9) := hf
  refine lv_aload_n hx hb (D_42 W_prog_15_method_57_code_0 0 rfl rfl) rfl (lv_at hl 0 rfl) ?_
  refine zget (ci := 14) (C := RX14) (T := TX14) (v := .ref (ad 14 0 (9 + 1))) (k := 9) hx hb hts inW_14 hown hK hZ (by decide) (by decide) rfl (by decide) k_11_7 rfl (D_180 W_prog_15_method_57_code_0 1 rfl rfl rfl) ?_
  refine lv_iload_n hx hb (D_27 W_prog_15_method_57_code_0 4 rfl rfl) rfl (lv_at hl 1 rfl) ?_
  obtain ⟨g1, hf⟩ := gif hf
  refine zald (ci := 14) (k := 9) hx hb hK rfl hZ (by decide) (by decide) rfl (Nat.le_of_ble_eq_true rfl) g1.1 g1.2 (D_46 W_prog_15_method_57_code_0 5 rfl rfl) ?_
  refine lv_bipush (v := iI 33) hx hb (D_16 W_prog_15_method_57_code_0 6 rfl rfl rfl) (by decide) ?_
  obtain ⟨g2, hf⟩ := gif hf
  refine zne (tgt := 35) hx hb g2 (by decide) (D_160 W_prog_15_method_57_code_0 8 rfl rfl rfl) (by decide) (fun h3 => ?_) (fun h3 => ?_)
  · replace hf := gneg hf h3
    refine lv_aload_n hx hb (D_42 W_prog_15_method_57_code_32 3 rfl rfl) rfl (lv_at hl 0 rfl) ?_
    refine zget (ci := 14) (C := RX14) (T := TX14) (v := .ref (ad 14 0 (9 + 1))) (k := 9) hx hb hts inW_14 hown hK hZ (by decide) (by decide) rfl (by decide) k_11_7 rfl (D_180 W_prog_15_method_57_code_32 4 rfl rfl rfl) ?_
    refine lv_iload_n hx hb (D_27 W_prog_15_method_57_code_32 7 rfl rfl) rfl (lv_at hl 1 rfl) ?_
    refine zald (ci := 14) (k := 9) hx hb hK rfl hZ (by decide) (by decide) rfl (Nat.le_of_ble_eq_true rfl) g1.1 g1.2 (D_46 W_prog_15_method_57_code_32 8 rfl rfl) ?_
    refine lv_bipush (v := iI 124) hx hb (D_16 W_prog_15_method_57_code_32 9 rfl rfl rfl) (by decide) ?_
    refine zne (tgt := 93) hx hb g2 (by decide) (D_160 W_prog_15_method_57_code_32 11 rfl rfl rfl) (by decide) (fun h4 => ?_) (fun h4 => ?_)
    · replace hf := gneg hf h4
      refine lv_aload_n hx hb (D_42 W_prog_15_method_57_code_64 29 rfl rfl) rfl (lv_at hl 0 rfl) ?_
      refine zget (ci := 14) (C := RX14) (T := TX14) (v := .int (iI (F 14 0 48))) (k := 48) hx hb hts inW_14 hown hK hZ (by decide) (by decide) rfl (by decide) k_11_46 rfl (D_180 W_prog_15_method_57_code_64 30 rfl rfl rfl) ?_
      obtain ⟨g5, hf⟩ := gif hf
      refine z0ne (tgt := 115) hx hb g5 (D_154 W_prog_15_method_57_code_96 1 rfl rfl rfl) (by decide) (fun h6 => ?_) (fun h6 => ?_)
      · replace hf := gneg hf h6
        exact b_M_goSign_115 X ho hf hZ hS (lv_sub hl [0, 1] rfl)
      · replace hf := gpos hf h6
        refine lv_aload_n hx hb (D_42 W_prog_15_method_57_code_96 4 rfl rfl) rfl (lv_at hl 0 rfl) ?_
        refine lv_iload_n hx hb (D_27 W_prog_15_method_57_code_96 5 rfl rfl) rfl (lv_at hl 1 rfl) ?_
        refine zput (ci := 14) (C := RX14) (T := TX14) (k := 49) (v := l1) (w := .int (iI l1)) hx hb hts inW_14 tyX14 tyX14_ok nmX14 hown hK hZ hS (by decide) (by decide) rfl (by decide) k_11_47 rfl (fun G h => congrArg (fun q => Value.int (iI q)) h) rfl rfl (zno (by decide)) (D_181 W_prog_15_method_57_code_96 6 rfl rfl rfl) (fun H7 locs7 hZ7 hS7 => ?_)
        refine lv_aload_n hx hb (D_42 W_prog_15_method_57_code_96 9 rfl rfl) rfl (lv_at hl 0 rfl) ?_
        refine lv_dup hx hb (D_89 W_prog_15_method_57_code_96 10 rfl rfl) rfl ?_
        refine zget (ci := 14) (C := RX14) (T := TX14) (v := .int (iI (F 14 0 50))) (k := 50) hx hb hts inW_14 hown hK hZ7 (by decide) (by decide) rfl (by decide) k_11_48 rfl (D_180 W_prog_15_method_57_code_96 11 rfl rfl rfl) ?_
        refine lv_iconst (v := iI 1) hx hb (D_4 W_prog_15_method_57_code_96 14 rfl rfl) rfl ?_
        refine zadd hx hb (D_96 W_prog_15_method_57_code_96 15 rfl rfl) ?_
        refine zput (ci := 14) (C := RX14) (T := TX14) (k := 50) (v := ((F 14 0 50) + 1)) (w := .int (iI ((F 14 0 50) + 1))) hx hb hts inW_14 tyX14 tyX14_ok nmX14 hown hK hZ7 hS7 (by decide) (by decide) rfl (by decide) k_11_48 rfl (fun G h => congrArg (fun q => Value.int (iI q)) h) rfl rfl (zno (by decide)) (D_181 W_prog_15_method_57_code_96 16 rfl rfl rfl) (fun H8 locs8 hZ8 hS8 => ?_)
        exact b_M_goSign_115 X ho hf hZ8 hS8 (lv_sub hl [0, 1] rfl)
    · replace hf := gpos hf h4
      refine lv_aload_n hx hb (D_42 W_prog_15_method_57_code_32 14 rfl rfl) rfl (lv_at hl 0 rfl) ?_
      refine zget (ci := 14) (C := RX14) (T := TX14) (v := .int (iI (F 14 0 41))) (k := 41) hx hb hts inW_14 hown hK hZ (by decide) (by decide) rfl (by decide) k_11_39 rfl (D_180 W_prog_15_method_57_code_32 15 rfl rfl rfl) ?_
      obtain ⟨g9, hf⟩ := gif hf
      refine z0ne (tgt := 182) hx hb g9 (D_154 W_prog_15_method_57_code_32 18 rfl rfl rfl) (by decide) (fun h10 => ?_) (fun h10 => ?_)
      · replace hf := gneg hf h10
        exact b_M_goSign_182 X ho hf hZ hS (lv_sub hl [] rfl)
      · replace hf := gpos hf h10
        refine lv_aload_n hx hb (D_42 W_prog_15_method_57_code_32 21 rfl rfl) rfl (lv_at hl 0 rfl) ?_
        refine zget (ci := 14) (C := RX14) (T := TX14) (v := .long (lI (F 14 0 38))) (k := 38) hx hb hts inW_14 hown hK hZ (by decide) (by decide) rfl (by decide) k_11_36 rfl (D_180 W_prog_15_method_57_code_32 22 rfl rfl rfl) ?_
        refine lv_aload_n hx hb (D_42 W_prog_15_method_57_code_32 25 rfl rfl) rfl (lv_at hl 0 rfl) ?_
        refine zget (ci := 14) (C := RX14) (T := TX14) (v := .long (lI (F 14 0 39))) (k := 39) hx hb hts inW_14 hown hK hZ (by decide) (by decide) rfl (by decide) k_11_37 rfl (D_180 W_prog_15_method_57_code_32 26 rfl rfl rfl) ?_
        refine lv_aload_n hx hb (D_42 W_prog_15_method_57_code_32 29 rfl rfl) rfl (lv_at hl 0 rfl) ?_
        refine zget (ci := 14) (C := RX14) (T := TX14) (v := va_rf (zrf ad 13 (F 14 0 6))) (k := 6) hx hb hts inW_14 hown hK hZ (by decide) (by decide) rfl (by decide) k_11_4 rfl (D_180 W_prog_15_method_57_code_32 30 rfl rfl rfl) ?_
        obtain ⟨g11, hf⟩ := gif hf
        refine zunrf g11.1 ?_
        refine zget (ci := 13) (C := RX13) (T := TX13) (v := .int (iI (F 13 (F 14 0 6) 4))) (k := 4) hx hb hts inW_13 hown hK hZ g11.1 g11.2 rfl (by decide) k_9_129 rfl (D_180 W_prog_15_method_57_code_64 1 rfl rfl rfl) ?_
        obtain ⟨g12, hf⟩ := gif hf
        refine zi2l hx hb g12 (D_133 W_prog_15_method_57_code_64 4 rfl rfl) ?_
        refine lv_aload_n hx hb (D_42 W_prog_15_method_57_code_64 5 rfl rfl) rfl (lv_at hl 0 rfl) ?_
        refine zget (ci := 14) (C := RX14) (T := TX14) (v := va_rf (zrf ad 13 (F 14 0 6))) (k := 6) hx hb hts inW_14 hown hK hZ (by decide) (by decide) rfl (by decide) k_11_4 rfl (D_180 W_prog_15_method_57_code_64 6 rfl rfl rfl) ?_
        refine zunrf g11.1 ?_
        refine zget (ci := 13) (C := RX13) (T := TX13) (v := .int (iI (F 13 (F 14 0 6) 5))) (k := 5) hx hb hts inW_13 hown hK hZ g11.1 g11.2 rfl (by decide) k_9_130 rfl (D_180 W_prog_15_method_57_code_64 9 rfl rfl rfl) ?_
        obtain ⟨g13, hf⟩ := gif hf
        refine zi2l hx hb g13 (D_133 W_prog_15_method_57_code_64 12 rfl rfl) ?_
        obtain ⟨r14, F14, B14, hc14, hf⟩ := gbind hf
        refine va_calli (va_runS (As := [.long (lI (F 14 0 38)), .long (lI (F 14 0 39)), .long (lI (F 13 (F 14 0 6) 4)), .long (lI (F 13 (F 14 0 6) 5))]) (rest := []) ⟨hx, hb, hml, hown, hts⟩ (c_M_isMultiple (l := l) hc14) (va_cwS 4 hts (gdS k_13_185 k_13_186 k_1_9 k_13_187) rfl rfl rfl (by decide +kernel) ⟨by dsimp only; omega, by dsimp only; omega⟩) (zPS X hZ hS [.long (lI (F 14 0 38)), .long (lI (F 14 0 39)), .long (lI (F 13 (F 14 0 6) 4)), .long (lI (F 13 (F 14 0 6) 5))]) rfl rfl hl.1 rfl (lv_room (Nat.le_of_ble_eq_true rfl)) (D_184 W_prog_15_method_57_code_64 13 rfl rfl rfl) ⟨Nat.le_of_ble_eq_true rfl, Nat.le_of_ble_eq_true rfl⟩) hS (fun q _ h => zAin X hS q h) (zAin X hS) (fun p14 u14 t14 H14 locs14 ht14 hv14 hw14 hB14 hz14 hk14 hS14 => ?_)
        have hZ14 := zBack X ht14 hB14
        subst hw14
        obtain ⟨g15, hf⟩ := gif hf
        refine z0ne (tgt := 182) hx hb g15 (D_154 W_prog_15_method_57_code_64 16 rfl rfl rfl) (by decide) (fun h16 => ?_) (fun h16 => ?_)
        · replace hf := gneg hf h16
          exact b_M_goSign_182 X ho hf hZ14 hS14 (lv_sub hl [] rfl)
        · replace hf := gpos hf h16
          refine lv_aload_n hx hb (D_42 W_prog_15_method_57_code_64 19 rfl rfl) rfl (lv_at hl 0 rfl) ?_
          refine lv_bipush (v := iI 7) hx hb (D_16 W_prog_15_method_57_code_64 20 rfl rfl rfl) (by decide) ?_
          refine lv_iload_n hx hb (D_27 W_prog_15_method_57_code_64 22 rfl rfl) rfl (lv_at hl 1 rfl) ?_
          obtain ⟨r17, F17, B17, hc17, hf⟩ := gbind hf
          refine va_callv (va_runV (As := [.int (iI 7), .int (iI l1)]) (rest := []) ⟨hx, hb, hml, hown, hts⟩ (c_M_failAt (l := l) hc17) (cwV 2 hts (gdV k_14_132 k_14_134 ks_205 k_1_9 k_14_135) rfl rfl rfl (by decide +kernel) ⟨by dsimp only; omega, by dsimp only; omega⟩) (zPV X hZ14 hS14 (ci := 14) (by decide) (by decide) (r := (RX14, TX14, 107)) rfl [.int (iI 7), .int (iI l1)]) rfl rfl hl.1 rfl (lv_room (Nat.le_of_ble_eq_true rfl)) (D_182 W_prog_15_method_57_code_64 23 rfl rfl rfl) ⟨Nat.le_of_ble_eq_true rfl, Nat.le_of_ble_eq_true rfl⟩) hS14 (fun q _ h => zAin X hS14 q h) (zAin X hS14) (fun u17 t17 H17 locs17 ht17 hv17 hw17 hB17 hz17 hk17 hS17 => ?_)
          have hZ17 := zBack X ht17 hB17
          refine lv_goto (tgt := 182) hx hb (D_167 W_prog_15_method_57_code_64 26 rfl rfl rfl) (by decide) ?_
          exact b_M_goSign_182 X ho hf hZ17 hS17 (lv_sub hl [] rfl)
  · replace hf := gpos hf h3
    refine lv_aload_n hx hb (D_42 W_prog_15_method_57_code_0 11 rfl rfl) rfl (lv_at hl 0 rfl) ?_
    refine lv_aload_n hx hb (D_42 W_prog_15_method_57_code_0 12 rfl rfl) rfl (lv_at hl 0 rfl) ?_
    refine zget (ci := 14) (C := RX14) (T := TX14) (v := .ref (ad 14 0 (14 + 1))) (k := 14) hx hb hts inW_14 hown hK hZ (by decide) (by decide) rfl (by decide) k_11_12 rfl (D_180 W_prog_15_method_57_code_0 13 rfl rfl rfl) ?_
    refine lv_bipush (v := iI 8) hx hb (D_16 W_prog_15_method_57_code_0 16 rfl rfl rfl) (by decide) ?_
    refine lv_aload_n hx hb (D_42 W_prog_15_method_57_code_0 18 rfl rfl) rfl (lv_at hl 0 rfl) ?_
    refine zget (ci := 14) (C := RX14) (T := TX14) (v := .ref (ad 14 0 (11 + 1))) (k := 11) hx hb hts inW_14 hown hK hZ (by decide) (by decide) rfl (by decide) k_11_9 rfl (D_180 W_prog_15_method_57_code_0 19 rfl rfl rfl) ?_
    refine lv_iload_n hx hb (D_27 W_prog_15_method_57_code_0 22 rfl rfl) rfl (lv_at hl 1 rfl) ?_
    refine lv_iconst (v := iI 1) hx hb (D_4 W_prog_15_method_57_code_0 23 rfl rfl) rfl ?_
    refine zadd hx hb (D_96 W_prog_15_method_57_code_0 24 rfl rfl) ?_
    obtain ⟨g18, hf⟩ := gif hf
    refine zlald (ci := 14) (k := 11) hx hb hK rfl hZ (by decide) (by decide) rfl (Nat.le_of_ble_eq_true rfl) g18.1 g18.2 (D_47 W_prog_15_method_57_code_0 25 rfl rfl) ?_
    obtain ⟨r19, F19, B19, hc19, hf⟩ := gbind hf
    refine va_calli (va_runS (As := [.ref (ad 14 0 (14 + 1)), .int (iI 8), .long (lI (B 14 0 11 (l1 + 1)))]) (rest := [.ref (ad 14 0 0)]) ⟨hx, hb, hml, hown, hts⟩ (c_M_find (l := l) hc19) (va_cwS 3 hts (gdS k_14_156 k_14_157 k_1_9 k_14_158) rfl rfl rfl (by decide +kernel) ⟨by dsimp only; omega, by dsimp only; omega⟩) (zPS X hZ hS [.ref (ad 14 0 (14 + 1)), .int (iI 8), .long (lI (B 14 0 11 (l1 + 1)))]) rfl rfl hl.1 rfl (lv_room (Nat.le_of_ble_eq_true rfl)) (D_184 W_prog_15_method_57_code_0 26 rfl rfl rfl) ⟨Nat.le_of_ble_eq_true rfl, Nat.le_of_ble_eq_true rfl⟩) hS (fun q _ h => zAin X hS q h) (zAin X hS) (fun p19 u19 t19 H19 locs19 ht19 hv19 hw19 hB19 hz19 hk19 hS19 => ?_)
    have hZ19 := zBack X ht19 hB19
    subst hw19
    refine zput (ci := 14) (C := RX14) (T := TX14) (k := 40) (v := r19) (w := .int (iI r19)) hx hb hts inW_14 tyX14 tyX14_ok nmX14 hown hK hZ19 hS19 (by decide) (by decide) rfl (by decide) k_11_38 rfl (fun G h => congrArg (fun q => Value.int (iI q)) h) rfl rfl (zno (by decide)) (D_181 W_prog_15_method_57_code_0 29 rfl rfl rfl) (fun H20 locs20 hZ20 hS20 => ?_)
    refine lv_goto (tgt := 182) hx hb (D_167 W_prog_15_method_57_code_32 0 rfl rfl rfl) (by decide) ?_
    exact b_M_goSign_182 X ho hf hZ20 hS20 (lv_sub hl [] rfl)

def f_M_goRepeat_192 (o : oT_W) (K : Nat)  (F : zF) (B : zB) : zO := some (0, F, B)
set_option maxHeartbeats 4000000 in
set_option maxRecDepth 100000 in
theorem b_M_goRepeat_192 {D : va_G} {ca : Nat → ClassId} {ad : Nat → Int → Nat → Nat} {L : List Nat} {aS vS : Nat → Nat} {A : Nat → Prop} {p : Program} {l : Launch} {e : Env} {s : State} {m : MethodId} {args : Array Value} {below : List Frame} {meth : Method} {c : Code} {K : Nat} {r : Int} {F9 : zF} {B9 : zB} {d : Nat} {o : oT_W} (X : zX D ca L aS vS A p s m args meth c prog_15_method_58_code 9 (Option.none : Option Jvm.ClassFile.FieldType) "StaveHouseModel") (ho : oH_W l D ca ad L aS vS d o)  {F : zF} {B : zB} {H : Heap} {locs : List Loc} {ls : Array Slot} (hf : f_M_goRepeat_192 o K  F B = some (r, F9, B9)) (hZ : zH D ca ad lnM nM L F B A H) (hS : va_S A s.heap H locs) (hl : lv_has ls 9 []) : W p l e ({ frames := d + 1 + 5, cells := 0, slots := 0, locals := 28 * (d + 1) + 116 } : Room) s m args below meth c H locs 0 0 (MQ below (Q_M_goRepeat D ca ad L r F9 B9 A) args s 0 0 A) (F0 m 192 ls []) := by
  obtain ⟨hx, hb, hr, hml, hown, hts, hlk, hK, hA, hL, hX⟩ := id X
  replace hf : (some (0, F, B)) = some (r, F9, B9) := hf
  cases hf
  exact W.vret hx hb hr (fun t ht hW => ⟨⟨(), rfl, trivial, by rw [ht]; exact hZ, va_K.moved hW.alike hK⟩, hS.F ht⟩) hS.2.2 (D_177 W_prog_15_method_58_code_192 0 rfl rfl) hlk

def f_M_goRepeat_186 (o : oT_W) (rec74 : Int → Int → Int → Int → Int → zF → zB → zO) (K : Nat) (l6 : Int) (l5 : Int) (l3 : Int) (l2 : Int) (l1 : Int) (F : zF) (B : zB) : zO := rec74 (l6 + 1) l5 l3 l2 l1 F B
set_option maxHeartbeats 4000000 in
set_option maxRecDepth 100000 in
theorem b_M_goRepeat_186 {D : va_G} {ca : Nat → ClassId} {ad : Nat → Int → Nat → Nat} {L : List Nat} {aS vS : Nat → Nat} {A : Nat → Prop} {p : Program} {l : Launch} {e : Env} {s : State} {m : MethodId} {args : Array Value} {below : List Frame} {meth : Method} {c : Code} {K : Nat} {r : Int} {F9 : zF} {B9 : zB} {d : Nat} {o : oT_W} (X : zX D ca L aS vS A p s m args meth c prog_15_method_58_code 9 (Option.none : Option Jvm.ClassFile.FieldType) "StaveHouseModel") (ho : oH_W l D ca ad L aS vS d o) {rec74 : Int → Int → Int → Int → Int → zF → zB → zO} (hrec74 : ∀ {l6 : Int} {l5 : Int} {l3 : Int} {l2 : Int} {l1 : Int} {F : zF} {B : zB} {H : Heap} {locs : List Loc} {ls : Array Slot}, rec74 l6 l5 l3 l2 l1 F B = some (r, F9, B9) → zH D ca ad lnM nM L F B A H → va_S A s.heap H locs → lv_has ls 9 [(6, .int (iI l6)), (5, .int (iI l5)), (3, .int (iI l3)), (2, .int (iI l2)), (0, .ref (ad 14 0 0)), (1, .int (iI l1))] → W p l e ({ frames := d + 1 + 5, cells := 0, slots := 0, locals := 28 * (d + 1) + 116 } : Room) s m args below meth c H locs 0 0 (MQ below (Q_M_goRepeat D ca ad L r F9 B9 A) args s 0 0 A) (F0 m 74 ls [])) {l6 : Int} {l5 : Int} {l3 : Int} {l2 : Int} {l1 : Int} {F : zF} {B : zB} {H : Heap} {locs : List Loc} {ls : Array Slot} (hf : f_M_goRepeat_186 o rec74 K l6 l5 l3 l2 l1 F B = some (r, F9, B9)) (hZ : zH D ca ad lnM nM L F B A H) (hS : va_S A s.heap H locs) (hl : lv_has ls 9 [(6, .int (iI l6)), (5, .int (iI l5)), (3, .int (iI l3)), (2, .int (iI l2)), (0, .ref (ad 14 0 0)), (1, .int (iI l1))]) : W p l e ({ frames := d + 1 + 5, cells := 0, slots := 0, locals := 28 * (d + 1) + 116 } : Room) s m args below meth c H locs 0 0 (MQ below (Q_M_goRepeat D ca ad L r F9 B9 A) args s 0 0 A) (F0 m 186 ls []) := by
  obtain ⟨hx, hb, hr, hml, hown, hts, hlk, hK, hA, hL, hX⟩ := id X
  replace hf : (rec74 (l6 + 1) l5 l3 l2 l1 F B) = some (r, F9, B9) := hf
  refine lv_iinc (v := iI (l6 + 1)) (lv' := [(6, .int (iI (l6 + 1))), (5, .int (iI l5)), (3, .int (iI l3)), (2, .int (iI l2)), (0, .ref (ad 14 0 0)), (1, .int (iI l1))]) hx hb d_15_58_186 hl (k := 0) rfl (iI_add _ 1) (by decide) rfl (fun ls hl => ?_)
  refine lv_goto (tgt := 74) hx hb (D_167 W_prog_15_method_58_code_160 29 rfl rfl rfl) (by decide) ?_
  exact hrec74 hf hZ hS (lv_sub hl [0, 1, 2, 3, 4, 5] rfl)

def f_M_goRepeat_166 (o : oT_W) (rec74 : Int → Int → Int → Int → Int → zF → zB → zO) (K : Nat) (l7 : Int) (l6 : Int) (l5 : Int) (l3 : Int) (l2 : Int) (l1 : Int) (F : zF) (B : zB) : zO := zbind (f_M_counts K l1 F B) (fun r35 F35 B35 => if 0 ≤ l7 ∧ l7 < 3001 then zbind (o.1 (l7 + 1) (B35 14 0 30 l7) F35 B35) (fun r37 F37 B37 => f_M_goRepeat_186 o rec74 K l6 l5 l3 l2 l1 F37 B37) else none)
set_option maxHeartbeats 4000000 in
set_option maxRecDepth 100000 in
theorem b_M_goRepeat_166 {D : va_G} {ca : Nat → ClassId} {ad : Nat → Int → Nat → Nat} {L : List Nat} {aS vS : Nat → Nat} {A : Nat → Prop} {p : Program} {l : Launch} {e : Env} {s : State} {m : MethodId} {args : Array Value} {below : List Frame} {meth : Method} {c : Code} {K : Nat} {r : Int} {F9 : zF} {B9 : zB} {d : Nat} {o : oT_W} (X : zX D ca L aS vS A p s m args meth c prog_15_method_58_code 9 (Option.none : Option Jvm.ClassFile.FieldType) "StaveHouseModel") (ho : oH_W l D ca ad L aS vS d o) {rec74 : Int → Int → Int → Int → Int → zF → zB → zO} (hrec74 : ∀ {l6 : Int} {l5 : Int} {l3 : Int} {l2 : Int} {l1 : Int} {F : zF} {B : zB} {H : Heap} {locs : List Loc} {ls : Array Slot}, rec74 l6 l5 l3 l2 l1 F B = some (r, F9, B9) → zH D ca ad lnM nM L F B A H → va_S A s.heap H locs → lv_has ls 9 [(6, .int (iI l6)), (5, .int (iI l5)), (3, .int (iI l3)), (2, .int (iI l2)), (0, .ref (ad 14 0 0)), (1, .int (iI l1))] → W p l e ({ frames := d + 1 + 5, cells := 0, slots := 0, locals := 28 * (d + 1) + 116 } : Room) s m args below meth c H locs 0 0 (MQ below (Q_M_goRepeat D ca ad L r F9 B9 A) args s 0 0 A) (F0 m 74 ls [])) {l7 : Int} {l6 : Int} {l5 : Int} {l3 : Int} {l2 : Int} {l1 : Int} {F : zF} {B : zB} {H : Heap} {locs : List Loc} {ls : Array Slot} (hf : f_M_goRepeat_166 o rec74 K l7 l6 l5 l3 l2 l1 F B = some (r, F9, B9)) (hZ : zH D ca ad lnM nM L F B A H) (hS : va_S A s.heap H locs) (hl : lv_has ls 9 [(7, .int (iI l7)), (6, .int (iI l6)), (5, .int (iI l5)), (3, .int (iI l3)), (2, .int (iI l2)), (0, .ref (ad 14 0 0)), (1, .int (iI l1))]) : W p l e ({ frames := d + 1 + 5, cells := 0, slots := 0, locals := 28 * (d + 1) + 116 } : Room) s m args below meth c H locs 0 0 (MQ below (Q_M_goRepeat D ca ad L r F9 B9 A) args s 0 0 A) (F0 m 166 ls []) := by
  obtain ⟨hx, hb, hr, hml, hown, hts, hlk, hK, hA, hL, hX⟩ := id X
  replace hf : (zbind (f_M_counts K l1 F B) (fun r35 F35 B35 => if 0 ≤ l7 ∧ l7 < 3001 then zbind (o.1 (l7 + 1) (B35 14 0 30 l7) F35 B35) (fun r37 F37 B37 => f_M_goRepeat_186 o rec74 K l6 l5 l3 l2 l1 F37 B37) else none)) = some (r, F9, B9) := hf
  refine lv_aload_n hx hb (D_42 W_prog_15_method_58_code_160 6 rfl rfl) rfl (lv_at hl 5 rfl) ?_
  refine lv_iload_n hx hb (D_27 W_prog_15_method_58_code_160 7 rfl rfl) rfl (lv_at hl 6 rfl) ?_
  obtain ⟨r35, F35, B35, hc35, hf⟩ := gbind hf
  refine va_callv (va_runV (As := [.int (iI l1)]) (rest := []) ⟨hx, hb, hml, hown, hts⟩ (c_M_counts (l := l) hc35) (cwV 1 hts (gdV k_14_211 k_14_213 ks_224 k_1_9 k_14_214) rfl rfl rfl (by decide +kernel) ⟨by dsimp only; omega, by dsimp only; omega⟩) (zPV X hZ hS (ci := 14) (by decide) (by decide) (r := (RX14, TX14, 107)) rfl [.int (iI l1)]) rfl rfl hl.1 rfl (lv_room (Nat.le_of_ble_eq_true rfl)) (D_182 W_prog_15_method_58_code_160 8 rfl rfl rfl) ⟨Nat.le_of_ble_eq_true rfl, Nat.le_of_ble_eq_true rfl⟩) hS (fun q _ h => zAin X hS q h) (zAin X hS) (fun u35 t35 H35 locs35 ht35 hv35 hw35 hB35 hz35 hk35 hS35 => ?_)
  have hZ35 := zBack X ht35 hB35
  refine lv_aload_n hx hb (D_42 W_prog_15_method_58_code_160 11 rfl rfl) rfl (lv_at hl 5 rfl) ?_
  refine lv_iload hx hb (D_21 W_prog_15_method_58_code_160 12 rfl rfl) (lv_at hl 0 rfl) ?_
  refine lv_iconst (v := iI 1) hx hb (D_4 W_prog_15_method_58_code_160 14 rfl rfl) rfl ?_
  refine zadd hx hb (D_96 W_prog_15_method_58_code_160 15 rfl rfl) ?_
  refine lv_aload_n hx hb (D_42 W_prog_15_method_58_code_160 16 rfl rfl) rfl (lv_at hl 5 rfl) ?_
  refine zget (ci := 14) (C := RX14) (T := TX14) (v := .ref (ad 14 0 (30 + 1))) (k := 30) hx hb hts inW_14 hown hK hZ35 (by decide) (by decide) rfl (by decide) k_11_28 rfl (D_180 W_prog_15_method_58_code_160 17 rfl rfl rfl) ?_
  refine lv_iload hx hb (D_21 W_prog_15_method_58_code_160 20 rfl rfl) (lv_at hl 0 rfl) ?_
  obtain ⟨g36, hf⟩ := gif hf
  refine zald (ci := 14) (k := 30) hx hb hK rfl hZ35 (by decide) (by decide) rfl (Nat.le_of_ble_eq_true rfl) g36.1 g36.2 (D_46 W_prog_15_method_58_code_160 22 rfl rfl) ?_
  obtain ⟨r37, F37, B37, hc37, hf⟩ := gbind hf
  refine va_callv (va_runV (As := [.int (iI (l7 + 1)), .int (iI (B35 14 0 30 l7))]) (rest := []) ⟨hx, hb, hml, hown, hts⟩ (ho.1 hc37) (cwV 2 hts (gdV k_14_207 k_14_209 ks_223 k_1_9 k_14_210) rfl rfl rfl (by decide +kernel) ⟨by dsimp only; omega, by dsimp only; omega⟩) (zPV X hZ35 hS35 (ci := 14) (by decide) (by decide) (r := (RX14, TX14, 107)) rfl [.int (iI (l7 + 1)), .int (iI (B35 14 0 30 l7))]) rfl rfl hl.1 rfl (lv_room (Nat.le_of_ble_eq_true rfl)) (D_182 W_prog_15_method_58_code_160 23 rfl rfl rfl) ⟨Nat.le_of_ble_eq_true rfl, Nat.le_of_ble_eq_true rfl⟩) hS35 (fun q _ h => zAin X hS35 q h) (zAin X hS35) (fun u37 t37 H37 locs37 ht37 hv37 hw37 hB37 hz37 hk37 hS37 => ?_)
  have hZ37 := zBack X ht37 hB37
  exact b_M_goRepeat_186 X ho hrec74 hf hZ37 hS37 (lv_sub hl [1, 2, 3, 4, 5, 6] rfl)

def f_M_goRepeat_135 (o : oT_W) (rec74 : Int → Int → Int → Int → Int → zF → zB → zO) (K : Nat) : Nat → Int → Int → Int → Int → Int → Int → Int → zF → zB → zO
  | 0, _, _, _, _, _, _, _, _, _ => none
  | n + 1, l8, l7, l6, l5, l3, l2, l1, F, B => if r32 l8 then if r32 l6 then (if l6 ≤ l8 then f_M_goRepeat_166 o rec74 K l7 l6 l5 l3 l2 l1 F B else if r32 l5 then (if l5 ≤ l8 then f_M_goRepeat_166 o rec74 K l7 l6 l5 l3 l2 l1 F B else if 0 ≤ l7 ∧ l7 < 3001 then f_M_goRepeat_135 o rec74 K n (l8 + 1) ((B 14 0 30 l7) + 1) l6 l5 l3 l2 l1 F B else none) else none) else none else none
set_option maxHeartbeats 4000000 in
set_option maxRecDepth 100000 in
theorem b_M_goRepeat_135 {D : va_G} {ca : Nat → ClassId} {ad : Nat → Int → Nat → Nat} {L : List Nat} {aS vS : Nat → Nat} {A : Nat → Prop} {p : Program} {l : Launch} {e : Env} {s : State} {m : MethodId} {args : Array Value} {below : List Frame} {meth : Method} {c : Code} {K : Nat} {r : Int} {F9 : zF} {B9 : zB} {d : Nat} {o : oT_W} (X : zX D ca L aS vS A p s m args meth c prog_15_method_58_code 9 (Option.none : Option Jvm.ClassFile.FieldType) "StaveHouseModel") (ho : oH_W l D ca ad L aS vS d o) {rec74 : Int → Int → Int → Int → Int → zF → zB → zO} (hrec74 : ∀ {l6 : Int} {l5 : Int} {l3 : Int} {l2 : Int} {l1 : Int} {F : zF} {B : zB} {H : Heap} {locs : List Loc} {ls : Array Slot}, rec74 l6 l5 l3 l2 l1 F B = some (r, F9, B9) → zH D ca ad lnM nM L F B A H → va_S A s.heap H locs → lv_has ls 9 [(6, .int (iI l6)), (5, .int (iI l5)), (3, .int (iI l3)), (2, .int (iI l2)), (0, .ref (ad 14 0 0)), (1, .int (iI l1))] → W p l e ({ frames := d + 1 + 5, cells := 0, slots := 0, locals := 28 * (d + 1) + 116 } : Room) s m args below meth c H locs 0 0 (MQ below (Q_M_goRepeat D ca ad L r F9 B9 A) args s 0 0 A) (F0 m 74 ls [])) : ∀ {n : Nat} {l8 : Int} {l7 : Int} {l6 : Int} {l5 : Int} {l3 : Int} {l2 : Int} {l1 : Int} {F : zF} {B : zB} {H : Heap} {locs : List Loc} {ls : Array Slot}, f_M_goRepeat_135 o rec74 K n l8 l7 l6 l5 l3 l2 l1 F B = some (r, F9, B9) → zH D ca ad lnM nM L F B A H → va_S A s.heap H locs → lv_has ls 9 [(8, .int (iI l8)), (7, .int (iI l7)), (6, .int (iI l6)), (5, .int (iI l5)), (3, .int (iI l3)), (2, .int (iI l2)), (0, .ref (ad 14 0 0)), (1, .int (iI l1))] → W p l e ({ frames := d + 1 + 5, cells := 0, slots := 0, locals := 28 * (d + 1) + 116 } : Room) s m args below meth c H locs 0 0 (MQ below (Q_M_goRepeat D ca ad L r F9 B9 A) args s 0 0 A) (F0 m 135 ls []) := by
  obtain ⟨hx, hb, hr, hml, hown, hts, hlk, hK, hA, hL, hX⟩ := id X
  intro n
  induction n with
  | zero =>
    intros
    rename_i hf _ _ _
    cases hf
  | succ n ih =>
    intro l8 l7 l6 l5 l3 l2 l1 F B H locs ls hf hZ hS hl
    replace hf : (if r32 l8 then if r32 l6 then (if l6 ≤ l8 then f_M_goRepeat_166 o rec74 K l7 l6 l5 l3 l2 l1 F B else if r32 l5 then (if l5 ≤ l8 then f_M_goRepeat_166 o rec74 K l7 l6 l5 l3 l2 l1 F B else if 0 ≤ l7 ∧ l7 < 3001 then f_M_goRepeat_135 o rec74 K n (l8 + 1) ((B 14 0 30 l7) + 1) l6 l5 l3 l2 l1 F B else none) else none) else none else none) = some (r, F9, B9) := hf
    refine lv_iload hx hb (D_21 W_prog_15_method_58_code_128 7 rfl rfl) (lv_at hl 0 rfl) ?_
    refine lv_iload hx hb (D_21 W_prog_15_method_58_code_128 9 rfl rfl) (lv_at hl 2 rfl) ?_
    obtain ⟨g28, hf⟩ := gif hf
    obtain ⟨g29, hf⟩ := gif hf
    refine zge (tgt := 166) hx hb g28 g29 (D_162 W_prog_15_method_58_code_128 11 rfl rfl rfl) (by decide) (fun h30 => ?_) (fun h30 => ?_)
    · replace hf := gpos hf h30
      exact b_M_goRepeat_166 X ho hrec74 hf hZ hS (lv_sub hl [1, 2, 3, 4, 5, 6, 7] rfl)
    · replace hf := gneg hf h30
      refine lv_iload hx hb (D_21 W_prog_15_method_58_code_128 14 rfl rfl) (lv_at hl 0 rfl) ?_
      refine lv_iload hx hb (D_21 W_prog_15_method_58_code_128 16 rfl rfl) (lv_at hl 3 rfl) ?_
      obtain ⟨g31, hf⟩ := gif hf
      refine zge (tgt := 166) hx hb g28 g31 (D_162 W_prog_15_method_58_code_128 18 rfl rfl rfl) (by decide) (fun h33 => ?_) (fun h33 => ?_)
      · replace hf := gpos hf h33
        exact b_M_goRepeat_166 X ho hrec74 hf hZ hS (lv_sub hl [1, 2, 3, 4, 5, 6, 7] rfl)
      · replace hf := gneg hf h33
        refine lv_aload_n hx hb (D_42 W_prog_15_method_58_code_128 21 rfl rfl) rfl (lv_at hl 6 rfl) ?_
        refine zget (ci := 14) (C := RX14) (T := TX14) (v := .ref (ad 14 0 (30 + 1))) (k := 30) hx hb hts inW_14 hown hK hZ (by decide) (by decide) rfl (by decide) k_11_28 rfl (D_180 W_prog_15_method_58_code_128 22 rfl rfl rfl) ?_
        refine lv_iload hx hb (D_21 W_prog_15_method_58_code_128 25 rfl rfl) (lv_at hl 1 rfl) ?_
        obtain ⟨g34, hf⟩ := gif hf
        refine zald (ci := 14) (k := 30) hx hb hK rfl hZ (by decide) (by decide) rfl (Nat.le_of_ble_eq_true rfl) g34.1 g34.2 (D_46 W_prog_15_method_58_code_128 27 rfl rfl) ?_
        refine lv_iconst (v := iI 1) hx hb (D_4 W_prog_15_method_58_code_128 28 rfl rfl) rfl ?_
        refine zadd hx hb (D_96 W_prog_15_method_58_code_128 29 rfl rfl) ?_
        refine lv_istore (lv' := [(7, .int (iI ((B 14 0 30 l7) + 1))), (8, .int (iI l8)), (6, .int (iI l6)), (5, .int (iI l5)), (3, .int (iI l3)), (2, .int (iI l2)), (0, .ref (ad 14 0 0)), (1, .int (iI l1))]) hx hb (D_54 W_prog_15_method_58_code_128 30 rfl rfl) hl (by decide) rfl (fun ls hl => ?_)
        refine lv_iinc (v := iI (l8 + 1)) (lv' := [(8, .int (iI (l8 + 1))), (7, .int (iI ((B 14 0 30 l7) + 1))), (6, .int (iI l6)), (5, .int (iI l5)), (3, .int (iI l3)), (2, .int (iI l2)), (0, .ref (ad 14 0 0)), (1, .int (iI l1))]) hx hb d_15_58_160 hl (k := 1) rfl (iI_add _ 1) (by decide) rfl (fun ls hl => ?_)
        refine lv_goto (tgt := 135) hx hb (D_167 W_prog_15_method_58_code_160 3 rfl rfl rfl) (by decide) ?_
        exact ih hf hZ hS (lv_sub hl [0, 1, 2, 3, 4, 5, 6, 7] rfl)

def f_M_goRepeat_74 (o : oT_W) (K : Nat) : Nat → Int → Int → Int → Int → Int → zF → zB → zO
  | 0, _, _, _, _, _, _, _ => none
  | n + 1, l6, l5, l3, l2, l1, F, B => if 0 ≤ (l1 + 1) ∧ (l1 + 1) < 3001 then if r32 l6 then if r32 (B 14 0 9 (l1 + 1)) then (if (B 14 0 9 (l1 + 1)) < l6 then f_M_goRepeat_192 o K F B else zbind (f_M_good K F B) (fun r17 F17 B17 => if r32 r17 then (if r17 = 0 then f_M_goRepeat_192 o K F17 B17 else zbind (f_M_counts K l1 F17 B17) (fun r20 F20 B20 => if 0 ≤ l2 ∧ l2 < 3001 then zbind (o.1 (l2 + 1) (B20 14 0 30 l2) F20 B20) (fun r22 F22 B22 => if r32 l5 then (if l5 = 0 then f_M_goRepeat_186 o (f_M_goRepeat_74 o K n) K l6 l5 l3 l2 l1 F22 B22 else zbind (f_M_good K F22 B22) (fun r25 F25 B25 => if r32 r25 then (if r25 = 0 then f_M_goRepeat_186 o (f_M_goRepeat_74 o K n) K l6 l5 l3 l2 l1 F25 B25 else f_M_goRepeat_135 o (f_M_goRepeat_74 o K n) K K 1 (l3 + 1) l6 l5 l3 l2 l1 F25 B25) else none)) else none) else none)) else none)) else none else none else none
set_option maxHeartbeats 4000000 in
set_option maxRecDepth 100000 in
theorem b_M_goRepeat_74 {D : va_G} {ca : Nat → ClassId} {ad : Nat → Int → Nat → Nat} {L : List Nat} {aS vS : Nat → Nat} {A : Nat → Prop} {p : Program} {l : Launch} {e : Env} {s : State} {m : MethodId} {args : Array Value} {below : List Frame} {meth : Method} {c : Code} {K : Nat} {r : Int} {F9 : zF} {B9 : zB} {d : Nat} {o : oT_W} (X : zX D ca L aS vS A p s m args meth c prog_15_method_58_code 9 (Option.none : Option Jvm.ClassFile.FieldType) "StaveHouseModel") (ho : oH_W l D ca ad L aS vS d o) : ∀ {n : Nat} {l6 : Int} {l5 : Int} {l3 : Int} {l2 : Int} {l1 : Int} {F : zF} {B : zB} {H : Heap} {locs : List Loc} {ls : Array Slot}, f_M_goRepeat_74 o K n l6 l5 l3 l2 l1 F B = some (r, F9, B9) → zH D ca ad lnM nM L F B A H → va_S A s.heap H locs → lv_has ls 9 [(6, .int (iI l6)), (5, .int (iI l5)), (3, .int (iI l3)), (2, .int (iI l2)), (0, .ref (ad 14 0 0)), (1, .int (iI l1))] → W p l e ({ frames := d + 1 + 5, cells := 0, slots := 0, locals := 28 * (d + 1) + 116 } : Room) s m args below meth c H locs 0 0 (MQ below (Q_M_goRepeat D ca ad L r F9 B9 A) args s 0 0 A) (F0 m 74 ls []) := by
  obtain ⟨hx, hb, hr, hml, hown, hts, hlk, hK, hA, hL, hX⟩ := id X
  intro n
  induction n with
  | zero =>
    intros
    rename_i hf _ _ _
    cases hf
  | succ n ih =>
    intro l6 l5 l3 l2 l1 F B H locs ls hf hZ hS hl
    replace hf : (if 0 ≤ (l1 + 1) ∧ (l1 + 1) < 3001 then if r32 l6 then if r32 (B 14 0 9 (l1 + 1)) then (if (B 14 0 9 (l1 + 1)) < l6 then f_M_goRepeat_192 o K F B else zbind (f_M_good K F B) (fun r17 F17 B17 => if r32 r17 then (if r17 = 0 then f_M_goRepeat_192 o K F17 B17 else zbind (f_M_counts K l1 F17 B17) (fun r20 F20 B20 => if 0 ≤ l2 ∧ l2 < 3001 then zbind (o.1 (l2 + 1) (B20 14 0 30 l2) F20 B20) (fun r22 F22 B22 => if r32 l5 then (if l5 = 0 then f_M_goRepeat_186 o (f_M_goRepeat_74 o K n) K l6 l5 l3 l2 l1 F22 B22 else zbind (f_M_good K F22 B22) (fun r25 F25 B25 => if r32 r25 then (if r25 = 0 then f_M_goRepeat_186 o (f_M_goRepeat_74 o K n) K l6 l5 l3 l2 l1 F25 B25 else f_M_goRepeat_135 o (f_M_goRepeat_74 o K n) K K 1 (l3 + 1) l6 l5 l3 l2 l1 F25 B25) else none)) else none) else none)) else none)) else none else none else none) = some (r, F9, B9) := hf
    refine lv_iload hx hb (D_21 W_prog_15_method_58_code_64 10 rfl rfl) (lv_at hl 0 rfl) ?_
    refine lv_aload_n hx hb (D_42 W_prog_15_method_58_code_64 12 rfl rfl) rfl (lv_at hl 4 rfl) ?_
    refine zget (ci := 14) (C := RX14) (T := TX14) (v := .ref (ad 14 0 (9 + 1))) (k := 9) hx hb hts inW_14 hown hK hZ (by decide) (by decide) rfl (by decide) k_11_7 rfl (D_180 W_prog_15_method_58_code_64 13 rfl rfl rfl) ?_
    refine lv_iload_n hx hb (D_27 W_prog_15_method_58_code_64 16 rfl rfl) rfl (lv_at hl 5 rfl) ?_
    refine lv_iconst (v := iI 1) hx hb (D_4 W_prog_15_method_58_code_64 17 rfl rfl) rfl ?_
    refine zadd hx hb (D_96 W_prog_15_method_58_code_64 18 rfl rfl) ?_
    obtain ⟨g13, hf⟩ := gif hf
    refine zald (ci := 14) (k := 9) hx hb hK rfl hZ (by decide) (by decide) rfl (Nat.le_of_ble_eq_true rfl) g13.1 g13.2 (D_46 W_prog_15_method_58_code_64 19 rfl rfl) ?_
    obtain ⟨g14, hf⟩ := gif hf
    obtain ⟨g15, hf⟩ := gif hf
    refine zgt (tgt := 192) hx hb g14 g15 (D_163 W_prog_15_method_58_code_64 20 rfl rfl rfl) (by decide) (fun h16 => ?_) (fun h16 => ?_)
    · replace hf := gpos hf h16
      exact b_M_goRepeat_192 X ho hf hZ hS (lv_sub hl [] rfl)
    · replace hf := gneg hf h16
      refine lv_aload_n hx hb (D_42 W_prog_15_method_58_code_64 23 rfl rfl) rfl (lv_at hl 4 rfl) ?_
      obtain ⟨r17, F17, B17, hc17, hf⟩ := gbind hf
      refine va_calli (va_runV (As := []) (rest := []) ⟨hx, hb, hml, hown, hts⟩ (c_M_good (l := l) hc17) (cwV 0 hts (gdV k_13_15 k_13_17 ks_152 k_1_9 k_13_18) rfl rfl rfl (by decide +kernel) ⟨by dsimp only; omega, by dsimp only; omega⟩) (zPV X hZ hS (ci := 14) (by decide) (by decide) (r := (RX14, TX14, 107)) rfl []) rfl rfl hl.1 rfl (lv_room (Nat.le_of_ble_eq_true rfl)) (D_182 W_prog_15_method_58_code_64 24 rfl rfl rfl) ⟨Nat.le_of_ble_eq_true rfl, Nat.le_of_ble_eq_true rfl⟩) hS (fun q _ h => zAin X hS q h) (zAin X hS) (fun p17 u17 t17 H17 locs17 ht17 hv17 hw17 hB17 hz17 hk17 hS17 => ?_)
      have hZ17 := zBack X ht17 hB17
      subst hw17
      obtain ⟨g18, hf⟩ := gif hf
      refine z0eq (tgt := 192) hx hb g18 (D_153 W_prog_15_method_58_code_64 27 rfl rfl rfl) (by decide) (fun h19 => ?_) (fun h19 => ?_)
      · replace hf := gpos hf h19
        exact b_M_goRepeat_192 X ho hf hZ17 hS17 (lv_sub hl [] rfl)
      · replace hf := gneg hf h19
        refine lv_aload_n hx hb (D_42 W_prog_15_method_58_code_64 30 rfl rfl) rfl (lv_at hl 4 rfl) ?_
        refine lv_iload_n hx hb (D_27 W_prog_15_method_58_code_64 31 rfl rfl) rfl (lv_at hl 5 rfl) ?_
        obtain ⟨r20, F20, B20, hc20, hf⟩ := gbind hf
        refine va_callv (va_runV (As := [.int (iI l1)]) (rest := []) ⟨hx, hb, hml, hown, hts⟩ (c_M_counts (l := l) hc20) (cwV 1 hts (gdV k_14_211 k_14_213 ks_224 k_1_9 k_14_214) rfl rfl rfl (by decide +kernel) ⟨by dsimp only; omega, by dsimp only; omega⟩) (zPV X hZ17 hS17 (ci := 14) (by decide) (by decide) (r := (RX14, TX14, 107)) rfl [.int (iI l1)]) rfl rfl hl.1 rfl (lv_room (Nat.le_of_ble_eq_true rfl)) (D_182 W_prog_15_method_58_code_96 0 rfl rfl rfl) ⟨Nat.le_of_ble_eq_true rfl, Nat.le_of_ble_eq_true rfl⟩) hS17 (fun q _ h => zAin X hS17 q h) (zAin X hS17) (fun u20 t20 H20 locs20 ht20 hv20 hw20 hB20 hz20 hk20 hS20 => ?_)
        have hZ20 := zBack X ht20 hB20
        refine lv_aload_n hx hb (D_42 W_prog_15_method_58_code_96 3 rfl rfl) rfl (lv_at hl 4 rfl) ?_
        refine lv_iload_n hx hb (D_28 W_prog_15_method_58_code_96 4 rfl rfl) rfl (lv_at hl 3 rfl) ?_
        refine lv_iconst (v := iI 1) hx hb (D_4 W_prog_15_method_58_code_96 5 rfl rfl) rfl ?_
        refine zadd hx hb (D_96 W_prog_15_method_58_code_96 6 rfl rfl) ?_
        refine lv_aload_n hx hb (D_42 W_prog_15_method_58_code_96 7 rfl rfl) rfl (lv_at hl 4 rfl) ?_
        refine zget (ci := 14) (C := RX14) (T := TX14) (v := .ref (ad 14 0 (30 + 1))) (k := 30) hx hb hts inW_14 hown hK hZ20 (by decide) (by decide) rfl (by decide) k_11_28 rfl (D_180 W_prog_15_method_58_code_96 8 rfl rfl rfl) ?_
        refine lv_iload_n hx hb (D_28 W_prog_15_method_58_code_96 11 rfl rfl) rfl (lv_at hl 3 rfl) ?_
        obtain ⟨g21, hf⟩ := gif hf
        refine zald (ci := 14) (k := 30) hx hb hK rfl hZ20 (by decide) (by decide) rfl (Nat.le_of_ble_eq_true rfl) g21.1 g21.2 (D_46 W_prog_15_method_58_code_96 12 rfl rfl) ?_
        obtain ⟨r22, F22, B22, hc22, hf⟩ := gbind hf
        refine va_callv (va_runV (As := [.int (iI (l2 + 1)), .int (iI (B20 14 0 30 l2))]) (rest := []) ⟨hx, hb, hml, hown, hts⟩ (ho.1 hc22) (cwV 2 hts (gdV k_14_207 k_14_209 ks_223 k_1_9 k_14_210) rfl rfl rfl (by decide +kernel) ⟨by dsimp only; omega, by dsimp only; omega⟩) (zPV X hZ20 hS20 (ci := 14) (by decide) (by decide) (r := (RX14, TX14, 107)) rfl [.int (iI (l2 + 1)), .int (iI (B20 14 0 30 l2))]) rfl rfl hl.1 rfl (lv_room (Nat.le_of_ble_eq_true rfl)) (D_182 W_prog_15_method_58_code_96 13 rfl rfl rfl) ⟨Nat.le_of_ble_eq_true rfl, Nat.le_of_ble_eq_true rfl⟩) hS20 (fun q _ h => zAin X hS20 q h) (zAin X hS20) (fun u22 t22 H22 locs22 ht22 hv22 hw22 hB22 hz22 hk22 hS22 => ?_)
        have hZ22 := zBack X ht22 hB22
        refine lv_iload hx hb (D_21 W_prog_15_method_58_code_96 16 rfl rfl) (lv_at hl 1 rfl) ?_
        obtain ⟨g23, hf⟩ := gif hf
        refine z0eq (tgt := 186) hx hb g23 (D_153 W_prog_15_method_58_code_96 18 rfl rfl rfl) (by decide) (fun h24 => ?_) (fun h24 => ?_)
        · replace hf := gpos hf h24
          exact b_M_goRepeat_186 X ho ih hf hZ22 hS22 (lv_sub hl [0, 1, 2, 3, 4, 5] rfl)
        · replace hf := gneg hf h24
          refine lv_aload_n hx hb (D_42 W_prog_15_method_58_code_96 21 rfl rfl) rfl (lv_at hl 4 rfl) ?_
          obtain ⟨r25, F25, B25, hc25, hf⟩ := gbind hf
          refine va_calli (va_runV (As := []) (rest := []) ⟨hx, hb, hml, hown, hts⟩ (c_M_good (l := l) hc25) (cwV 0 hts (gdV k_13_15 k_13_17 ks_152 k_1_9 k_13_18) rfl rfl rfl (by decide +kernel) ⟨by dsimp only; omega, by dsimp only; omega⟩) (zPV X hZ22 hS22 (ci := 14) (by decide) (by decide) (r := (RX14, TX14, 107)) rfl []) rfl rfl hl.1 rfl (lv_room (Nat.le_of_ble_eq_true rfl)) (D_182 W_prog_15_method_58_code_96 22 rfl rfl rfl) ⟨Nat.le_of_ble_eq_true rfl, Nat.le_of_ble_eq_true rfl⟩) hS22 (fun q _ h => zAin X hS22 q h) (zAin X hS22) (fun p25 u25 t25 H25 locs25 ht25 hv25 hw25 hB25 hz25 hk25 hS25 => ?_)
          have hZ25 := zBack X ht25 hB25
          subst hw25
          obtain ⟨g26, hf⟩ := gif hf
          refine z0ne (tgt := 127) hx hb g26 (D_154 W_prog_15_method_58_code_96 25 rfl rfl rfl) (by decide) (fun h27 => ?_) (fun h27 => ?_)
          · replace hf := gneg hf h27
            refine lv_iload_n hx hb (D_29 W_prog_15_method_58_code_96 31 rfl rfl) rfl (lv_at hl 2 rfl) ?_
            refine lv_iconst (v := iI 1) hx hb (D_4 W_prog_15_method_58_code_128 0 rfl rfl) rfl ?_
            refine zadd hx hb (D_96 W_prog_15_method_58_code_128 1 rfl rfl) ?_
            refine lv_istore (lv' := [(7, .int (iI (l3 + 1))), (6, .int (iI l6)), (5, .int (iI l5)), (3, .int (iI l3)), (2, .int (iI l2)), (0, .ref (ad 14 0 0)), (1, .int (iI l1))]) hx hb (D_54 W_prog_15_method_58_code_128 2 rfl rfl) hl (by decide) rfl (fun ls hl => ?_)
            refine lv_iconst (v := iI 1) hx hb (D_4 W_prog_15_method_58_code_128 4 rfl rfl) rfl ?_
            refine lv_istore (lv' := [(8, .int (iI 1)), (7, .int (iI (l3 + 1))), (6, .int (iI l6)), (5, .int (iI l5)), (3, .int (iI l3)), (2, .int (iI l2)), (0, .ref (ad 14 0 0)), (1, .int (iI l1))]) hx hb (D_54 W_prog_15_method_58_code_128 5 rfl rfl) hl (by decide) rfl (fun ls hl => ?_)
            exact b_M_goRepeat_135 X ho ih hf hZ25 hS25 (lv_sub hl [0, 1, 2, 3, 4, 5, 6, 7] rfl)
          · replace hf := gpos hf h27
            refine lv_goto (tgt := 186) hx hb (D_167 W_prog_15_method_58_code_96 28 rfl rfl rfl) (by decide) ?_
            exact b_M_goRepeat_186 X ho ih hf hZ25 hS25 (lv_sub hl [0, 1, 2, 3, 4, 5] rfl)

def f_M_goRepeat_71 (o : oT_W) (K : Nat) (l5 : Int) (l3 : Int) (l2 : Int) (l1 : Int) (F : zF) (B : zB) : zO := f_M_goRepeat_74 o K K 1 l5 l3 l2 l1 F B
set_option maxHeartbeats 4000000 in
set_option maxRecDepth 100000 in
theorem b_M_goRepeat_71 {D : va_G} {ca : Nat → ClassId} {ad : Nat → Int → Nat → Nat} {L : List Nat} {aS vS : Nat → Nat} {A : Nat → Prop} {p : Program} {l : Launch} {e : Env} {s : State} {m : MethodId} {args : Array Value} {below : List Frame} {meth : Method} {c : Code} {K : Nat} {r : Int} {F9 : zF} {B9 : zB} {d : Nat} {o : oT_W} (X : zX D ca L aS vS A p s m args meth c prog_15_method_58_code 9 (Option.none : Option Jvm.ClassFile.FieldType) "StaveHouseModel") (ho : oH_W l D ca ad L aS vS d o) {l5 : Int} {l3 : Int} {l2 : Int} {l1 : Int} {F : zF} {B : zB} {H : Heap} {locs : List Loc} {ls : Array Slot} (hf : f_M_goRepeat_71 o K l5 l3 l2 l1 F B = some (r, F9, B9)) (hZ : zH D ca ad lnM nM L F B A H) (hS : va_S A s.heap H locs) (hl : lv_has ls 9 [(5, .int (iI l5)), (3, .int (iI l3)), (2, .int (iI l2)), (0, .ref (ad 14 0 0)), (1, .int (iI l1))]) : W p l e ({ frames := d + 1 + 5, cells := 0, slots := 0, locals := 28 * (d + 1) + 116 } : Room) s m args below meth c H locs 0 0 (MQ below (Q_M_goRepeat D ca ad L r F9 B9 A) args s 0 0 A) (F0 m 71 ls []) := by
  obtain ⟨hx, hb, hr, hml, hown, hts, hlk, hK, hA, hL, hX⟩ := id X
  replace hf : (f_M_goRepeat_74 o K K 1 l5 l3 l2 l1 F B) = some (r, F9, B9) := hf
  refine lv_iconst (v := iI 1) hx hb (D_4 W_prog_15_method_58_code_64 7 rfl rfl) rfl ?_
  refine lv_istore (lv' := [(6, .int (iI 1)), (5, .int (iI l5)), (3, .int (iI l3)), (2, .int (iI l2)), (0, .ref (ad 14 0 0)), (1, .int (iI l1))]) hx hb (D_54 W_prog_15_method_58_code_64 8 rfl rfl) hl (by decide) rfl (fun ls hl => ?_)
  exact b_M_goRepeat_74 X ho hf hZ hS (lv_sub hl [0, 1, 2, 3, 4, 5] rfl)

def f_M_goRepeat_38 (o : oT_W) (K : Nat) : Nat → Int → Int → Int → Int → Int → Int → zF → zB → zO
  | 0, _, _, _, _, _, _, _, _ => none
  | n + 1, l6, l5, l4, l3, l2, l1, F, B => if r32 l4 then (if l4 = 0 then f_M_goRepeat_71 o K l5 l3 l2 l1 F B else if 0 ≤ l1 ∧ l1 < 3001 then if r32 l6 then if r32 (B 14 0 31 l1) then (if (B 14 0 31 l1) ≤ l6 then f_M_goRepeat_71 o K l5 l3 l2 l1 F B else if 0 ≤ l6 ∧ l6 < 3001 then f_M_goRepeat_38 o K n ((B 14 0 30 l6) + 1) (l5 + 1) l4 l3 l2 l1 F B else none) else none else none else none) else none
set_option maxHeartbeats 4000000 in
set_option maxRecDepth 100000 in
theorem b_M_goRepeat_38 {D : va_G} {ca : Nat → ClassId} {ad : Nat → Int → Nat → Nat} {L : List Nat} {aS vS : Nat → Nat} {A : Nat → Prop} {p : Program} {l : Launch} {e : Env} {s : State} {m : MethodId} {args : Array Value} {below : List Frame} {meth : Method} {c : Code} {K : Nat} {r : Int} {F9 : zF} {B9 : zB} {d : Nat} {o : oT_W} (X : zX D ca L aS vS A p s m args meth c prog_15_method_58_code 9 (Option.none : Option Jvm.ClassFile.FieldType) "StaveHouseModel") (ho : oH_W l D ca ad L aS vS d o) : ∀ {n : Nat} {l6 : Int} {l5 : Int} {l4 : Int} {l3 : Int} {l2 : Int} {l1 : Int} {F : zF} {B : zB} {H : Heap} {locs : List Loc} {ls : Array Slot}, f_M_goRepeat_38 o K n l6 l5 l4 l3 l2 l1 F B = some (r, F9, B9) → zH D ca ad lnM nM L F B A H → va_S A s.heap H locs → lv_has ls 9 [(6, .int (iI l6)), (5, .int (iI l5)), (4, .int (iI l4)), (3, .int (iI l3)), (2, .int (iI l2)), (0, .ref (ad 14 0 0)), (1, .int (iI l1))] → W p l e ({ frames := d + 1 + 5, cells := 0, slots := 0, locals := 28 * (d + 1) + 116 } : Room) s m args below meth c H locs 0 0 (MQ below (Q_M_goRepeat D ca ad L r F9 B9 A) args s 0 0 A) (F0 m 38 ls []) := by
  obtain ⟨hx, hb, hr, hml, hown, hts, hlk, hK, hA, hL, hX⟩ := id X
  intro n
  induction n with
  | zero =>
    intros
    rename_i hf _ _ _
    cases hf
  | succ n ih =>
    intro l6 l5 l4 l3 l2 l1 F B H locs ls hf hZ hS hl
    replace hf : (if r32 l4 then (if l4 = 0 then f_M_goRepeat_71 o K l5 l3 l2 l1 F B else if 0 ≤ l1 ∧ l1 < 3001 then if r32 l6 then if r32 (B 14 0 31 l1) then (if (B 14 0 31 l1) ≤ l6 then f_M_goRepeat_71 o K l5 l3 l2 l1 F B else if 0 ≤ l6 ∧ l6 < 3001 then f_M_goRepeat_38 o K n ((B 14 0 30 l6) + 1) (l5 + 1) l4 l3 l2 l1 F B else none) else none else none else none) else none) = some (r, F9, B9) := hf
    refine lv_iload hx hb (D_21 W_prog_15_method_58_code_32 6 rfl rfl) (lv_at hl 2 rfl) ?_
    obtain ⟨g6, hf⟩ := gif hf
    refine z0eq (tgt := 71) hx hb g6 (D_153 W_prog_15_method_58_code_32 8 rfl rfl rfl) (by decide) (fun h7 => ?_) (fun h7 => ?_)
    · replace hf := gpos hf h7
      exact b_M_goRepeat_71 X ho hf hZ hS (lv_sub hl [1, 3, 4, 5, 6] rfl)
    · replace hf := gneg hf h7
      refine lv_iload hx hb (D_21 W_prog_15_method_58_code_32 11 rfl rfl) (lv_at hl 0 rfl) ?_
      refine lv_aload_n hx hb (D_42 W_prog_15_method_58_code_32 13 rfl rfl) rfl (lv_at hl 5 rfl) ?_
      refine zget (ci := 14) (C := RX14) (T := TX14) (v := .ref (ad 14 0 (31 + 1))) (k := 31) hx hb hts inW_14 hown hK hZ (by decide) (by decide) rfl (by decide) k_11_29 rfl (D_180 W_prog_15_method_58_code_32 14 rfl rfl rfl) ?_
      refine lv_iload_n hx hb (D_27 W_prog_15_method_58_code_32 17 rfl rfl) rfl (lv_at hl 6 rfl) ?_
      obtain ⟨g8, hf⟩ := gif hf
      refine zald (ci := 14) (k := 31) hx hb hK rfl hZ (by decide) (by decide) rfl (Nat.le_of_ble_eq_true rfl) g8.1 g8.2 (D_46 W_prog_15_method_58_code_32 18 rfl rfl) ?_
      obtain ⟨g9, hf⟩ := gif hf
      obtain ⟨g10, hf⟩ := gif hf
      refine zge (tgt := 71) hx hb g9 g10 (D_162 W_prog_15_method_58_code_32 19 rfl rfl rfl) (by decide) (fun h11 => ?_) (fun h11 => ?_)
      · replace hf := gpos hf h11
        exact b_M_goRepeat_71 X ho hf hZ hS (lv_sub hl [1, 3, 4, 5, 6] rfl)
      · replace hf := gneg hf h11
        refine lv_iinc (v := iI (l5 + 1)) (lv' := [(5, .int (iI (l5 + 1))), (6, .int (iI l6)), (4, .int (iI l4)), (3, .int (iI l3)), (2, .int (iI l2)), (0, .ref (ad 14 0 0)), (1, .int (iI l1))]) hx hb d_15_58_54 hl (k := 1) rfl (iI_add _ 1) (by decide) rfl (fun ls hl => ?_)
        refine lv_aload_n hx hb (D_42 W_prog_15_method_58_code_32 25 rfl rfl) rfl (lv_at hl 5 rfl) ?_
        refine zget (ci := 14) (C := RX14) (T := TX14) (v := .ref (ad 14 0 (30 + 1))) (k := 30) hx hb hts inW_14 hown hK hZ (by decide) (by decide) rfl (by decide) k_11_28 rfl (D_180 W_prog_15_method_58_code_32 26 rfl rfl rfl) ?_
        refine lv_iload hx hb (D_21 W_prog_15_method_58_code_32 29 rfl rfl) (lv_at hl 1 rfl) ?_
        obtain ⟨g12, hf⟩ := gif hf
        refine zald (ci := 14) (k := 30) hx hb hK rfl hZ (by decide) (by decide) rfl (Nat.le_of_ble_eq_true rfl) g12.1 g12.2 (D_46 W_prog_15_method_58_code_32 31 rfl rfl) ?_
        refine lv_iconst (v := iI 1) hx hb (D_4 W_prog_15_method_58_code_64 0 rfl rfl) rfl ?_
        refine zadd hx hb (D_96 W_prog_15_method_58_code_64 1 rfl rfl) ?_
        refine lv_istore (lv' := [(6, .int (iI ((B 14 0 30 l6) + 1))), (5, .int (iI (l5 + 1))), (4, .int (iI l4)), (3, .int (iI l3)), (2, .int (iI l2)), (0, .ref (ad 14 0 0)), (1, .int (iI l1))]) hx hb (D_54 W_prog_15_method_58_code_64 2 rfl rfl) hl (by decide) rfl (fun ls hl => ?_)
        refine lv_goto (tgt := 38) hx hb (D_167 W_prog_15_method_58_code_64 4 rfl rfl rfl) (by decide) ?_
        exact ih hf hZ hS (lv_sub hl [0, 1, 2, 3, 4, 5, 6] rfl)

def f_M_goRepeat_28 (o : oT_W) (K : Nat) (l3 : Int) (l2 : Int) (l1 : Int) (s0 : Int) (F : zF) (B : zB) : zO := f_M_goRepeat_38 o K K (l3 + 1) 0 s0 l3 l2 l1 F B
set_option maxHeartbeats 4000000 in
set_option maxRecDepth 100000 in
theorem b_M_goRepeat_28 {D : va_G} {ca : Nat → ClassId} {ad : Nat → Int → Nat → Nat} {L : List Nat} {aS vS : Nat → Nat} {A : Nat → Prop} {p : Program} {l : Launch} {e : Env} {s : State} {m : MethodId} {args : Array Value} {below : List Frame} {meth : Method} {c : Code} {K : Nat} {r : Int} {F9 : zF} {B9 : zB} {d : Nat} {o : oT_W} (X : zX D ca L aS vS A p s m args meth c prog_15_method_58_code 9 (Option.none : Option Jvm.ClassFile.FieldType) "StaveHouseModel") (ho : oH_W l D ca ad L aS vS d o) {l3 : Int} {l2 : Int} {l1 : Int} {s0 : Int} {F : zF} {B : zB} {H : Heap} {locs : List Loc} {ls : Array Slot} (hf : f_M_goRepeat_28 o K l3 l2 l1 s0 F B = some (r, F9, B9)) (hZ : zH D ca ad lnM nM L F B A H) (hS : va_S A s.heap H locs) (hl : lv_has ls 9 [(3, .int (iI l3)), (2, .int (iI l2)), (0, .ref (ad 14 0 0)), (1, .int (iI l1))]) : W p l e ({ frames := d + 1 + 5, cells := 0, slots := 0, locals := 28 * (d + 1) + 116 } : Room) s m args below meth c H locs 0 0 (MQ below (Q_M_goRepeat D ca ad L r F9 B9 A) args s 0 0 A) (F0 m 28 ls [.int (iI s0)]) := by
  obtain ⟨hx, hb, hr, hml, hown, hts, hlk, hK, hA, hL, hX⟩ := id X
  replace hf : (f_M_goRepeat_38 o K K (l3 + 1) 0 s0 l3 l2 l1 F B) = some (r, F9, B9) := hf
  refine lv_istore (lv' := [(4, .int (iI s0)), (3, .int (iI l3)), (2, .int (iI l2)), (0, .ref (ad 14 0 0)), (1, .int (iI l1))]) hx hb (D_54 W_prog_15_method_58_code_0 28 rfl rfl) hl (by decide) rfl (fun ls hl => ?_)
  refine lv_iconst (v := iI 0) hx hb (D_3 W_prog_15_method_58_code_0 30 rfl rfl) rfl ?_
  refine lv_istore (lv' := [(5, .int (iI 0)), (4, .int (iI s0)), (3, .int (iI l3)), (2, .int (iI l2)), (0, .ref (ad 14 0 0)), (1, .int (iI l1))]) hx hb (D_54 W_prog_15_method_58_code_0 31 rfl rfl) hl (by decide) rfl (fun ls hl => ?_)
  refine lv_iload_n hx hb (D_29 W_prog_15_method_58_code_32 1 rfl rfl) rfl (lv_at hl 2 rfl) ?_
  refine lv_iconst (v := iI 1) hx hb (D_4 W_prog_15_method_58_code_32 2 rfl rfl) rfl ?_
  refine zadd hx hb (D_96 W_prog_15_method_58_code_32 3 rfl rfl) ?_
  refine lv_istore (lv' := [(6, .int (iI (l3 + 1))), (5, .int (iI 0)), (4, .int (iI s0)), (3, .int (iI l3)), (2, .int (iI l2)), (0, .ref (ad 14 0 0)), (1, .int (iI l1))]) hx hb (D_54 W_prog_15_method_58_code_32 4 rfl rfl) hl (by decide) rfl (fun ls hl => ?_)
  exact b_M_goRepeat_38 X ho hf hZ hS (lv_sub hl [0, 1, 2, 3, 4, 5, 6] rfl)

def fb_M_goRepeat (o : oT_W) (K : Nat) (l1 : Int) (F : zF) (B : zB) : zO := if 0 ≤ (l1 + 2) ∧ (l1 + 2) < 3001 then if 0 ≤ l1 ∧ l1 < 3001 then if r32 ((B 14 0 30 (l1 + 2)) + 1) then if r32 (B 14 0 31 l1) then (if (B 14 0 31 l1) ≤ ((B 14 0 30 (l1 + 2)) + 1) then f_M_goRepeat_28 o K ((B 14 0 30 (l1 + 2)) + 1) (l1 + 2) l1 0 F B else f_M_goRepeat_28 o K ((B 14 0 30 (l1 + 2)) + 1) (l1 + 2) l1 1 F B) else none else none else none else none
set_option maxHeartbeats 4000000 in
set_option maxRecDepth 100000 in
theorem cb_M_goRepeat {l : Launch} {D : va_G} {ca : Nat → ClassId} {ad : Nat → Int → Nat → Nat} {L : List Nat} {aS vS : Nat → Nat} {sz K : Nat} {d : Nat} {o : oT_W} (ho : oH_W l D ca ad L aS vS d o)  {l1 : Int} {F F9 : zF} {B B9 : zB} {r : Int} (hf : fb_M_goRepeat o K l1 F B = some (r, F9, B9)) : Met l ({ cls := "StaveHouseModel", name := "goRepeat", desc := "(I)V" } : Jvm.MethodName) (Cond.code ({ cls := "StaveHouseModel", name := "goRepeat", desc := "(I)V" } : Jvm.MethodName) prog_15_method_58_code 9 (Option.none : Option Jvm.ClassFile.FieldType) :: wAll) ({ frames := d + 1 + 5, cells := 0, slots := 0, locals := 28 * (d + 1) + 116 } : Room) (va_Pc [.ref (ad 14 0 0), .int (iI l1)] (zPre D ca ad lnM nM L aS vS F B sz)) (Q_M_goRepeat D ca ad L r F9 B9 (zA L sz)) 0 0 (zA L sz) := by
  refine zMet (Qc := Q_M_goRepeat D ca ad L r F9 B9) (lv := [(0, .ref (ad 14 0 0)), (1, .int (iI l1))]) (by decide) (Nat.le_of_ble_eq_true rfl) rfl (fun A p e s m below meth c ls X hZ hS hl => ?_)
  obtain ⟨hx, hb, hr, hml, hown, hts, hlk, hK, hA, hL, hX⟩ := id X
  replace hf : (if 0 ≤ (l1 + 2) ∧ (l1 + 2) < 3001 then if 0 ≤ l1 ∧ l1 < 3001 then if r32 ((B 14 0 30 (l1 + 2)) + 1) then if r32 (B 14 0 31 l1) then (if (B 14 0 31 l1) ≤ ((B 14 0 30 (l1 + 2)) + 1) then f_M_goRepeat_28 o K ((B 14 0 30 (l1 + 2)) + 1) (l1 + 2) l1 0 F B else f_M_goRepeat_28 o K ((B 14 0 30 (l1 + 2)) + 1) (l1 + 2) l1 1 F B) else none else none else none else none) = some (r, F9, B9) := hf
  refine lv_iload_n hx hb (D_27 W_prog_15_method_58_code_0 0 rfl rfl) rfl (lv_at hl 1 rfl) ?_
  refine lv_iconst (v := iI 2) hx hb (D_5 W_prog_15_method_58_code_0 1 rfl rfl) rfl ?_
  refine zadd hx hb (D_96 W_prog_15_method_58_code_0 2 rfl rfl) ?_
  refine lv_istore_n (lv' := [(2, .int (iI (l1 + 2))), (0, .ref (ad 14 0 0)), (1, .int (iI l1))]) hx hb (D_61 W_prog_15_method_58_code_0 3 rfl rfl) rfl hl (by decide) rfl (fun ls hl => ?_)
  refine lv_aload_n hx hb (D_42 W_prog_15_method_58_code_0 4 rfl rfl) rfl (lv_at hl 1 rfl) ?_
  refine zget (ci := 14) (C := RX14) (T := TX14) (v := .ref (ad 14 0 (30 + 1))) (k := 30) hx hb hts inW_14 hown hK hZ (by decide) (by decide) rfl (by decide) k_11_28 rfl (D_180 W_prog_15_method_58_code_0 5 rfl rfl rfl) ?_
  refine lv_iload_n hx hb (D_28 W_prog_15_method_58_code_0 8 rfl rfl) rfl (lv_at hl 0 rfl) ?_
  obtain ⟨g1, hf⟩ := gif hf
  refine zald (ci := 14) (k := 30) hx hb hK rfl hZ (by decide) (by decide) rfl (Nat.le_of_ble_eq_true rfl) g1.1 g1.2 (D_46 W_prog_15_method_58_code_0 9 rfl rfl) ?_
  refine lv_iconst (v := iI 1) hx hb (D_4 W_prog_15_method_58_code_0 10 rfl rfl) rfl ?_
  refine zadd hx hb (D_96 W_prog_15_method_58_code_0 11 rfl rfl) ?_
  refine lv_istore_n (lv' := [(3, .int (iI ((B 14 0 30 (l1 + 2)) + 1))), (2, .int (iI (l1 + 2))), (0, .ref (ad 14 0 0)), (1, .int (iI l1))]) hx hb (D_62 W_prog_15_method_58_code_0 12 rfl rfl) rfl hl (by decide) rfl (fun ls hl => ?_)
  refine lv_iload_n hx hb (D_29 W_prog_15_method_58_code_0 13 rfl rfl) rfl (lv_at hl 0 rfl) ?_
  refine lv_aload_n hx hb (D_42 W_prog_15_method_58_code_0 14 rfl rfl) rfl (lv_at hl 2 rfl) ?_
  refine zget (ci := 14) (C := RX14) (T := TX14) (v := .ref (ad 14 0 (31 + 1))) (k := 31) hx hb hts inW_14 hown hK hZ (by decide) (by decide) rfl (by decide) k_11_29 rfl (D_180 W_prog_15_method_58_code_0 15 rfl rfl rfl) ?_
  refine lv_iload_n hx hb (D_27 W_prog_15_method_58_code_0 18 rfl rfl) rfl (lv_at hl 3 rfl) ?_
  obtain ⟨g2, hf⟩ := gif hf
  refine zald (ci := 14) (k := 31) hx hb hK rfl hZ (by decide) (by decide) rfl (Nat.le_of_ble_eq_true rfl) g2.1 g2.2 (D_46 W_prog_15_method_58_code_0 19 rfl rfl) ?_
  obtain ⟨g3, hf⟩ := gif hf
  obtain ⟨g4, hf⟩ := gif hf
  refine zge (tgt := 27) hx hb g3 g4 (D_162 W_prog_15_method_58_code_0 20 rfl rfl rfl) (by decide) (fun h5 => ?_) (fun h5 => ?_)
  · replace hf := gpos hf h5
    refine lv_iconst (v := iI 0) hx hb (D_3 W_prog_15_method_58_code_0 27 rfl rfl) rfl ?_
    exact b_M_goRepeat_28 X ho hf hZ hS (lv_sub hl [0, 1, 2, 3] rfl)
  · replace hf := gneg hf h5
    refine lv_iconst (v := iI 1) hx hb (D_4 W_prog_15_method_58_code_0 23 rfl rfl) rfl ?_
    refine lv_goto (tgt := 28) hx hb (D_167 W_prog_15_method_58_code_0 24 rfl rfl rfl) (by decide) ?_
    exact b_M_goRepeat_28 X ho hf hZ hS (lv_sub hl [0, 1, 2, 3] rfl)

def fb_M_goUse (o : oT_W) (K : Nat) (l1 : Int) (F : zF) (B : zB) : zO := if 0 ≤ (l1 + 1) ∧ (l1 + 1) < 3001 then zbind (f_M_find K 14 0 25 (F 14 0 27) (B 14 0 11 (l1 + 1)) F B) (fun r2 F2 B2 => if 0 ≤ r2 ∧ r2 < 6 then if 0 ≤ (B2 14 0 26 r2) ∧ (B2 14 0 26 r2) < 3001 then zbind (o.1 ((B2 14 0 26 r2) + 1) (B2 14 0 30 (B2 14 0 26 r2)) F2 B2) (fun r5 F5 B5 => some (0, F5, B5)) else none else none) else none
set_option maxHeartbeats 4000000 in
set_option maxRecDepth 100000 in
theorem cb_M_goUse {l : Launch} {D : va_G} {ca : Nat → ClassId} {ad : Nat → Int → Nat → Nat} {L : List Nat} {aS vS : Nat → Nat} {sz K : Nat} {d : Nat} {o : oT_W} (ho : oH_W l D ca ad L aS vS d o)  {l1 : Int} {F F9 : zF} {B B9 : zB} {r : Int} (hf : fb_M_goUse o K l1 F B = some (r, F9, B9)) : Met l ({ cls := "StaveHouseModel", name := "goUse", desc := "(I)V" } : Jvm.MethodName) (Cond.code ({ cls := "StaveHouseModel", name := "goUse", desc := "(I)V" } : Jvm.MethodName) prog_15_method_59_code 3 (Option.none : Option Jvm.ClassFile.FieldType) :: wAll) ({ frames := d + 1 + 5, cells := 0, slots := 0, locals := 28 * (d + 1) + 116 } : Room) (va_Pc [.ref (ad 14 0 0), .int (iI l1)] (zPre D ca ad lnM nM L aS vS F B sz)) (Q_M_goUse D ca ad L r F9 B9 (zA L sz)) 0 0 (zA L sz) := by
  refine zMet (Qc := Q_M_goUse D ca ad L r F9 B9) (lv := [(0, .ref (ad 14 0 0)), (1, .int (iI l1))]) (by decide) (Nat.le_of_ble_eq_true rfl) rfl (fun A p e s m below meth c ls X hZ hS hl => ?_)
  obtain ⟨hx, hb, hr, hml, hown, hts, hlk, hK, hA, hL, hX⟩ := id X
  replace hf : (if 0 ≤ (l1 + 1) ∧ (l1 + 1) < 3001 then zbind (f_M_find K 14 0 25 (F 14 0 27) (B 14 0 11 (l1 + 1)) F B) (fun r2 F2 B2 => if 0 ≤ r2 ∧ r2 < 6 then if 0 ≤ (B2 14 0 26 r2) ∧ (B2 14 0 26 r2) < 3001 then zbind (o.1 ((B2 14 0 26 r2) + 1) (B2 14 0 30 (B2 14 0 26 r2)) F2 B2) (fun r5 F5 B5 => some (0, F5, B5)) else none else none) else none) = some (r, F9, B9) := hf
  refine lv_aload_n hx hb (D_42 W_prog_15_method_59_code_0 0 rfl rfl) rfl (lv_at hl 0 rfl) ?_
  refine zget (ci := 14) (C := RX14) (T := TX14) (v := .ref (ad 14 0 (26 + 1))) (k := 26) hx hb hts inW_14 hown hK hZ (by decide) (by decide) rfl (by decide) k_11_24 rfl (D_180 W_prog_15_method_59_code_0 1 rfl rfl rfl) ?_
  refine lv_aload_n hx hb (D_42 W_prog_15_method_59_code_0 4 rfl rfl) rfl (lv_at hl 0 rfl) ?_
  refine zget (ci := 14) (C := RX14) (T := TX14) (v := .ref (ad 14 0 (25 + 1))) (k := 25) hx hb hts inW_14 hown hK hZ (by decide) (by decide) rfl (by decide) k_11_23 rfl (D_180 W_prog_15_method_59_code_0 5 rfl rfl rfl) ?_
  refine lv_aload_n hx hb (D_42 W_prog_15_method_59_code_0 8 rfl rfl) rfl (lv_at hl 0 rfl) ?_
  refine zget (ci := 14) (C := RX14) (T := TX14) (v := .int (iI (F 14 0 27))) (k := 27) hx hb hts inW_14 hown hK hZ (by decide) (by decide) rfl (by decide) k_11_25 rfl (D_180 W_prog_15_method_59_code_0 9 rfl rfl rfl) ?_
  refine lv_aload_n hx hb (D_42 W_prog_15_method_59_code_0 12 rfl rfl) rfl (lv_at hl 0 rfl) ?_
  refine zget (ci := 14) (C := RX14) (T := TX14) (v := .ref (ad 14 0 (11 + 1))) (k := 11) hx hb hts inW_14 hown hK hZ (by decide) (by decide) rfl (by decide) k_11_9 rfl (D_180 W_prog_15_method_59_code_0 13 rfl rfl rfl) ?_
  refine lv_iload_n hx hb (D_27 W_prog_15_method_59_code_0 16 rfl rfl) rfl (lv_at hl 1 rfl) ?_
  refine lv_iconst (v := iI 1) hx hb (D_4 W_prog_15_method_59_code_0 17 rfl rfl) rfl ?_
  refine zadd hx hb (D_96 W_prog_15_method_59_code_0 18 rfl rfl) ?_
  obtain ⟨g1, hf⟩ := gif hf
  refine zlald (ci := 14) (k := 11) hx hb hK rfl hZ (by decide) (by decide) rfl (Nat.le_of_ble_eq_true rfl) g1.1 g1.2 (D_47 W_prog_15_method_59_code_0 19 rfl rfl) ?_
  obtain ⟨r2, F2, B2, hc2, hf⟩ := gbind hf
  refine va_calli (va_runS (As := [.ref (ad 14 0 (25 + 1)), .int (iI (F 14 0 27)), .long (lI (B 14 0 11 (l1 + 1)))]) (rest := [.ref (ad 14 0 (26 + 1))]) ⟨hx, hb, hml, hown, hts⟩ (c_M_find (l := l) hc2) (va_cwS 3 hts (gdS k_14_156 k_14_157 k_1_9 k_14_158) rfl rfl rfl (by decide +kernel) ⟨by dsimp only; omega, by dsimp only; omega⟩) (zPS X hZ hS [.ref (ad 14 0 (25 + 1)), .int (iI (F 14 0 27)), .long (lI (B 14 0 11 (l1 + 1)))]) rfl rfl hl.1 rfl (lv_room (Nat.le_of_ble_eq_true rfl)) (D_184 W_prog_15_method_59_code_0 20 rfl rfl rfl) ⟨Nat.le_of_ble_eq_true rfl, Nat.le_of_ble_eq_true rfl⟩) hS (fun q _ h => zAin X hS q h) (zAin X hS) (fun p2 u2 t2 H2 locs2 ht2 hv2 hw2 hB2 hz2 hk2 hS2 => ?_)
  have hZ2 := zBack X ht2 hB2
  subst hw2
  obtain ⟨g3, hf⟩ := gif hf
  refine zald (ci := 14) (k := 26) hx hb hK rfl hZ2 (by decide) (by decide) rfl (Nat.le_of_ble_eq_true rfl) g3.1 g3.2 (D_46 W_prog_15_method_59_code_0 23 rfl rfl) ?_
  refine lv_istore_n (lv' := [(2, .int (iI (B2 14 0 26 r2))), (0, .ref (ad 14 0 0)), (1, .int (iI l1))]) hx hb (D_61 W_prog_15_method_59_code_0 24 rfl rfl) rfl hl (by decide) rfl (fun ls hl => ?_)
  refine lv_aload_n hx hb (D_42 W_prog_15_method_59_code_0 25 rfl rfl) rfl (lv_at hl 1 rfl) ?_
  refine lv_iload_n hx hb (D_28 W_prog_15_method_59_code_0 26 rfl rfl) rfl (lv_at hl 0 rfl) ?_
  refine lv_iconst (v := iI 1) hx hb (D_4 W_prog_15_method_59_code_0 27 rfl rfl) rfl ?_
  refine zadd hx hb (D_96 W_prog_15_method_59_code_0 28 rfl rfl) ?_
  refine lv_aload_n hx hb (D_42 W_prog_15_method_59_code_0 29 rfl rfl) rfl (lv_at hl 1 rfl) ?_
  refine zget (ci := 14) (C := RX14) (T := TX14) (v := .ref (ad 14 0 (30 + 1))) (k := 30) hx hb hts inW_14 hown hK hZ2 (by decide) (by decide) rfl (by decide) k_11_28 rfl (D_180 W_prog_15_method_59_code_0 30 rfl rfl rfl) ?_
  refine lv_iload_n hx hb (D_28 W_prog_15_method_59_code_32 1 rfl rfl) rfl (lv_at hl 0 rfl) ?_
  obtain ⟨g4, hf⟩ := gif hf
  refine zald (ci := 14) (k := 30) hx hb hK rfl hZ2 (by decide) (by decide) rfl (Nat.le_of_ble_eq_true rfl) g4.1 g4.2 (D_46 W_prog_15_method_59_code_32 2 rfl rfl) ?_
  obtain ⟨r5, F5, B5, hc5, hf⟩ := gbind hf
  refine va_callv (va_runV (As := [.int (iI ((B2 14 0 26 r2) + 1)), .int (iI (B2 14 0 30 (B2 14 0 26 r2)))]) (rest := []) ⟨hx, hb, hml, hown, hts⟩ (ho.1 hc5) (cwV 2 hts (gdV k_14_207 k_14_209 ks_223 k_1_9 k_14_210) rfl rfl rfl (by decide +kernel) ⟨by dsimp only; omega, by dsimp only; omega⟩) (zPV X hZ2 hS2 (ci := 14) (by decide) (by decide) (r := (RX14, TX14, 107)) rfl [.int (iI ((B2 14 0 26 r2) + 1)), .int (iI (B2 14 0 30 (B2 14 0 26 r2)))]) rfl rfl hl.1 rfl (lv_room (Nat.le_of_ble_eq_true rfl)) (D_182 W_prog_15_method_59_code_32 3 rfl rfl rfl) ⟨Nat.le_of_ble_eq_true rfl, Nat.le_of_ble_eq_true rfl⟩) hS2 (fun q _ h => zAin X hS2 q h) (zAin X hS2) (fun u5 t5 H5 locs5 ht5 hv5 hw5 hB5 hz5 hk5 hS5 => ?_)
  have hZ5 := zBack X ht5 hB5
  cases hf
  exact W.vret hx hb hr (fun t ht hW => ⟨⟨(), rfl, trivial, by rw [ht]; exact hZ5, va_K.moved hW.alike hK⟩, hS5.F ht⟩) hS5.2.2 (D_177 W_prog_15_method_59_code_32 6 rfl rfl) hlk

def f_M_goChange_150 (o : oT_W) (K : Nat) (l4 : Int) (s1 : Int) (s2 : Int) (F : zF) (B : zB) : zO := if 0 ≤ s1 ∧ s1 < 100 then if 0 ≤ l4 ∧ l4 < 3001 then zbind (o.1 (l4 + 1) ((zup4 B 14 0 44 s1 s2) 14 0 30 l4) (zup3 F 14 0 45 ((F 14 0 45) + 1)) (zup4 B 14 0 44 s1 s2)) (fun r28 F28 B28 => some (0, (zup3 F28 14 0 45 ((F28 14 0 45) - 1)), B28)) else none else none
set_option maxHeartbeats 4000000 in
set_option maxRecDepth 100000 in
theorem b_M_goChange_150 {D : va_G} {ca : Nat → ClassId} {ad : Nat → Int → Nat → Nat} {L : List Nat} {aS vS : Nat → Nat} {A : Nat → Prop} {p : Program} {l : Launch} {e : Env} {s : State} {m : MethodId} {args : Array Value} {below : List Frame} {meth : Method} {c : Code} {K : Nat} {r : Int} {F9 : zF} {B9 : zB} {d : Nat} {o : oT_W} (X : zX D ca L aS vS A p s m args meth c prog_15_method_60_code 5 (Option.none : Option Jvm.ClassFile.FieldType) "StaveHouseModel") (ho : oH_W l D ca ad L aS vS d o) {l4 : Int} {s1 : Int} {s2 : Int} {F : zF} {B : zB} {H : Heap} {locs : List Loc} {ls : Array Slot} (hf : f_M_goChange_150 o K l4 s1 s2 F B = some (r, F9, B9)) (hZ : zH D ca ad lnM nM L F B A H) (hS : va_S A s.heap H locs) (hl : lv_has ls 5 [(4, .int (iI l4)), (0, .ref (ad 14 0 0))]) : W p l e ({ frames := d + 1 + 5, cells := 0, slots := 0, locals := 28 * (d + 1) + 116 } : Room) s m args below meth c H locs 0 0 (MQ below (Q_M_goChange D ca ad L r F9 B9 A) args s 0 0 A) (F0 m 150 ls [.int (iI s2), .int (iI s1), .ref (ad 14 0 (44 + 1))]) := by
  obtain ⟨hx, hb, hr, hml, hown, hts, hlk, hK, hA, hL, hX⟩ := id X
  replace hf : (if 0 ≤ s1 ∧ s1 < 100 then if 0 ≤ l4 ∧ l4 < 3001 then zbind (o.1 (l4 + 1) ((zup4 B 14 0 44 s1 s2) 14 0 30 l4) (zup3 F 14 0 45 ((F 14 0 45) + 1)) (zup4 B 14 0 44 s1 s2)) (fun r28 F28 B28 => some (0, (zup3 F28 14 0 45 ((F28 14 0 45) - 1)), B28)) else none else none) = some (r, F9, B9) := hf
  obtain ⟨g24, hf⟩ := gif hf
  refine zast (ci := 14) (k := 44) hx hb hK rfl hZ hS (by decide) (by decide) rfl (Nat.le_of_ble_eq_true rfl) g24.1 g24.2 (D_79 W_prog_15_method_60_code_128 22 rfl rfl) (fun H25 locs25 hZ25 hS25 => ?_)
  refine lv_aload_n hx hb (D_42 W_prog_15_method_60_code_128 23 rfl rfl) rfl (lv_at hl 1 rfl) ?_
  refine lv_dup hx hb (D_89 W_prog_15_method_60_code_128 24 rfl rfl) rfl ?_
  refine zget (ci := 14) (C := RX14) (T := TX14) (v := .int (iI (F 14 0 45))) (k := 45) hx hb hts inW_14 hown hK hZ25 (by decide) (by decide) rfl (by decide) k_11_43 rfl (D_180 W_prog_15_method_60_code_128 25 rfl rfl rfl) ?_
  refine lv_iconst (v := iI 1) hx hb (D_4 W_prog_15_method_60_code_128 28 rfl rfl) rfl ?_
  refine zadd hx hb (D_96 W_prog_15_method_60_code_128 29 rfl rfl) ?_
  refine zput (ci := 14) (C := RX14) (T := TX14) (k := 45) (v := ((F 14 0 45) + 1)) (w := .int (iI ((F 14 0 45) + 1))) hx hb hts inW_14 tyX14 tyX14_ok nmX14 hown hK hZ25 hS25 (by decide) (by decide) rfl (by decide) k_11_43 rfl (fun G h => congrArg (fun q => Value.int (iI q)) h) rfl rfl (zno (by decide)) (D_181 W_prog_15_method_60_code_128 30 rfl rfl rfl) (fun H26 locs26 hZ26 hS26 => ?_)
  refine lv_aload_n hx hb (D_42 W_prog_15_method_60_code_160 1 rfl rfl) rfl (lv_at hl 1 rfl) ?_
  refine lv_iload hx hb (D_21 W_prog_15_method_60_code_160 2 rfl rfl) (lv_at hl 0 rfl) ?_
  refine lv_iconst (v := iI 1) hx hb (D_4 W_prog_15_method_60_code_160 4 rfl rfl) rfl ?_
  refine zadd hx hb (D_96 W_prog_15_method_60_code_160 5 rfl rfl) ?_
  refine lv_aload_n hx hb (D_42 W_prog_15_method_60_code_160 6 rfl rfl) rfl (lv_at hl 1 rfl) ?_
  refine zget (ci := 14) (C := RX14) (T := TX14) (v := .ref (ad 14 0 (30 + 1))) (k := 30) hx hb hts inW_14 hown hK hZ26 (by decide) (by decide) rfl (by decide) k_11_28 rfl (D_180 W_prog_15_method_60_code_160 7 rfl rfl rfl) ?_
  refine lv_iload hx hb (D_21 W_prog_15_method_60_code_160 10 rfl rfl) (lv_at hl 0 rfl) ?_
  obtain ⟨g27, hf⟩ := gif hf
  refine zald (ci := 14) (k := 30) hx hb hK rfl hZ26 (by decide) (by decide) rfl (Nat.le_of_ble_eq_true rfl) g27.1 g27.2 (D_46 W_prog_15_method_60_code_160 12 rfl rfl) ?_
  obtain ⟨r28, F28, B28, hc28, hf⟩ := gbind hf
  refine va_callv (va_runV (As := [.int (iI (l4 + 1)), .int (iI ((zup4 B 14 0 44 s1 s2) 14 0 30 l4))]) (rest := []) ⟨hx, hb, hml, hown, hts⟩ (ho.1 hc28) (cwV 2 hts (gdV k_14_207 k_14_209 ks_223 k_1_9 k_14_210) rfl rfl rfl (by decide +kernel) ⟨by dsimp only; omega, by dsimp only; omega⟩) (zPV X hZ26 hS26 (ci := 14) (by decide) (by decide) (r := (RX14, TX14, 107)) rfl [.int (iI (l4 + 1)), .int (iI ((zup4 B 14 0 44 s1 s2) 14 0 30 l4))]) rfl rfl hl.1 rfl (lv_room (Nat.le_of_ble_eq_true rfl)) (D_182 W_prog_15_method_60_code_160 13 rfl rfl rfl) ⟨Nat.le_of_ble_eq_true rfl, Nat.le_of_ble_eq_true rfl⟩) hS26 (fun q _ h => zAin X hS26 q h) (zAin X hS26) (fun u28 t28 H28 locs28 ht28 hv28 hw28 hB28 hz28 hk28 hS28 => ?_)
  have hZ28 := zBack X ht28 hB28
  refine lv_aload_n hx hb (D_42 W_prog_15_method_60_code_160 16 rfl rfl) rfl (lv_at hl 1 rfl) ?_
  refine lv_dup hx hb (D_89 W_prog_15_method_60_code_160 17 rfl rfl) rfl ?_
  refine zget (ci := 14) (C := RX14) (T := TX14) (v := .int (iI (F28 14 0 45))) (k := 45) hx hb hts inW_14 hown hK hZ28 (by decide) (by decide) rfl (by decide) k_11_43 rfl (D_180 W_prog_15_method_60_code_160 18 rfl rfl rfl) ?_
  refine lv_iconst (v := iI 1) hx hb (D_4 W_prog_15_method_60_code_160 21 rfl rfl) rfl ?_
  refine zsub hx hb (D_100 W_prog_15_method_60_code_160 22 rfl rfl) ?_
  refine zput (ci := 14) (C := RX14) (T := TX14) (k := 45) (v := ((F28 14 0 45) - 1)) (w := .int (iI ((F28 14 0 45) - 1))) hx hb hts inW_14 tyX14 tyX14_ok nmX14 hown hK hZ28 hS28 (by decide) (by decide) rfl (by decide) k_11_43 rfl (fun G h => congrArg (fun q => Value.int (iI q)) h) rfl rfl (zno (by decide)) (D_181 W_prog_15_method_60_code_160 23 rfl rfl rfl) (fun H29 locs29 hZ29 hS29 => ?_)
  cases hf
  exact W.vret hx hb hr (fun t ht hW => ⟨⟨(), rfl, trivial, by rw [ht]; exact hZ29, va_K.moved hW.alike hK⟩, hS29.F ht⟩) hS29.2.2 (D_177 W_prog_15_method_60_code_160 26 rfl rfl) hlk

def f_M_goChange_84 (o : oT_W) (K : Nat) (l4 : Int) (l3 : Int) (l2 : Int) (s1 : Int) (s2 : Int) (F : zF) (B : zB) : zO := if 0 ≤ s1 ∧ s1 < 100 then if r32 l2 then (if l2 = 0 then if 0 ≤ (l3 + 1) ∧ (l3 + 1) < 3001 then zbind (f_M_tone K ((zup4 B 14 0 43 s1 s2) 14 0 9 (l3 + 1)) ((zup4 B 14 0 43 s1 s2) 14 0 10 (l3 + 1)) F (zup4 B 14 0 43 s1 s2)) (fun r19 F19 B19 => if 0 ≤ l3 ∧ l3 < 3001 then zbind (f_M_tone K (B19 14 0 9 l3) (B19 14 0 10 l3) F19 B19) (fun r21 F21 B21 => f_M_goChange_150 o K l4 (F 14 0 45) (r19 - r21) F21 B21) else none) else none else if 0 ≤ l3 ∧ l3 < 3001 then zbind (f_M_tone K ((zup4 B 14 0 43 s1 s2) 14 0 9 l3) ((zup4 B 14 0 43 s1 s2) 14 0 10 l3) F (zup4 B 14 0 43 s1 s2)) (fun r23 F23 B23 => f_M_goChange_150 o K l4 (F 14 0 45) r23 F23 B23) else none) else none else none
set_option maxHeartbeats 4000000 in
set_option maxRecDepth 100000 in
theorem b_M_goChange_84 {D : va_G} {ca : Nat → ClassId} {ad : Nat → Int → Nat → Nat} {L : List Nat} {aS vS : Nat → Nat} {A : Nat → Prop} {p : Program} {l : Launch} {e : Env} {s : State} {m : MethodId} {args : Array Value} {below : List Frame} {meth : Method} {c : Code} {K : Nat} {r : Int} {F9 : zF} {B9 : zB} {d : Nat} {o : oT_W} (X : zX D ca L aS vS A p s m args meth c prog_15_method_60_code 5 (Option.none : Option Jvm.ClassFile.FieldType) "StaveHouseModel") (ho : oH_W l D ca ad L aS vS d o) {l4 : Int} {l3 : Int} {l2 : Int} {s1 : Int} {s2 : Int} {F : zF} {B : zB} {H : Heap} {locs : List Loc} {ls : Array Slot} (hf : f_M_goChange_84 o K l4 l3 l2 s1 s2 F B = some (r, F9, B9)) (hZ : zH D ca ad lnM nM L F B A H) (hS : va_S A s.heap H locs) (hl : lv_has ls 5 [(4, .int (iI l4)), (3, .int (iI l3)), (2, .int (iI l2)), (0, .ref (ad 14 0 0))]) : W p l e ({ frames := d + 1 + 5, cells := 0, slots := 0, locals := 28 * (d + 1) + 116 } : Room) s m args below meth c H locs 0 0 (MQ below (Q_M_goChange D ca ad L r F9 B9 A) args s 0 0 A) (F0 m 84 ls [.int (iI s2), .int (iI s1), .ref (ad 14 0 (43 + 1))]) := by
  obtain ⟨hx, hb, hr, hml, hown, hts, hlk, hK, hA, hL, hX⟩ := id X
  replace hf : (if 0 ≤ s1 ∧ s1 < 100 then if r32 l2 then (if l2 = 0 then if 0 ≤ (l3 + 1) ∧ (l3 + 1) < 3001 then zbind (f_M_tone K ((zup4 B 14 0 43 s1 s2) 14 0 9 (l3 + 1)) ((zup4 B 14 0 43 s1 s2) 14 0 10 (l3 + 1)) F (zup4 B 14 0 43 s1 s2)) (fun r19 F19 B19 => if 0 ≤ l3 ∧ l3 < 3001 then zbind (f_M_tone K (B19 14 0 9 l3) (B19 14 0 10 l3) F19 B19) (fun r21 F21 B21 => f_M_goChange_150 o K l4 (F 14 0 45) (r19 - r21) F21 B21) else none) else none else if 0 ≤ l3 ∧ l3 < 3001 then zbind (f_M_tone K ((zup4 B 14 0 43 s1 s2) 14 0 9 l3) ((zup4 B 14 0 43 s1 s2) 14 0 10 l3) F (zup4 B 14 0 43 s1 s2)) (fun r23 F23 B23 => f_M_goChange_150 o K l4 (F 14 0 45) r23 F23 B23) else none) else none else none) = some (r, F9, B9) := hf
  obtain ⟨g14, hf⟩ := gif hf
  refine zast (ci := 14) (k := 43) hx hb hK rfl hZ hS (by decide) (by decide) rfl (Nat.le_of_ble_eq_true rfl) g14.1 g14.2 (D_79 W_prog_15_method_60_code_64 20 rfl rfl) (fun H15 locs15 hZ15 hS15 => ?_)
  refine lv_aload_n hx hb (D_42 W_prog_15_method_60_code_64 21 rfl rfl) rfl (lv_at hl 3 rfl) ?_
  refine zget (ci := 14) (C := RX14) (T := TX14) (v := .ref (ad 14 0 (44 + 1))) (k := 44) hx hb hts inW_14 hown hK hZ15 (by decide) (by decide) rfl (by decide) k_11_42 rfl (D_180 W_prog_15_method_60_code_64 22 rfl rfl rfl) ?_
  refine lv_aload_n hx hb (D_42 W_prog_15_method_60_code_64 25 rfl rfl) rfl (lv_at hl 3 rfl) ?_
  refine zget (ci := 14) (C := RX14) (T := TX14) (v := .int (iI (F 14 0 45))) (k := 45) hx hb hts inW_14 hown hK hZ15 (by decide) (by decide) rfl (by decide) k_11_43 rfl (D_180 W_prog_15_method_60_code_64 26 rfl rfl rfl) ?_
  refine lv_iload_n hx hb (D_28 W_prog_15_method_60_code_64 29 rfl rfl) rfl (lv_at hl 2 rfl) ?_
  obtain ⟨g16, hf⟩ := gif hf
  refine z0eq (tgt := 115) hx hb g16 (D_153 W_prog_15_method_60_code_64 30 rfl rfl rfl) (by decide) (fun h17 => ?_) (fun h17 => ?_)
  · replace hf := gpos hf h17
    refine lv_aload_n hx hb (D_42 W_prog_15_method_60_code_96 19 rfl rfl) rfl (lv_at hl 3 rfl) ?_
    refine zget (ci := 14) (C := RX14) (T := TX14) (v := .ref (ad 14 0 (9 + 1))) (k := 9) hx hb hts inW_14 hown hK hZ15 (by decide) (by decide) rfl (by decide) k_11_7 rfl (D_180 W_prog_15_method_60_code_96 20 rfl rfl rfl) ?_
    refine lv_iload_n hx hb (D_29 W_prog_15_method_60_code_96 23 rfl rfl) rfl (lv_at hl 1 rfl) ?_
    refine lv_iconst (v := iI 1) hx hb (D_4 W_prog_15_method_60_code_96 24 rfl rfl) rfl ?_
    refine zadd hx hb (D_96 W_prog_15_method_60_code_96 25 rfl rfl) ?_
    obtain ⟨g18, hf⟩ := gif hf
    refine zald (ci := 14) (k := 9) hx hb hK rfl hZ15 (by decide) (by decide) rfl (Nat.le_of_ble_eq_true rfl) g18.1 g18.2 (D_46 W_prog_15_method_60_code_96 26 rfl rfl) ?_
    refine lv_aload_n hx hb (D_42 W_prog_15_method_60_code_96 27 rfl rfl) rfl (lv_at hl 3 rfl) ?_
    refine zget (ci := 14) (C := RX14) (T := TX14) (v := .ref (ad 14 0 (10 + 1))) (k := 10) hx hb hts inW_14 hown hK hZ15 (by decide) (by decide) rfl (by decide) k_11_8 rfl (D_180 W_prog_15_method_60_code_96 28 rfl rfl rfl) ?_
    refine lv_iload_n hx hb (D_29 W_prog_15_method_60_code_96 31 rfl rfl) rfl (lv_at hl 1 rfl) ?_
    refine lv_iconst (v := iI 1) hx hb (D_4 W_prog_15_method_60_code_128 0 rfl rfl) rfl ?_
    refine zadd hx hb (D_96 W_prog_15_method_60_code_128 1 rfl rfl) ?_
    refine zald (ci := 14) (k := 10) hx hb hK rfl hZ15 (by decide) (by decide) rfl (Nat.le_of_ble_eq_true rfl) g18.1 g18.2 (D_46 W_prog_15_method_60_code_128 2 rfl rfl) ?_
    obtain ⟨r19, F19, B19, hc19, hf⟩ := gbind hf
    refine va_calli (va_runS (As := [.int (iI ((zup4 B 14 0 43 s1 s2) 14 0 9 (l3 + 1))), .int (iI ((zup4 B 14 0 43 s1 s2) 14 0 10 (l3 + 1)))]) (rest := [.int (iI (F 14 0 45)), .ref (ad 14 0 (44 + 1))]) ⟨hx, hb, hml, hown, hts⟩ (c_M_tone (l := l) hc19) (va_cwS 2 hts (gdS k_12_158 k_12_159 k_1_9 k_12_160) rfl rfl rfl (by decide +kernel) ⟨by dsimp only; omega, by dsimp only; omega⟩) (zPS X hZ15 hS15 [.int (iI ((zup4 B 14 0 43 s1 s2) 14 0 9 (l3 + 1))), .int (iI ((zup4 B 14 0 43 s1 s2) 14 0 10 (l3 + 1)))]) rfl rfl hl.1 rfl (lv_room (Nat.le_of_ble_eq_true rfl)) (D_184 W_prog_15_method_60_code_128 3 rfl rfl rfl) ⟨Nat.le_of_ble_eq_true rfl, Nat.le_of_ble_eq_true rfl⟩) hS15 (fun q _ h => zAin X hS15 q h) (zAin X hS15) (fun p19 u19 t19 H19 locs19 ht19 hv19 hw19 hB19 hz19 hk19 hS19 => ?_)
    have hZ19 := zBack X ht19 hB19
    subst hw19
    refine lv_aload_n hx hb (D_42 W_prog_15_method_60_code_128 6 rfl rfl) rfl (lv_at hl 3 rfl) ?_
    refine zget (ci := 14) (C := RX14) (T := TX14) (v := .ref (ad 14 0 (9 + 1))) (k := 9) hx hb hts inW_14 hown hK hZ19 (by decide) (by decide) rfl (by decide) k_11_7 rfl (D_180 W_prog_15_method_60_code_128 7 rfl rfl rfl) ?_
    refine lv_iload_n hx hb (D_29 W_prog_15_method_60_code_128 10 rfl rfl) rfl (lv_at hl 1 rfl) ?_
    obtain ⟨g20, hf⟩ := gif hf
    refine zald (ci := 14) (k := 9) hx hb hK rfl hZ19 (by decide) (by decide) rfl (Nat.le_of_ble_eq_true rfl) g20.1 g20.2 (D_46 W_prog_15_method_60_code_128 11 rfl rfl) ?_
    refine lv_aload_n hx hb (D_42 W_prog_15_method_60_code_128 12 rfl rfl) rfl (lv_at hl 3 rfl) ?_
    refine zget (ci := 14) (C := RX14) (T := TX14) (v := .ref (ad 14 0 (10 + 1))) (k := 10) hx hb hts inW_14 hown hK hZ19 (by decide) (by decide) rfl (by decide) k_11_8 rfl (D_180 W_prog_15_method_60_code_128 13 rfl rfl rfl) ?_
    refine lv_iload_n hx hb (D_29 W_prog_15_method_60_code_128 16 rfl rfl) rfl (lv_at hl 1 rfl) ?_
    refine zald (ci := 14) (k := 10) hx hb hK rfl hZ19 (by decide) (by decide) rfl (Nat.le_of_ble_eq_true rfl) g20.1 g20.2 (D_46 W_prog_15_method_60_code_128 17 rfl rfl) ?_
    obtain ⟨r21, F21, B21, hc21, hf⟩ := gbind hf
    refine va_calli (va_runS (As := [.int (iI (B19 14 0 9 l3)), .int (iI (B19 14 0 10 l3))]) (rest := [.int (iI r19), .int (iI (F 14 0 45)), .ref (ad 14 0 (44 + 1))]) ⟨hx, hb, hml, hown, hts⟩ (c_M_tone (l := l) hc21) (va_cwS 2 hts (gdS k_12_158 k_12_159 k_1_9 k_12_160) rfl rfl rfl (by decide +kernel) ⟨by dsimp only; omega, by dsimp only; omega⟩) (zPS X hZ19 hS19 [.int (iI (B19 14 0 9 l3)), .int (iI (B19 14 0 10 l3))]) rfl rfl hl.1 rfl (lv_room (Nat.le_of_ble_eq_true rfl)) (D_184 W_prog_15_method_60_code_128 18 rfl rfl rfl) ⟨Nat.le_of_ble_eq_true rfl, Nat.le_of_ble_eq_true rfl⟩) hS19 (fun q _ h => zAin X hS19 q h) (zAin X hS19) (fun p21 u21 t21 H21 locs21 ht21 hv21 hw21 hB21 hz21 hk21 hS21 => ?_)
    have hZ21 := zBack X ht21 hB21
    subst hw21
    refine zsub hx hb (D_100 W_prog_15_method_60_code_128 21 rfl rfl) ?_
    exact b_M_goChange_150 X ho hf hZ21 hS21 (lv_sub hl [0, 3] rfl)
  · replace hf := gneg hf h17
    refine lv_aload_n hx hb (D_42 W_prog_15_method_60_code_96 1 rfl rfl) rfl (lv_at hl 3 rfl) ?_
    refine zget (ci := 14) (C := RX14) (T := TX14) (v := .ref (ad 14 0 (9 + 1))) (k := 9) hx hb hts inW_14 hown hK hZ15 (by decide) (by decide) rfl (by decide) k_11_7 rfl (D_180 W_prog_15_method_60_code_96 2 rfl rfl rfl) ?_
    refine lv_iload_n hx hb (D_29 W_prog_15_method_60_code_96 5 rfl rfl) rfl (lv_at hl 1 rfl) ?_
    obtain ⟨g22, hf⟩ := gif hf
    refine zald (ci := 14) (k := 9) hx hb hK rfl hZ15 (by decide) (by decide) rfl (Nat.le_of_ble_eq_true rfl) g22.1 g22.2 (D_46 W_prog_15_method_60_code_96 6 rfl rfl) ?_
    refine lv_aload_n hx hb (D_42 W_prog_15_method_60_code_96 7 rfl rfl) rfl (lv_at hl 3 rfl) ?_
    refine zget (ci := 14) (C := RX14) (T := TX14) (v := .ref (ad 14 0 (10 + 1))) (k := 10) hx hb hts inW_14 hown hK hZ15 (by decide) (by decide) rfl (by decide) k_11_8 rfl (D_180 W_prog_15_method_60_code_96 8 rfl rfl rfl) ?_
    refine lv_iload_n hx hb (D_29 W_prog_15_method_60_code_96 11 rfl rfl) rfl (lv_at hl 1 rfl) ?_
    refine zald (ci := 14) (k := 10) hx hb hK rfl hZ15 (by decide) (by decide) rfl (Nat.le_of_ble_eq_true rfl) g22.1 g22.2 (D_46 W_prog_15_method_60_code_96 12 rfl rfl) ?_
    obtain ⟨r23, F23, B23, hc23, hf⟩ := gbind hf
    refine va_calli (va_runS (As := [.int (iI ((zup4 B 14 0 43 s1 s2) 14 0 9 l3)), .int (iI ((zup4 B 14 0 43 s1 s2) 14 0 10 l3))]) (rest := [.int (iI (F 14 0 45)), .ref (ad 14 0 (44 + 1))]) ⟨hx, hb, hml, hown, hts⟩ (c_M_tone (l := l) hc23) (va_cwS 2 hts (gdS k_12_158 k_12_159 k_1_9 k_12_160) rfl rfl rfl (by decide +kernel) ⟨by dsimp only; omega, by dsimp only; omega⟩) (zPS X hZ15 hS15 [.int (iI ((zup4 B 14 0 43 s1 s2) 14 0 9 l3)), .int (iI ((zup4 B 14 0 43 s1 s2) 14 0 10 l3))]) rfl rfl hl.1 rfl (lv_room (Nat.le_of_ble_eq_true rfl)) (D_184 W_prog_15_method_60_code_96 13 rfl rfl rfl) ⟨Nat.le_of_ble_eq_true rfl, Nat.le_of_ble_eq_true rfl⟩) hS15 (fun q _ h => zAin X hS15 q h) (zAin X hS15) (fun p23 u23 t23 H23 locs23 ht23 hv23 hw23 hB23 hz23 hk23 hS23 => ?_)
    have hZ23 := zBack X ht23 hB23
    subst hw23
    refine lv_goto (tgt := 150) hx hb (D_167 W_prog_15_method_60_code_96 16 rfl rfl rfl) (by decide) ?_
    exact b_M_goChange_150 X ho hf hZ23 hS23 (lv_sub hl [0, 3] rfl)

def f_M_goChange_36 (o : oT_W) (K : Nat) (l3 : Int) (l2 : Int) (s0 : Int) (F : zF) (B : zB) : zO := if 0 ≤ (F 14 0 45) ∧ (F 14 0 45) < 100 then if (l2 = 0 ∨ l2 = 1) then if r32 l2 then (if l2 = 0 then if 0 ≤ (l3 + 1) ∧ (l3 + 1) < 3001 then if 0 ≤ l3 ∧ l3 < 3001 then f_M_goChange_84 o K s0 l3 l2 (F 14 0 45) (((zup4 B 14 0 42 (F 14 0 45) l2) 14 0 9 (l3 + 1)) - ((zup4 B 14 0 42 (F 14 0 45) l2) 14 0 9 l3)) F (zup4 B 14 0 42 (F 14 0 45) l2) else none else none else if 0 ≤ l3 ∧ l3 < 3001 then f_M_goChange_84 o K s0 l3 l2 (F 14 0 45) ((zup4 B 14 0 42 (F 14 0 45) l2) 14 0 9 l3) F (zup4 B 14 0 42 (F 14 0 45) l2) else none) else none else none else none
set_option maxHeartbeats 4000000 in
set_option maxRecDepth 100000 in
theorem b_M_goChange_36 {D : va_G} {ca : Nat → ClassId} {ad : Nat → Int → Nat → Nat} {L : List Nat} {aS vS : Nat → Nat} {A : Nat → Prop} {p : Program} {l : Launch} {e : Env} {s : State} {m : MethodId} {args : Array Value} {below : List Frame} {meth : Method} {c : Code} {K : Nat} {r : Int} {F9 : zF} {B9 : zB} {d : Nat} {o : oT_W} (X : zX D ca L aS vS A p s m args meth c prog_15_method_60_code 5 (Option.none : Option Jvm.ClassFile.FieldType) "StaveHouseModel") (ho : oH_W l D ca ad L aS vS d o) {l3 : Int} {l2 : Int} {s0 : Int} {F : zF} {B : zB} {H : Heap} {locs : List Loc} {ls : Array Slot} (hf : f_M_goChange_36 o K l3 l2 s0 F B = some (r, F9, B9)) (hZ : zH D ca ad lnM nM L F B A H) (hS : va_S A s.heap H locs) (hl : lv_has ls 5 [(3, .int (iI l3)), (2, .int (iI l2)), (0, .ref (ad 14 0 0))]) : W p l e ({ frames := d + 1 + 5, cells := 0, slots := 0, locals := 28 * (d + 1) + 116 } : Room) s m args below meth c H locs 0 0 (MQ below (Q_M_goChange D ca ad L r F9 B9 A) args s 0 0 A) (F0 m 36 ls [.int (iI s0)]) := by
  obtain ⟨hx, hb, hr, hml, hown, hts, hlk, hK, hA, hL, hX⟩ := id X
  replace hf : (if 0 ≤ (F 14 0 45) ∧ (F 14 0 45) < 100 then if (l2 = 0 ∨ l2 = 1) then if r32 l2 then (if l2 = 0 then if 0 ≤ (l3 + 1) ∧ (l3 + 1) < 3001 then if 0 ≤ l3 ∧ l3 < 3001 then f_M_goChange_84 o K s0 l3 l2 (F 14 0 45) (((zup4 B 14 0 42 (F 14 0 45) l2) 14 0 9 (l3 + 1)) - ((zup4 B 14 0 42 (F 14 0 45) l2) 14 0 9 l3)) F (zup4 B 14 0 42 (F 14 0 45) l2) else none else none else if 0 ≤ l3 ∧ l3 < 3001 then f_M_goChange_84 o K s0 l3 l2 (F 14 0 45) ((zup4 B 14 0 42 (F 14 0 45) l2) 14 0 9 l3) F (zup4 B 14 0 42 (F 14 0 45) l2) else none) else none else none else none) = some (r, F9, B9) := hf
  refine lv_istore (lv' := [(4, .int (iI s0)), (3, .int (iI l3)), (2, .int (iI l2)), (0, .ref (ad 14 0 0))]) hx hb (D_54 W_prog_15_method_60_code_32 4 rfl rfl) hl (by decide) rfl (fun ls hl => ?_)
  refine lv_aload_n hx hb (D_42 W_prog_15_method_60_code_32 6 rfl rfl) rfl (lv_at hl 3 rfl) ?_
  refine zget (ci := 14) (C := RX14) (T := TX14) (v := .ref (ad 14 0 (42 + 1))) (k := 42) hx hb hts inW_14 hown hK hZ (by decide) (by decide) rfl (by decide) k_11_40 rfl (D_180 W_prog_15_method_60_code_32 7 rfl rfl rfl) ?_
  refine lv_aload_n hx hb (D_42 W_prog_15_method_60_code_32 10 rfl rfl) rfl (lv_at hl 3 rfl) ?_
  refine zget (ci := 14) (C := RX14) (T := TX14) (v := .int (iI (F 14 0 45))) (k := 45) hx hb hts inW_14 hown hK hZ (by decide) (by decide) rfl (by decide) k_11_43 rfl (D_180 W_prog_15_method_60_code_32 11 rfl rfl rfl) ?_
  refine lv_iload_n hx hb (D_28 W_prog_15_method_60_code_32 14 rfl rfl) rfl (lv_at hl 2 rfl) ?_
  obtain ⟨g6, hf⟩ := gif hf
  obtain ⟨g8, hf⟩ := gif hf
  refine zzast (ci := 14) (k := 42) hx hb hK rfl hZ hS (by decide) (by decide) rfl (Nat.le_of_ble_eq_true rfl) g8 g6.1 g6.2 (D_84 W_prog_15_method_60_code_32 15 rfl rfl) (fun H7 locs7 hZ7 hS7 => ?_)
  refine lv_aload_n hx hb (D_42 W_prog_15_method_60_code_32 16 rfl rfl) rfl (lv_at hl 3 rfl) ?_
  refine zget (ci := 14) (C := RX14) (T := TX14) (v := .ref (ad 14 0 (43 + 1))) (k := 43) hx hb hts inW_14 hown hK hZ7 (by decide) (by decide) rfl (by decide) k_11_41 rfl (D_180 W_prog_15_method_60_code_32 17 rfl rfl rfl) ?_
  refine lv_aload_n hx hb (D_42 W_prog_15_method_60_code_32 20 rfl rfl) rfl (lv_at hl 3 rfl) ?_
  refine zget (ci := 14) (C := RX14) (T := TX14) (v := .int (iI (F 14 0 45))) (k := 45) hx hb hts inW_14 hown hK hZ7 (by decide) (by decide) rfl (by decide) k_11_43 rfl (D_180 W_prog_15_method_60_code_32 21 rfl rfl rfl) ?_
  refine lv_iload_n hx hb (D_28 W_prog_15_method_60_code_32 24 rfl rfl) rfl (lv_at hl 2 rfl) ?_
  obtain ⟨g9, hf⟩ := gif hf
  refine z0eq (tgt := 69) hx hb g9 (D_153 W_prog_15_method_60_code_32 25 rfl rfl rfl) (by decide) (fun h10 => ?_) (fun h10 => ?_)
  · replace hf := gpos hf h10
    refine lv_aload_n hx hb (D_42 W_prog_15_method_60_code_64 5 rfl rfl) rfl (lv_at hl 3 rfl) ?_
    refine zget (ci := 14) (C := RX14) (T := TX14) (v := .ref (ad 14 0 (9 + 1))) (k := 9) hx hb hts inW_14 hown hK hZ7 (by decide) (by decide) rfl (by decide) k_11_7 rfl (D_180 W_prog_15_method_60_code_64 6 rfl rfl rfl) ?_
    refine lv_iload_n hx hb (D_29 W_prog_15_method_60_code_64 9 rfl rfl) rfl (lv_at hl 1 rfl) ?_
    refine lv_iconst (v := iI 1) hx hb (D_4 W_prog_15_method_60_code_64 10 rfl rfl) rfl ?_
    refine zadd hx hb (D_96 W_prog_15_method_60_code_64 11 rfl rfl) ?_
    obtain ⟨g11, hf⟩ := gif hf
    refine zald (ci := 14) (k := 9) hx hb hK rfl hZ7 (by decide) (by decide) rfl (Nat.le_of_ble_eq_true rfl) g11.1 g11.2 (D_46 W_prog_15_method_60_code_64 12 rfl rfl) ?_
    refine lv_aload_n hx hb (D_42 W_prog_15_method_60_code_64 13 rfl rfl) rfl (lv_at hl 3 rfl) ?_
    refine zget (ci := 14) (C := RX14) (T := TX14) (v := .ref (ad 14 0 (9 + 1))) (k := 9) hx hb hts inW_14 hown hK hZ7 (by decide) (by decide) rfl (by decide) k_11_7 rfl (D_180 W_prog_15_method_60_code_64 14 rfl rfl rfl) ?_
    refine lv_iload_n hx hb (D_29 W_prog_15_method_60_code_64 17 rfl rfl) rfl (lv_at hl 1 rfl) ?_
    obtain ⟨g12, hf⟩ := gif hf
    refine zald (ci := 14) (k := 9) hx hb hK rfl hZ7 (by decide) (by decide) rfl (Nat.le_of_ble_eq_true rfl) g12.1 g12.2 (D_46 W_prog_15_method_60_code_64 18 rfl rfl) ?_
    refine zsub hx hb (D_100 W_prog_15_method_60_code_64 19 rfl rfl) ?_
    exact b_M_goChange_84 X ho hf hZ7 hS7 (lv_sub hl [0, 1, 2, 3] rfl)
  · replace hf := gneg hf h10
    refine lv_aload_n hx hb (D_42 W_prog_15_method_60_code_32 28 rfl rfl) rfl (lv_at hl 3 rfl) ?_
    refine zget (ci := 14) (C := RX14) (T := TX14) (v := .ref (ad 14 0 (9 + 1))) (k := 9) hx hb hts inW_14 hown hK hZ7 (by decide) (by decide) rfl (by decide) k_11_7 rfl (D_180 W_prog_15_method_60_code_32 29 rfl rfl rfl) ?_
    refine lv_iload_n hx hb (D_29 W_prog_15_method_60_code_64 0 rfl rfl) rfl (lv_at hl 1 rfl) ?_
    obtain ⟨g13, hf⟩ := gif hf
    refine zald (ci := 14) (k := 9) hx hb hK rfl hZ7 (by decide) (by decide) rfl (Nat.le_of_ble_eq_true rfl) g13.1 g13.2 (D_46 W_prog_15_method_60_code_64 1 rfl rfl) ?_
    refine lv_goto (tgt := 84) hx hb (D_167 W_prog_15_method_60_code_64 2 rfl rfl rfl) (by decide) ?_
    exact b_M_goChange_84 X ho hf hZ7 hS7 (lv_sub hl [0, 1, 2, 3] rfl)

def f_M_goChange_18 (o : oT_W) (K : Nat) (l1 : Int) (s0 : Int) (F : zF) (B : zB) : zO := if r32 s0 then (if s0 = 0 then f_M_goChange_36 o K (l1 + 1) s0 (l1 + 3) F B else f_M_goChange_36 o K (l1 + 1) s0 (l1 + 2) F B) else none
set_option maxHeartbeats 4000000 in
set_option maxRecDepth 100000 in
theorem b_M_goChange_18 {D : va_G} {ca : Nat → ClassId} {ad : Nat → Int → Nat → Nat} {L : List Nat} {aS vS : Nat → Nat} {A : Nat → Prop} {p : Program} {l : Launch} {e : Env} {s : State} {m : MethodId} {args : Array Value} {below : List Frame} {meth : Method} {c : Code} {K : Nat} {r : Int} {F9 : zF} {B9 : zB} {d : Nat} {o : oT_W} (X : zX D ca L aS vS A p s m args meth c prog_15_method_60_code 5 (Option.none : Option Jvm.ClassFile.FieldType) "StaveHouseModel") (ho : oH_W l D ca ad L aS vS d o) {l1 : Int} {s0 : Int} {F : zF} {B : zB} {H : Heap} {locs : List Loc} {ls : Array Slot} (hf : f_M_goChange_18 o K l1 s0 F B = some (r, F9, B9)) (hZ : zH D ca ad lnM nM L F B A H) (hS : va_S A s.heap H locs) (hl : lv_has ls 5 [(0, .ref (ad 14 0 0)), (1, .int (iI l1))]) : W p l e ({ frames := d + 1 + 5, cells := 0, slots := 0, locals := 28 * (d + 1) + 116 } : Room) s m args below meth c H locs 0 0 (MQ below (Q_M_goChange D ca ad L r F9 B9 A) args s 0 0 A) (F0 m 18 ls [.int (iI s0)]) := by
  obtain ⟨hx, hb, hr, hml, hown, hts, hlk, hK, hA, hL, hX⟩ := id X
  replace hf : (if r32 s0 then (if s0 = 0 then f_M_goChange_36 o K (l1 + 1) s0 (l1 + 3) F B else f_M_goChange_36 o K (l1 + 1) s0 (l1 + 2) F B) else none) = some (r, F9, B9) := hf
  refine lv_istore_n (lv' := [(2, .int (iI s0)), (0, .ref (ad 14 0 0)), (1, .int (iI l1))]) hx hb (D_61 W_prog_15_method_60_code_0 18 rfl rfl) rfl hl (by decide) rfl (fun ls hl => ?_)
  refine lv_iload_n hx hb (D_27 W_prog_15_method_60_code_0 19 rfl rfl) rfl (lv_at hl 2 rfl) ?_
  refine lv_iconst (v := iI 1) hx hb (D_4 W_prog_15_method_60_code_0 20 rfl rfl) rfl ?_
  refine zadd hx hb (D_96 W_prog_15_method_60_code_0 21 rfl rfl) ?_
  refine lv_istore_n (lv' := [(3, .int (iI (l1 + 1))), (2, .int (iI s0)), (0, .ref (ad 14 0 0)), (1, .int (iI l1))]) hx hb (D_62 W_prog_15_method_60_code_0 22 rfl rfl) rfl hl (by decide) rfl (fun ls hl => ?_)
  refine lv_iload_n hx hb (D_28 W_prog_15_method_60_code_0 23 rfl rfl) rfl (lv_at hl 1 rfl) ?_
  obtain ⟨g4, hf⟩ := gif hf
  refine z0eq (tgt := 33) hx hb g4 (D_153 W_prog_15_method_60_code_0 24 rfl rfl rfl) (by decide) (fun h5 => ?_) (fun h5 => ?_)
  · replace hf := gpos hf h5
    refine lv_iload_n hx hb (D_27 W_prog_15_method_60_code_32 1 rfl rfl) rfl (lv_at hl 3 rfl) ?_
    refine lv_iconst (v := iI 3) hx hb (D_6 W_prog_15_method_60_code_32 2 rfl rfl) rfl ?_
    refine zadd hx hb (D_96 W_prog_15_method_60_code_32 3 rfl rfl) ?_
    exact b_M_goChange_36 X ho hf hZ hS (lv_sub hl [0, 1, 2] rfl)
  · replace hf := gneg hf h5
    refine lv_iload_n hx hb (D_27 W_prog_15_method_60_code_0 27 rfl rfl) rfl (lv_at hl 3 rfl) ?_
    refine lv_iconst (v := iI 2) hx hb (D_5 W_prog_15_method_60_code_0 28 rfl rfl) rfl ?_
    refine zadd hx hb (D_96 W_prog_15_method_60_code_0 29 rfl rfl) ?_
    refine lv_goto (tgt := 36) hx hb (D_167 W_prog_15_method_60_code_0 30 rfl rfl rfl) (by decide) ?_
    exact b_M_goChange_36 X ho hf hZ hS (lv_sub hl [0, 1, 2] rfl)

def fb_M_goChange (o : oT_W) (K : Nat) (l1 : Int) (F : zF) (B : zB) : zO := if 0 ≤ l1 ∧ l1 < 3001 then if r64 (B 14 0 11 l1) then (if (zcmp (B 14 0 11 l1) 120299659095922) = 0 then f_M_goChange_18 o K l1 1 F B else f_M_goChange_18 o K l1 0 F B) else none else none
set_option maxHeartbeats 4000000 in
set_option maxRecDepth 100000 in
theorem cb_M_goChange {l : Launch} {D : va_G} {ca : Nat → ClassId} {ad : Nat → Int → Nat → Nat} {L : List Nat} {aS vS : Nat → Nat} {sz K : Nat} {d : Nat} {o : oT_W} (ho : oH_W l D ca ad L aS vS d o)  {l1 : Int} {F F9 : zF} {B B9 : zB} {r : Int} (hf : fb_M_goChange o K l1 F B = some (r, F9, B9)) : Met l ({ cls := "StaveHouseModel", name := "goChange", desc := "(I)V" } : Jvm.MethodName) (Cond.code ({ cls := "StaveHouseModel", name := "goChange", desc := "(I)V" } : Jvm.MethodName) prog_15_method_60_code 5 (Option.none : Option Jvm.ClassFile.FieldType) :: wAll) ({ frames := d + 1 + 5, cells := 0, slots := 0, locals := 28 * (d + 1) + 116 } : Room) (va_Pc [.ref (ad 14 0 0), .int (iI l1)] (zPre D ca ad lnM nM L aS vS F B sz)) (Q_M_goChange D ca ad L r F9 B9 (zA L sz)) 0 0 (zA L sz) := by
  refine zMet (Qc := Q_M_goChange D ca ad L r F9 B9) (lv := [(0, .ref (ad 14 0 0)), (1, .int (iI l1))]) (by decide) (Nat.le_of_ble_eq_true rfl) rfl (fun A p e s m below meth c ls X hZ hS hl => ?_)
  obtain ⟨hx, hb, hr, hml, hown, hts, hlk, hK, hA, hL, hX⟩ := id X
  replace hf : (if 0 ≤ l1 ∧ l1 < 3001 then if r64 (B 14 0 11 l1) then (if (zcmp (B 14 0 11 l1) 120299659095922) = 0 then f_M_goChange_18 o K l1 1 F B else f_M_goChange_18 o K l1 0 F B) else none else none) = some (r, F9, B9) := hf
  refine lv_aload_n hx hb (D_42 W_prog_15_method_60_code_0 0 rfl rfl) rfl (lv_at hl 0 rfl) ?_
  refine zget (ci := 14) (C := RX14) (T := TX14) (v := .ref (ad 14 0 (11 + 1))) (k := 11) hx hb hts inW_14 hown hK hZ (by decide) (by decide) rfl (by decide) k_11_9 rfl (D_180 W_prog_15_method_60_code_0 1 rfl rfl rfl) ?_
  refine lv_iload_n hx hb (D_27 W_prog_15_method_60_code_0 4 rfl rfl) rfl (lv_at hl 1 rfl) ?_
  obtain ⟨g1, hf⟩ := gif hf
  refine zlald (ci := 14) (k := 11) hx hb hK rfl hZ (by decide) (by decide) rfl (Nat.le_of_ble_eq_true rfl) g1.1 g1.2 (D_47 W_prog_15_method_60_code_0 5 rfl rfl) ?_
  refine va_gets hx hb (hX.2.2.2.1 _ (List.mem_of_getElem? (i := 12) rfl) :) hS hown (hts _ k_10_229) (fun _ h => h) (D_178 W_prog_15_method_60_code_0 6 rfl rfl rfl) ?_
  refine W.eq (g2 := F0 m 9 ls [.long (lI 120299659095922), .long (lI (B 14 0 11 l1))]) rfl ?_
  obtain ⟨g2, hf⟩ := gif hf
  refine zcmp_r hx hb g2 (by decide) (D_148 W_prog_15_method_60_code_0 9 rfl rfl) ?_
  refine z0ne (tgt := 17) hx hb zcmp_32 (D_154 W_prog_15_method_60_code_0 10 rfl rfl rfl) (by decide) (fun h3 => ?_) (fun h3 => ?_)
  · replace hf := gneg hf h3
    refine lv_iconst (v := iI 0) hx hb (D_3 W_prog_15_method_60_code_0 17 rfl rfl) rfl ?_
    exact b_M_goChange_18 X ho hf hZ hS (lv_sub hl [0, 1] rfl)
  · replace hf := gpos hf h3
    refine lv_iconst (v := iI 1) hx hb (D_4 W_prog_15_method_60_code_0 13 rfl rfl) rfl ?_
    refine lv_goto (tgt := 18) hx hb (D_167 W_prog_15_method_60_code_0 14 rfl rfl rfl) (by decide) ?_
    exact b_M_goChange_18 X ho hf hZ hS (lv_sub hl [0, 1] rfl)

def f_M_goBack_180 (o : oT_W) (rec92 : Int → zF → zB → zO) (K : Nat) (l7 : Int) (l6 : Int) (l5 : Int) (l4 : Int) (l3 : Int) (s0 : Int) (F : zF) (B : zB) : zO := if 0 ≤ (F 14 0 6) ∧ (F 14 0 6) < 3 then if 0 ≤ l4 ∧ l4 < 4000 then rec92 (l3 + 1) F (zup4 B 13 (F 14 0 6) 18 l4 (zor (zor (zor (zand l5 (-8)) l6) l7) s0)) else none else none
set_option maxHeartbeats 4000000 in
set_option maxRecDepth 100000 in
theorem b_M_goBack_180 {D : va_G} {ca : Nat → ClassId} {ad : Nat → Int → Nat → Nat} {L : List Nat} {aS vS : Nat → Nat} {A : Nat → Prop} {p : Program} {l : Launch} {e : Env} {s : State} {m : MethodId} {args : Array Value} {below : List Frame} {meth : Method} {c : Code} {K : Nat} {r : Int} {F9 : zF} {B9 : zB} {d : Nat} {o : oT_W} (X : zX D ca L aS vS A p s m args meth c prog_15_method_63_code 9 (Option.none : Option Jvm.ClassFile.FieldType) "StaveHouseModel") (ho : oH_W l D ca ad L aS vS d o) {rec92 : Int → zF → zB → zO} (hrec92 : ∀ {l3 : Int} {F : zF} {B : zB} {H : Heap} {locs : List Loc} {ls : Array Slot}, rec92 l3 F B = some (r, F9, B9) → zH D ca ad lnM nM L F B A H → va_S A s.heap H locs → lv_has ls 9 [(3, .int (iI l3)), (0, .ref (ad 14 0 0))] → W p l e ({ frames := d + 1 + 5, cells := 0, slots := 0, locals := 28 * (d + 1) + 116 } : Room) s m args below meth c H locs 0 0 (MQ below (Q_M_goBack D ca ad L r F9 B9 A) args s 0 0 A) (F0 m 92 ls [])) {l7 : Int} {l6 : Int} {l5 : Int} {l4 : Int} {l3 : Int} {s0 : Int} {F : zF} {B : zB} {H : Heap} {locs : List Loc} {ls : Array Slot} (hf : f_M_goBack_180 o rec92 K l7 l6 l5 l4 l3 s0 F B = some (r, F9, B9)) (hZ : zH D ca ad lnM nM L F B A H) (hS : va_S A s.heap H locs) (hl : lv_has ls 9 [(7, .int (iI l7)), (6, .int (iI l6)), (5, .int (iI l5)), (4, .int (iI l4)), (3, .int (iI l3)), (0, .ref (ad 14 0 0))]) : W p l e ({ frames := d + 1 + 5, cells := 0, slots := 0, locals := 28 * (d + 1) + 116 } : Room) s m args below meth c H locs 0 0 (MQ below (Q_M_goBack D ca ad L r F9 B9 A) args s 0 0 A) (F0 m 180 ls [.int (iI s0)]) := by
  obtain ⟨hx, hb, hr, hml, hown, hts, hlk, hK, hA, hL, hX⟩ := id X
  replace hf : (if 0 ≤ (F 14 0 6) ∧ (F 14 0 6) < 3 then if 0 ≤ l4 ∧ l4 < 4000 then rec92 (l3 + 1) F (zup4 B 13 (F 14 0 6) 18 l4 (zor (zor (zor (zand l5 (-8)) l6) l7) s0)) else none else none) = some (r, F9, B9) := hf
  refine lv_istore (lv' := [(8, .int (iI s0)), (7, .int (iI l7)), (6, .int (iI l6)), (5, .int (iI l5)), (4, .int (iI l4)), (3, .int (iI l3)), (0, .ref (ad 14 0 0))]) hx hb (D_54 W_prog_15_method_63_code_160 20 rfl rfl) hl (by decide) rfl (fun ls hl => ?_)
  refine lv_aload_n hx hb (D_42 W_prog_15_method_63_code_160 22 rfl rfl) rfl (lv_at hl 6 rfl) ?_
  refine zget (ci := 14) (C := RX14) (T := TX14) (v := va_rf (zrf ad 13 (F 14 0 6))) (k := 6) hx hb hts inW_14 hown hK hZ (by decide) (by decide) rfl (by decide) k_11_4 rfl (D_180 W_prog_15_method_63_code_160 23 rfl rfl rfl) ?_
  obtain ⟨g21, hf⟩ := gif hf
  refine zunrf g21.1 ?_
  refine zget (ci := 13) (C := RX13) (T := TX13) (v := .ref (ad 13 (F 14 0 6) (18 + 1))) (k := 18) hx hb hts inW_13 hown hK hZ g21.1 g21.2 rfl (by decide) k_9_154 rfl (D_180 W_prog_15_method_63_code_160 26 rfl rfl rfl) ?_
  refine lv_iload hx hb (D_21 W_prog_15_method_63_code_160 29 rfl rfl) (lv_at hl 4 rfl) ?_
  refine lv_iload hx hb (D_21 W_prog_15_method_63_code_160 31 rfl rfl) (lv_at hl 3 rfl) ?_
  refine lv_bipush (v := iI (-8)) hx hb (D_16 W_prog_15_method_63_code_192 1 rfl rfl rfl) (by decide) ?_
  refine zand_r hx hb (D_126 W_prog_15_method_63_code_192 3 rfl rfl) ?_
  refine lv_iload hx hb (D_21 W_prog_15_method_63_code_192 4 rfl rfl) (lv_at hl 2 rfl) ?_
  refine zor_r hx hb (D_128 W_prog_15_method_63_code_192 6 rfl rfl) ?_
  refine lv_iload hx hb (D_21 W_prog_15_method_63_code_192 7 rfl rfl) (lv_at hl 1 rfl) ?_
  refine zor_r hx hb (D_128 W_prog_15_method_63_code_192 9 rfl rfl) ?_
  refine lv_iload hx hb (D_21 W_prog_15_method_63_code_192 10 rfl rfl) (lv_at hl 0 rfl) ?_
  refine zor_r hx hb (D_128 W_prog_15_method_63_code_192 12 rfl rfl) ?_
  obtain ⟨g22, hf⟩ := gif hf
  refine zast (ci := 13) (k := 18) hx hb hK rfl hZ hS g21.1 g21.2 rfl (Nat.le_of_ble_eq_true rfl) g22.1 g22.2 (D_79 W_prog_15_method_63_code_192 13 rfl rfl) (fun H23 locs23 hZ23 hS23 => ?_)
  refine lv_iinc (v := iI (l3 + 1)) (lv' := [(3, .int (iI (l3 + 1))), (8, .int (iI s0)), (7, .int (iI l7)), (6, .int (iI l6)), (5, .int (iI l5)), (4, .int (iI l4)), (0, .ref (ad 14 0 0))]) hx hb d_15_63_206 hl (k := 5) rfl (iI_add _ 1) (by decide) rfl (fun ls hl => ?_)
  refine lv_goto (tgt := 92) hx hb (D_167 W_prog_15_method_63_code_192 17 rfl rfl rfl) (by decide) ?_
  exact hrec92 hf hZ23 hS23 (lv_sub hl [0, 6] rfl)

def f_M_goBack_166 (o : oT_W) (rec92 : Int → zF → zB → zO) (K : Nat) (l6 : Int) (l5 : Int) (l4 : Int) (l3 : Int) (s0 : Int) (F : zF) (B : zB) : zO := if r32 (zand l5 2) then (if (zand l5 2) ≤ 0 then f_M_goBack_180 o rec92 K s0 l6 l5 l4 l3 0 F B else f_M_goBack_180 o rec92 K s0 l6 l5 l4 l3 4 F B) else none
set_option maxHeartbeats 4000000 in
set_option maxRecDepth 100000 in
theorem b_M_goBack_166 {D : va_G} {ca : Nat → ClassId} {ad : Nat → Int → Nat → Nat} {L : List Nat} {aS vS : Nat → Nat} {A : Nat → Prop} {p : Program} {l : Launch} {e : Env} {s : State} {m : MethodId} {args : Array Value} {below : List Frame} {meth : Method} {c : Code} {K : Nat} {r : Int} {F9 : zF} {B9 : zB} {d : Nat} {o : oT_W} (X : zX D ca L aS vS A p s m args meth c prog_15_method_63_code 9 (Option.none : Option Jvm.ClassFile.FieldType) "StaveHouseModel") (ho : oH_W l D ca ad L aS vS d o) {rec92 : Int → zF → zB → zO} (hrec92 : ∀ {l3 : Int} {F : zF} {B : zB} {H : Heap} {locs : List Loc} {ls : Array Slot}, rec92 l3 F B = some (r, F9, B9) → zH D ca ad lnM nM L F B A H → va_S A s.heap H locs → lv_has ls 9 [(3, .int (iI l3)), (0, .ref (ad 14 0 0))] → W p l e ({ frames := d + 1 + 5, cells := 0, slots := 0, locals := 28 * (d + 1) + 116 } : Room) s m args below meth c H locs 0 0 (MQ below (Q_M_goBack D ca ad L r F9 B9 A) args s 0 0 A) (F0 m 92 ls [])) {l6 : Int} {l5 : Int} {l4 : Int} {l3 : Int} {s0 : Int} {F : zF} {B : zB} {H : Heap} {locs : List Loc} {ls : Array Slot} (hf : f_M_goBack_166 o rec92 K l6 l5 l4 l3 s0 F B = some (r, F9, B9)) (hZ : zH D ca ad lnM nM L F B A H) (hS : va_S A s.heap H locs) (hl : lv_has ls 9 [(6, .int (iI l6)), (5, .int (iI l5)), (4, .int (iI l4)), (3, .int (iI l3)), (0, .ref (ad 14 0 0))]) : W p l e ({ frames := d + 1 + 5, cells := 0, slots := 0, locals := 28 * (d + 1) + 116 } : Room) s m args below meth c H locs 0 0 (MQ below (Q_M_goBack D ca ad L r F9 B9 A) args s 0 0 A) (F0 m 166 ls [.int (iI s0)]) := by
  obtain ⟨hx, hb, hr, hml, hown, hts, hlk, hK, hA, hL, hX⟩ := id X
  replace hf : (if r32 (zand l5 2) then (if (zand l5 2) ≤ 0 then f_M_goBack_180 o rec92 K s0 l6 l5 l4 l3 0 F B else f_M_goBack_180 o rec92 K s0 l6 l5 l4 l3 4 F B) else none) = some (r, F9, B9) := hf
  refine lv_istore (lv' := [(7, .int (iI s0)), (6, .int (iI l6)), (5, .int (iI l5)), (4, .int (iI l4)), (3, .int (iI l3)), (0, .ref (ad 14 0 0))]) hx hb (D_54 W_prog_15_method_63_code_160 6 rfl rfl) hl (by decide) rfl (fun ls hl => ?_)
  refine lv_iload hx hb (D_21 W_prog_15_method_63_code_160 8 rfl rfl) (lv_at hl 2 rfl) ?_
  refine lv_iconst (v := iI 2) hx hb (D_5 W_prog_15_method_63_code_160 10 rfl rfl) rfl ?_
  refine zand_r hx hb (D_126 W_prog_15_method_63_code_160 11 rfl rfl) ?_
  obtain ⟨g19, hf⟩ := gif hf
  refine z0le (tgt := 179) hx hb g19 (D_158 W_prog_15_method_63_code_160 12 rfl rfl rfl) (by decide) (fun h20 => ?_) (fun h20 => ?_)
  · replace hf := gpos hf h20
    refine lv_iconst (v := iI 0) hx hb (D_3 W_prog_15_method_63_code_160 19 rfl rfl) rfl ?_
    exact b_M_goBack_180 X ho hrec92 hf hZ hS (lv_sub hl [0, 1, 2, 3, 4, 5] rfl)
  · replace hf := gneg hf h20
    refine lv_iconst (v := iI 4) hx hb (D_7 W_prog_15_method_63_code_160 15 rfl rfl) rfl ?_
    refine lv_goto (tgt := 180) hx hb (D_167 W_prog_15_method_63_code_160 16 rfl rfl rfl) (by decide) ?_
    exact b_M_goBack_180 X ho hrec92 hf hZ hS (lv_sub hl [0, 1, 2, 3, 4, 5] rfl)

def f_M_goBack_152 (o : oT_W) (rec92 : Int → zF → zB → zO) (K : Nat) (l5 : Int) (l4 : Int) (l3 : Int) (s0 : Int) (F : zF) (B : zB) : zO := if r32 (zand l5 4) then (if (zand l5 4) ≤ 0 then f_M_goBack_166 o rec92 K s0 l5 l4 l3 0 F B else f_M_goBack_166 o rec92 K s0 l5 l4 l3 2 F B) else none
set_option maxHeartbeats 4000000 in
set_option maxRecDepth 100000 in
theorem b_M_goBack_152 {D : va_G} {ca : Nat → ClassId} {ad : Nat → Int → Nat → Nat} {L : List Nat} {aS vS : Nat → Nat} {A : Nat → Prop} {p : Program} {l : Launch} {e : Env} {s : State} {m : MethodId} {args : Array Value} {below : List Frame} {meth : Method} {c : Code} {K : Nat} {r : Int} {F9 : zF} {B9 : zB} {d : Nat} {o : oT_W} (X : zX D ca L aS vS A p s m args meth c prog_15_method_63_code 9 (Option.none : Option Jvm.ClassFile.FieldType) "StaveHouseModel") (ho : oH_W l D ca ad L aS vS d o) {rec92 : Int → zF → zB → zO} (hrec92 : ∀ {l3 : Int} {F : zF} {B : zB} {H : Heap} {locs : List Loc} {ls : Array Slot}, rec92 l3 F B = some (r, F9, B9) → zH D ca ad lnM nM L F B A H → va_S A s.heap H locs → lv_has ls 9 [(3, .int (iI l3)), (0, .ref (ad 14 0 0))] → W p l e ({ frames := d + 1 + 5, cells := 0, slots := 0, locals := 28 * (d + 1) + 116 } : Room) s m args below meth c H locs 0 0 (MQ below (Q_M_goBack D ca ad L r F9 B9 A) args s 0 0 A) (F0 m 92 ls [])) {l5 : Int} {l4 : Int} {l3 : Int} {s0 : Int} {F : zF} {B : zB} {H : Heap} {locs : List Loc} {ls : Array Slot} (hf : f_M_goBack_152 o rec92 K l5 l4 l3 s0 F B = some (r, F9, B9)) (hZ : zH D ca ad lnM nM L F B A H) (hS : va_S A s.heap H locs) (hl : lv_has ls 9 [(5, .int (iI l5)), (4, .int (iI l4)), (3, .int (iI l3)), (0, .ref (ad 14 0 0))]) : W p l e ({ frames := d + 1 + 5, cells := 0, slots := 0, locals := 28 * (d + 1) + 116 } : Room) s m args below meth c H locs 0 0 (MQ below (Q_M_goBack D ca ad L r F9 B9 A) args s 0 0 A) (F0 m 152 ls [.int (iI s0)]) := by
  obtain ⟨hx, hb, hr, hml, hown, hts, hlk, hK, hA, hL, hX⟩ := id X
  replace hf : (if r32 (zand l5 4) then (if (zand l5 4) ≤ 0 then f_M_goBack_166 o rec92 K s0 l5 l4 l3 0 F B else f_M_goBack_166 o rec92 K s0 l5 l4 l3 2 F B) else none) = some (r, F9, B9) := hf
  refine lv_istore (lv' := [(6, .int (iI s0)), (5, .int (iI l5)), (4, .int (iI l4)), (3, .int (iI l3)), (0, .ref (ad 14 0 0))]) hx hb (D_54 W_prog_15_method_63_code_128 24 rfl rfl) hl (by decide) rfl (fun ls hl => ?_)
  refine lv_iload hx hb (D_21 W_prog_15_method_63_code_128 26 rfl rfl) (lv_at hl 1 rfl) ?_
  refine lv_iconst (v := iI 4) hx hb (D_7 W_prog_15_method_63_code_128 28 rfl rfl) rfl ?_
  refine zand_r hx hb (D_126 W_prog_15_method_63_code_128 29 rfl rfl) ?_
  obtain ⟨g17, hf⟩ := gif hf
  refine z0le (tgt := 165) hx hb g17 (D_158 W_prog_15_method_63_code_128 30 rfl rfl rfl) (by decide) (fun h18 => ?_) (fun h18 => ?_)
  · replace hf := gpos hf h18
    refine lv_iconst (v := iI 0) hx hb (D_3 W_prog_15_method_63_code_160 5 rfl rfl) rfl ?_
    exact b_M_goBack_166 X ho hrec92 hf hZ hS (lv_sub hl [0, 1, 2, 3, 4] rfl)
  · replace hf := gneg hf h18
    refine lv_iconst (v := iI 2) hx hb (D_5 W_prog_15_method_63_code_160 1 rfl rfl) rfl ?_
    refine lv_goto (tgt := 166) hx hb (D_167 W_prog_15_method_63_code_160 2 rfl rfl rfl) (by decide) ?_
    exact b_M_goBack_166 X ho hrec92 hf hZ hS (lv_sub hl [0, 1, 2, 3, 4] rfl)

def f_M_goBack_92 (o : oT_W) (K : Nat) : Nat → Int → zF → zB → zO
  | 0, _, _, _ => none
  | n + 1, l3, F, B => if r32 l3 then if r32 (F 14 0 36) then (if (F 14 0 36) ≤ l3 then some (0, F, B) else if 0 ≤ (F 14 0 6) ∧ (F 14 0 6) < 3 then if 0 ≤ ((1000 * (F 14 0 35)) + l3) ∧ ((1000 * (F 14 0 35)) + l3) < 4000 then if r32 ((F 14 0 36) - 1) then (if ((F 14 0 36) - 1) ≤ l3 then f_M_goBack_152 o (f_M_goBack_92 o K n) K (B 13 (F 14 0 6) 18 ((1000 * (F 14 0 35)) + l3)) ((1000 * (F 14 0 35)) + l3) l3 0 F B else if 0 ≤ (((1000 * (F 14 0 35)) + l3) + 1) ∧ (((1000 * (F 14 0 35)) + l3) + 1) < 4000 then f_M_goBack_152 o (f_M_goBack_92 o K n) K (B 13 (F 14 0 6) 18 ((1000 * (F 14 0 35)) + l3)) ((1000 * (F 14 0 35)) + l3) l3 (zand (B 13 (F 14 0 6) 18 (((1000 * (F 14 0 35)) + l3) + 1)) 1) F B else none) else none else none else none) else none else none
set_option maxHeartbeats 4000000 in
set_option maxRecDepth 100000 in
theorem b_M_goBack_92 {D : va_G} {ca : Nat → ClassId} {ad : Nat → Int → Nat → Nat} {L : List Nat} {aS vS : Nat → Nat} {A : Nat → Prop} {p : Program} {l : Launch} {e : Env} {s : State} {m : MethodId} {args : Array Value} {below : List Frame} {meth : Method} {c : Code} {K : Nat} {r : Int} {F9 : zF} {B9 : zB} {d : Nat} {o : oT_W} (X : zX D ca L aS vS A p s m args meth c prog_15_method_63_code 9 (Option.none : Option Jvm.ClassFile.FieldType) "StaveHouseModel") (ho : oH_W l D ca ad L aS vS d o) : ∀ {n : Nat} {l3 : Int} {F : zF} {B : zB} {H : Heap} {locs : List Loc} {ls : Array Slot}, f_M_goBack_92 o K n l3 F B = some (r, F9, B9) → zH D ca ad lnM nM L F B A H → va_S A s.heap H locs → lv_has ls 9 [(3, .int (iI l3)), (0, .ref (ad 14 0 0))] → W p l e ({ frames := d + 1 + 5, cells := 0, slots := 0, locals := 28 * (d + 1) + 116 } : Room) s m args below meth c H locs 0 0 (MQ below (Q_M_goBack D ca ad L r F9 B9 A) args s 0 0 A) (F0 m 92 ls []) := by
  obtain ⟨hx, hb, hr, hml, hown, hts, hlk, hK, hA, hL, hX⟩ := id X
  intro n
  induction n with
  | zero =>
    intros
    rename_i hf _ _ _
    cases hf
  | succ n ih =>
    intro l3 F B H locs ls hf hZ hS hl
    replace hf : (if r32 l3 then if r32 (F 14 0 36) then (if (F 14 0 36) ≤ l3 then some (0, F, B) else if 0 ≤ (F 14 0 6) ∧ (F 14 0 6) < 3 then if 0 ≤ ((1000 * (F 14 0 35)) + l3) ∧ ((1000 * (F 14 0 35)) + l3) < 4000 then if r32 ((F 14 0 36) - 1) then (if ((F 14 0 36) - 1) ≤ l3 then f_M_goBack_152 o (f_M_goBack_92 o K n) K (B 13 (F 14 0 6) 18 ((1000 * (F 14 0 35)) + l3)) ((1000 * (F 14 0 35)) + l3) l3 0 F B else if 0 ≤ (((1000 * (F 14 0 35)) + l3) + 1) ∧ (((1000 * (F 14 0 35)) + l3) + 1) < 4000 then f_M_goBack_152 o (f_M_goBack_92 o K n) K (B 13 (F 14 0 6) 18 ((1000 * (F 14 0 35)) + l3)) ((1000 * (F 14 0 35)) + l3) l3 (zand (B 13 (F 14 0 6) 18 (((1000 * (F 14 0 35)) + l3) + 1)) 1) F B else none) else none else none else none) else none else none) = some (r, F9, B9) := hf
    refine lv_iload_n hx hb (D_29 W_prog_15_method_63_code_64 28 rfl rfl) rfl (lv_at hl 0 rfl) ?_
    refine lv_aload_n hx hb (D_42 W_prog_15_method_63_code_64 29 rfl rfl) rfl (lv_at hl 1 rfl) ?_
    refine zget (ci := 14) (C := RX14) (T := TX14) (v := .int (iI (F 14 0 36))) (k := 36) hx hb hts inW_14 hown hK hZ (by decide) (by decide) rfl (by decide) k_11_34 rfl (D_180 W_prog_15_method_63_code_64 30 rfl rfl rfl) ?_
    obtain ⟨g9, hf⟩ := gif hf
    obtain ⟨g10, hf⟩ := gif hf
    refine zge (tgt := 212) hx hb g9 g10 (D_162 W_prog_15_method_63_code_96 1 rfl rfl rfl) (by decide) (fun h11 => ?_) (fun h11 => ?_)
    · replace hf := gpos hf h11
      cases hf
      exact W.vret hx hb hr (fun t ht hW => ⟨⟨(), rfl, trivial, by rw [ht]; exact hZ, va_K.moved hW.alike hK⟩, hS.F ht⟩) hS.2.2 (D_177 W_prog_15_method_63_code_192 20 rfl rfl) hlk
    · replace hf := gneg hf h11
      refine lv_sipush (v := iI 1000) hx hb (D_17 W_prog_15_method_63_code_96 4 rfl rfl rfl) (by decide) ?_
      refine lv_aload_n hx hb (D_42 W_prog_15_method_63_code_96 7 rfl rfl) rfl (lv_at hl 1 rfl) ?_
      refine zget (ci := 14) (C := RX14) (T := TX14) (v := .int (iI (F 14 0 35))) (k := 35) hx hb hts inW_14 hown hK hZ (by decide) (by decide) rfl (by decide) k_11_33 rfl (D_180 W_prog_15_method_63_code_96 8 rfl rfl rfl) ?_
      refine zmul hx hb (D_104 W_prog_15_method_63_code_96 11 rfl rfl) ?_
      refine lv_iload_n hx hb (D_29 W_prog_15_method_63_code_96 12 rfl rfl) rfl (lv_at hl 0 rfl) ?_
      refine zadd hx hb (D_96 W_prog_15_method_63_code_96 13 rfl rfl) ?_
      refine lv_istore (lv' := [(4, .int (iI ((1000 * (F 14 0 35)) + l3))), (3, .int (iI l3)), (0, .ref (ad 14 0 0))]) hx hb (D_54 W_prog_15_method_63_code_96 14 rfl rfl) hl (by decide) rfl (fun ls hl => ?_)
      refine lv_aload_n hx hb (D_42 W_prog_15_method_63_code_96 16 rfl rfl) rfl (lv_at hl 2 rfl) ?_
      refine zget (ci := 14) (C := RX14) (T := TX14) (v := va_rf (zrf ad 13 (F 14 0 6))) (k := 6) hx hb hts inW_14 hown hK hZ (by decide) (by decide) rfl (by decide) k_11_4 rfl (D_180 W_prog_15_method_63_code_96 17 rfl rfl rfl) ?_
      obtain ⟨g12, hf⟩ := gif hf
      refine zunrf g12.1 ?_
      refine zget (ci := 13) (C := RX13) (T := TX13) (v := .ref (ad 13 (F 14 0 6) (18 + 1))) (k := 18) hx hb hts inW_13 hown hK hZ g12.1 g12.2 rfl (by decide) k_9_154 rfl (D_180 W_prog_15_method_63_code_96 20 rfl rfl rfl) ?_
      refine lv_iload hx hb (D_21 W_prog_15_method_63_code_96 23 rfl rfl) (lv_at hl 0 rfl) ?_
      obtain ⟨g13, hf⟩ := gif hf
      refine zald (ci := 13) (k := 18) hx hb hK rfl hZ g12.1 g12.2 rfl (Nat.le_of_ble_eq_true rfl) g13.1 g13.2 (D_46 W_prog_15_method_63_code_96 25 rfl rfl) ?_
      refine lv_istore (lv' := [(5, .int (iI (B 13 (F 14 0 6) 18 ((1000 * (F 14 0 35)) + l3)))), (4, .int (iI ((1000 * (F 14 0 35)) + l3))), (3, .int (iI l3)), (0, .ref (ad 14 0 0))]) hx hb (D_54 W_prog_15_method_63_code_96 26 rfl rfl) hl (by decide) rfl (fun ls hl => ?_)
      refine lv_iload_n hx hb (D_29 W_prog_15_method_63_code_96 28 rfl rfl) rfl (lv_at hl 2 rfl) ?_
      refine lv_aload_n hx hb (D_42 W_prog_15_method_63_code_96 29 rfl rfl) rfl (lv_at hl 3 rfl) ?_
      refine zget (ci := 14) (C := RX14) (T := TX14) (v := .int (iI (F 14 0 36))) (k := 36) hx hb hts inW_14 hown hK hZ (by decide) (by decide) rfl (by decide) k_11_34 rfl (D_180 W_prog_15_method_63_code_96 30 rfl rfl rfl) ?_
      refine lv_iconst (v := iI 1) hx hb (D_4 W_prog_15_method_63_code_128 1 rfl rfl) rfl ?_
      refine zsub hx hb (D_100 W_prog_15_method_63_code_128 2 rfl rfl) ?_
      obtain ⟨g14, hf⟩ := gif hf
      refine zge (tgt := 151) hx hb g9 g14 (D_162 W_prog_15_method_63_code_128 3 rfl rfl rfl) (by decide) (fun h15 => ?_) (fun h15 => ?_)
      · replace hf := gpos hf h15
        refine lv_iconst (v := iI 0) hx hb (D_3 W_prog_15_method_63_code_128 23 rfl rfl) rfl ?_
        exact b_M_goBack_152 X ho ih hf hZ hS (lv_sub hl [0, 1, 2, 3] rfl)
      · replace hf := gneg hf h15
        refine lv_aload_n hx hb (D_42 W_prog_15_method_63_code_128 6 rfl rfl) rfl (lv_at hl 3 rfl) ?_
        refine zget (ci := 14) (C := RX14) (T := TX14) (v := va_rf (zrf ad 13 (F 14 0 6))) (k := 6) hx hb hts inW_14 hown hK hZ (by decide) (by decide) rfl (by decide) k_11_4 rfl (D_180 W_prog_15_method_63_code_128 7 rfl rfl rfl) ?_
        refine zunrf g12.1 ?_
        refine zget (ci := 13) (C := RX13) (T := TX13) (v := .ref (ad 13 (F 14 0 6) (18 + 1))) (k := 18) hx hb hts inW_13 hown hK hZ g12.1 g12.2 rfl (by decide) k_9_154 rfl (D_180 W_prog_15_method_63_code_128 10 rfl rfl rfl) ?_
        refine lv_iload hx hb (D_21 W_prog_15_method_63_code_128 13 rfl rfl) (lv_at hl 1 rfl) ?_
        refine lv_iconst (v := iI 1) hx hb (D_4 W_prog_15_method_63_code_128 15 rfl rfl) rfl ?_
        refine zadd hx hb (D_96 W_prog_15_method_63_code_128 16 rfl rfl) ?_
        obtain ⟨g16, hf⟩ := gif hf
        refine zald (ci := 13) (k := 18) hx hb hK rfl hZ g12.1 g12.2 rfl (Nat.le_of_ble_eq_true rfl) g16.1 g16.2 (D_46 W_prog_15_method_63_code_128 17 rfl rfl) ?_
        refine lv_iconst (v := iI 1) hx hb (D_4 W_prog_15_method_63_code_128 18 rfl rfl) rfl ?_
        refine zand_r hx hb (D_126 W_prog_15_method_63_code_128 19 rfl rfl) ?_
        refine lv_goto (tgt := 152) hx hb (D_167 W_prog_15_method_63_code_128 20 rfl rfl rfl) (by decide) ?_
        exact b_M_goBack_152 X ho ih hf hZ hS (lv_sub hl [0, 1, 2, 3] rfl)

def f_M_goBack_50 (o : oT_W) (K : Nat) : Nat → Int → Int → Int → zF → zB → zO
  | 0, _, _, _, _, _ => none
  | n + 1, l4, l3, l2, F, B => if r32 l3 then if r32 l4 then (if l4 ≤ l3 then f_M_goBack_92 o K K l2 F B else zbind (f_M_exchange K ((1000 * (F 14 0 35)) + l3) ((1000 * (F 14 0 35)) + l4) F B) (fun r8 F8 B8 => f_M_goBack_50 o K n (l4 - 1) (l3 + 1) l2 F8 B8)) else none else none
set_option maxHeartbeats 4000000 in
set_option maxRecDepth 100000 in
theorem b_M_goBack_50 {D : va_G} {ca : Nat → ClassId} {ad : Nat → Int → Nat → Nat} {L : List Nat} {aS vS : Nat → Nat} {A : Nat → Prop} {p : Program} {l : Launch} {e : Env} {s : State} {m : MethodId} {args : Array Value} {below : List Frame} {meth : Method} {c : Code} {K : Nat} {r : Int} {F9 : zF} {B9 : zB} {d : Nat} {o : oT_W} (X : zX D ca L aS vS A p s m args meth c prog_15_method_63_code 9 (Option.none : Option Jvm.ClassFile.FieldType) "StaveHouseModel") (ho : oH_W l D ca ad L aS vS d o) : ∀ {n : Nat} {l4 : Int} {l3 : Int} {l2 : Int} {F : zF} {B : zB} {H : Heap} {locs : List Loc} {ls : Array Slot}, f_M_goBack_50 o K n l4 l3 l2 F B = some (r, F9, B9) → zH D ca ad lnM nM L F B A H → va_S A s.heap H locs → lv_has ls 9 [(4, .int (iI l4)), (3, .int (iI l3)), (2, .int (iI l2)), (0, .ref (ad 14 0 0))] → W p l e ({ frames := d + 1 + 5, cells := 0, slots := 0, locals := 28 * (d + 1) + 116 } : Room) s m args below meth c H locs 0 0 (MQ below (Q_M_goBack D ca ad L r F9 B9 A) args s 0 0 A) (F0 m 50 ls []) := by
  obtain ⟨hx, hb, hr, hml, hown, hts, hlk, hK, hA, hL, hX⟩ := id X
  intro n
  induction n with
  | zero =>
    intros
    rename_i hf _ _ _
    cases hf
  | succ n ih =>
    intro l4 l3 l2 F B H locs ls hf hZ hS hl
    replace hf : (if r32 l3 then if r32 l4 then (if l4 ≤ l3 then f_M_goBack_92 o K K l2 F B else zbind (f_M_exchange K ((1000 * (F 14 0 35)) + l3) ((1000 * (F 14 0 35)) + l4) F B) (fun r8 F8 B8 => f_M_goBack_50 o K n (l4 - 1) (l3 + 1) l2 F8 B8)) else none else none) = some (r, F9, B9) := hf
    refine lv_iload_n hx hb (D_29 W_prog_15_method_63_code_32 18 rfl rfl) rfl (lv_at hl 1 rfl) ?_
    refine lv_iload hx hb (D_21 W_prog_15_method_63_code_32 19 rfl rfl) (lv_at hl 0 rfl) ?_
    obtain ⟨g5, hf⟩ := gif hf
    obtain ⟨g6, hf⟩ := gif hf
    refine zge (tgt := 90) hx hb g5 g6 (D_162 W_prog_15_method_63_code_32 21 rfl rfl rfl) (by decide) (fun h7 => ?_) (fun h7 => ?_)
    · replace hf := gpos hf h7
      refine lv_iload_n hx hb (D_28 W_prog_15_method_63_code_64 26 rfl rfl) rfl (lv_at hl 2 rfl) ?_
      refine lv_istore_n (lv' := [(3, .int (iI l2)), (4, .int (iI l4)), (2, .int (iI l2)), (0, .ref (ad 14 0 0))]) hx hb (D_62 W_prog_15_method_63_code_64 27 rfl rfl) rfl hl (by decide) rfl (fun ls hl => ?_)
      exact b_M_goBack_92 X ho hf hZ hS (lv_sub hl [0, 3] rfl)
    · replace hf := gneg hf h7
      refine lv_aload_n hx hb (D_42 W_prog_15_method_63_code_32 24 rfl rfl) rfl (lv_at hl 3 rfl) ?_
      refine lv_sipush (v := iI 1000) hx hb (D_17 W_prog_15_method_63_code_32 25 rfl rfl rfl) (by decide) ?_
      refine lv_aload_n hx hb (D_42 W_prog_15_method_63_code_32 28 rfl rfl) rfl (lv_at hl 3 rfl) ?_
      refine zget (ci := 14) (C := RX14) (T := TX14) (v := .int (iI (F 14 0 35))) (k := 35) hx hb hts inW_14 hown hK hZ (by decide) (by decide) rfl (by decide) k_11_33 rfl (D_180 W_prog_15_method_63_code_32 29 rfl rfl rfl) ?_
      refine zmul hx hb (D_104 W_prog_15_method_63_code_64 0 rfl rfl) ?_
      refine lv_iload_n hx hb (D_29 W_prog_15_method_63_code_64 1 rfl rfl) rfl (lv_at hl 1 rfl) ?_
      refine zadd hx hb (D_96 W_prog_15_method_63_code_64 2 rfl rfl) ?_
      refine lv_sipush (v := iI 1000) hx hb (D_17 W_prog_15_method_63_code_64 3 rfl rfl rfl) (by decide) ?_
      refine lv_aload_n hx hb (D_42 W_prog_15_method_63_code_64 6 rfl rfl) rfl (lv_at hl 3 rfl) ?_
      refine zget (ci := 14) (C := RX14) (T := TX14) (v := .int (iI (F 14 0 35))) (k := 35) hx hb hts inW_14 hown hK hZ (by decide) (by decide) rfl (by decide) k_11_33 rfl (D_180 W_prog_15_method_63_code_64 7 rfl rfl rfl) ?_
      refine zmul hx hb (D_104 W_prog_15_method_63_code_64 10 rfl rfl) ?_
      refine lv_iload hx hb (D_21 W_prog_15_method_63_code_64 11 rfl rfl) (lv_at hl 0 rfl) ?_
      refine zadd hx hb (D_96 W_prog_15_method_63_code_64 13 rfl rfl) ?_
      obtain ⟨r8, F8, B8, hc8, hf⟩ := gbind hf
      refine va_callv (va_runV (As := [.int (iI ((1000 * (F 14 0 35)) + l3)), .int (iI ((1000 * (F 14 0 35)) + l4))]) (rest := []) ⟨hx, hb, hml, hown, hts⟩ (c_M_exchange (l := l) hc8) (cwV 2 hts (gdV k_15_16 k_15_18 ks_235 k_1_9 k_15_19) rfl rfl rfl (by decide +kernel) ⟨by dsimp only; omega, by dsimp only; omega⟩) (zPV X hZ hS (ci := 14) (by decide) (by decide) (r := (RX14, TX14, 107)) rfl [.int (iI ((1000 * (F 14 0 35)) + l3)), .int (iI ((1000 * (F 14 0 35)) + l4))]) rfl rfl hl.1 rfl (lv_room (Nat.le_of_ble_eq_true rfl)) (D_182 W_prog_15_method_63_code_64 14 rfl rfl rfl) ⟨Nat.le_of_ble_eq_true rfl, Nat.le_of_ble_eq_true rfl⟩) hS (fun q _ h => zAin X hS q h) (zAin X hS) (fun u8 t8 H8 locs8 ht8 hv8 hw8 hB8 hz8 hk8 hS8 => ?_)
      have hZ8 := zBack X ht8 hB8
      refine lv_iinc (v := iI (l3 + 1)) (lv' := [(3, .int (iI (l3 + 1))), (4, .int (iI l4)), (2, .int (iI l2)), (0, .ref (ad 14 0 0))]) hx hb d_15_63_81 hl (k := 1) rfl (iI_add _ 1) (by decide) rfl (fun ls hl => ?_)
      refine lv_iinc (v := iI (l4 - 1)) (lv' := [(4, .int (iI (l4 - 1))), (3, .int (iI (l3 + 1))), (2, .int (iI l2)), (0, .ref (ad 14 0 0))]) hx hb d_15_63_84 hl (k := 1) rfl (by rw [show Int32.ofInt (-1) = iI (-1) from rfl, iI_add]; congr 1) (by decide) rfl (fun ls hl => ?_)
      refine lv_goto (tgt := 50) hx hb (D_167 W_prog_15_method_63_code_64 23 rfl rfl rfl) (by decide) ?_
      exact ih hf hZ8 hS8 (lv_sub hl [0, 1, 2, 3] rfl)

def fb_M_goBack (o : oT_W) (K : Nat) (l1 : Int) (F : zF) (B : zB) : zO := if 0 ≤ (l1 + 1) ∧ (l1 + 1) < 3001 then zbind (o.1 (l1 + 2) (B 14 0 30 (l1 + 1)) (zup3 F 14 0 41 ((F 14 0 41) + 1)) B) (fun r3 F3 B3 => f_M_goBack_50 o K K ((F3 14 0 36) - 1) (F 14 0 36) (F 14 0 36) (zup3 F3 14 0 41 ((F3 14 0 41) - 1)) B3) else none
set_option maxHeartbeats 4000000 in
set_option maxRecDepth 100000 in
theorem cb_M_goBack {l : Launch} {D : va_G} {ca : Nat → ClassId} {ad : Nat → Int → Nat → Nat} {L : List Nat} {aS vS : Nat → Nat} {sz K : Nat} {d : Nat} {o : oT_W} (ho : oH_W l D ca ad L aS vS d o)  {l1 : Int} {F F9 : zF} {B B9 : zB} {r : Int} (hf : fb_M_goBack o K l1 F B = some (r, F9, B9)) : Met l ({ cls := "StaveHouseModel", name := "goBack", desc := "(I)V" } : Jvm.MethodName) (Cond.code ({ cls := "StaveHouseModel", name := "goBack", desc := "(I)V" } : Jvm.MethodName) prog_15_method_63_code 9 (Option.none : Option Jvm.ClassFile.FieldType) :: wAll) ({ frames := d + 1 + 5, cells := 0, slots := 0, locals := 28 * (d + 1) + 116 } : Room) (va_Pc [.ref (ad 14 0 0), .int (iI l1)] (zPre D ca ad lnM nM L aS vS F B sz)) (Q_M_goBack D ca ad L r F9 B9 (zA L sz)) 0 0 (zA L sz) := by
  refine zMet (Qc := Q_M_goBack D ca ad L r F9 B9) (lv := [(0, .ref (ad 14 0 0)), (1, .int (iI l1))]) (by decide) (Nat.le_of_ble_eq_true rfl) rfl (fun A p e s m below meth c ls X hZ hS hl => ?_)
  obtain ⟨hx, hb, hr, hml, hown, hts, hlk, hK, hA, hL, hX⟩ := id X
  replace hf : (if 0 ≤ (l1 + 1) ∧ (l1 + 1) < 3001 then zbind (o.1 (l1 + 2) (B 14 0 30 (l1 + 1)) (zup3 F 14 0 41 ((F 14 0 41) + 1)) B) (fun r3 F3 B3 => f_M_goBack_50 o K K ((F3 14 0 36) - 1) (F 14 0 36) (F 14 0 36) (zup3 F3 14 0 41 ((F3 14 0 41) - 1)) B3) else none) = some (r, F9, B9) := hf
  refine lv_aload_n hx hb (D_42 W_prog_15_method_63_code_0 0 rfl rfl) rfl (lv_at hl 0 rfl) ?_
  refine zget (ci := 14) (C := RX14) (T := TX14) (v := .int (iI (F 14 0 36))) (k := 36) hx hb hts inW_14 hown hK hZ (by decide) (by decide) rfl (by decide) k_11_34 rfl (D_180 W_prog_15_method_63_code_0 1 rfl rfl rfl) ?_
  refine lv_istore_n (lv' := [(2, .int (iI (F 14 0 36))), (0, .ref (ad 14 0 0)), (1, .int (iI l1))]) hx hb (D_61 W_prog_15_method_63_code_0 4 rfl rfl) rfl hl (by decide) rfl (fun ls hl => ?_)
  refine lv_aload_n hx hb (D_42 W_prog_15_method_63_code_0 5 rfl rfl) rfl (lv_at hl 1 rfl) ?_
  refine lv_dup hx hb (D_89 W_prog_15_method_63_code_0 6 rfl rfl) rfl ?_
  refine zget (ci := 14) (C := RX14) (T := TX14) (v := .int (iI (F 14 0 41))) (k := 41) hx hb hts inW_14 hown hK hZ (by decide) (by decide) rfl (by decide) k_11_39 rfl (D_180 W_prog_15_method_63_code_0 7 rfl rfl rfl) ?_
  refine lv_iconst (v := iI 1) hx hb (D_4 W_prog_15_method_63_code_0 10 rfl rfl) rfl ?_
  refine zadd hx hb (D_96 W_prog_15_method_63_code_0 11 rfl rfl) ?_
  refine zput (ci := 14) (C := RX14) (T := TX14) (k := 41) (v := ((F 14 0 41) + 1)) (w := .int (iI ((F 14 0 41) + 1))) hx hb hts inW_14 tyX14 tyX14_ok nmX14 hown hK hZ hS (by decide) (by decide) rfl (by decide) k_11_39 rfl (fun G h => congrArg (fun q => Value.int (iI q)) h) rfl rfl (zno (by decide)) (D_181 W_prog_15_method_63_code_0 12 rfl rfl rfl) (fun H1 locs1 hZ1 hS1 => ?_)
  refine lv_aload_n hx hb (D_42 W_prog_15_method_63_code_0 15 rfl rfl) rfl (lv_at hl 1 rfl) ?_
  refine lv_iload_n hx hb (D_27 W_prog_15_method_63_code_0 16 rfl rfl) rfl (lv_at hl 2 rfl) ?_
  refine lv_iconst (v := iI 2) hx hb (D_5 W_prog_15_method_63_code_0 17 rfl rfl) rfl ?_
  refine zadd hx hb (D_96 W_prog_15_method_63_code_0 18 rfl rfl) ?_
  refine lv_aload_n hx hb (D_42 W_prog_15_method_63_code_0 19 rfl rfl) rfl (lv_at hl 1 rfl) ?_
  refine zget (ci := 14) (C := RX14) (T := TX14) (v := .ref (ad 14 0 (30 + 1))) (k := 30) hx hb hts inW_14 hown hK hZ1 (by decide) (by decide) rfl (by decide) k_11_28 rfl (D_180 W_prog_15_method_63_code_0 20 rfl rfl rfl) ?_
  refine lv_iload_n hx hb (D_27 W_prog_15_method_63_code_0 23 rfl rfl) rfl (lv_at hl 2 rfl) ?_
  refine lv_iconst (v := iI 1) hx hb (D_4 W_prog_15_method_63_code_0 24 rfl rfl) rfl ?_
  refine zadd hx hb (D_96 W_prog_15_method_63_code_0 25 rfl rfl) ?_
  obtain ⟨g2, hf⟩ := gif hf
  refine zald (ci := 14) (k := 30) hx hb hK rfl hZ1 (by decide) (by decide) rfl (Nat.le_of_ble_eq_true rfl) g2.1 g2.2 (D_46 W_prog_15_method_63_code_0 26 rfl rfl) ?_
  obtain ⟨r3, F3, B3, hc3, hf⟩ := gbind hf
  refine va_callv (va_runV (As := [.int (iI (l1 + 2)), .int (iI (B 14 0 30 (l1 + 1)))]) (rest := []) ⟨hx, hb, hml, hown, hts⟩ (ho.1 hc3) (cwV 2 hts (gdV k_14_207 k_14_209 ks_223 k_1_9 k_14_210) rfl rfl rfl (by decide +kernel) ⟨by dsimp only; omega, by dsimp only; omega⟩) (zPV X hZ1 hS1 (ci := 14) (by decide) (by decide) (r := (RX14, TX14, 107)) rfl [.int (iI (l1 + 2)), .int (iI (B 14 0 30 (l1 + 1)))]) rfl rfl hl.1 rfl (lv_room (Nat.le_of_ble_eq_true rfl)) (D_182 W_prog_15_method_63_code_0 27 rfl rfl rfl) ⟨Nat.le_of_ble_eq_true rfl, Nat.le_of_ble_eq_true rfl⟩) hS1 (fun q _ h => zAin X hS1 q h) (zAin X hS1) (fun u3 t3 H3 locs3 ht3 hv3 hw3 hB3 hz3 hk3 hS3 => ?_)
  have hZ3 := zBack X ht3 hB3
  refine lv_aload_n hx hb (D_42 W_prog_15_method_63_code_0 30 rfl rfl) rfl (lv_at hl 1 rfl) ?_
  refine lv_dup hx hb (D_89 W_prog_15_method_63_code_0 31 rfl rfl) rfl ?_
  refine zget (ci := 14) (C := RX14) (T := TX14) (v := .int (iI (F3 14 0 41))) (k := 41) hx hb hts inW_14 hown hK hZ3 (by decide) (by decide) rfl (by decide) k_11_39 rfl (D_180 W_prog_15_method_63_code_32 0 rfl rfl rfl) ?_
  refine lv_iconst (v := iI 1) hx hb (D_4 W_prog_15_method_63_code_32 3 rfl rfl) rfl ?_
  refine zsub hx hb (D_100 W_prog_15_method_63_code_32 4 rfl rfl) ?_
  refine zput (ci := 14) (C := RX14) (T := TX14) (k := 41) (v := ((F3 14 0 41) - 1)) (w := .int (iI ((F3 14 0 41) - 1))) hx hb hts inW_14 tyX14 tyX14_ok nmX14 hown hK hZ3 hS3 (by decide) (by decide) rfl (by decide) k_11_39 rfl (fun G h => congrArg (fun q => Value.int (iI q)) h) rfl rfl (zno (by decide)) (D_181 W_prog_15_method_63_code_32 5 rfl rfl rfl) (fun H4 locs4 hZ4 hS4 => ?_)
  refine lv_iload_n hx hb (D_28 W_prog_15_method_63_code_32 8 rfl rfl) rfl (lv_at hl 0 rfl) ?_
  refine lv_istore_n (lv' := [(3, .int (iI (F 14 0 36))), (2, .int (iI (F 14 0 36))), (0, .ref (ad 14 0 0)), (1, .int (iI l1))]) hx hb (D_62 W_prog_15_method_63_code_32 9 rfl rfl) rfl hl (by decide) rfl (fun ls hl => ?_)
  refine lv_aload_n hx hb (D_42 W_prog_15_method_63_code_32 10 rfl rfl) rfl (lv_at hl 2 rfl) ?_
  refine zget (ci := 14) (C := RX14) (T := TX14) (v := .int (iI (F3 14 0 36))) (k := 36) hx hb hts inW_14 hown hK hZ4 (by decide) (by decide) rfl (by decide) k_11_34 rfl (D_180 W_prog_15_method_63_code_32 11 rfl rfl rfl) ?_
  refine lv_iconst (v := iI 1) hx hb (D_4 W_prog_15_method_63_code_32 14 rfl rfl) rfl ?_
  refine zsub hx hb (D_100 W_prog_15_method_63_code_32 15 rfl rfl) ?_
  refine lv_istore (lv' := [(4, .int (iI ((F3 14 0 36) - 1))), (3, .int (iI (F 14 0 36))), (2, .int (iI (F 14 0 36))), (0, .ref (ad 14 0 0)), (1, .int (iI l1))]) hx hb (D_54 W_prog_15_method_63_code_32 16 rfl rfl) hl (by decide) rfl (fun ls hl => ?_)
  exact b_M_goBack_50 X ho hf hZ4 hS4 (lv_sub hl [0, 1, 2, 3] rfl)

def fb_M_goSlow (o : oT_W) (K : Nat) (l1 : Int) (F : zF) (B : zB) : zO := if 0 ≤ (l1 + 1) ∧ (l1 + 1) < 3001 then zbind (f_M_power K (B 14 0 9 (l1 + 1)) 1 F B) (fun r2 F2 B2 => if 0 ≤ (l1 + 3) ∧ (l1 + 3) < 3001 then zbind (f_M_power K (B2 14 0 9 (l1 + 3)) (-1) F2 B2) (fun r4 F4 B4 => if 0 ≤ (l1 + 4) ∧ (l1 + 4) < 3001 then zbind (o.1 ((l1 + 4) + 1) (B4 14 0 30 (l1 + 4)) F4 B4) (fun r6 F6 B6 => zbind (f_M_power K (B6 14 0 9 (l1 + 1)) (-1) F6 B6) (fun r7 F7 B7 => zbind (f_M_power K (B7 14 0 9 (l1 + 3)) 1 F7 B7) (fun r8 F8 B8 => some (0, F8, B8)))) else none) else none) else none
set_option maxHeartbeats 4000000 in
set_option maxRecDepth 100000 in
theorem cb_M_goSlow {l : Launch} {D : va_G} {ca : Nat → ClassId} {ad : Nat → Int → Nat → Nat} {L : List Nat} {aS vS : Nat → Nat} {sz K : Nat} {d : Nat} {o : oT_W} (ho : oH_W l D ca ad L aS vS d o)  {l1 : Int} {F F9 : zF} {B B9 : zB} {r : Int} (hf : fb_M_goSlow o K l1 F B = some (r, F9, B9)) : Met l ({ cls := "StaveHouseModel", name := "goSlow", desc := "(I)V" } : Jvm.MethodName) (Cond.code ({ cls := "StaveHouseModel", name := "goSlow", desc := "(I)V" } : Jvm.MethodName) prog_15_method_61_code 3 (Option.none : Option Jvm.ClassFile.FieldType) :: wAll) ({ frames := d + 1 + 5, cells := 0, slots := 0, locals := 28 * (d + 1) + 116 } : Room) (va_Pc [.ref (ad 14 0 0), .int (iI l1)] (zPre D ca ad lnM nM L aS vS F B sz)) (Q_M_goSlow D ca ad L r F9 B9 (zA L sz)) 0 0 (zA L sz) := by
  refine zMet (Qc := Q_M_goSlow D ca ad L r F9 B9) (lv := [(0, .ref (ad 14 0 0)), (1, .int (iI l1))]) (by decide) (Nat.le_of_ble_eq_true rfl) rfl (fun A p e s m below meth c ls X hZ hS hl => ?_)
  obtain ⟨hx, hb, hr, hml, hown, hts, hlk, hK, hA, hL, hX⟩ := id X
  replace hf : (if 0 ≤ (l1 + 1) ∧ (l1 + 1) < 3001 then zbind (f_M_power K (B 14 0 9 (l1 + 1)) 1 F B) (fun r2 F2 B2 => if 0 ≤ (l1 + 3) ∧ (l1 + 3) < 3001 then zbind (f_M_power K (B2 14 0 9 (l1 + 3)) (-1) F2 B2) (fun r4 F4 B4 => if 0 ≤ (l1 + 4) ∧ (l1 + 4) < 3001 then zbind (o.1 ((l1 + 4) + 1) (B4 14 0 30 (l1 + 4)) F4 B4) (fun r6 F6 B6 => zbind (f_M_power K (B6 14 0 9 (l1 + 1)) (-1) F6 B6) (fun r7 F7 B7 => zbind (f_M_power K (B7 14 0 9 (l1 + 3)) 1 F7 B7) (fun r8 F8 B8 => some (0, F8, B8)))) else none) else none) else none) = some (r, F9, B9) := hf
  refine lv_iload_n hx hb (D_27 W_prog_15_method_61_code_0 0 rfl rfl) rfl (lv_at hl 1 rfl) ?_
  refine lv_iconst (v := iI 4) hx hb (D_7 W_prog_15_method_61_code_0 1 rfl rfl) rfl ?_
  refine zadd hx hb (D_96 W_prog_15_method_61_code_0 2 rfl rfl) ?_
  refine lv_istore_n (lv' := [(2, .int (iI (l1 + 4))), (0, .ref (ad 14 0 0)), (1, .int (iI l1))]) hx hb (D_61 W_prog_15_method_61_code_0 3 rfl rfl) rfl hl (by decide) rfl (fun ls hl => ?_)
  refine lv_aload_n hx hb (D_42 W_prog_15_method_61_code_0 4 rfl rfl) rfl (lv_at hl 1 rfl) ?_
  refine lv_aload_n hx hb (D_42 W_prog_15_method_61_code_0 5 rfl rfl) rfl (lv_at hl 1 rfl) ?_
  refine zget (ci := 14) (C := RX14) (T := TX14) (v := .ref (ad 14 0 (9 + 1))) (k := 9) hx hb hts inW_14 hown hK hZ (by decide) (by decide) rfl (by decide) k_11_7 rfl (D_180 W_prog_15_method_61_code_0 6 rfl rfl rfl) ?_
  refine lv_iload_n hx hb (D_27 W_prog_15_method_61_code_0 9 rfl rfl) rfl (lv_at hl 2 rfl) ?_
  refine lv_iconst (v := iI 1) hx hb (D_4 W_prog_15_method_61_code_0 10 rfl rfl) rfl ?_
  refine zadd hx hb (D_96 W_prog_15_method_61_code_0 11 rfl rfl) ?_
  obtain ⟨g1, hf⟩ := gif hf
  refine zald (ci := 14) (k := 9) hx hb hK rfl hZ (by decide) (by decide) rfl (Nat.le_of_ble_eq_true rfl) g1.1 g1.2 (D_46 W_prog_15_method_61_code_0 12 rfl rfl) ?_
  refine lv_iconst (v := iI 1) hx hb (D_4 W_prog_15_method_61_code_0 13 rfl rfl) rfl ?_
  obtain ⟨r2, F2, B2, hc2, hf⟩ := gbind hf
  refine va_callv (va_runV (As := [.int (iI (B 14 0 9 (l1 + 1))), .int (iI 1)]) (rest := []) ⟨hx, hb, hml, hown, hts⟩ (c_M_power (l := l) hc2) (cwV 2 hts (gdV k_15_30 k_15_32 ks_237 k_1_9 k_15_33) rfl rfl rfl (by decide +kernel) ⟨by dsimp only; omega, by dsimp only; omega⟩) (zPV X hZ hS (ci := 14) (by decide) (by decide) (r := (RX14, TX14, 107)) rfl [.int (iI (B 14 0 9 (l1 + 1))), .int (iI 1)]) rfl rfl hl.1 rfl (lv_room (Nat.le_of_ble_eq_true rfl)) (D_182 W_prog_15_method_61_code_0 14 rfl rfl rfl) ⟨Nat.le_of_ble_eq_true rfl, Nat.le_of_ble_eq_true rfl⟩) hS (fun q _ h => zAin X hS q h) (zAin X hS) (fun u2 t2 H2 locs2 ht2 hv2 hw2 hB2 hz2 hk2 hS2 => ?_)
  have hZ2 := zBack X ht2 hB2
  refine lv_aload_n hx hb (D_42 W_prog_15_method_61_code_0 17 rfl rfl) rfl (lv_at hl 1 rfl) ?_
  refine lv_aload_n hx hb (D_42 W_prog_15_method_61_code_0 18 rfl rfl) rfl (lv_at hl 1 rfl) ?_
  refine zget (ci := 14) (C := RX14) (T := TX14) (v := .ref (ad 14 0 (9 + 1))) (k := 9) hx hb hts inW_14 hown hK hZ2 (by decide) (by decide) rfl (by decide) k_11_7 rfl (D_180 W_prog_15_method_61_code_0 19 rfl rfl rfl) ?_
  refine lv_iload_n hx hb (D_27 W_prog_15_method_61_code_0 22 rfl rfl) rfl (lv_at hl 2 rfl) ?_
  refine lv_iconst (v := iI 3) hx hb (D_6 W_prog_15_method_61_code_0 23 rfl rfl) rfl ?_
  refine zadd hx hb (D_96 W_prog_15_method_61_code_0 24 rfl rfl) ?_
  obtain ⟨g3, hf⟩ := gif hf
  refine zald (ci := 14) (k := 9) hx hb hK rfl hZ2 (by decide) (by decide) rfl (Nat.le_of_ble_eq_true rfl) g3.1 g3.2 (D_46 W_prog_15_method_61_code_0 25 rfl rfl) ?_
  refine lv_iconst (v := iI (-1)) hx hb (D_2 W_prog_15_method_61_code_0 26 rfl rfl) rfl ?_
  obtain ⟨r4, F4, B4, hc4, hf⟩ := gbind hf
  refine va_callv (va_runV (As := [.int (iI (B2 14 0 9 (l1 + 3))), .int (iI (-1))]) (rest := []) ⟨hx, hb, hml, hown, hts⟩ (c_M_power (l := l) hc4) (cwV 2 hts (gdV k_15_30 k_15_32 ks_237 k_1_9 k_15_33) rfl rfl rfl (by decide +kernel) ⟨by dsimp only; omega, by dsimp only; omega⟩) (zPV X hZ2 hS2 (ci := 14) (by decide) (by decide) (r := (RX14, TX14, 107)) rfl [.int (iI (B2 14 0 9 (l1 + 3))), .int (iI (-1))]) rfl rfl hl.1 rfl (lv_room (Nat.le_of_ble_eq_true rfl)) (D_182 W_prog_15_method_61_code_0 27 rfl rfl rfl) ⟨Nat.le_of_ble_eq_true rfl, Nat.le_of_ble_eq_true rfl⟩) hS2 (fun q _ h => zAin X hS2 q h) (zAin X hS2) (fun u4 t4 H4 locs4 ht4 hv4 hw4 hB4 hz4 hk4 hS4 => ?_)
  have hZ4 := zBack X ht4 hB4
  refine lv_aload_n hx hb (D_42 W_prog_15_method_61_code_0 30 rfl rfl) rfl (lv_at hl 1 rfl) ?_
  refine lv_iload_n hx hb (D_28 W_prog_15_method_61_code_0 31 rfl rfl) rfl (lv_at hl 0 rfl) ?_
  refine lv_iconst (v := iI 1) hx hb (D_4 W_prog_15_method_61_code_32 0 rfl rfl) rfl ?_
  refine zadd hx hb (D_96 W_prog_15_method_61_code_32 1 rfl rfl) ?_
  refine lv_aload_n hx hb (D_42 W_prog_15_method_61_code_32 2 rfl rfl) rfl (lv_at hl 1 rfl) ?_
  refine zget (ci := 14) (C := RX14) (T := TX14) (v := .ref (ad 14 0 (30 + 1))) (k := 30) hx hb hts inW_14 hown hK hZ4 (by decide) (by decide) rfl (by decide) k_11_28 rfl (D_180 W_prog_15_method_61_code_32 3 rfl rfl rfl) ?_
  refine lv_iload_n hx hb (D_28 W_prog_15_method_61_code_32 6 rfl rfl) rfl (lv_at hl 0 rfl) ?_
  obtain ⟨g5, hf⟩ := gif hf
  refine zald (ci := 14) (k := 30) hx hb hK rfl hZ4 (by decide) (by decide) rfl (Nat.le_of_ble_eq_true rfl) g5.1 g5.2 (D_46 W_prog_15_method_61_code_32 7 rfl rfl) ?_
  obtain ⟨r6, F6, B6, hc6, hf⟩ := gbind hf
  refine va_callv (va_runV (As := [.int (iI ((l1 + 4) + 1)), .int (iI (B4 14 0 30 (l1 + 4)))]) (rest := []) ⟨hx, hb, hml, hown, hts⟩ (ho.1 hc6) (cwV 2 hts (gdV k_14_207 k_14_209 ks_223 k_1_9 k_14_210) rfl rfl rfl (by decide +kernel) ⟨by dsimp only; omega, by dsimp only; omega⟩) (zPV X hZ4 hS4 (ci := 14) (by decide) (by decide) (r := (RX14, TX14, 107)) rfl [.int (iI ((l1 + 4) + 1)), .int (iI (B4 14 0 30 (l1 + 4)))]) rfl rfl hl.1 rfl (lv_room (Nat.le_of_ble_eq_true rfl)) (D_182 W_prog_15_method_61_code_32 8 rfl rfl rfl) ⟨Nat.le_of_ble_eq_true rfl, Nat.le_of_ble_eq_true rfl⟩) hS4 (fun q _ h => zAin X hS4 q h) (zAin X hS4) (fun u6 t6 H6 locs6 ht6 hv6 hw6 hB6 hz6 hk6 hS6 => ?_)
  have hZ6 := zBack X ht6 hB6
  refine lv_aload_n hx hb (D_42 W_prog_15_method_61_code_32 11 rfl rfl) rfl (lv_at hl 1 rfl) ?_
  refine lv_aload_n hx hb (D_42 W_prog_15_method_61_code_32 12 rfl rfl) rfl (lv_at hl 1 rfl) ?_
  refine zget (ci := 14) (C := RX14) (T := TX14) (v := .ref (ad 14 0 (9 + 1))) (k := 9) hx hb hts inW_14 hown hK hZ6 (by decide) (by decide) rfl (by decide) k_11_7 rfl (D_180 W_prog_15_method_61_code_32 13 rfl rfl rfl) ?_
  refine lv_iload_n hx hb (D_27 W_prog_15_method_61_code_32 16 rfl rfl) rfl (lv_at hl 2 rfl) ?_
  refine lv_iconst (v := iI 1) hx hb (D_4 W_prog_15_method_61_code_32 17 rfl rfl) rfl ?_
  refine zadd hx hb (D_96 W_prog_15_method_61_code_32 18 rfl rfl) ?_
  refine zald (ci := 14) (k := 9) hx hb hK rfl hZ6 (by decide) (by decide) rfl (Nat.le_of_ble_eq_true rfl) g1.1 g1.2 (D_46 W_prog_15_method_61_code_32 19 rfl rfl) ?_
  refine lv_iconst (v := iI (-1)) hx hb (D_2 W_prog_15_method_61_code_32 20 rfl rfl) rfl ?_
  obtain ⟨r7, F7, B7, hc7, hf⟩ := gbind hf
  refine va_callv (va_runV (As := [.int (iI (B6 14 0 9 (l1 + 1))), .int (iI (-1))]) (rest := []) ⟨hx, hb, hml, hown, hts⟩ (c_M_power (l := l) hc7) (cwV 2 hts (gdV k_15_30 k_15_32 ks_237 k_1_9 k_15_33) rfl rfl rfl (by decide +kernel) ⟨by dsimp only; omega, by dsimp only; omega⟩) (zPV X hZ6 hS6 (ci := 14) (by decide) (by decide) (r := (RX14, TX14, 107)) rfl [.int (iI (B6 14 0 9 (l1 + 1))), .int (iI (-1))]) rfl rfl hl.1 rfl (lv_room (Nat.le_of_ble_eq_true rfl)) (D_182 W_prog_15_method_61_code_32 21 rfl rfl rfl) ⟨Nat.le_of_ble_eq_true rfl, Nat.le_of_ble_eq_true rfl⟩) hS6 (fun q _ h => zAin X hS6 q h) (zAin X hS6) (fun u7 t7 H7 locs7 ht7 hv7 hw7 hB7 hz7 hk7 hS7 => ?_)
  have hZ7 := zBack X ht7 hB7
  refine lv_aload_n hx hb (D_42 W_prog_15_method_61_code_32 24 rfl rfl) rfl (lv_at hl 1 rfl) ?_
  refine lv_aload_n hx hb (D_42 W_prog_15_method_61_code_32 25 rfl rfl) rfl (lv_at hl 1 rfl) ?_
  refine zget (ci := 14) (C := RX14) (T := TX14) (v := .ref (ad 14 0 (9 + 1))) (k := 9) hx hb hts inW_14 hown hK hZ7 (by decide) (by decide) rfl (by decide) k_11_7 rfl (D_180 W_prog_15_method_61_code_32 26 rfl rfl rfl) ?_
  refine lv_iload_n hx hb (D_27 W_prog_15_method_61_code_32 29 rfl rfl) rfl (lv_at hl 2 rfl) ?_
  refine lv_iconst (v := iI 3) hx hb (D_6 W_prog_15_method_61_code_32 30 rfl rfl) rfl ?_
  refine zadd hx hb (D_96 W_prog_15_method_61_code_32 31 rfl rfl) ?_
  refine zald (ci := 14) (k := 9) hx hb hK rfl hZ7 (by decide) (by decide) rfl (Nat.le_of_ble_eq_true rfl) g3.1 g3.2 (D_46 W_prog_15_method_61_code_64 0 rfl rfl) ?_
  refine lv_iconst (v := iI 1) hx hb (D_4 W_prog_15_method_61_code_64 1 rfl rfl) rfl ?_
  obtain ⟨r8, F8, B8, hc8, hf⟩ := gbind hf
  refine va_callv (va_runV (As := [.int (iI (B7 14 0 9 (l1 + 3))), .int (iI 1)]) (rest := []) ⟨hx, hb, hml, hown, hts⟩ (c_M_power (l := l) hc8) (cwV 2 hts (gdV k_15_30 k_15_32 ks_237 k_1_9 k_15_33) rfl rfl rfl (by decide +kernel) ⟨by dsimp only; omega, by dsimp only; omega⟩) (zPV X hZ7 hS7 (ci := 14) (by decide) (by decide) (r := (RX14, TX14, 107)) rfl [.int (iI (B7 14 0 9 (l1 + 3))), .int (iI 1)]) rfl rfl hl.1 rfl (lv_room (Nat.le_of_ble_eq_true rfl)) (D_182 W_prog_15_method_61_code_64 2 rfl rfl rfl) ⟨Nat.le_of_ble_eq_true rfl, Nat.le_of_ble_eq_true rfl⟩) hS7 (fun q _ h => zAin X hS7 q h) (zAin X hS7) (fun u8 t8 H8 locs8 ht8 hv8 hw8 hB8 hz8 hk8 hS8 => ?_)
  have hZ8 := zBack X ht8 hB8
  cases hf
  exact W.vret hx hb hr (fun t ht hW => ⟨⟨(), rfl, trivial, by rw [ht]; exact hZ8, va_K.moved hW.alike hK⟩, hS8.F ht⟩) hS8.2.2 (D_177 W_prog_15_method_61_code_64 5 rfl rfl) hlk

def gr_W (K : Nat) : Nat → oT_W
  | 0 => (fun _ _ _ _ => none, fun _ _ _ => none, fun _ _ _ => none, fun _ _ _ => none, fun _ _ _ => none, fun _ _ _ => none, fun _ _ _ => none, fun _ _ _ => none)
  | d + 1 => (fun l1 l2 F B => fb_M_walk (gr_W K d) K l1 l2 F B, fun l1 F B => fb_M_go (gr_W K d) K l1 F B, fun l1 F B => fb_M_goSign (gr_W K d) K l1 F B, fun l1 F B => fb_M_goRepeat (gr_W K d) K l1 F B, fun l1 F B => fb_M_goUse (gr_W K d) K l1 F B, fun l1 F B => fb_M_goChange (gr_W K d) K l1 F B, fun l1 F B => fb_M_goBack (gr_W K d) K l1 F B, fun l1 F B => fb_M_goSlow (gr_W K d) K l1 F B)
theorem gh_W {l : Launch} {D : va_G} {ca : Nat → ClassId} {ad : Nat → Int → Nat → Nat} {L : List Nat} {aS vS : Nat → Nat} {K : Nat} : ∀ d, oH_W l D ca ad L aS vS d (gr_W K d) := by
  intro d
  induction d with
  | zero => exact ⟨(fun hf => by cases hf), (fun hf => by cases hf), (fun hf => by cases hf), (fun hf => by cases hf), (fun hf => by cases hf), (fun hf => by cases hf), (fun hf => by cases hf), (fun hf => by cases hf)⟩
  | succ d ih => exact ⟨(fun hf => cb_M_walk ih hf), (fun hf => cb_M_go ih hf), (fun hf => cb_M_goSign ih hf), (fun hf => cb_M_goRepeat ih hf), (fun hf => cb_M_goUse ih hf), (fun hf => cb_M_goChange ih hf), (fun hf => cb_M_goBack ih hf), (fun hf => cb_M_goSlow ih hf)⟩
def f_M_walk (K : Nat) (l1 : Int) (l2 : Int) (F : zF) (B : zB) : zO := (gr_W K 200).1 l1 l2 F B
theorem c_M_walk {l : Launch} {D : va_G} {ca : Nat → ClassId} {ad : Nat → Int → Nat → Nat} {L : List Nat} {aS vS : Nat → Nat} {sz K : Nat} {l1 : Int} {l2 : Int} {F F9 : zF} {B B9 : zB} {r : Int} (hf : f_M_walk K l1 l2 F B = some (r, F9, B9)) : Met l ({ cls := "StaveHouseModel", name := "walk", desc := "(II)V" } : Jvm.MethodName) (Cond.code ({ cls := "StaveHouseModel", name := "walk", desc := "(II)V" } : Jvm.MethodName) prog_15_method_54_code 4 (Option.none : Option Jvm.ClassFile.FieldType) :: wAll) ({ frames := 205, cells := 0, slots := 0, locals := 5716 } : Room) (va_Pc [.ref (ad 14 0 0), .int (iI l1), .int (iI l2)] (zPre D ca ad lnM nM L aS vS F B sz)) (Q_M_walk D ca ad L r F9 B9 (zA L sz)) 0 0 (zA L sz) := (gh_W 200).1 hf
def f_M_go (K : Nat) (l1 : Int) (F : zF) (B : zB) : zO := (gr_W K 200).2.1 l1 F B
theorem c_M_go {l : Launch} {D : va_G} {ca : Nat → ClassId} {ad : Nat → Int → Nat → Nat} {L : List Nat} {aS vS : Nat → Nat} {sz K : Nat} {l1 : Int} {F F9 : zF} {B B9 : zB} {r : Int} (hf : f_M_go K l1 F B = some (r, F9, B9)) : Met l ({ cls := "StaveHouseModel", name := "go", desc := "(I)V" } : Jvm.MethodName) (Cond.code ({ cls := "StaveHouseModel", name := "go", desc := "(I)V" } : Jvm.MethodName) prog_15_method_56_code 2 (Option.none : Option Jvm.ClassFile.FieldType) :: wAll) ({ frames := 205, cells := 0, slots := 0, locals := 5716 } : Room) (va_Pc [.ref (ad 14 0 0), .int (iI l1)] (zPre D ca ad lnM nM L aS vS F B sz)) (Q_M_go D ca ad L r F9 B9 (zA L sz)) 0 0 (zA L sz) := (gh_W 200).2.1 hf
def f_M_goSign (K : Nat) (l1 : Int) (F : zF) (B : zB) : zO := (gr_W K 200).2.2.1 l1 F B
theorem c_M_goSign {l : Launch} {D : va_G} {ca : Nat → ClassId} {ad : Nat → Int → Nat → Nat} {L : List Nat} {aS vS : Nat → Nat} {sz K : Nat} {l1 : Int} {F F9 : zF} {B B9 : zB} {r : Int} (hf : f_M_goSign K l1 F B = some (r, F9, B9)) : Met l ({ cls := "StaveHouseModel", name := "goSign", desc := "(I)V" } : Jvm.MethodName) (Cond.code ({ cls := "StaveHouseModel", name := "goSign", desc := "(I)V" } : Jvm.MethodName) prog_15_method_57_code 2 (Option.none : Option Jvm.ClassFile.FieldType) :: wAll) ({ frames := 205, cells := 0, slots := 0, locals := 5716 } : Room) (va_Pc [.ref (ad 14 0 0), .int (iI l1)] (zPre D ca ad lnM nM L aS vS F B sz)) (Q_M_goSign D ca ad L r F9 B9 (zA L sz)) 0 0 (zA L sz) := (gh_W 200).2.2.1 hf
def f_M_goRepeat (K : Nat) (l1 : Int) (F : zF) (B : zB) : zO := (gr_W K 200).2.2.2.1 l1 F B
theorem c_M_goRepeat {l : Launch} {D : va_G} {ca : Nat → ClassId} {ad : Nat → Int → Nat → Nat} {L : List Nat} {aS vS : Nat → Nat} {sz K : Nat} {l1 : Int} {F F9 : zF} {B B9 : zB} {r : Int} (hf : f_M_goRepeat K l1 F B = some (r, F9, B9)) : Met l ({ cls := "StaveHouseModel", name := "goRepeat", desc := "(I)V" } : Jvm.MethodName) (Cond.code ({ cls := "StaveHouseModel", name := "goRepeat", desc := "(I)V" } : Jvm.MethodName) prog_15_method_58_code 9 (Option.none : Option Jvm.ClassFile.FieldType) :: wAll) ({ frames := 205, cells := 0, slots := 0, locals := 5716 } : Room) (va_Pc [.ref (ad 14 0 0), .int (iI l1)] (zPre D ca ad lnM nM L aS vS F B sz)) (Q_M_goRepeat D ca ad L r F9 B9 (zA L sz)) 0 0 (zA L sz) := (gh_W 200).2.2.2.1 hf
def f_M_goUse (K : Nat) (l1 : Int) (F : zF) (B : zB) : zO := (gr_W K 200).2.2.2.2.1 l1 F B
theorem c_M_goUse {l : Launch} {D : va_G} {ca : Nat → ClassId} {ad : Nat → Int → Nat → Nat} {L : List Nat} {aS vS : Nat → Nat} {sz K : Nat} {l1 : Int} {F F9 : zF} {B B9 : zB} {r : Int} (hf : f_M_goUse K l1 F B = some (r, F9, B9)) : Met l ({ cls := "StaveHouseModel", name := "goUse", desc := "(I)V" } : Jvm.MethodName) (Cond.code ({ cls := "StaveHouseModel", name := "goUse", desc := "(I)V" } : Jvm.MethodName) prog_15_method_59_code 3 (Option.none : Option Jvm.ClassFile.FieldType) :: wAll) ({ frames := 205, cells := 0, slots := 0, locals := 5716 } : Room) (va_Pc [.ref (ad 14 0 0), .int (iI l1)] (zPre D ca ad lnM nM L aS vS F B sz)) (Q_M_goUse D ca ad L r F9 B9 (zA L sz)) 0 0 (zA L sz) := (gh_W 200).2.2.2.2.1 hf
def f_M_goChange (K : Nat) (l1 : Int) (F : zF) (B : zB) : zO := (gr_W K 200).2.2.2.2.2.1 l1 F B
theorem c_M_goChange {l : Launch} {D : va_G} {ca : Nat → ClassId} {ad : Nat → Int → Nat → Nat} {L : List Nat} {aS vS : Nat → Nat} {sz K : Nat} {l1 : Int} {F F9 : zF} {B B9 : zB} {r : Int} (hf : f_M_goChange K l1 F B = some (r, F9, B9)) : Met l ({ cls := "StaveHouseModel", name := "goChange", desc := "(I)V" } : Jvm.MethodName) (Cond.code ({ cls := "StaveHouseModel", name := "goChange", desc := "(I)V" } : Jvm.MethodName) prog_15_method_60_code 5 (Option.none : Option Jvm.ClassFile.FieldType) :: wAll) ({ frames := 205, cells := 0, slots := 0, locals := 5716 } : Room) (va_Pc [.ref (ad 14 0 0), .int (iI l1)] (zPre D ca ad lnM nM L aS vS F B sz)) (Q_M_goChange D ca ad L r F9 B9 (zA L sz)) 0 0 (zA L sz) := (gh_W 200).2.2.2.2.2.1 hf
def f_M_goBack (K : Nat) (l1 : Int) (F : zF) (B : zB) : zO := (gr_W K 200).2.2.2.2.2.2.1 l1 F B
theorem c_M_goBack {l : Launch} {D : va_G} {ca : Nat → ClassId} {ad : Nat → Int → Nat → Nat} {L : List Nat} {aS vS : Nat → Nat} {sz K : Nat} {l1 : Int} {F F9 : zF} {B B9 : zB} {r : Int} (hf : f_M_goBack K l1 F B = some (r, F9, B9)) : Met l ({ cls := "StaveHouseModel", name := "goBack", desc := "(I)V" } : Jvm.MethodName) (Cond.code ({ cls := "StaveHouseModel", name := "goBack", desc := "(I)V" } : Jvm.MethodName) prog_15_method_63_code 9 (Option.none : Option Jvm.ClassFile.FieldType) :: wAll) ({ frames := 205, cells := 0, slots := 0, locals := 5716 } : Room) (va_Pc [.ref (ad 14 0 0), .int (iI l1)] (zPre D ca ad lnM nM L aS vS F B sz)) (Q_M_goBack D ca ad L r F9 B9 (zA L sz)) 0 0 (zA L sz) := (gh_W 200).2.2.2.2.2.2.1 hf
def f_M_goSlow (K : Nat) (l1 : Int) (F : zF) (B : zB) : zO := (gr_W K 200).2.2.2.2.2.2.2 l1 F B
theorem c_M_goSlow {l : Launch} {D : va_G} {ca : Nat → ClassId} {ad : Nat → Int → Nat → Nat} {L : List Nat} {aS vS : Nat → Nat} {sz K : Nat} {l1 : Int} {F F9 : zF} {B B9 : zB} {r : Int} (hf : f_M_goSlow K l1 F B = some (r, F9, B9)) : Met l ({ cls := "StaveHouseModel", name := "goSlow", desc := "(I)V" } : Jvm.MethodName) (Cond.code ({ cls := "StaveHouseModel", name := "goSlow", desc := "(I)V" } : Jvm.MethodName) prog_15_method_61_code 3 (Option.none : Option Jvm.ClassFile.FieldType) :: wAll) ({ frames := 205, cells := 0, slots := 0, locals := 5716 } : Room) (va_Pc [.ref (ad 14 0 0), .int (iI l1)] (zPre D ca ad lnM nM L aS vS F B sz)) (Q_M_goSlow D ca ad L r F9 B9 (zA L sz)) 0 0 (zA L sz) := (gh_W 200).2.2.2.2.2.2.2 hf
abbrev Q_M_through (D : va_G) (ca : Nat → ClassId) (ad : Nat → Int → Nat → Nat) (L : List Nat) (r : Int) (F : zF) (B : zB) (A : Nat → Prop) : Array Value → State → Outcome → State → Prop := va_Qv (S := Unit) (fun _ => True) (fun _ => zPo D ca ad lnM nM L F B A) A
def f_M_through_339 (K : Nat)  (F : zF) (B : zB) : zO := some (0, F, B)
set_option maxHeartbeats 4000000 in
set_option maxRecDepth 100000 in
theorem b_M_through_339 {D : va_G} {ca : Nat → ClassId} {ad : Nat → Int → Nat → Nat} {L : List Nat} {aS vS : Nat → Nat} {A : Nat → Prop} {p : Program} {l : Launch} {e : Env} {s : State} {m : MethodId} {args : Array Value} {below : List Frame} {meth : Method} {c : Code} {K : Nat} {r : Int} {F9 : zF} {B9 : zB} (X : zX D ca L aS vS A p s m args meth c prog_15_method_53_code 8 (Option.none : Option Jvm.ClassFile.FieldType) "StaveHouseModel")  {F : zF} {B : zB} {H : Heap} {locs : List Loc} {ls : Array Slot} (hf : f_M_through_339 K  F B = some (r, F9, B9)) (hZ : zH D ca ad lnM nM L F B A H) (hS : va_S A s.heap H locs) (hl : lv_has ls 8 []) : W p l e ({ frames := 206, cells := 0, slots := 0, locals := 5739 } : Room) s m args below meth c H locs 0 0 (MQ below (Q_M_through D ca ad L r F9 B9 A) args s 0 0 A) (F0 m 339 ls []) := by
  obtain ⟨hx, hb, hr, hml, hown, hts, hlk, hK, hA, hL, hX⟩ := id X
  replace hf : (some (0, F, B)) = some (r, F9, B9) := hf
  cases hf
  exact W.vret hx hb hr (fun t ht hW => ⟨⟨(), rfl, trivial, by rw [ht]; exact hZ, va_K.moved hW.alike hK⟩, hS.F ht⟩) hS.2.2 (D_177 W_prog_15_method_53_code_320 19 rfl rfl) hlk

def f_M_through_333 (rec163 : Int → zF → zB → zO) (K : Nat) (l1 : Int) (F : zF) (B : zB) : zO := rec163 (l1 + 1) F B
set_option maxHeartbeats 4000000 in
set_option maxRecDepth 100000 in
theorem b_M_through_333 {D : va_G} {ca : Nat → ClassId} {ad : Nat → Int → Nat → Nat} {L : List Nat} {aS vS : Nat → Nat} {A : Nat → Prop} {p : Program} {l : Launch} {e : Env} {s : State} {m : MethodId} {args : Array Value} {below : List Frame} {meth : Method} {c : Code} {K : Nat} {r : Int} {F9 : zF} {B9 : zB} (X : zX D ca L aS vS A p s m args meth c prog_15_method_53_code 8 (Option.none : Option Jvm.ClassFile.FieldType) "StaveHouseModel") {rec163 : Int → zF → zB → zO} (hrec163 : ∀ {l1 : Int} {F : zF} {B : zB} {H : Heap} {locs : List Loc} {ls : Array Slot}, rec163 l1 F B = some (r, F9, B9) → zH D ca ad lnM nM L F B A H → va_S A s.heap H locs → lv_has ls 8 [(1, .int (iI l1)), (0, .ref (ad 14 0 0))] → W p l e ({ frames := 206, cells := 0, slots := 0, locals := 5739 } : Room) s m args below meth c H locs 0 0 (MQ below (Q_M_through D ca ad L r F9 B9 A) args s 0 0 A) (F0 m 163 ls [])) {l1 : Int} {F : zF} {B : zB} {H : Heap} {locs : List Loc} {ls : Array Slot} (hf : f_M_through_333 rec163 K l1 F B = some (r, F9, B9)) (hZ : zH D ca ad lnM nM L F B A H) (hS : va_S A s.heap H locs) (hl : lv_has ls 8 [(1, .int (iI l1)), (0, .ref (ad 14 0 0))]) : W p l e ({ frames := 206, cells := 0, slots := 0, locals := 5739 } : Room) s m args below meth c H locs 0 0 (MQ below (Q_M_through D ca ad L r F9 B9 A) args s 0 0 A) (F0 m 333 ls []) := by
  obtain ⟨hx, hb, hr, hml, hown, hts, hlk, hK, hA, hL, hX⟩ := id X
  replace hf : (rec163 (l1 + 1) F B) = some (r, F9, B9) := hf
  refine lv_iinc (v := iI (l1 + 1)) (lv' := [(1, .int (iI (l1 + 1))), (0, .ref (ad 14 0 0))]) hx hb d_15_53_333 hl (k := 0) rfl (iI_add _ 1) (by decide) rfl (fun ls hl => ?_)
  refine lv_goto (tgt := 163) hx hb (D_167 W_prog_15_method_53_code_320 16 rfl rfl rfl) (by decide) ?_
  exact hrec163 hf hZ hS (lv_sub hl [0, 1] rfl)

def f_M_through_163 (K : Nat) : Nat → Int → zF → zB → zO
  | 0, _, _, _ => none
  | n + 1, l1, F, B => if 0 ≤ (F 14 0 6) ∧ (F 14 0 6) < 3 then if r32 l1 then if r32 (F 13 (F 14 0 6) 1) then (if (F 13 (F 14 0 6) 1) ≤ l1 then f_M_through_339 K F B else zbind (f_M_good K F B) (fun r38 F38 B38 => if r32 r38 then (if r38 = 0 then f_M_through_339 K F38 B38 else if 0 ≤ (F38 14 0 6) ∧ (F38 14 0 6) < 3 then if 0 ≤ l1 ∧ l1 < 4 then if 0 ≤ (((1000 * l1) + (B38 13 (F38 14 0 6) 12 l1)) - 1) ∧ (((1000 * l1) + (B38 13 (F38 14 0 6) 12 l1)) - 1) < 4000 then zbind (f_M_plus K (B38 13 (F38 14 0 6) 14 (((1000 * l1) + (B38 13 (F38 14 0 6) 12 l1)) - 1)) (B38 13 (F38 14 0 6) 15 (((1000 * l1) + (B38 13 (F38 14 0 6) 12 l1)) - 1)) (B38 13 (F38 14 0 6) 16 (((1000 * l1) + (B38 13 (F38 14 0 6) 12 l1)) - 1)) (B38 13 (F38 14 0 6) 17 (((1000 * l1) + (B38 13 (F38 14 0 6) 12 l1)) - 1)) F38 B38) (fun r44 F44 B44 => if 0 ≤ (F44 14 0 6) ∧ (F44 14 0 6) < 3 then if 0 ≤ ((B38 13 (F38 14 0 6) 12 0) - 1) ∧ ((B38 13 (F38 14 0 6) 12 0) - 1) < 4000 then zbind (f_M_plus K (B44 13 (F44 14 0 6) 14 ((B38 13 (F38 14 0 6) 12 0) - 1)) (B44 13 (F44 14 0 6) 15 ((B38 13 (F38 14 0 6) 12 0) - 1)) (B44 13 (F44 14 0 6) 16 ((B38 13 (F38 14 0 6) 12 0) - 1)) (B44 13 (F44 14 0 6) 17 ((B38 13 (F38 14 0 6) 12 0) - 1)) F44 B44) (fun r47 F47 B47 => zbind (f_M_compare K (F44 14 0 0) (F44 14 0 1) (F47 14 0 0) (F47 14 0 1) F47 B47) (fun r48 F48 B48 => if r32 r48 then (if r48 = 0 then f_M_through_333 (f_M_through_163 K n) K l1 F48 B48 else zbind (f_M_failAt K 6 (B48 14 0 28 l1) F48 B48) (fun r51 F51 B51 => f_M_through_333 (f_M_through_163 K n) K l1 F51 B51)) else none)) else none else none) else none else none else none) else none)) else none else none else none
set_option maxHeartbeats 4000000 in
set_option maxRecDepth 100000 in
theorem b_M_through_163 {D : va_G} {ca : Nat → ClassId} {ad : Nat → Int → Nat → Nat} {L : List Nat} {aS vS : Nat → Nat} {A : Nat → Prop} {p : Program} {l : Launch} {e : Env} {s : State} {m : MethodId} {args : Array Value} {below : List Frame} {meth : Method} {c : Code} {K : Nat} {r : Int} {F9 : zF} {B9 : zB} (X : zX D ca L aS vS A p s m args meth c prog_15_method_53_code 8 (Option.none : Option Jvm.ClassFile.FieldType) "StaveHouseModel") : ∀ {n : Nat} {l1 : Int} {F : zF} {B : zB} {H : Heap} {locs : List Loc} {ls : Array Slot}, f_M_through_163 K n l1 F B = some (r, F9, B9) → zH D ca ad lnM nM L F B A H → va_S A s.heap H locs → lv_has ls 8 [(1, .int (iI l1)), (0, .ref (ad 14 0 0))] → W p l e ({ frames := 206, cells := 0, slots := 0, locals := 5739 } : Room) s m args below meth c H locs 0 0 (MQ below (Q_M_through D ca ad L r F9 B9 A) args s 0 0 A) (F0 m 163 ls []) := by
  obtain ⟨hx, hb, hr, hml, hown, hts, hlk, hK, hA, hL, hX⟩ := id X
  intro n
  induction n with
  | zero =>
    intros
    rename_i hf _ _ _
    cases hf
  | succ n ih =>
    intro l1 F B H locs ls hf hZ hS hl
    replace hf : (if 0 ≤ (F 14 0 6) ∧ (F 14 0 6) < 3 then if r32 l1 then if r32 (F 13 (F 14 0 6) 1) then (if (F 13 (F 14 0 6) 1) ≤ l1 then f_M_through_339 K F B else zbind (f_M_good K F B) (fun r38 F38 B38 => if r32 r38 then (if r38 = 0 then f_M_through_339 K F38 B38 else if 0 ≤ (F38 14 0 6) ∧ (F38 14 0 6) < 3 then if 0 ≤ l1 ∧ l1 < 4 then if 0 ≤ (((1000 * l1) + (B38 13 (F38 14 0 6) 12 l1)) - 1) ∧ (((1000 * l1) + (B38 13 (F38 14 0 6) 12 l1)) - 1) < 4000 then zbind (f_M_plus K (B38 13 (F38 14 0 6) 14 (((1000 * l1) + (B38 13 (F38 14 0 6) 12 l1)) - 1)) (B38 13 (F38 14 0 6) 15 (((1000 * l1) + (B38 13 (F38 14 0 6) 12 l1)) - 1)) (B38 13 (F38 14 0 6) 16 (((1000 * l1) + (B38 13 (F38 14 0 6) 12 l1)) - 1)) (B38 13 (F38 14 0 6) 17 (((1000 * l1) + (B38 13 (F38 14 0 6) 12 l1)) - 1)) F38 B38) (fun r44 F44 B44 => if 0 ≤ (F44 14 0 6) ∧ (F44 14 0 6) < 3 then if 0 ≤ ((B38 13 (F38 14 0 6) 12 0) - 1) ∧ ((B38 13 (F38 14 0 6) 12 0) - 1) < 4000 then zbind (f_M_plus K (B44 13 (F44 14 0 6) 14 ((B38 13 (F38 14 0 6) 12 0) - 1)) (B44 13 (F44 14 0 6) 15 ((B38 13 (F38 14 0 6) 12 0) - 1)) (B44 13 (F44 14 0 6) 16 ((B38 13 (F38 14 0 6) 12 0) - 1)) (B44 13 (F44 14 0 6) 17 ((B38 13 (F38 14 0 6) 12 0) - 1)) F44 B44) (fun r47 F47 B47 => zbind (f_M_compare K (F44 14 0 0) (F44 14 0 1) (F47 14 0 0) (F47 14 0 1) F47 B47) (fun r48 F48 B48 => if r32 r48 then (if r48 = 0 then f_M_through_333 (f_M_through_163 K n) K l1 F48 B48 else zbind (f_M_failAt K 6 (B48 14 0 28 l1) F48 B48) (fun r51 F51 B51 => f_M_through_333 (f_M_through_163 K n) K l1 F51 B51)) else none)) else none else none) else none else none else none) else none)) else none else none else none) = some (r, F9, B9) := hf
    refine lv_iload_n hx hb (D_27 W_prog_15_method_53_code_160 3 rfl rfl) rfl (lv_at hl 0 rfl) ?_
    refine lv_aload_n hx hb (D_42 W_prog_15_method_53_code_160 4 rfl rfl) rfl (lv_at hl 1 rfl) ?_
    refine zget (ci := 14) (C := RX14) (T := TX14) (v := va_rf (zrf ad 13 (F 14 0 6))) (k := 6) hx hb hts inW_14 hown hK hZ (by decide) (by decide) rfl (by decide) k_11_4 rfl (D_180 W_prog_15_method_53_code_160 5 rfl rfl rfl) ?_
    obtain ⟨g34, hf⟩ := gif hf
    refine zunrf g34.1 ?_
    refine zget (ci := 13) (C := RX13) (T := TX13) (v := .int (iI (F 13 (F 14 0 6) 1))) (k := 1) hx hb hts inW_13 hown hK hZ g34.1 g34.2 rfl (by decide) k_9_126 rfl (D_180 W_prog_15_method_53_code_160 8 rfl rfl rfl) ?_
    obtain ⟨g35, hf⟩ := gif hf
    obtain ⟨g36, hf⟩ := gif hf
    refine zge (tgt := 339) hx hb g35 g36 (D_162 W_prog_15_method_53_code_160 11 rfl rfl rfl) (by decide) (fun h37 => ?_) (fun h37 => ?_)
    · replace hf := gpos hf h37
      exact b_M_through_339 X hf hZ hS (lv_sub hl [] rfl)
    · replace hf := gneg hf h37
      refine lv_aload_n hx hb (D_42 W_prog_15_method_53_code_160 14 rfl rfl) rfl (lv_at hl 1 rfl) ?_
      obtain ⟨r38, F38, B38, hc38, hf⟩ := gbind hf
      refine va_calli (va_runV (As := []) (rest := []) ⟨hx, hb, hml, hown, hts⟩ (c_M_good (l := l) hc38) (cwV 0 hts (gdV k_13_15 k_13_17 ks_152 k_1_9 k_13_18) rfl rfl rfl (by decide +kernel) ⟨Nat.le_of_ble_eq_true rfl, Nat.le_of_ble_eq_true rfl⟩) (zPV X hZ hS (ci := 14) (by decide) (by decide) (r := (RX14, TX14, 107)) rfl []) rfl rfl hl.1 rfl (lv_room (Nat.le_of_ble_eq_true rfl)) (D_182 W_prog_15_method_53_code_160 15 rfl rfl rfl) ⟨Nat.le_of_ble_eq_true rfl, Nat.le_of_ble_eq_true rfl⟩) hS (fun q _ h => zAin X hS q h) (zAin X hS) (fun p38 u38 t38 H38 locs38 ht38 hv38 hw38 hB38 hz38 hk38 hS38 => ?_)
      have hZ38 := zBack X ht38 hB38
      subst hw38
      obtain ⟨g39, hf⟩ := gif hf
      refine z0eq (tgt := 339) hx hb g39 (D_153 W_prog_15_method_53_code_160 18 rfl rfl rfl) (by decide) (fun h40 => ?_) (fun h40 => ?_)
      · replace hf := gpos hf h40
        exact b_M_through_339 X hf hZ38 hS38 (lv_sub hl [] rfl)
      · replace hf := gneg hf h40
        refine lv_sipush (v := iI 1000) hx hb (D_17 W_prog_15_method_53_code_160 21 rfl rfl rfl) (by decide) ?_
        refine lv_iload_n hx hb (D_27 W_prog_15_method_53_code_160 24 rfl rfl) rfl (lv_at hl 0 rfl) ?_
        refine zmul hx hb (D_104 W_prog_15_method_53_code_160 25 rfl rfl) ?_
        refine lv_aload_n hx hb (D_42 W_prog_15_method_53_code_160 26 rfl rfl) rfl (lv_at hl 1 rfl) ?_
        refine zget (ci := 14) (C := RX14) (T := TX14) (v := va_rf (zrf ad 13 (F38 14 0 6))) (k := 6) hx hb hts inW_14 hown hK hZ38 (by decide) (by decide) rfl (by decide) k_11_4 rfl (D_180 W_prog_15_method_53_code_160 27 rfl rfl rfl) ?_
        obtain ⟨g41, hf⟩ := gif hf
        refine zunrf g41.1 ?_
        refine zget (ci := 13) (C := RX13) (T := TX13) (v := .ref (ad 13 (F38 14 0 6) (12 + 1))) (k := 12) hx hb hts inW_13 hown hK hZ38 g41.1 g41.2 rfl (by decide) k_9_142 rfl (D_180 W_prog_15_method_53_code_160 30 rfl rfl rfl) ?_
        refine lv_iload_n hx hb (D_27 W_prog_15_method_53_code_192 1 rfl rfl) rfl (lv_at hl 0 rfl) ?_
        obtain ⟨g42, hf⟩ := gif hf
        refine zald (ci := 13) (k := 12) hx hb hK rfl hZ38 g41.1 g41.2 rfl (Nat.le_of_ble_eq_true rfl) g42.1 g42.2 (D_46 W_prog_15_method_53_code_192 2 rfl rfl) ?_
        refine zadd hx hb (D_96 W_prog_15_method_53_code_192 3 rfl rfl) ?_
        refine lv_iconst (v := iI 1) hx hb (D_4 W_prog_15_method_53_code_192 4 rfl rfl) rfl ?_
        refine zsub hx hb (D_100 W_prog_15_method_53_code_192 5 rfl rfl) ?_
        refine lv_istore_n (lv' := [(2, .int (iI (((1000 * l1) + (B38 13 (F38 14 0 6) 12 l1)) - 1))), (1, .int (iI l1)), (0, .ref (ad 14 0 0))]) hx hb (D_61 W_prog_15_method_53_code_192 6 rfl rfl) rfl hl (by decide) rfl (fun ls hl => ?_)
        refine lv_aload_n hx hb (D_42 W_prog_15_method_53_code_192 7 rfl rfl) rfl (lv_at hl 2 rfl) ?_
        refine zget (ci := 14) (C := RX14) (T := TX14) (v := va_rf (zrf ad 13 (F38 14 0 6))) (k := 6) hx hb hts inW_14 hown hK hZ38 (by decide) (by decide) rfl (by decide) k_11_4 rfl (D_180 W_prog_15_method_53_code_192 8 rfl rfl rfl) ?_
        refine zunrf g41.1 ?_
        refine zget (ci := 13) (C := RX13) (T := TX13) (v := .ref (ad 13 (F38 14 0 6) (12 + 1))) (k := 12) hx hb hts inW_13 hown hK hZ38 g41.1 g41.2 rfl (by decide) k_9_142 rfl (D_180 W_prog_15_method_53_code_192 11 rfl rfl rfl) ?_
        refine lv_iconst (v := iI 0) hx hb (D_3 W_prog_15_method_53_code_192 14 rfl rfl) rfl ?_
        refine zald (ci := 13) (k := 12) hx hb hK rfl hZ38 g41.1 g41.2 rfl (Nat.le_of_ble_eq_true rfl) (by decide) (show (0 : Int) < 4 by decide) (D_46 W_prog_15_method_53_code_192 15 rfl rfl) ?_
        refine lv_iconst (v := iI 1) hx hb (D_4 W_prog_15_method_53_code_192 16 rfl rfl) rfl ?_
        refine zsub hx hb (D_100 W_prog_15_method_53_code_192 17 rfl rfl) ?_
        refine lv_istore_n (lv' := [(3, .int (iI ((B38 13 (F38 14 0 6) 12 0) - 1))), (2, .int (iI (((1000 * l1) + (B38 13 (F38 14 0 6) 12 l1)) - 1))), (1, .int (iI l1)), (0, .ref (ad 14 0 0))]) hx hb (D_62 W_prog_15_method_53_code_192 18 rfl rfl) rfl hl (by decide) rfl (fun ls hl => ?_)
        refine lv_aload_n hx hb (D_42 W_prog_15_method_53_code_192 19 rfl rfl) rfl (lv_at hl 3 rfl) ?_
        refine lv_aload_n hx hb (D_42 W_prog_15_method_53_code_192 20 rfl rfl) rfl (lv_at hl 3 rfl) ?_
        refine zget (ci := 14) (C := RX14) (T := TX14) (v := va_rf (zrf ad 13 (F38 14 0 6))) (k := 6) hx hb hts inW_14 hown hK hZ38 (by decide) (by decide) rfl (by decide) k_11_4 rfl (D_180 W_prog_15_method_53_code_192 21 rfl rfl rfl) ?_
        refine zunrf g41.1 ?_
        refine zget (ci := 13) (C := RX13) (T := TX13) (v := .ref (ad 13 (F38 14 0 6) (14 + 1))) (k := 14) hx hb hts inW_13 hown hK hZ38 g41.1 g41.2 rfl (by decide) k_9_146 rfl (D_180 W_prog_15_method_53_code_192 24 rfl rfl rfl) ?_
        refine lv_iload_n hx hb (D_28 W_prog_15_method_53_code_192 27 rfl rfl) rfl (lv_at hl 1 rfl) ?_
        obtain ⟨g43, hf⟩ := gif hf
        refine zlald (ci := 13) (k := 14) hx hb hK rfl hZ38 g41.1 g41.2 rfl (Nat.le_of_ble_eq_true rfl) g43.1 g43.2 (D_47 W_prog_15_method_53_code_192 28 rfl rfl) ?_
        refine lv_aload_n hx hb (D_42 W_prog_15_method_53_code_192 29 rfl rfl) rfl (lv_at hl 3 rfl) ?_
        refine zget (ci := 14) (C := RX14) (T := TX14) (v := va_rf (zrf ad 13 (F38 14 0 6))) (k := 6) hx hb hts inW_14 hown hK hZ38 (by decide) (by decide) rfl (by decide) k_11_4 rfl (D_180 W_prog_15_method_53_code_192 30 rfl rfl rfl) ?_
        refine zunrf g41.1 ?_
        refine zget (ci := 13) (C := RX13) (T := TX13) (v := .ref (ad 13 (F38 14 0 6) (15 + 1))) (k := 15) hx hb hts inW_13 hown hK hZ38 g41.1 g41.2 rfl (by decide) k_9_148 rfl (D_180 W_prog_15_method_53_code_224 1 rfl rfl rfl) ?_
        refine lv_iload_n hx hb (D_28 W_prog_15_method_53_code_224 4 rfl rfl) rfl (lv_at hl 1 rfl) ?_
        refine zlald (ci := 13) (k := 15) hx hb hK rfl hZ38 g41.1 g41.2 rfl (Nat.le_of_ble_eq_true rfl) g43.1 g43.2 (D_47 W_prog_15_method_53_code_224 5 rfl rfl) ?_
        refine lv_aload_n hx hb (D_42 W_prog_15_method_53_code_224 6 rfl rfl) rfl (lv_at hl 3 rfl) ?_
        refine zget (ci := 14) (C := RX14) (T := TX14) (v := va_rf (zrf ad 13 (F38 14 0 6))) (k := 6) hx hb hts inW_14 hown hK hZ38 (by decide) (by decide) rfl (by decide) k_11_4 rfl (D_180 W_prog_15_method_53_code_224 7 rfl rfl rfl) ?_
        refine zunrf g41.1 ?_
        refine zget (ci := 13) (C := RX13) (T := TX13) (v := .ref (ad 13 (F38 14 0 6) (16 + 1))) (k := 16) hx hb hts inW_13 hown hK hZ38 g41.1 g41.2 rfl (by decide) k_9_150 rfl (D_180 W_prog_15_method_53_code_224 10 rfl rfl rfl) ?_
        refine lv_iload_n hx hb (D_28 W_prog_15_method_53_code_224 13 rfl rfl) rfl (lv_at hl 1 rfl) ?_
        refine zlald (ci := 13) (k := 16) hx hb hK rfl hZ38 g41.1 g41.2 rfl (Nat.le_of_ble_eq_true rfl) g43.1 g43.2 (D_47 W_prog_15_method_53_code_224 14 rfl rfl) ?_
        refine lv_aload_n hx hb (D_42 W_prog_15_method_53_code_224 15 rfl rfl) rfl (lv_at hl 3 rfl) ?_
        refine zget (ci := 14) (C := RX14) (T := TX14) (v := va_rf (zrf ad 13 (F38 14 0 6))) (k := 6) hx hb hts inW_14 hown hK hZ38 (by decide) (by decide) rfl (by decide) k_11_4 rfl (D_180 W_prog_15_method_53_code_224 16 rfl rfl rfl) ?_
        refine zunrf g41.1 ?_
        refine zget (ci := 13) (C := RX13) (T := TX13) (v := .ref (ad 13 (F38 14 0 6) (17 + 1))) (k := 17) hx hb hts inW_13 hown hK hZ38 g41.1 g41.2 rfl (by decide) k_9_152 rfl (D_180 W_prog_15_method_53_code_224 19 rfl rfl rfl) ?_
        refine lv_iload_n hx hb (D_28 W_prog_15_method_53_code_224 22 rfl rfl) rfl (lv_at hl 1 rfl) ?_
        refine zlald (ci := 13) (k := 17) hx hb hK rfl hZ38 g41.1 g41.2 rfl (Nat.le_of_ble_eq_true rfl) g43.1 g43.2 (D_47 W_prog_15_method_53_code_224 23 rfl rfl) ?_
        obtain ⟨r44, F44, B44, hc44, hf⟩ := gbind hf
        refine va_callv (va_runV (As := [.long (lI (B38 13 (F38 14 0 6) 14 (((1000 * l1) + (B38 13 (F38 14 0 6) 12 l1)) - 1))), .long (lI (B38 13 (F38 14 0 6) 15 (((1000 * l1) + (B38 13 (F38 14 0 6) 12 l1)) - 1))), .long (lI (B38 13 (F38 14 0 6) 16 (((1000 * l1) + (B38 13 (F38 14 0 6) 12 l1)) - 1))), .long (lI (B38 13 (F38 14 0 6) 17 (((1000 * l1) + (B38 13 (F38 14 0 6) 12 l1)) - 1)))]) (rest := []) ⟨hx, hb, hml, hown, hts⟩ (c_M_plus (l := l) hc44) (cwV 4 hts (gdV k_12_147 k_12_149 ks_135 k_1_9 k_12_150) rfl rfl rfl (by decide +kernel) ⟨Nat.le_of_ble_eq_true rfl, Nat.le_of_ble_eq_true rfl⟩) (zPV X hZ38 hS38 (ci := 14) (by decide) (by decide) (r := (RX14, TX14, 107)) rfl [.long (lI (B38 13 (F38 14 0 6) 14 (((1000 * l1) + (B38 13 (F38 14 0 6) 12 l1)) - 1))), .long (lI (B38 13 (F38 14 0 6) 15 (((1000 * l1) + (B38 13 (F38 14 0 6) 12 l1)) - 1))), .long (lI (B38 13 (F38 14 0 6) 16 (((1000 * l1) + (B38 13 (F38 14 0 6) 12 l1)) - 1))), .long (lI (B38 13 (F38 14 0 6) 17 (((1000 * l1) + (B38 13 (F38 14 0 6) 12 l1)) - 1)))]) rfl rfl hl.1 rfl (lv_room (Nat.le_of_ble_eq_true rfl)) (D_182 W_prog_15_method_53_code_224 24 rfl rfl rfl) ⟨Nat.le_of_ble_eq_true rfl, Nat.le_of_ble_eq_true rfl⟩) hS38 (fun q _ h => zAin X hS38 q h) (zAin X hS38) (fun u44 t44 H44 locs44 ht44 hv44 hw44 hB44 hz44 hk44 hS44 => ?_)
        have hZ44 := zBack X ht44 hB44
        refine lv_aload_n hx hb (D_42 W_prog_15_method_53_code_224 27 rfl rfl) rfl (lv_at hl 3 rfl) ?_
        refine zget (ci := 14) (C := RX14) (T := TX14) (v := .long (lI (F44 14 0 0))) (k := 0) hx hb hts inW_14 hown hK hZ44 (by decide) (by decide) rfl (by decide) k_10_238 rfl (D_180 W_prog_15_method_53_code_224 28 rfl rfl rfl) ?_
        refine lv_lstore (lv' := [(4, .long (lI (F44 14 0 0))), (3, .int (iI ((B38 13 (F38 14 0 6) 12 0) - 1))), (2, .int (iI (((1000 * l1) + (B38 13 (F38 14 0 6) 12 l1)) - 1))), (1, .int (iI l1)), (0, .ref (ad 14 0 0))]) hx hb (D_55 W_prog_15_method_53_code_224 31 rfl rfl) hl (by decide) rfl (fun ls hl => ?_)
        refine lv_aload_n hx hb (D_42 W_prog_15_method_53_code_256 1 rfl rfl) rfl (lv_at hl 4 rfl) ?_
        refine zget (ci := 14) (C := RX14) (T := TX14) (v := .long (lI (F44 14 0 1))) (k := 1) hx hb hts inW_14 hown hK hZ44 (by decide) (by decide) rfl (by decide) k_10_239 rfl (D_180 W_prog_15_method_53_code_256 2 rfl rfl rfl) ?_
        refine lv_lstore (lv' := [(6, .long (lI (F44 14 0 1))), (4, .long (lI (F44 14 0 0))), (3, .int (iI ((B38 13 (F38 14 0 6) 12 0) - 1))), (2, .int (iI (((1000 * l1) + (B38 13 (F38 14 0 6) 12 l1)) - 1))), (1, .int (iI l1)), (0, .ref (ad 14 0 0))]) hx hb (D_55 W_prog_15_method_53_code_256 5 rfl rfl) hl (by decide) rfl (fun ls hl => ?_)
        refine lv_aload_n hx hb (D_42 W_prog_15_method_53_code_256 7 rfl rfl) rfl (lv_at hl 5 rfl) ?_
        refine lv_aload_n hx hb (D_42 W_prog_15_method_53_code_256 8 rfl rfl) rfl (lv_at hl 5 rfl) ?_
        refine zget (ci := 14) (C := RX14) (T := TX14) (v := va_rf (zrf ad 13 (F44 14 0 6))) (k := 6) hx hb hts inW_14 hown hK hZ44 (by decide) (by decide) rfl (by decide) k_11_4 rfl (D_180 W_prog_15_method_53_code_256 9 rfl rfl rfl) ?_
        obtain ⟨g45, hf⟩ := gif hf
        refine zunrf g45.1 ?_
        refine zget (ci := 13) (C := RX13) (T := TX13) (v := .ref (ad 13 (F44 14 0 6) (14 + 1))) (k := 14) hx hb hts inW_13 hown hK hZ44 g45.1 g45.2 rfl (by decide) k_9_146 rfl (D_180 W_prog_15_method_53_code_256 12 rfl rfl rfl) ?_
        refine lv_iload_n hx hb (D_29 W_prog_15_method_53_code_256 15 rfl rfl) rfl (lv_at hl 2 rfl) ?_
        obtain ⟨g46, hf⟩ := gif hf
        refine zlald (ci := 13) (k := 14) hx hb hK rfl hZ44 g45.1 g45.2 rfl (Nat.le_of_ble_eq_true rfl) g46.1 g46.2 (D_47 W_prog_15_method_53_code_256 16 rfl rfl) ?_
        refine lv_aload_n hx hb (D_42 W_prog_15_method_53_code_256 17 rfl rfl) rfl (lv_at hl 5 rfl) ?_
        refine zget (ci := 14) (C := RX14) (T := TX14) (v := va_rf (zrf ad 13 (F44 14 0 6))) (k := 6) hx hb hts inW_14 hown hK hZ44 (by decide) (by decide) rfl (by decide) k_11_4 rfl (D_180 W_prog_15_method_53_code_256 18 rfl rfl rfl) ?_
        refine zunrf g45.1 ?_
        refine zget (ci := 13) (C := RX13) (T := TX13) (v := .ref (ad 13 (F44 14 0 6) (15 + 1))) (k := 15) hx hb hts inW_13 hown hK hZ44 g45.1 g45.2 rfl (by decide) k_9_148 rfl (D_180 W_prog_15_method_53_code_256 21 rfl rfl rfl) ?_
        refine lv_iload_n hx hb (D_29 W_prog_15_method_53_code_256 24 rfl rfl) rfl (lv_at hl 2 rfl) ?_
        refine zlald (ci := 13) (k := 15) hx hb hK rfl hZ44 g45.1 g45.2 rfl (Nat.le_of_ble_eq_true rfl) g46.1 g46.2 (D_47 W_prog_15_method_53_code_256 25 rfl rfl) ?_
        refine lv_aload_n hx hb (D_42 W_prog_15_method_53_code_256 26 rfl rfl) rfl (lv_at hl 5 rfl) ?_
        refine zget (ci := 14) (C := RX14) (T := TX14) (v := va_rf (zrf ad 13 (F44 14 0 6))) (k := 6) hx hb hts inW_14 hown hK hZ44 (by decide) (by decide) rfl (by decide) k_11_4 rfl (D_180 W_prog_15_method_53_code_256 27 rfl rfl rfl) ?_
        refine zunrf g45.1 ?_
        refine zget (ci := 13) (C := RX13) (T := TX13) (v := .ref (ad 13 (F44 14 0 6) (16 + 1))) (k := 16) hx hb hts inW_13 hown hK hZ44 g45.1 g45.2 rfl (by decide) k_9_150 rfl (D_180 W_prog_15_method_53_code_256 30 rfl rfl rfl) ?_
        refine lv_iload_n hx hb (D_29 W_prog_15_method_53_code_288 1 rfl rfl) rfl (lv_at hl 2 rfl) ?_
        refine zlald (ci := 13) (k := 16) hx hb hK rfl hZ44 g45.1 g45.2 rfl (Nat.le_of_ble_eq_true rfl) g46.1 g46.2 (D_47 W_prog_15_method_53_code_288 2 rfl rfl) ?_
        refine lv_aload_n hx hb (D_42 W_prog_15_method_53_code_288 3 rfl rfl) rfl (lv_at hl 5 rfl) ?_
        refine zget (ci := 14) (C := RX14) (T := TX14) (v := va_rf (zrf ad 13 (F44 14 0 6))) (k := 6) hx hb hts inW_14 hown hK hZ44 (by decide) (by decide) rfl (by decide) k_11_4 rfl (D_180 W_prog_15_method_53_code_288 4 rfl rfl rfl) ?_
        refine zunrf g45.1 ?_
        refine zget (ci := 13) (C := RX13) (T := TX13) (v := .ref (ad 13 (F44 14 0 6) (17 + 1))) (k := 17) hx hb hts inW_13 hown hK hZ44 g45.1 g45.2 rfl (by decide) k_9_152 rfl (D_180 W_prog_15_method_53_code_288 7 rfl rfl rfl) ?_
        refine lv_iload_n hx hb (D_29 W_prog_15_method_53_code_288 10 rfl rfl) rfl (lv_at hl 2 rfl) ?_
        refine zlald (ci := 13) (k := 17) hx hb hK rfl hZ44 g45.1 g45.2 rfl (Nat.le_of_ble_eq_true rfl) g46.1 g46.2 (D_47 W_prog_15_method_53_code_288 11 rfl rfl) ?_
        obtain ⟨r47, F47, B47, hc47, hf⟩ := gbind hf
        refine va_callv (va_runV (As := [.long (lI (B44 13 (F44 14 0 6) 14 ((B38 13 (F38 14 0 6) 12 0) - 1))), .long (lI (B44 13 (F44 14 0 6) 15 ((B38 13 (F38 14 0 6) 12 0) - 1))), .long (lI (B44 13 (F44 14 0 6) 16 ((B38 13 (F38 14 0 6) 12 0) - 1))), .long (lI (B44 13 (F44 14 0 6) 17 ((B38 13 (F38 14 0 6) 12 0) - 1)))]) (rest := []) ⟨hx, hb, hml, hown, hts⟩ (c_M_plus (l := l) hc47) (cwV 4 hts (gdV k_12_147 k_12_149 ks_135 k_1_9 k_12_150) rfl rfl rfl (by decide +kernel) ⟨Nat.le_of_ble_eq_true rfl, Nat.le_of_ble_eq_true rfl⟩) (zPV X hZ44 hS44 (ci := 14) (by decide) (by decide) (r := (RX14, TX14, 107)) rfl [.long (lI (B44 13 (F44 14 0 6) 14 ((B38 13 (F38 14 0 6) 12 0) - 1))), .long (lI (B44 13 (F44 14 0 6) 15 ((B38 13 (F38 14 0 6) 12 0) - 1))), .long (lI (B44 13 (F44 14 0 6) 16 ((B38 13 (F38 14 0 6) 12 0) - 1))), .long (lI (B44 13 (F44 14 0 6) 17 ((B38 13 (F38 14 0 6) 12 0) - 1)))]) rfl rfl hl.1 rfl (lv_room (Nat.le_of_ble_eq_true rfl)) (D_182 W_prog_15_method_53_code_288 12 rfl rfl rfl) ⟨Nat.le_of_ble_eq_true rfl, Nat.le_of_ble_eq_true rfl⟩) hS44 (fun q _ h => zAin X hS44 q h) (zAin X hS44) (fun u47 t47 H47 locs47 ht47 hv47 hw47 hB47 hz47 hk47 hS47 => ?_)
        have hZ47 := zBack X ht47 hB47
        refine lv_lload hx hb (D_22 W_prog_15_method_53_code_288 15 rfl rfl) (lv_at hl 1 rfl) ?_
        refine lv_lload hx hb (D_22 W_prog_15_method_53_code_288 17 rfl rfl) (lv_at hl 0 rfl) ?_
        refine lv_aload_n hx hb (D_42 W_prog_15_method_53_code_288 19 rfl rfl) rfl (lv_at hl 5 rfl) ?_
        refine zget (ci := 14) (C := RX14) (T := TX14) (v := .long (lI (F47 14 0 0))) (k := 0) hx hb hts inW_14 hown hK hZ47 (by decide) (by decide) rfl (by decide) k_10_238 rfl (D_180 W_prog_15_method_53_code_288 20 rfl rfl rfl) ?_
        refine lv_aload_n hx hb (D_42 W_prog_15_method_53_code_288 23 rfl rfl) rfl (lv_at hl 5 rfl) ?_
        refine zget (ci := 14) (C := RX14) (T := TX14) (v := .long (lI (F47 14 0 1))) (k := 1) hx hb hts inW_14 hown hK hZ47 (by decide) (by decide) rfl (by decide) k_10_239 rfl (D_180 W_prog_15_method_53_code_288 24 rfl rfl rfl) ?_
        obtain ⟨r48, F48, B48, hc48, hf⟩ := gbind hf
        refine va_calli (va_runS (As := [.long (lI (F44 14 0 0)), .long (lI (F44 14 0 1)), .long (lI (F47 14 0 0)), .long (lI (F47 14 0 1))]) (rest := []) ⟨hx, hb, hml, hown, hts⟩ (c_M_compare (l := l) hc48) (va_cwS 4 hts (gdS k_13_104 k_13_105 k_1_9 k_13_106) rfl rfl rfl (by decide +kernel) ⟨Nat.le_of_ble_eq_true rfl, Nat.le_of_ble_eq_true rfl⟩) (zPS X hZ47 hS47 [.long (lI (F44 14 0 0)), .long (lI (F44 14 0 1)), .long (lI (F47 14 0 0)), .long (lI (F47 14 0 1))]) rfl rfl hl.1 rfl (lv_room (Nat.le_of_ble_eq_true rfl)) (D_184 W_prog_15_method_53_code_288 27 rfl rfl rfl) ⟨Nat.le_of_ble_eq_true rfl, Nat.le_of_ble_eq_true rfl⟩) hS47 (fun q _ h => zAin X hS47 q h) (zAin X hS47) (fun p48 u48 t48 H48 locs48 ht48 hv48 hw48 hB48 hz48 hk48 hS48 => ?_)
        have hZ48 := zBack X ht48 hB48
        subst hw48
        obtain ⟨g49, hf⟩ := gif hf
        refine z0eq (tgt := 333) hx hb g49 (D_153 W_prog_15_method_53_code_288 30 rfl rfl rfl) (by decide) (fun h50 => ?_) (fun h50 => ?_)
        · replace hf := gpos hf h50
          exact b_M_through_333 X ih hf hZ48 hS48 (lv_sub hl [4, 5] rfl)
        · replace hf := gneg hf h50
          refine lv_aload_n hx hb (D_42 W_prog_15_method_53_code_320 1 rfl rfl) rfl (lv_at hl 5 rfl) ?_
          refine lv_bipush (v := iI 6) hx hb (D_16 W_prog_15_method_53_code_320 2 rfl rfl rfl) (by decide) ?_
          refine lv_aload_n hx hb (D_42 W_prog_15_method_53_code_320 4 rfl rfl) rfl (lv_at hl 5 rfl) ?_
          refine zget (ci := 14) (C := RX14) (T := TX14) (v := .ref (ad 14 0 (28 + 1))) (k := 28) hx hb hts inW_14 hown hK hZ48 (by decide) (by decide) rfl (by decide) k_11_26 rfl (D_180 W_prog_15_method_53_code_320 5 rfl rfl rfl) ?_
          refine lv_iload_n hx hb (D_27 W_prog_15_method_53_code_320 8 rfl rfl) rfl (lv_at hl 4 rfl) ?_
          refine zald (ci := 14) (k := 28) hx hb hK rfl hZ48 (by decide) (by decide) rfl (Nat.le_of_ble_eq_true rfl) g42.1 g42.2 (D_46 W_prog_15_method_53_code_320 9 rfl rfl) ?_
          obtain ⟨r51, F51, B51, hc51, hf⟩ := gbind hf
          refine va_callv (va_runV (As := [.int (iI 6), .int (iI (B48 14 0 28 l1))]) (rest := []) ⟨hx, hb, hml, hown, hts⟩ (c_M_failAt (l := l) hc51) (cwV 2 hts (gdV k_14_132 k_14_134 ks_205 k_1_9 k_14_135) rfl rfl rfl (by decide +kernel) ⟨Nat.le_of_ble_eq_true rfl, Nat.le_of_ble_eq_true rfl⟩) (zPV X hZ48 hS48 (ci := 14) (by decide) (by decide) (r := (RX14, TX14, 107)) rfl [.int (iI 6), .int (iI (B48 14 0 28 l1))]) rfl rfl hl.1 rfl (lv_room (Nat.le_of_ble_eq_true rfl)) (D_182 W_prog_15_method_53_code_320 10 rfl rfl rfl) ⟨Nat.le_of_ble_eq_true rfl, Nat.le_of_ble_eq_true rfl⟩) hS48 (fun q _ h => zAin X hS48 q h) (zAin X hS48) (fun u51 t51 H51 locs51 ht51 hv51 hw51 hB51 hz51 hk51 hS51 => ?_)
          have hZ51 := zBack X ht51 hB51
          exact b_M_through_333 X ih hf hZ51 hS51 (lv_sub hl [4, 5] rfl)

def f_M_through_161 (K : Nat)  (F : zF) (B : zB) : zO := f_M_through_163 K K 1 F B
set_option maxHeartbeats 4000000 in
set_option maxRecDepth 100000 in
theorem b_M_through_161 {D : va_G} {ca : Nat → ClassId} {ad : Nat → Int → Nat → Nat} {L : List Nat} {aS vS : Nat → Nat} {A : Nat → Prop} {p : Program} {l : Launch} {e : Env} {s : State} {m : MethodId} {args : Array Value} {below : List Frame} {meth : Method} {c : Code} {K : Nat} {r : Int} {F9 : zF} {B9 : zB} (X : zX D ca L aS vS A p s m args meth c prog_15_method_53_code 8 (Option.none : Option Jvm.ClassFile.FieldType) "StaveHouseModel")  {F : zF} {B : zB} {H : Heap} {locs : List Loc} {ls : Array Slot} (hf : f_M_through_161 K  F B = some (r, F9, B9)) (hZ : zH D ca ad lnM nM L F B A H) (hS : va_S A s.heap H locs) (hl : lv_has ls 8 [(0, .ref (ad 14 0 0))]) : W p l e ({ frames := 206, cells := 0, slots := 0, locals := 5739 } : Room) s m args below meth c H locs 0 0 (MQ below (Q_M_through D ca ad L r F9 B9 A) args s 0 0 A) (F0 m 161 ls []) := by
  obtain ⟨hx, hb, hr, hml, hown, hts, hlk, hK, hA, hL, hX⟩ := id X
  replace hf : (f_M_through_163 K K 1 F B) = some (r, F9, B9) := hf
  refine lv_iconst (v := iI 1) hx hb (D_4 W_prog_15_method_53_code_160 1 rfl rfl) rfl ?_
  refine lv_istore_n (lv' := [(1, .int (iI 1)), (0, .ref (ad 14 0 0))]) hx hb (D_60 W_prog_15_method_53_code_160 2 rfl rfl) rfl hl (by decide) rfl (fun ls hl => ?_)
  exact b_M_through_163 X hf hZ hS (lv_sub hl [0, 1] rfl)

def f_M_through_148 (rec5 : zF → zB → zO) (K : Nat)  (F : zF) (B : zB) : zO := rec5 (zup3 F 14 0 35 ((F 14 0 35) + 1)) B
set_option maxHeartbeats 4000000 in
set_option maxRecDepth 100000 in
theorem b_M_through_148 {D : va_G} {ca : Nat → ClassId} {ad : Nat → Int → Nat → Nat} {L : List Nat} {aS vS : Nat → Nat} {A : Nat → Prop} {p : Program} {l : Launch} {e : Env} {s : State} {m : MethodId} {args : Array Value} {below : List Frame} {meth : Method} {c : Code} {K : Nat} {r : Int} {F9 : zF} {B9 : zB} (X : zX D ca L aS vS A p s m args meth c prog_15_method_53_code 8 (Option.none : Option Jvm.ClassFile.FieldType) "StaveHouseModel") {rec5 : zF → zB → zO} (hrec5 : ∀  {F : zF} {B : zB} {H : Heap} {locs : List Loc} {ls : Array Slot}, rec5  F B = some (r, F9, B9) → zH D ca ad lnM nM L F B A H → va_S A s.heap H locs → lv_has ls 8 [(0, .ref (ad 14 0 0))] → W p l e ({ frames := 206, cells := 0, slots := 0, locals := 5739 } : Room) s m args below meth c H locs 0 0 (MQ below (Q_M_through D ca ad L r F9 B9 A) args s 0 0 A) (F0 m 5 ls []))  {F : zF} {B : zB} {H : Heap} {locs : List Loc} {ls : Array Slot} (hf : f_M_through_148 rec5 K  F B = some (r, F9, B9)) (hZ : zH D ca ad lnM nM L F B A H) (hS : va_S A s.heap H locs) (hl : lv_has ls 8 [(0, .ref (ad 14 0 0))]) : W p l e ({ frames := 206, cells := 0, slots := 0, locals := 5739 } : Room) s m args below meth c H locs 0 0 (MQ below (Q_M_through D ca ad L r F9 B9 A) args s 0 0 A) (F0 m 148 ls []) := by
  obtain ⟨hx, hb, hr, hml, hown, hts, hlk, hK, hA, hL, hX⟩ := id X
  replace hf : (rec5 (zup3 F 14 0 35 ((F 14 0 35) + 1)) B) = some (r, F9, B9) := hf
  refine lv_aload_n hx hb (D_42 W_prog_15_method_53_code_128 20 rfl rfl) rfl (lv_at hl 0 rfl) ?_
  refine lv_dup hx hb (D_89 W_prog_15_method_53_code_128 21 rfl rfl) rfl ?_
  refine zget (ci := 14) (C := RX14) (T := TX14) (v := .int (iI (F 14 0 35))) (k := 35) hx hb hts inW_14 hown hK hZ (by decide) (by decide) rfl (by decide) k_11_33 rfl (D_180 W_prog_15_method_53_code_128 22 rfl rfl rfl) ?_
  refine lv_iconst (v := iI 1) hx hb (D_4 W_prog_15_method_53_code_128 25 rfl rfl) rfl ?_
  refine zadd hx hb (D_96 W_prog_15_method_53_code_128 26 rfl rfl) ?_
  refine zput (ci := 14) (C := RX14) (T := TX14) (k := 35) (v := ((F 14 0 35) + 1)) (w := .int (iI ((F 14 0 35) + 1))) hx hb hts inW_14 tyX14 tyX14_ok nmX14 hown hK hZ hS (by decide) (by decide) rfl (by decide) k_11_33 rfl (fun G h => congrArg (fun q => Value.int (iI q)) h) rfl rfl (zno (by decide)) (D_181 W_prog_15_method_53_code_128 27 rfl rfl rfl) (fun H33 locs33 hZ33 hS33 => ?_)
  refine lv_goto (tgt := 5) hx hb (D_167 W_prog_15_method_53_code_128 30 rfl rfl rfl) (by decide) ?_
  exact hrec5 hf hZ33 hS33 (lv_sub hl [0] rfl)

def f_M_through_73 (rec5 : zF → zB → zO) (K : Nat) : Nat → Int → zF → zB → zO
  | 0, _, _, _ => none
  | n + 1, l1, F, B => if r32 l1 then (if 8 ≤ l1 then if 0 ≤ (F 14 0 35) ∧ (F 14 0 35) < 4 then if 0 ≤ (B 14 0 29 (F 14 0 35)) ∧ (B 14 0 29 (F 14 0 35)) < 3001 then zbind (f_M_walk K ((B 14 0 29 (F 14 0 35)) + 1) (B 14 0 30 (B 14 0 29 (F 14 0 35))) F B) (fun r22 F22 B22 => if 0 ≤ (F22 14 0 6) ∧ (F22 14 0 6) < 3 then if 0 ≤ (F22 14 0 35) ∧ (F22 14 0 35) < 4 then zbind (f_M_good K F22 (zup4 B22 13 (F22 14 0 6) 12 (F22 14 0 35) (F22 14 0 36))) (fun r26 F26 B26 => if r32 r26 then (if r26 = 0 then f_M_through_148 rec5 K F26 B26 else zbind (f_M_judge K F26 B26) (fun r29 F29 B29 => f_M_through_148 rec5 K F29 B29)) else none) else none else none) else none else none else if 0 ≤ l1 ∧ l1 < 8 then f_M_through_73 rec5 K n (l1 + 1) F (zup4 B 14 0 51 l1 0) else none) else none
set_option maxHeartbeats 4000000 in
set_option maxRecDepth 100000 in
theorem b_M_through_73 {D : va_G} {ca : Nat → ClassId} {ad : Nat → Int → Nat → Nat} {L : List Nat} {aS vS : Nat → Nat} {A : Nat → Prop} {p : Program} {l : Launch} {e : Env} {s : State} {m : MethodId} {args : Array Value} {below : List Frame} {meth : Method} {c : Code} {K : Nat} {r : Int} {F9 : zF} {B9 : zB} (X : zX D ca L aS vS A p s m args meth c prog_15_method_53_code 8 (Option.none : Option Jvm.ClassFile.FieldType) "StaveHouseModel") {rec5 : zF → zB → zO} (hrec5 : ∀  {F : zF} {B : zB} {H : Heap} {locs : List Loc} {ls : Array Slot}, rec5  F B = some (r, F9, B9) → zH D ca ad lnM nM L F B A H → va_S A s.heap H locs → lv_has ls 8 [(0, .ref (ad 14 0 0))] → W p l e ({ frames := 206, cells := 0, slots := 0, locals := 5739 } : Room) s m args below meth c H locs 0 0 (MQ below (Q_M_through D ca ad L r F9 B9 A) args s 0 0 A) (F0 m 5 ls [])) : ∀ {n : Nat} {l1 : Int} {F : zF} {B : zB} {H : Heap} {locs : List Loc} {ls : Array Slot}, f_M_through_73 rec5 K n l1 F B = some (r, F9, B9) → zH D ca ad lnM nM L F B A H → va_S A s.heap H locs → lv_has ls 8 [(1, .int (iI l1)), (0, .ref (ad 14 0 0))] → W p l e ({ frames := 206, cells := 0, slots := 0, locals := 5739 } : Room) s m args below meth c H locs 0 0 (MQ below (Q_M_through D ca ad L r F9 B9 A) args s 0 0 A) (F0 m 73 ls []) := by
  obtain ⟨hx, hb, hr, hml, hown, hts, hlk, hK, hA, hL, hX⟩ := id X
  intro n
  induction n with
  | zero =>
    intros
    rename_i hf _ _ _
    cases hf
  | succ n ih =>
    intro l1 F B H locs ls hf hZ hS hl
    replace hf : (if r32 l1 then (if 8 ≤ l1 then if 0 ≤ (F 14 0 35) ∧ (F 14 0 35) < 4 then if 0 ≤ (B 14 0 29 (F 14 0 35)) ∧ (B 14 0 29 (F 14 0 35)) < 3001 then zbind (f_M_walk K ((B 14 0 29 (F 14 0 35)) + 1) (B 14 0 30 (B 14 0 29 (F 14 0 35))) F B) (fun r22 F22 B22 => if 0 ≤ (F22 14 0 6) ∧ (F22 14 0 6) < 3 then if 0 ≤ (F22 14 0 35) ∧ (F22 14 0 35) < 4 then zbind (f_M_good K F22 (zup4 B22 13 (F22 14 0 6) 12 (F22 14 0 35) (F22 14 0 36))) (fun r26 F26 B26 => if r32 r26 then (if r26 = 0 then f_M_through_148 rec5 K F26 B26 else zbind (f_M_judge K F26 B26) (fun r29 F29 B29 => f_M_through_148 rec5 K F29 B29)) else none) else none else none) else none else none else if 0 ≤ l1 ∧ l1 < 8 then f_M_through_73 rec5 K n (l1 + 1) F (zup4 B 14 0 51 l1 0) else none) else none) = some (r, F9, B9) := hf
    refine lv_iload_n hx hb (D_27 W_prog_15_method_53_code_64 9 rfl rfl) rfl (lv_at hl 0 rfl) ?_
    refine lv_bipush (v := iI 8) hx hb (D_16 W_prog_15_method_53_code_64 10 rfl rfl rfl) (by decide) ?_
    obtain ⟨g18, hf⟩ := gif hf
    refine zge (tgt := 92) hx hb g18 (by decide) (D_162 W_prog_15_method_53_code_64 12 rfl rfl rfl) (by decide) (fun h19 => ?_) (fun h19 => ?_)
    · replace hf := gpos hf h19
      refine lv_aload_n hx hb (D_42 W_prog_15_method_53_code_64 28 rfl rfl) rfl (lv_at hl 1 rfl) ?_
      refine lv_aload_n hx hb (D_42 W_prog_15_method_53_code_64 29 rfl rfl) rfl (lv_at hl 1 rfl) ?_
      refine zget (ci := 14) (C := RX14) (T := TX14) (v := .ref (ad 14 0 (29 + 1))) (k := 29) hx hb hts inW_14 hown hK hZ (by decide) (by decide) rfl (by decide) k_11_27 rfl (D_180 W_prog_15_method_53_code_64 30 rfl rfl rfl) ?_
      refine lv_aload_n hx hb (D_42 W_prog_15_method_53_code_96 1 rfl rfl) rfl (lv_at hl 1 rfl) ?_
      refine zget (ci := 14) (C := RX14) (T := TX14) (v := .int (iI (F 14 0 35))) (k := 35) hx hb hts inW_14 hown hK hZ (by decide) (by decide) rfl (by decide) k_11_33 rfl (D_180 W_prog_15_method_53_code_96 2 rfl rfl rfl) ?_
      obtain ⟨g20, hf⟩ := gif hf
      refine zald (ci := 14) (k := 29) hx hb hK rfl hZ (by decide) (by decide) rfl (Nat.le_of_ble_eq_true rfl) g20.1 g20.2 (D_46 W_prog_15_method_53_code_96 5 rfl rfl) ?_
      refine lv_iconst (v := iI 1) hx hb (D_4 W_prog_15_method_53_code_96 6 rfl rfl) rfl ?_
      refine zadd hx hb (D_96 W_prog_15_method_53_code_96 7 rfl rfl) ?_
      refine lv_aload_n hx hb (D_42 W_prog_15_method_53_code_96 8 rfl rfl) rfl (lv_at hl 1 rfl) ?_
      refine zget (ci := 14) (C := RX14) (T := TX14) (v := .ref (ad 14 0 (30 + 1))) (k := 30) hx hb hts inW_14 hown hK hZ (by decide) (by decide) rfl (by decide) k_11_28 rfl (D_180 W_prog_15_method_53_code_96 9 rfl rfl rfl) ?_
      refine lv_aload_n hx hb (D_42 W_prog_15_method_53_code_96 12 rfl rfl) rfl (lv_at hl 1 rfl) ?_
      refine zget (ci := 14) (C := RX14) (T := TX14) (v := .ref (ad 14 0 (29 + 1))) (k := 29) hx hb hts inW_14 hown hK hZ (by decide) (by decide) rfl (by decide) k_11_27 rfl (D_180 W_prog_15_method_53_code_96 13 rfl rfl rfl) ?_
      refine lv_aload_n hx hb (D_42 W_prog_15_method_53_code_96 16 rfl rfl) rfl (lv_at hl 1 rfl) ?_
      refine zget (ci := 14) (C := RX14) (T := TX14) (v := .int (iI (F 14 0 35))) (k := 35) hx hb hts inW_14 hown hK hZ (by decide) (by decide) rfl (by decide) k_11_33 rfl (D_180 W_prog_15_method_53_code_96 17 rfl rfl rfl) ?_
      refine zald (ci := 14) (k := 29) hx hb hK rfl hZ (by decide) (by decide) rfl (Nat.le_of_ble_eq_true rfl) g20.1 g20.2 (D_46 W_prog_15_method_53_code_96 20 rfl rfl) ?_
      obtain ⟨g21, hf⟩ := gif hf
      refine zald (ci := 14) (k := 30) hx hb hK rfl hZ (by decide) (by decide) rfl (Nat.le_of_ble_eq_true rfl) g21.1 g21.2 (D_46 W_prog_15_method_53_code_96 21 rfl rfl) ?_
      obtain ⟨r22, F22, B22, hc22, hf⟩ := gbind hf
      refine va_callv (va_runV (As := [.int (iI ((B 14 0 29 (F 14 0 35)) + 1)), .int (iI (B 14 0 30 (B 14 0 29 (F 14 0 35))))]) (rest := []) ⟨hx, hb, hml, hown, hts⟩ (c_M_walk (l := l) hc22) (cwV 2 hts (gdV k_14_207 k_14_209 ks_223 k_1_9 k_14_210) rfl rfl rfl (by decide +kernel) ⟨Nat.le_of_ble_eq_true rfl, Nat.le_of_ble_eq_true rfl⟩) (zPV X hZ hS (ci := 14) (by decide) (by decide) (r := (RX14, TX14, 107)) rfl [.int (iI ((B 14 0 29 (F 14 0 35)) + 1)), .int (iI (B 14 0 30 (B 14 0 29 (F 14 0 35))))]) rfl rfl hl.1 rfl (lv_room (Nat.le_of_ble_eq_true rfl)) (D_182 W_prog_15_method_53_code_96 22 rfl rfl rfl) ⟨Nat.le_of_ble_eq_true rfl, Nat.le_of_ble_eq_true rfl⟩) hS (fun q _ h => zAin X hS q h) (zAin X hS) (fun u22 t22 H22 locs22 ht22 hv22 hw22 hB22 hz22 hk22 hS22 => ?_)
      have hZ22 := zBack X ht22 hB22
      refine lv_aload_n hx hb (D_42 W_prog_15_method_53_code_96 25 rfl rfl) rfl (lv_at hl 1 rfl) ?_
      refine zget (ci := 14) (C := RX14) (T := TX14) (v := va_rf (zrf ad 13 (F22 14 0 6))) (k := 6) hx hb hts inW_14 hown hK hZ22 (by decide) (by decide) rfl (by decide) k_11_4 rfl (D_180 W_prog_15_method_53_code_96 26 rfl rfl rfl) ?_
      obtain ⟨g23, hf⟩ := gif hf
      refine zunrf g23.1 ?_
      refine zget (ci := 13) (C := RX13) (T := TX13) (v := .ref (ad 13 (F22 14 0 6) (12 + 1))) (k := 12) hx hb hts inW_13 hown hK hZ22 g23.1 g23.2 rfl (by decide) k_9_142 rfl (D_180 W_prog_15_method_53_code_96 29 rfl rfl rfl) ?_
      refine lv_aload_n hx hb (D_42 W_prog_15_method_53_code_128 0 rfl rfl) rfl (lv_at hl 1 rfl) ?_
      refine zget (ci := 14) (C := RX14) (T := TX14) (v := .int (iI (F22 14 0 35))) (k := 35) hx hb hts inW_14 hown hK hZ22 (by decide) (by decide) rfl (by decide) k_11_33 rfl (D_180 W_prog_15_method_53_code_128 1 rfl rfl rfl) ?_
      refine lv_aload_n hx hb (D_42 W_prog_15_method_53_code_128 4 rfl rfl) rfl (lv_at hl 1 rfl) ?_
      refine zget (ci := 14) (C := RX14) (T := TX14) (v := .int (iI (F22 14 0 36))) (k := 36) hx hb hts inW_14 hown hK hZ22 (by decide) (by decide) rfl (by decide) k_11_34 rfl (D_180 W_prog_15_method_53_code_128 5 rfl rfl rfl) ?_
      obtain ⟨g24, hf⟩ := gif hf
      refine zast (ci := 13) (k := 12) hx hb hK rfl hZ22 hS22 g23.1 g23.2 rfl (Nat.le_of_ble_eq_true rfl) g24.1 g24.2 (D_79 W_prog_15_method_53_code_128 8 rfl rfl) (fun H25 locs25 hZ25 hS25 => ?_)
      refine lv_aload_n hx hb (D_42 W_prog_15_method_53_code_128 9 rfl rfl) rfl (lv_at hl 1 rfl) ?_
      obtain ⟨r26, F26, B26, hc26, hf⟩ := gbind hf
      refine va_calli (va_runV (As := []) (rest := []) ⟨hx, hb, hml, hown, hts⟩ (c_M_good (l := l) hc26) (cwV 0 hts (gdV k_13_15 k_13_17 ks_152 k_1_9 k_13_18) rfl rfl rfl (by decide +kernel) ⟨Nat.le_of_ble_eq_true rfl, Nat.le_of_ble_eq_true rfl⟩) (zPV X hZ25 hS25 (ci := 14) (by decide) (by decide) (r := (RX14, TX14, 107)) rfl []) rfl rfl hl.1 rfl (lv_room (Nat.le_of_ble_eq_true rfl)) (D_182 W_prog_15_method_53_code_128 10 rfl rfl rfl) ⟨Nat.le_of_ble_eq_true rfl, Nat.le_of_ble_eq_true rfl⟩) hS25 (fun q _ h => zAin X hS25 q h) (zAin X hS25) (fun p26 u26 t26 H26 locs26 ht26 hv26 hw26 hB26 hz26 hk26 hS26 => ?_)
      have hZ26 := zBack X ht26 hB26
      subst hw26
      obtain ⟨g27, hf⟩ := gif hf
      refine z0eq (tgt := 148) hx hb g27 (D_153 W_prog_15_method_53_code_128 13 rfl rfl rfl) (by decide) (fun h28 => ?_) (fun h28 => ?_)
      · replace hf := gpos hf h28
        exact b_M_through_148 X hrec5 hf hZ26 hS26 (lv_sub hl [1] rfl)
      · replace hf := gneg hf h28
        refine lv_aload_n hx hb (D_42 W_prog_15_method_53_code_128 16 rfl rfl) rfl (lv_at hl 1 rfl) ?_
        obtain ⟨r29, F29, B29, hc29, hf⟩ := gbind hf
        refine va_callv (va_runV (As := []) (rest := []) ⟨hx, hb, hml, hown, hts⟩ (c_M_judge (l := l) hc29) (cwV 0 hts (gdV k_15_34 k_15_36 ks_238 k_1_9 k_15_37) rfl rfl rfl (by decide +kernel) ⟨Nat.le_of_ble_eq_true rfl, Nat.le_of_ble_eq_true rfl⟩) (zPV X hZ26 hS26 (ci := 14) (by decide) (by decide) (r := (RX14, TX14, 107)) rfl []) rfl rfl hl.1 rfl (lv_room (Nat.le_of_ble_eq_true rfl)) (D_182 W_prog_15_method_53_code_128 17 rfl rfl rfl) ⟨Nat.le_of_ble_eq_true rfl, Nat.le_of_ble_eq_true rfl⟩) hS26 (fun q _ h => zAin X hS26 q h) (zAin X hS26) (fun u29 t29 H29 locs29 ht29 hv29 hw29 hB29 hz29 hk29 hS29 => ?_)
        have hZ29 := zBack X ht29 hB29
        exact b_M_through_148 X hrec5 hf hZ29 hS29 (lv_sub hl [1] rfl)
    · replace hf := gneg hf h19
      refine lv_aload_n hx hb (D_42 W_prog_15_method_53_code_64 15 rfl rfl) rfl (lv_at hl 1 rfl) ?_
      refine zget (ci := 14) (C := RX14) (T := TX14) (v := .ref (ad 14 0 (51 + 1))) (k := 51) hx hb hts inW_14 hown hK hZ (by decide) (by decide) rfl (by decide) k_11_49 rfl (D_180 W_prog_15_method_53_code_64 16 rfl rfl rfl) ?_
      refine lv_iload_n hx hb (D_27 W_prog_15_method_53_code_64 19 rfl rfl) rfl (lv_at hl 0 rfl) ?_
      refine lv_iconst (v := iI 0) hx hb (D_3 W_prog_15_method_53_code_64 20 rfl rfl) rfl ?_
      obtain ⟨g30, hf⟩ := gif hf
      refine zast (ci := 14) (k := 51) hx hb hK rfl hZ hS (by decide) (by decide) rfl (Nat.le_of_ble_eq_true rfl) g30.1 g30.2 (D_79 W_prog_15_method_53_code_64 21 rfl rfl) (fun H31 locs31 hZ31 hS31 => ?_)
      refine lv_iinc (v := iI (l1 + 1)) (lv' := [(1, .int (iI (l1 + 1))), (0, .ref (ad 14 0 0))]) hx hb d_15_53_86 hl (k := 0) rfl (iI_add _ 1) (by decide) rfl (fun ls hl => ?_)
      refine lv_goto (tgt := 73) hx hb (D_167 W_prog_15_method_53_code_64 25 rfl rfl rfl) (by decide) ?_
      exact ih hf hZ31 hS31 (lv_sub hl [0, 1] rfl)

def f_M_through_5 (K : Nat) : Nat → zF → zB → zO
  | 0, _, _ => none
  | n + 1, F, B => if 0 ≤ (F 14 0 6) ∧ (F 14 0 6) < 3 then if r32 (F 14 0 35) then if r32 (F 13 (F 14 0 6) 1) then (if (F 13 (F 14 0 6) 1) ≤ (F 14 0 35) then f_M_through_161 K F B else zbind (f_M_good K F B) (fun r6 F6 B6 => if r32 r6 then (if r6 = 0 then f_M_through_161 K F6 B6 else f_M_through_73 (f_M_through_5 K n) K K 0 (zup3 (zup3 (zup3 (zup3 (zup3 (zup3 (zup3 (zup3 (zup3 F6 14 0 36 0) 14 0 37 0) 14 0 38 0) 14 0 39 1) 14 0 40 4) 14 0 41 0) 14 0 45 0) 14 0 48 0) 14 0 50 0) B6) else none)) else none else none else none
set_option maxHeartbeats 4000000 in
set_option maxRecDepth 100000 in
theorem b_M_through_5 {D : va_G} {ca : Nat → ClassId} {ad : Nat → Int → Nat → Nat} {L : List Nat} {aS vS : Nat → Nat} {A : Nat → Prop} {p : Program} {l : Launch} {e : Env} {s : State} {m : MethodId} {args : Array Value} {below : List Frame} {meth : Method} {c : Code} {K : Nat} {r : Int} {F9 : zF} {B9 : zB} (X : zX D ca L aS vS A p s m args meth c prog_15_method_53_code 8 (Option.none : Option Jvm.ClassFile.FieldType) "StaveHouseModel") : ∀ {n : Nat}  {F : zF} {B : zB} {H : Heap} {locs : List Loc} {ls : Array Slot}, f_M_through_5 K n  F B = some (r, F9, B9) → zH D ca ad lnM nM L F B A H → va_S A s.heap H locs → lv_has ls 8 [(0, .ref (ad 14 0 0))] → W p l e ({ frames := 206, cells := 0, slots := 0, locals := 5739 } : Room) s m args below meth c H locs 0 0 (MQ below (Q_M_through D ca ad L r F9 B9 A) args s 0 0 A) (F0 m 5 ls []) := by
  obtain ⟨hx, hb, hr, hml, hown, hts, hlk, hK, hA, hL, hX⟩ := id X
  intro n
  induction n with
  | zero =>
    intros
    rename_i hf _ _ _
    cases hf
  | succ n ih =>
    intro F B H locs ls hf hZ hS hl
    replace hf : (if 0 ≤ (F 14 0 6) ∧ (F 14 0 6) < 3 then if r32 (F 14 0 35) then if r32 (F 13 (F 14 0 6) 1) then (if (F 13 (F 14 0 6) 1) ≤ (F 14 0 35) then f_M_through_161 K F B else zbind (f_M_good K F B) (fun r6 F6 B6 => if r32 r6 then (if r6 = 0 then f_M_through_161 K F6 B6 else f_M_through_73 (f_M_through_5 K n) K K 0 (zup3 (zup3 (zup3 (zup3 (zup3 (zup3 (zup3 (zup3 (zup3 F6 14 0 36 0) 14 0 37 0) 14 0 38 0) 14 0 39 1) 14 0 40 4) 14 0 41 0) 14 0 45 0) 14 0 48 0) 14 0 50 0) B6) else none)) else none else none else none) = some (r, F9, B9) := hf
    refine lv_aload_n hx hb (D_42 W_prog_15_method_53_code_0 5 rfl rfl) rfl (lv_at hl 0 rfl) ?_
    refine zget (ci := 14) (C := RX14) (T := TX14) (v := .int (iI (F 14 0 35))) (k := 35) hx hb hts inW_14 hown hK hZ (by decide) (by decide) rfl (by decide) k_11_33 rfl (D_180 W_prog_15_method_53_code_0 6 rfl rfl rfl) ?_
    refine lv_aload_n hx hb (D_42 W_prog_15_method_53_code_0 9 rfl rfl) rfl (lv_at hl 0 rfl) ?_
    refine zget (ci := 14) (C := RX14) (T := TX14) (v := va_rf (zrf ad 13 (F 14 0 6))) (k := 6) hx hb hts inW_14 hown hK hZ (by decide) (by decide) rfl (by decide) k_11_4 rfl (D_180 W_prog_15_method_53_code_0 10 rfl rfl rfl) ?_
    obtain ⟨g2, hf⟩ := gif hf
    refine zunrf g2.1 ?_
    refine zget (ci := 13) (C := RX13) (T := TX13) (v := .int (iI (F 13 (F 14 0 6) 1))) (k := 1) hx hb hts inW_13 hown hK hZ g2.1 g2.2 rfl (by decide) k_9_126 rfl (D_180 W_prog_15_method_53_code_0 13 rfl rfl rfl) ?_
    obtain ⟨g3, hf⟩ := gif hf
    obtain ⟨g4, hf⟩ := gif hf
    refine zge (tgt := 161) hx hb g3 g4 (D_162 W_prog_15_method_53_code_0 16 rfl rfl rfl) (by decide) (fun h5 => ?_) (fun h5 => ?_)
    · replace hf := gpos hf h5
      exact b_M_through_161 X hf hZ hS (lv_sub hl [0] rfl)
    · replace hf := gneg hf h5
      refine lv_aload_n hx hb (D_42 W_prog_15_method_53_code_0 19 rfl rfl) rfl (lv_at hl 0 rfl) ?_
      obtain ⟨r6, F6, B6, hc6, hf⟩ := gbind hf
      refine va_calli (va_runV (As := []) (rest := []) ⟨hx, hb, hml, hown, hts⟩ (c_M_good (l := l) hc6) (cwV 0 hts (gdV k_13_15 k_13_17 ks_152 k_1_9 k_13_18) rfl rfl rfl (by decide +kernel) ⟨Nat.le_of_ble_eq_true rfl, Nat.le_of_ble_eq_true rfl⟩) (zPV X hZ hS (ci := 14) (by decide) (by decide) (r := (RX14, TX14, 107)) rfl []) rfl rfl hl.1 rfl (lv_room (Nat.le_of_ble_eq_true rfl)) (D_182 W_prog_15_method_53_code_0 20 rfl rfl rfl) ⟨Nat.le_of_ble_eq_true rfl, Nat.le_of_ble_eq_true rfl⟩) hS (fun q _ h => zAin X hS q h) (zAin X hS) (fun p6 u6 t6 H6 locs6 ht6 hv6 hw6 hB6 hz6 hk6 hS6 => ?_)
      have hZ6 := zBack X ht6 hB6
      subst hw6
      obtain ⟨g7, hf⟩ := gif hf
      refine z0eq (tgt := 161) hx hb g7 (D_153 W_prog_15_method_53_code_0 23 rfl rfl rfl) (by decide) (fun h8 => ?_) (fun h8 => ?_)
      · replace hf := gpos hf h8
        exact b_M_through_161 X hf hZ6 hS6 (lv_sub hl [0] rfl)
      · replace hf := gneg hf h8
        refine lv_aload_n hx hb (D_42 W_prog_15_method_53_code_0 26 rfl rfl) rfl (lv_at hl 0 rfl) ?_
        refine lv_iconst (v := iI 0) hx hb (D_3 W_prog_15_method_53_code_0 27 rfl rfl) rfl ?_
        refine zput (ci := 14) (C := RX14) (T := TX14) (k := 36) (v := 0) (w := .int (iI 0)) hx hb hts inW_14 tyX14 tyX14_ok nmX14 hown hK hZ6 hS6 (by decide) (by decide) rfl (by decide) k_11_34 rfl (fun G h => congrArg (fun q => Value.int (iI q)) h) rfl rfl (zno (by decide)) (D_181 W_prog_15_method_53_code_0 28 rfl rfl rfl) (fun H9 locs9 hZ9 hS9 => ?_)
        refine lv_aload_n hx hb (D_42 W_prog_15_method_53_code_0 31 rfl rfl) rfl (lv_at hl 0 rfl) ?_
        refine lv_iconst (v := iI 0) hx hb (D_3 W_prog_15_method_53_code_32 0 rfl rfl) rfl ?_
        refine zput (ci := 14) (C := RX14) (T := TX14) (k := 37) (v := 0) (w := .int (iI 0)) hx hb hts inW_14 tyX14 tyX14_ok nmX14 hown hK hZ9 hS9 (by decide) (by decide) rfl (by decide) k_11_35 rfl (fun G h => congrArg (fun q => Value.int (iI q)) h) rfl rfl (zno (by decide)) (D_181 W_prog_15_method_53_code_32 1 rfl rfl rfl) (fun H10 locs10 hZ10 hS10 => ?_)
        refine lv_aload_n hx hb (D_42 W_prog_15_method_53_code_32 4 rfl rfl) rfl (lv_at hl 0 rfl) ?_
        refine lv_lconst (v := lI 0) hx hb (D_9 W_prog_15_method_53_code_32 5 rfl rfl) (by decide) ?_
        refine zput (ci := 14) (C := RX14) (T := TX14) (k := 38) (v := 0) (w := .long (lI 0)) hx hb hts inW_14 tyX14 tyX14_ok nmX14 hown hK hZ10 hS10 (by decide) (by decide) rfl (by decide) k_11_36 rfl (fun G h => congrArg (fun q => Value.long (lI q)) h) rfl rfl (zno (by decide)) (D_181 W_prog_15_method_53_code_32 6 rfl rfl rfl) (fun H11 locs11 hZ11 hS11 => ?_)
        refine lv_aload_n hx hb (D_42 W_prog_15_method_53_code_32 9 rfl rfl) rfl (lv_at hl 0 rfl) ?_
        refine lv_lconst (v := lI 1) hx hb (D_10 W_prog_15_method_53_code_32 10 rfl rfl) (by decide) ?_
        refine zput (ci := 14) (C := RX14) (T := TX14) (k := 39) (v := 1) (w := .long (lI 1)) hx hb hts inW_14 tyX14 tyX14_ok nmX14 hown hK hZ11 hS11 (by decide) (by decide) rfl (by decide) k_11_37 rfl (fun G h => congrArg (fun q => Value.long (lI q)) h) rfl rfl (zno (by decide)) (D_181 W_prog_15_method_53_code_32 11 rfl rfl rfl) (fun H12 locs12 hZ12 hS12 => ?_)
        refine lv_aload_n hx hb (D_42 W_prog_15_method_53_code_32 14 rfl rfl) rfl (lv_at hl 0 rfl) ?_
        refine lv_iconst (v := iI 4) hx hb (D_7 W_prog_15_method_53_code_32 15 rfl rfl) rfl ?_
        refine zput (ci := 14) (C := RX14) (T := TX14) (k := 40) (v := 4) (w := .int (iI 4)) hx hb hts inW_14 tyX14 tyX14_ok nmX14 hown hK hZ12 hS12 (by decide) (by decide) rfl (by decide) k_11_38 rfl (fun G h => congrArg (fun q => Value.int (iI q)) h) rfl rfl (zno (by decide)) (D_181 W_prog_15_method_53_code_32 16 rfl rfl rfl) (fun H13 locs13 hZ13 hS13 => ?_)
        refine lv_aload_n hx hb (D_42 W_prog_15_method_53_code_32 19 rfl rfl) rfl (lv_at hl 0 rfl) ?_
        refine lv_iconst (v := iI 0) hx hb (D_3 W_prog_15_method_53_code_32 20 rfl rfl) rfl ?_
        refine zput (ci := 14) (C := RX14) (T := TX14) (k := 41) (v := 0) (w := .int (iI 0)) hx hb hts inW_14 tyX14 tyX14_ok nmX14 hown hK hZ13 hS13 (by decide) (by decide) rfl (by decide) k_11_39 rfl (fun G h => congrArg (fun q => Value.int (iI q)) h) rfl rfl (zno (by decide)) (D_181 W_prog_15_method_53_code_32 21 rfl rfl rfl) (fun H14 locs14 hZ14 hS14 => ?_)
        refine lv_aload_n hx hb (D_42 W_prog_15_method_53_code_32 24 rfl rfl) rfl (lv_at hl 0 rfl) ?_
        refine lv_iconst (v := iI 0) hx hb (D_3 W_prog_15_method_53_code_32 25 rfl rfl) rfl ?_
        refine zput (ci := 14) (C := RX14) (T := TX14) (k := 45) (v := 0) (w := .int (iI 0)) hx hb hts inW_14 tyX14 tyX14_ok nmX14 hown hK hZ14 hS14 (by decide) (by decide) rfl (by decide) k_11_43 rfl (fun G h => congrArg (fun q => Value.int (iI q)) h) rfl rfl (zno (by decide)) (D_181 W_prog_15_method_53_code_32 26 rfl rfl rfl) (fun H15 locs15 hZ15 hS15 => ?_)
        refine lv_aload_n hx hb (D_42 W_prog_15_method_53_code_32 29 rfl rfl) rfl (lv_at hl 0 rfl) ?_
        refine lv_iconst (v := iI 0) hx hb (D_3 W_prog_15_method_53_code_32 30 rfl rfl) rfl ?_
        refine zput (ci := 14) (C := RX14) (T := TX14) (k := 48) (v := 0) (w := .int (iI 0)) hx hb hts inW_14 tyX14 tyX14_ok nmX14 hown hK hZ15 hS15 (by decide) (by decide) rfl (by decide) k_11_46 rfl (fun G h => congrArg (fun q => Value.int (iI q)) h) rfl rfl (zno (by decide)) (D_181 W_prog_15_method_53_code_32 31 rfl rfl rfl) (fun H16 locs16 hZ16 hS16 => ?_)
        refine lv_aload_n hx hb (D_42 W_prog_15_method_53_code_64 2 rfl rfl) rfl (lv_at hl 0 rfl) ?_
        refine lv_iconst (v := iI 0) hx hb (D_3 W_prog_15_method_53_code_64 3 rfl rfl) rfl ?_
        refine zput (ci := 14) (C := RX14) (T := TX14) (k := 50) (v := 0) (w := .int (iI 0)) hx hb hts inW_14 tyX14 tyX14_ok nmX14 hown hK hZ16 hS16 (by decide) (by decide) rfl (by decide) k_11_48 rfl (fun G h => congrArg (fun q => Value.int (iI q)) h) rfl rfl (zno (by decide)) (D_181 W_prog_15_method_53_code_64 4 rfl rfl rfl) (fun H17 locs17 hZ17 hS17 => ?_)
        refine lv_iconst (v := iI 0) hx hb (D_3 W_prog_15_method_53_code_64 7 rfl rfl) rfl ?_
        refine lv_istore_n (lv' := [(1, .int (iI 0)), (0, .ref (ad 14 0 0))]) hx hb (D_60 W_prog_15_method_53_code_64 8 rfl rfl) rfl hl (by decide) rfl (fun ls hl => ?_)
        exact b_M_through_73 X ih hf hZ17 hS17 (lv_sub hl [0, 1] rfl)

def f_M_through (K : Nat)  (F : zF) (B : zB) : zO := f_M_through_5 K K (zup3 F 14 0 35 0) B
set_option maxHeartbeats 4000000 in
set_option maxRecDepth 100000 in
theorem c_M_through {l : Launch} {D : va_G} {ca : Nat → ClassId} {ad : Nat → Int → Nat → Nat} {L : List Nat} {aS vS : Nat → Nat} {sz K : Nat}   {F F9 : zF} {B B9 : zB} {r : Int} (hf : f_M_through K  F B = some (r, F9, B9)) : Met l ({ cls := "StaveHouseModel", name := "through", desc := "()V" } : Jvm.MethodName) (Cond.code ({ cls := "StaveHouseModel", name := "through", desc := "()V" } : Jvm.MethodName) prog_15_method_53_code 8 (Option.none : Option Jvm.ClassFile.FieldType) :: wAll) ({ frames := 206, cells := 0, slots := 0, locals := 5739 } : Room) (va_Pc [.ref (ad 14 0 0)] (zPre D ca ad lnM nM L aS vS F B sz)) (Q_M_through D ca ad L r F9 B9 (zA L sz)) 0 0 (zA L sz) := by
  refine zMet (Qc := Q_M_through D ca ad L r F9 B9) (lv := [(0, .ref (ad 14 0 0))]) (by decide) (Nat.le_of_ble_eq_true rfl) rfl (fun A p e s m below meth c ls X hZ hS hl => ?_)
  obtain ⟨hx, hb, hr, hml, hown, hts, hlk, hK, hA, hL, hX⟩ := id X
  replace hf : (f_M_through_5 K K (zup3 F 14 0 35 0) B) = some (r, F9, B9) := hf
  refine lv_aload_n hx hb (D_42 W_prog_15_method_53_code_0 0 rfl rfl) rfl (lv_at hl 0 rfl) ?_
  refine lv_iconst (v := iI 0) hx hb (D_3 W_prog_15_method_53_code_0 1 rfl rfl) rfl ?_
  refine zput (ci := 14) (C := RX14) (T := TX14) (k := 35) (v := 0) (w := .int (iI 0)) hx hb hts inW_14 tyX14 tyX14_ok nmX14 hown hK hZ hS (by decide) (by decide) rfl (by decide) k_11_33 rfl (fun G h => congrArg (fun q => Value.int (iI q)) h) rfl rfl (zno (by decide)) (D_181 W_prog_15_method_53_code_0 2 rfl rfl rfl) (fun H1 locs1 hZ1 hS1 => ?_)
  exact b_M_through_5 X hf hZ1 hS1 (lv_sub hl [0] rfl)

