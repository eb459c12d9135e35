theorem k_1_190 : (Jvm.Cond.fieldLink "StaveHouse$Walker" (24 : Nat) "StaveHouse$Walker" "tree" "LStaveHouse$Parser;") ∈ wAll := wA_1 (j := 190) rfl rfl
theorem k_1_193 : (Jvm.Cond.fieldLink "StaveHouse$Walker" (36 : Nat) "StaveHouse$Walker" "gone" "I") ∈ wAll := wA_1 (j := 193) rfl rfl
theorem k_1_123 : (Jvm.Cond.fieldLink "StaveHouse$Walker" (188 : Nat) "StaveHouse$Parser" "pitchSteps" "[I") ∈ wAll := wA_1 (j := 123) rfl rfl
theorem k_1_208 : (Jvm.Cond.fieldLink "StaveHouse$Walker" (78 : Nat) "StaveHouse$Walker" "carries" "I") ∈ wAll := wA_1 (j := 208) rfl rfl
theorem k_1_205 : (Jvm.Cond.fieldLink "StaveHouse$Walker" (15 : Nat) "StaveHouse$Walker" "carrySigns" "[I") ∈ wAll := wA_1 (j := 205) rfl rfl
theorem k_1_206 : (Jvm.Cond.fieldLink "StaveHouse$Walker" (18 : Nat) "StaveHouse$Walker" "carrySteps" "[I") ∈ wAll := wA_1 (j := 206) rfl rfl
theorem k_1_207 : (Jvm.Cond.fieldLink "StaveHouse$Walker" (21 : Nat) "StaveHouse$Walker" "carryTones" "[I") ∈ wAll := wA_1 (j := 207) rfl rfl
theorem k_2_39 : (Jvm.Cond.fieldLink "StaveHouse$Part" (42 : Nat) "StaveHouse$Event" "marks" "I") ∈ wAll := wA_2 (j := 39) rfl rfl
theorem k_5_89 : (Jvm.Cond.methodLink "StaveHouse" (361 : Nat) ({ cls := "java/lang/Math", name := "max", desc := "(II)I" } : Jvm.MethodName)) ∈ wAll := wA_5 (j := 89) rfl rfl
theorem k_4_152 : (Jvm.Cond.fieldLink "StaveHouse$Part" (26 : Nat) "StaveHouse$Part" "known" "[I") ∈ wAll := wA_4 (j := 152) rfl rfl
theorem k_5_197 : (Jvm.Cond.fieldLink "StaveHouse$Study" (51 : Nat) "StaveHouse$Study" "moments" "I") ∈ wAll := wA_5 (j := 197) rfl rfl
theorem k_5_199 : (Jvm.Cond.fieldLink "StaveHouse$Study" (9 : Nat) "StaveHouse$Study" "places" "[J") ∈ wAll := wA_5 (j := 199) rfl rfl
theorem k_6_3 : (Jvm.Cond.methodLink "StaveHouse$Study" (67 : Nat) ({ cls := "java/lang/Math", name := "max", desc := "(II)I" } : Jvm.MethodName)) ∈ wAll := wA_6 (j := 3) rfl rfl
theorem k_5_126 : (Jvm.Cond.instanceMethod ({ cls := "StaveHouse$Part", name := "isTiedFrom", desc := "(II)Z" } : Jvm.MethodName)) ∈ wAll := wA_5 (j := 126) rfl rfl
theorem k_5_127 : (Jvm.Cond.selects "StaveHouse$Part" ({ cls := "StaveHouse$Part", name := "isTiedFrom", desc := "(II)Z" } : Jvm.MethodName) ({ cls := "StaveHouse$Part", name := "isTiedFrom", desc := "(II)Z" } : Jvm.MethodName)) ∈ wAll := wA_5 (j := 127) rfl rfl
theorem k_5_128 : (Jvm.Cond.code ({ cls := "StaveHouse$Part", name := "isTiedFrom", desc := "(II)Z" } : Jvm.MethodName) prog_6_method_8_code (4 : Nat) (Option.some Jvm.ClassFile.FieldType.boolean)) ∈ wAll := wA_5 (j := 128) rfl rfl
theorem k_3_181 : (Jvm.Cond.methodLink "StaveHouse$Parser" (170 : Nat) ({ cls := "StaveHouse$Parser", name := "isName", desc := "()Z" } : Jvm.MethodName)) ∈ wAll := wA_3 (j := 181) rfl rfl
theorem k_3_183 : (Jvm.Cond.instanceMethod ({ cls := "StaveHouse$Parser", name := "isName", desc := "()Z" } : Jvm.MethodName)) ∈ wAll := wA_3 (j := 183) rfl rfl
theorem ks_6 : (Jvm.Cond.selects "StaveHouse$Parser" ({ cls := "StaveHouse$Parser", name := "isName", desc := "()Z" } : Jvm.MethodName) ({ cls := "StaveHouse$Parser", name := "isName", desc := "()Z" } : Jvm.MethodName)) ∈ wAll := wA_s (j := 6) rfl rfl
theorem k_3_184 : (Jvm.Cond.code ({ cls := "StaveHouse$Parser", name := "isName", desc := "()Z" } : Jvm.MethodName) prog_5_method_12_code (3 : Nat) (Option.some Jvm.ClassFile.FieldType.boolean)) ∈ wAll := wA_3 (j := 184) rfl rfl
theorem k_3_200 : (Jvm.Cond.methodLink "StaveHouse$Parser" (177 : Nat) ({ cls := "StaveHouse$Parser", name := "letNamed", desc := "(J)I" } : Jvm.MethodName)) ∈ wAll := wA_3 (j := 200) rfl rfl
theorem k_3_202 : (Jvm.Cond.instanceMethod ({ cls := "StaveHouse$Parser", name := "letNamed", desc := "(J)I" } : Jvm.MethodName)) ∈ wAll := wA_3 (j := 202) rfl rfl
theorem ks_8 : (Jvm.Cond.selects "StaveHouse$Parser" ({ cls := "StaveHouse$Parser", name := "letNamed", desc := "(J)I" } : Jvm.MethodName) ({ cls := "StaveHouse$Parser", name := "letNamed", desc := "(J)I" } : Jvm.MethodName)) ∈ wAll := wA_s (j := 8) rfl rfl
theorem k_3_203 : (Jvm.Cond.code ({ cls := "StaveHouse$Parser", name := "letNamed", desc := "(J)I" } : Jvm.MethodName) prog_5_method_10_code (4 : Nat) (Option.some Jvm.ClassFile.FieldType.int)) ∈ wAll := wA_3 (j := 203) rfl rfl
theorem k_4_65 : (Jvm.Cond.methodLink "StaveHouse" (341 : Nat) ({ cls := "java/lang/Math", name := "floorDiv", desc := "(II)I" } : Jvm.MethodName)) ∈ wAll := wA_4 (j := 65) rfl rfl
theorem k_4_68 : (Jvm.Cond.fieldLink "StaveHouse" (346 : Nat) "StaveHouse" "NATURAL_TONES" "[I") ∈ wAll := wA_4 (j := 68) rfl rfl
theorem k_4_64 : (Jvm.Cond.code ({ cls := "StaveHouse", name := "naturalTone", desc := "(I)I" } : Jvm.MethodName) prog_1_method_37_code (1 : Nat) (Option.some Jvm.ClassFile.FieldType.int)) ∈ wAll := wA_4 (j := 64) rfl rfl
theorem k_4_63 : (Jvm.Cond.static ({ cls := "StaveHouse", name := "naturalTone", desc := "(I)I" } : Jvm.MethodName)) ∈ wAll := wA_4 (j := 63) rfl rfl
theorem k_2_197 : (Jvm.Cond.fieldLink "StaveHouse$Parser" (156 : Nat) "StaveHouse$Piece" "fifths" "I") ∈ wAll := wA_2 (j := 197) rfl rfl
theorem k_4_85 : (Jvm.Cond.constantLong "StaveHouse$Parser" (159 : Nat) (469920280434 : Int64)) ∈ wAll := wA_4 (j := 85) rfl rfl
theorem k_2_203 : (Jvm.Cond.fieldLink "StaveHouse$Parser" (161 : Nat) "StaveHouse$Piece" "minor" "I") ∈ wAll := wA_2 (j := 203) rfl rfl
theorem k_4_86 : (Jvm.Cond.constantLong "StaveHouse$Parser" (164 : Nat) (469785800562 : Int64)) ∈ wAll := wA_4 (j := 86) rfl rfl
theorem k_2_208 : (Jvm.Cond.fieldLink "StaveHouse$Parser" (143 : Nat) "StaveHouse$Piece" "above" "I") ∈ wAll := wA_2 (j := 208) rfl rfl
theorem k_2_213 : (Jvm.Cond.fieldLink "StaveHouse$Parser" (150 : Nat) "StaveHouse$Piece" "below" "I") ∈ wAll := wA_2 (j := 213) rfl rfl
theorem k_4_204 : (Jvm.Cond.methodLink "StaveHouse$Walker" (108 : Nat) ({ cls := "StaveHouse$Walker", name := "refuse", desc := "(II)V" } : Jvm.MethodName)) ∈ wAll := wA_4 (j := 204) rfl rfl
theorem k_4_206 : (Jvm.Cond.instanceMethod ({ cls := "StaveHouse$Walker", name := "refuse", desc := "(II)V" } : Jvm.MethodName)) ∈ wAll := wA_4 (j := 206) rfl rfl
theorem ks_36 : (Jvm.Cond.selects "StaveHouse$Walker" ({ cls := "StaveHouse$Walker", name := "refuse", desc := "(II)V" } : Jvm.MethodName) ({ cls := "StaveHouse$Walker", name := "refuse", desc := "(II)V" } : Jvm.MethodName)) ∈ wAll := wA_s (j := 36) rfl rfl
theorem k_1_6 : (Jvm.Cond.initialized "StaveHouse$Walker") ∈ wAll := wA_1 (j := 6) rfl rfl
theorem k_4_207 : (Jvm.Cond.code ({ cls := "StaveHouse$Walker", name := "refuse", desc := "(II)V" } : Jvm.MethodName) prog_13_method_3_code (3 : Nat) (Option.none : Option Jvm.ClassFile.FieldType)) ∈ wAll := wA_4 (j := 207) rfl rfl
theorem k_1_125 : (Jvm.Cond.fieldLink "StaveHouse$Walker" (194 : Nat) "StaveHouse$Parser" "pitchAlterations" "[I") ∈ wAll := wA_1 (j := 125) rfl rfl
theorem k_4_228 : (Jvm.Cond.methodLink "StaveHouse$Walker" (197 : Nat) ({ cls := "java/lang/Math", name := "abs", desc := "(I)I" } : Jvm.MethodName)) ∈ wAll := wA_4 (j := 228) rfl rfl
theorem k_4_231 : (Jvm.Cond.methodLink "StaveHouse$Walker" (202 : Nat) ({ cls := "StaveHouse$Event", name := "insert", desc := "(II)Z" } : Jvm.MethodName)) ∈ wAll := wA_4 (j := 231) rfl rfl
theorem k_1_127 : (Jvm.Cond.fieldLink "StaveHouse$Walker" (206 : Nat) "StaveHouse$Parser" "pitchPlaces" "[I") ∈ wAll := wA_1 (j := 127) rfl rfl
theorem k_5_45 : (Jvm.Cond.methodLink "StaveHouse$Event" (29 : Nat) ({ cls := "StaveHouse$Event", name := "hasPitch", desc := "(II)Z" } : Jvm.MethodName)) ∈ wAll := wA_5 (j := 45) rfl rfl
theorem k_5_67 : (Jvm.Cond.methodLink "StaveHouse" (358 : Nat) ({ cls := "StaveHouse", name := "fineValue", desc := "(I)I" } : Jvm.MethodName)) ∈ wAll := wA_5 (j := 67) rfl rfl
theorem k_5_68 : (Jvm.Cond.static ({ cls := "StaveHouse", name := "fineValue", desc := "(I)I" } : Jvm.MethodName)) ∈ wAll := wA_5 (j := 68) rfl rfl
theorem k_5_69 : (Jvm.Cond.code ({ cls := "StaveHouse", name := "fineValue", desc := "(I)I" } : Jvm.MethodName) prog_1_method_40_code (1 : Nat) (Option.some Jvm.ClassFile.FieldType.int)) ∈ wAll := wA_5 (j := 69) rfl rfl
theorem k_5_90 : (Jvm.Cond.methodLink "StaveHouse" (364 : Nat) ({ cls := "StaveHouse", name := "beatCount", desc := "(II)I" } : Jvm.MethodName)) ∈ wAll := wA_5 (j := 90) rfl rfl
theorem k_5_93 : (Jvm.Cond.methodLink "StaveHouse" (367 : Nat) ({ cls := "StaveHouse", name := "strength", desc := "(IIII)I" } : Jvm.MethodName)) ∈ wAll := wA_5 (j := 93) rfl rfl
theorem k_5_94 : (Jvm.Cond.static ({ cls := "StaveHouse", name := "strength", desc := "(IIII)I" } : Jvm.MethodName)) ∈ wAll := wA_5 (j := 94) rfl rfl
theorem k_5_95 : (Jvm.Cond.code ({ cls := "StaveHouse", name := "strength", desc := "(IIII)I" } : Jvm.MethodName) prog_1_method_43_code (5 : Nat) (Option.some Jvm.ClassFile.FieldType.int)) ∈ wAll := wA_5 (j := 95) rfl rfl
theorem k_5_99 : (Jvm.Cond.methodLink "StaveHouse" (375 : Nat) ({ cls := "StaveHouse", name := "greatestValue", desc := "(I)I" } : Jvm.MethodName)) ∈ wAll := wA_5 (j := 99) rfl rfl
theorem k_5_65 : (Jvm.Cond.static ({ cls := "StaveHouse", name := "greatestValue", desc := "(I)I" } : Jvm.MethodName)) ∈ wAll := wA_5 (j := 65) rfl rfl
theorem k_5_66 : (Jvm.Cond.code ({ cls := "StaveHouse", name := "greatestValue", desc := "(I)I" } : Jvm.MethodName) prog_1_method_41_code (2 : Nat) (Option.some Jvm.ClassFile.FieldType.int)) ∈ wAll := wA_5 (j := 66) rfl rfl
theorem k_5_96 : (Jvm.Cond.methodLink "StaveHouse" (371 : Nat) ({ cls := "StaveHouse", name := "strengthBetween", desc := "(IIIII)I" } : Jvm.MethodName)) ∈ wAll := wA_5 (j := 96) rfl rfl
theorem k_5_97 : (Jvm.Cond.static ({ cls := "StaveHouse", name := "strengthBetween", desc := "(IIIII)I" } : Jvm.MethodName)) ∈ wAll := wA_5 (j := 97) rfl rfl
theorem k_5_98 : (Jvm.Cond.code ({ cls := "StaveHouse", name := "strengthBetween", desc := "(IIIII)I" } : Jvm.MethodName) prog_1_method_44_code (7 : Nat) (Option.some Jvm.ClassFile.FieldType.int)) ∈ wAll := wA_5 (j := 98) rfl rfl
theorem k_5_125 : (Jvm.Cond.methodLink "StaveHouse$Part" (203 : Nat) ({ cls := "StaveHouse$Part", name := "isTiedFrom", desc := "(II)Z" } : Jvm.MethodName)) ∈ wAll := wA_5 (j := 125) rfl rfl
theorem k_5_157 : (Jvm.Cond.methodLink "StaveHouse$Part" (221 : Nat) ({ cls := "StaveHouse$Part", name := "beamsWith", desc := "(IIJ)Z" } : Jvm.MethodName)) ∈ wAll := wA_5 (j := 157) rfl rfl
theorem k_5_159 : (Jvm.Cond.instanceMethod ({ cls := "StaveHouse$Part", name := "beamsWith", desc := "(IIJ)Z" } : Jvm.MethodName)) ∈ wAll := wA_5 (j := 159) rfl rfl
theorem ks_63 : (Jvm.Cond.selects "StaveHouse$Part" ({ cls := "StaveHouse$Part", name := "beamsWith", desc := "(IIJ)Z" } : Jvm.MethodName) ({ cls := "StaveHouse$Part", name := "beamsWith", desc := "(IIJ)Z" } : Jvm.MethodName)) ∈ wAll := wA_s (j := 63) rfl rfl
theorem k_5_160 : (Jvm.Cond.code ({ cls := "StaveHouse$Part", name := "beamsWith", desc := "(IIJ)Z" } : Jvm.MethodName) prog_6_method_23_code (5 : Nat) (Option.some Jvm.ClassFile.FieldType.boolean)) ∈ wAll := wA_5 (j := 160) rfl rfl
theorem k_5_161 : (Jvm.Cond.methodLink "StaveHouse$Part" (225 : Nat) ({ cls := "java/lang/Math", name := "min", desc := "(II)I" } : Jvm.MethodName)) ∈ wAll := wA_5 (j := 161) rfl rfl
theorem k_6_4 : (Jvm.Cond.methodLink "StaveHouse$Study" (73 : Nat) ({ cls := "StaveHouse$Study", name := "nextPlace", desc := "(LStaveHouse$Piece;I)J" } : Jvm.MethodName)) ∈ wAll := wA_6 (j := 4) rfl rfl
theorem k_6_6 : (Jvm.Cond.instanceMethod ({ cls := "StaveHouse$Study", name := "nextPlace", desc := "(LStaveHouse$Piece;I)J" } : Jvm.MethodName)) ∈ wAll := wA_6 (j := 6) rfl rfl
theorem ks_67 : (Jvm.Cond.selects "StaveHouse$Study" ({ cls := "StaveHouse$Study", name := "nextPlace", desc := "(LStaveHouse$Piece;I)J" } : Jvm.MethodName) ({ cls := "StaveHouse$Study", name := "nextPlace", desc := "(LStaveHouse$Piece;I)J" } : Jvm.MethodName)) ∈ wAll := wA_s (j := 67) rfl rfl
theorem k_6_7 : (Jvm.Cond.code ({ cls := "StaveHouse$Study", name := "nextPlace", desc := "(LStaveHouse$Piece;I)J" } : Jvm.MethodName) prog_11_method_4_code (8 : Nat) (Option.some Jvm.ClassFile.FieldType.long)) ∈ wAll := wA_6 (j := 7) rfl rfl
theorem W_prog_5_method_18_code_0 : chW prog_5_method_18_code 0 [42, 89, 180, 0, 72, 4, 100, 181, 0, 72, 42, 27, 182, 0, 146, 172] := chW_of (by decide +kernel)
theorem W_prog_5_method_33_code_0 : chW prog_5_method_33_code 0 [42, 182, 0, 170, 154, 0, 9, 42, 5, 182, 0, 101, 172, 42, 42, 180, 0, 48, 180, 0, 173, 182, 0, 177, 61, 28, 2, 160, 0, 9, 42, 7, 182, 0, 101, 172] := chW_of (by decide +kernel)
theorem W_prog_1_method_37_code_0 : chW prog_1_method_37_code 0 [16, 12, 26, 16, 7, 184, 1, 85, 4, 96, 104, 178, 1, 90, 26, 16, 7, 184, 1, 93, 46, 96, 172] := chW_of (by decide +kernel)
theorem W_prog_5_method_8_code_0 : chW prog_5_method_8_code 0 [42, 180, 0, 48, 16, 45, 182, 0, 153, 61, 28, 153, 0, 10, 42, 180, 0, 48, 182, 0, 122, 42, 3, 16, 7, 3, 182, 0, 131, 154, 0, 5, 3, 172, 43, 28] := chW_of (by decide +kernel)
theorem W_prog_5_method_7_code_0 : chW prog_5_method_7_code 0 [42, 4, 16, 12, 3, 182, 0, 131, 154, 0, 5, 3, 172, 43, 42, 180, 0, 135, 181, 0, 143, 42, 16, 47, 182, 0, 146, 153, 0, 14, 42, 5, 16, 16, 4, 182] := chW_of (by decide +kernel)
theorem W_prog_13_method_5_code_0 : chW prog_13_method_5_code 0 [42, 89, 180, 0, 36, 4, 96, 181, 0, 36, 42, 180, 0, 36, 17, 19, 136, 164, 0, 10, 42, 16, 8, 27, 182, 0, 108, 177] := chW_of (by decide +kernel)
theorem W_prog_13_method_14_code_0 : chW prog_13_method_14_code 0 [42, 180, 0, 24, 180, 0, 188, 28, 46, 62, 29, 184, 0, 191, 42, 180, 0, 24, 180, 0, 194, 28, 46, 96, 54, 4, 4, 54, 5, 42, 180, 0, 78, 4, 100, 54] := chW_of (by decide +kernel)
theorem W_prog_6_method_3_code_0 : chW prog_6_method_3_code 0 [27, 61, 42, 180, 0, 31, 4, 100, 62, 28, 29, 162, 0, 40, 42, 180, 0, 11, 28, 50, 58, 4, 42, 180, 0, 11, 28, 42, 180, 0, 11, 29, 50, 83, 42, 180] := chW_of (by decide +kernel)
theorem W_prog_6_method_3_code_32 : chW prog_6_method_3_code 32 [50, 83, 42, 180, 0, 11, 29, 25, 4, 83, 132, 2, 1, 132, 3, 255, 167, 255, 217, 27, 62, 29, 42, 180, 0, 31, 162, 0, 107, 42, 180, 0, 11, 29, 50, 58] := chW_of (by decide +kernel)
theorem d_6_3_42 : decode prog_6_method_3_code 42 = .ok (.iinc 2 1, 3) := D_132 W_prog_6_method_3_code_32 10 rfl rfl rfl
theorem d_6_3_45 : decode prog_6_method_3_code 45 = .ok (.iinc 3 (-1), 3) := D_132 W_prog_6_method_3_code_32 13 rfl rfl rfl
theorem W_prog_6_method_3_code_160 : chW prog_6_method_3_code 160 [3, 1, 167, 255, 147, 177] := chW_of (by decide +kernel)
theorem W_prog_6_method_3_code_64 : chW prog_6_method_3_code 64 [11, 29, 50, 58, 4, 25, 4, 180, 0, 42, 16, 248, 126, 54, 5, 21, 5, 25, 4, 5, 182, 0, 45, 153, 0, 7, 7, 167, 0, 4, 3, 128, 54, 5, 21, 5] := chW_of (by decide +kernel)
theorem W_prog_3_method_7_code_0 : chW prog_3_method_7_code 0 [3, 61, 3, 62, 29, 42, 180, 0, 18, 162, 0, 38, 28, 43, 42, 180, 0, 9, 29, 46, 42, 180, 0, 15, 29, 46, 182, 0, 29, 153, 0, 9, 4, 29, 120, 167] := chW_of (by decide +kernel)
theorem W_prog_3_method_7_code_32 : chW prog_3_method_7_code 32 [4, 29, 120, 167, 0, 4, 3, 128, 61, 132, 3, 1, 167, 255, 216, 28, 172] := chW_of (by decide +kernel)
theorem W_prog_1_method_41_code_0 : chW prog_1_method_41_code 0 [3, 60, 27, 16, 24, 162, 0, 19, 27, 184, 1, 102, 26, 163, 0, 5, 27, 172, 132, 1, 1, 167, 255, 237, 16, 23, 172] := chW_of (by decide +kernel)
theorem W_prog_1_method_42_code_0 : chW prog_1_method_42_code 0 [17, 2, 0, 27, 4, 184, 1, 105, 108, 54, 4, 21, 4, 26, 104, 54, 5, 21, 4, 26, 27, 184, 1, 108, 104, 54, 6, 21, 5, 21, 6, 21, 4, 28, 184, 1] := chW_of (by decide +kernel)
theorem W_prog_6_method_18_code_0 : chW prog_6_method_18_code 0 [42, 180, 0, 11, 27, 50, 77, 3, 62, 3, 54, 4, 21, 4, 44, 180, 0, 188, 162, 0, 66, 44, 180, 0, 99, 21, 4, 46, 54, 5, 42, 27, 21, 4, 182, 0] := chW_of (by decide +kernel)
theorem W_prog_6_method_18_code_64 : chW prog_6_method_18_code 64 [42, 180, 0, 26, 21, 5, 44, 180, 0, 102, 21, 4, 46, 79, 132, 4, 1, 167, 255, 187, 29, 172] := chW_of (by decide +kernel)
theorem W_prog_6_method_18_code_32 : chW prog_6_method_18_code 32 [21, 4, 182, 0, 203, 154, 0, 41, 42, 180, 0, 26, 21, 5, 46, 44, 180, 0, 102, 21, 4, 46, 159, 0, 24, 29, 4, 21, 4, 120, 128, 62, 42, 180, 0, 26] := chW_of (by decide +kernel)
theorem W_prog_6_method_21_code_0 : chW prog_6_method_21_code 0 [3, 60, 27, 42, 180, 0, 35, 162, 0, 61, 3, 61, 42, 27, 182, 0, 191, 154, 0, 35, 28, 42, 27, 182, 0, 212, 16, 8, 100, 3, 184, 0, 181, 5, 108, 96] := chW_of (by decide +kernel)
theorem W_prog_6_method_21_code_64 : chW prog_6_method_21_code 64 [1, 167, 255, 193, 177] := chW_of (by decide +kernel)
theorem W_prog_6_method_24_code_0 : chW prog_6_method_24_code 0 [3, 62, 3, 54, 4, 3, 54, 5, 21, 5, 17, 3, 32, 162, 0, 194, 21, 4, 42, 180, 0, 35, 162, 0, 185, 31, 9, 148, 158, 0, 179, 4, 54, 6, 42, 21] := chW_of (by decide +kernel)
theorem W_prog_6_method_24_code_32 : chW prog_6_method_24_code 32 [54, 6, 42, 21, 4, 182, 0, 218, 153, 0, 36, 21, 4, 21, 6, 96, 42, 180, 0, 35, 162, 0, 24, 42, 21, 4, 21, 4, 21, 6, 96, 31, 182, 0, 221, 153] := chW_of (by decide +kernel)
theorem W_prog_11_method_3_code_0 : chW prog_11_method_3_code 0 [42, 3, 181, 0, 51, 3, 61, 28, 7, 162, 0, 18, 42, 180, 0, 20, 28, 50, 3, 2, 79, 132, 2, 1, 167, 255, 239, 3, 61, 28, 42, 180, 0, 9, 190, 162] := chW_of (by decide +kernel)
theorem d_11_3_21 : decode prog_11_method_3_code 21 = .ok (.iinc 2 1, 3) := D_132 W_prog_11_method_3_code_0 21 rfl rfl rfl
theorem W_prog_11_method_3_code_32 : chW prog_11_method_3_code 32 [0, 9, 190, 162, 0, 145, 42, 43, 28, 4, 100, 3, 184, 0, 67, 182, 0, 73, 66, 33, 9, 148, 156, 0, 4, 177, 42, 180, 0, 9, 28, 33, 80, 3, 54, 5] := chW_of (by decide +kernel)
theorem W_prog_11_method_3_code_160 : chW prog_11_method_3_code 160 [79, 132, 5, 1, 167, 255, 160, 42, 28, 4, 96, 181, 0, 51, 132, 2, 1, 167, 255, 108, 177] := chW_of (by decide +kernel)
theorem W_prog_5_method_33_code_32 : chW prog_5_method_33_code 32 [182, 0, 101, 172, 42, 180, 0, 18, 27, 28, 79, 42, 180, 0, 48, 182, 0, 122, 4, 172] := chW_of (by decide +kernel)
theorem W_prog_5_method_8_code_32 : chW prog_5_method_8_code 32 [3, 172, 43, 28, 153, 0, 11, 42, 180, 0, 135, 116, 167, 0, 7, 42, 180, 0, 135, 181, 0, 156, 43, 42, 180, 0, 48, 20, 0, 159, 182, 0, 88, 153, 0, 7] := chW_of (by decide +kernel)
theorem W_prog_5_method_8_code_64 : chW prog_5_method_8_code 64 [88, 153, 0, 7, 4, 167, 0, 4, 3, 181, 0, 161, 42, 180, 0, 48, 20, 0, 159, 182, 0, 88, 154, 0, 22, 42, 180, 0, 48, 20, 0, 164, 182, 0, 88, 154] := chW_of (by decide +kernel)
theorem W_prog_5_method_8_code_96 : chW prog_5_method_8_code 96 [182, 0, 88, 154, 0, 9, 42, 5, 182, 0, 101, 172, 42, 180, 0, 48, 182, 0, 122, 4, 172] := chW_of (by decide +kernel)
theorem W_prog_5_method_7_code_32 : chW prog_5_method_7_code 32 [16, 16, 4, 182, 0, 131, 154, 0, 5, 3, 172, 43, 42, 180, 0, 135, 181, 0, 150, 4, 172] := chW_of (by decide +kernel)
theorem W_prog_13_method_14_code_32 : chW prog_13_method_14_code 32 [78, 4, 100, 54, 6, 21, 6, 155, 0, 83, 21, 5, 153, 0, 78, 42, 180, 0, 18, 21, 6, 46, 42, 180, 0, 15, 21, 6, 46, 29, 104, 96, 62, 42, 180, 0] := chW_of (by decide +kernel)
theorem W_prog_13_method_14_code_64 : chW prog_13_method_14_code 64 [62, 42, 180, 0, 21, 21, 6, 46, 42, 180, 0, 15, 21, 6, 46, 21, 4, 104, 96, 54, 4, 29, 155, 0, 27, 29, 16, 63, 162, 0, 21, 21, 4, 29, 184, 0] := chW_of (by decide +kernel)
theorem W_prog_13_method_14_code_96 : chW prog_13_method_14_code 96 [4, 29, 184, 0, 191, 100, 184, 0, 197, 5, 163, 0, 7, 4, 167, 0, 4, 3, 54, 5, 132, 6, 255, 167, 255, 174, 21, 5, 153, 0, 18, 43, 29, 21, 4, 29] := chW_of (by decide +kernel)
theorem d_13_14_116 : decode prog_13_method_14_code 116 = .ok (.iinc 6 (-1), 3) := D_132 W_prog_13_method_14_code_96 20 rfl rfl rfl
theorem W_prog_13_method_14_code_128 : chW prog_13_method_14_code 128 [29, 21, 4, 29, 184, 0, 191, 100, 182, 0, 202, 154, 0, 18, 42, 16, 9, 42, 180, 0, 24, 180, 0, 206, 28, 46, 182, 0, 108, 177] := chW_of (by decide +kernel)
theorem W_prog_6_method_3_code_96 : chW prog_6_method_3_code 96 [54, 5, 21, 5, 25, 4, 7, 182, 0, 45, 153, 0, 7, 5, 167, 0, 4, 3, 128, 54, 5, 21, 5, 29, 4, 96, 42, 180, 0, 31, 162, 0, 22, 42, 180, 0] := chW_of (by decide +kernel)
theorem W_prog_6_method_3_code_128 : chW prog_6_method_3_code 128 [22, 42, 180, 0, 11, 29, 4, 96, 50, 4, 182, 0, 45, 153, 0, 7, 4, 167, 0, 4, 3, 128, 54, 5, 25, 4, 21, 5, 181, 0, 42, 132, 3, 1, 167, 255] := chW_of (by decide +kernel)
theorem d_6_3_159 : decode prog_6_method_3_code 159 = .ok (.iinc 3 1, 3) := D_132 W_prog_6_method_3_code_128 31 rfl rfl rfl
theorem d_3_7_41 : decode prog_3_method_7_code 41 = .ok (.iinc 3 1, 3) := D_132 W_prog_3_method_7_code_32 9 rfl rfl rfl
theorem d_1_41_18 : decode prog_1_method_41_code 18 = .ok (.iinc 1 1, 3) := D_132 W_prog_1_method_41_code_0 18 rfl rfl rfl
theorem W_prog_1_method_42_code_32 : chW prog_1_method_42_code 32 [4, 28, 184, 1, 111, 54, 7, 3, 54, 8, 21, 8, 16, 24, 162, 0, 64, 28, 21, 8, 184, 1, 102, 96, 54, 9, 21, 9, 28, 29, 96, 163, 0, 41, 21, 7] := chW_of (by decide +kernel)
theorem W_prog_1_method_42_code_96 : chW prog_1_method_42_code 96 [21, 10, 163, 0, 6, 21, 8, 172, 132, 8, 1, 167, 255, 191, 29, 184, 1, 119, 172] := chW_of (by decide +kernel)
theorem W_prog_1_method_42_code_64 : chW prog_1_method_42_code 64 [0, 41, 21, 7, 21, 5, 21, 6, 21, 4, 21, 9, 184, 1, 111, 184, 1, 105, 54, 10, 21, 5, 21, 6, 21, 4, 28, 21, 9, 184, 1, 115, 21, 10, 163, 0] := chW_of (by decide +kernel)
theorem d_1_42_104 : decode prog_1_method_42_code 104 = .ok (.iinc 8 1, 3) := D_132 W_prog_1_method_42_code_96 8 rfl rfl rfl
theorem d_6_18_78 : decode prog_6_method_18_code 78 = .ok (.iinc 4 1, 3) := D_132 W_prog_6_method_18_code_64 14 rfl rfl rfl
theorem W_prog_6_method_21_code_32 : chW prog_6_method_21_code 32 [181, 5, 108, 96, 61, 28, 42, 27, 182, 0, 215, 116, 3, 184, 0, 181, 5, 108, 96, 61, 42, 180, 0, 19, 16, 8, 50, 27, 28, 79, 132, 1, 1, 167, 255, 193] := chW_of (by decide +kernel)
theorem d_6_21_62 : decode prog_6_method_21_code 62 = .ok (.iinc 1 1, 3) := D_132 W_prog_6_method_21_code_32 30 rfl rfl rfl
theorem W_prog_6_method_24_code_64 : chW prog_6_method_24_code 64 [182, 0, 221, 153, 0, 9, 132, 6, 1, 167, 255, 217, 21, 4, 54, 7, 21, 7, 21, 4, 21, 6, 96, 162, 0, 93, 21, 7, 4, 96, 21, 4, 21, 6, 96, 162] := chW_of (by decide +kernel)
theorem d_6_24_70 : decode prog_6_method_24_code 70 = .ok (.iinc 6 1, 3) := D_132 W_prog_6_method_24_code_64 6 rfl rfl rfl
theorem W_prog_6_method_24_code_160 : chW prog_6_method_24_code 160 [7, 4, 96, 46, 184, 0, 225, 5, 100, 167, 0, 4, 3, 79, 132, 7, 1, 167, 255, 159, 29, 21, 6, 4, 164, 0, 7, 4, 167, 0, 4, 3, 96, 62, 21, 4] := chW_of (by decide +kernel)
theorem W_prog_6_method_24_code_96 : chW prog_6_method_24_code 96 [21, 6, 96, 162, 0, 7, 4, 167, 0, 4, 3, 54, 8, 42, 180, 0, 19, 16, 9, 50, 21, 7, 21, 6, 4, 164, 0, 7, 29, 167, 0, 4, 2, 79, 42, 180] := chW_of (by decide +kernel)
theorem W_prog_6_method_24_code_128 : chW prog_6_method_24_code 128 [2, 79, 42, 180, 0, 19, 16, 10, 50, 21, 7, 21, 8, 153, 0, 31, 42, 180, 0, 19, 7, 50, 21, 7, 46, 42, 180, 0, 19, 7, 50, 21, 7, 4, 96, 46] := chW_of (by decide +kernel)
theorem d_6_24_174 : decode prog_6_method_24_code 174 = .ok (.iinc 7 1, 3) := D_132 W_prog_6_method_24_code_160 14 rfl rfl rfl
theorem W_prog_6_method_24_code_192 : chW prog_6_method_24_code 192 [96, 62, 21, 4, 21, 6, 96, 54, 4, 132, 5, 1, 167, 255, 60, 177] := chW_of (by decide +kernel)
theorem d_6_24_201 : decode prog_6_method_24_code 201 = .ok (.iinc 5 1, 3) := D_132 W_prog_6_method_24_code_192 9 rfl rfl rfl
theorem W_prog_11_method_3_code_64 : chW prog_11_method_3_code 64 [80, 3, 54, 5, 21, 5, 43, 180, 0, 58, 162, 0, 93, 43, 180, 0, 77, 21, 5, 50, 58, 6, 42, 180, 0, 20, 21, 5, 50, 28, 4, 100, 3, 184, 0, 67] := chW_of (by decide +kernel)
theorem d_11_3_174 : decode prog_11_method_3_code 174 = .ok (.iinc 2 1, 3) := D_132 W_prog_11_method_3_code_160 14 rfl rfl rfl
theorem W_prog_11_method_3_code_96 : chW prog_11_method_3_code 96 [3, 184, 0, 67, 46, 4, 96, 54, 7, 21, 7, 25, 6, 180, 0, 81, 162, 0, 23, 25, 6, 180, 0, 86, 21, 7, 50, 180, 0, 90, 33, 148, 154, 0, 7, 4] := chW_of (by decide +kernel)
theorem W_prog_11_method_3_code_128 : chW prog_11_method_3_code 128 [154, 0, 7, 4, 167, 0, 4, 3, 54, 8, 42, 180, 0, 20, 21, 5, 50, 28, 21, 8, 153, 0, 8, 21, 7, 167, 0, 7, 21, 7, 4, 100, 79, 132, 5, 1] := chW_of (by decide +kernel)
theorem d_11_3_161 : decode prog_11_method_3_code 161 = .ok (.iinc 5 1, 3) := D_132 W_prog_11_method_3_code_160 1 rfl rfl rfl
abbrev Q_Parser_takeClosing (K : zK) (D : va_G) (ca : Nat → ClassId) (ad : Nat → Int → Nat → Nat) (L : List Nat) (r : Int) (F : zF) (B : zB) (A : Nat → Prop) : Array Value → State → Outcome → State → Prop := va_Qi (S := Unit) (fun p _ => p = iI r) (fun _ => zPo D ca ad lnC K.2 L F B A) A
def f_Parser_takeClosing (K : zK) (l0 : Int) (l1 : Int) (F : zF) (B : zB) : zO := if 0 ≤ l0 ∧ l0 < K.2 3 then zbind (f_Parser_takeSign K l0 l1 (zup3 F 3 l0 18 ((F 3 l0 18) - 1)) B) (fun r3 F3 B3 => if (r3 = 0 ∨ r3 = 1) then some (r3, F3, B3) else none) else none
set_option maxHeartbeats 4000000 in
set_option maxRecDepth 100000 in
theorem c_Parser_takeClosing {l : Launch} {D : va_G} {ca : Nat → ClassId} {ad : Nat → Int → Nat → Nat} {L : List Nat} {aS vS : Nat → Nat} {sz : Nat} {K : zK}  {l0 : Int} {l1 : Int} {F F9 : zF} {B B9 : zB} {r : Int} (hf : f_Parser_takeClosing K l0 l1 F B = some (r, F9, B9)) : Met l ({ cls := "StaveHouse$Parser", name := "takeClosing", desc := "(C)Z" } : Jvm.MethodName) (Cond.code ({ cls := "StaveHouse$Parser", name := "takeClosing", desc := "(C)Z" } : Jvm.MethodName) prog_5_method_18_code 2 (Option.some Jvm.ClassFile.FieldType.boolean) :: wAll) ({ frames := 2, cells := 0, slots := 0, locals := 42 } : Room) (va_Pc [.ref (ad 3 l0 0), .int (iI l1)] (zPre D ca ad lnC K.2 L aS vS F B sz)) (Q_Parser_takeClosing K D ca ad L r F9 B9 (zA L sz)) 0 0 (zA L sz) := by
  refine zMet (Qc := Q_Parser_takeClosing K D ca ad L r F9 B9) (lv := [(0, .ref (ad 3 l0 0)), (1, .int (iI l1))]) (by decide) (Nat.le_of_ble_eq_true rfl) rfl (fun A p e s m below meth c ls X hZ hS hl => ?_)
  obtain ⟨hx, hb, hr, hml, hown, hts, hlk, hK, hA, hL, hX⟩ := id X
  replace hf : (if 0 ≤ l0 ∧ l0 < K.2 3 then zbind (f_Parser_takeSign K l0 l1 (zup3 F 3 l0 18 ((F 3 l0 18) - 1)) B) (fun r3 F3 B3 => if (r3 = 0 ∨ r3 = 1) then some (r3, F3, B3) else none) else none) = some (r, F9, B9) := hf
  refine lv_aload_n hx hb (D_42 W_prog_5_method_18_code_0 0 rfl rfl) rfl (lv_at hl 0 rfl) ?_
  refine lv_dup hx hb (D_89 W_prog_5_method_18_code_0 1 rfl rfl) rfl ?_
  obtain ⟨g1, hf⟩ := gif hf
  refine zget (ci := 3) (C := RX3) (T := TX3) (v := .int (iI (F 3 l0 18))) (k := 18) hx hb hts inW_3 hown hK hZ g1.1 g1.2 rfl (by decide) k_1_135 rfl (D_180 W_prog_5_method_18_code_0 2 rfl rfl rfl) ?_
  refine lv_iconst (v := iI 1) hx hb (D_4 W_prog_5_method_18_code_0 5 rfl rfl) rfl ?_
  refine zsub hx hb (D_100 W_prog_5_method_18_code_0 6 rfl rfl) ?_
  refine zput (ci := 3) (C := RX3) (T := TX3) (k := 18) (v := ((F 3 l0 18) - 1)) (w := .int (iI ((F 3 l0 18) - 1))) hx hb hts inW_3 tyX3 tyX3_ok nmX3 hown hK hZ hS g1.1 g1.2 rfl (by decide) k_1_135 rfl (fun G h => congrArg (fun q => Value.int (iI q)) h) rfl rfl (zno (by decide)) (D_181 W_prog_5_method_18_code_0 7 rfl rfl rfl) (fun H2 locs2 hZ2 hS2 => ?_)
  refine lv_aload_n hx hb (D_42 W_prog_5_method_18_code_0 10 rfl rfl) rfl (lv_at hl 0 rfl) ?_
  refine lv_iload_n hx hb (D_27 W_prog_5_method_18_code_0 11 rfl rfl) rfl (lv_at hl 1 rfl) ?_
  obtain ⟨r3, F3, B3, hc3, hf⟩ := gbind hf
  refine va_calli (va_runV (As := [.int (iI l1)]) (rest := []) ⟨hx, hb, hml, hown, hts⟩ (c_Parser_takeSign (l := l) hc3) (cwV 1 hts (gdV k_3_204 k_3_206 ks_9 k_1_4 k_3_207) rfl rfl rfl (by decide +kernel) ⟨Nat.le_of_ble_eq_true rfl, Nat.le_of_ble_eq_true rfl⟩) (zPV X hZ2 hS2 (ci := 3) g1.1 g1.2 (r := (RX3, TX3, 22)) rfl [.int (iI l1)]) rfl rfl hl.1 rfl (lv_room (Nat.le_of_ble_eq_true rfl)) (D_182 W_prog_5_method_18_code_0 12 rfl rfl rfl) ⟨Nat.le_of_ble_eq_true rfl, Nat.le_of_ble_eq_true rfl⟩) hS2 (fun q _ h => zAin X hS2 q h) (zAin X hS2) (fun p3 u3 t3 H3 locs3 ht3 hv3 hw3 hB3 hz3 hk3 hS3 => ?_)
  have hZ3 := zBack X ht3 hB3
  subst hw3
  obtain ⟨g4, hf⟩ := gif hf
  cases hf
  exact W.zret hx hb hr (zbool g4) (fun t ht hW => ⟨⟨_, (), rfl, rfl, by rw [ht]; exact hZ3, va_K.moved hW.alike hK⟩, hS3.F ht⟩) hS3.2.2 (D_172 W_prog_5_method_18_code_0 15 rfl rfl) hlk

abbrev Q_Parser_takeUse (K : zK) (D : va_G) (ca : Nat → ClassId) (ad : Nat → Int → Nat → Nat) (L : List Nat) (r : Int) (F : zF) (B : zB) (A : Nat → Prop) : Array Value → State → Outcome → State → Prop := va_Qi (S := Unit) (fun p _ => p = iI r) (fun _ => zPo D ca ad lnC K.2 L F B A) A
def f_Parser_takeUse (K : zK) (l0 : Int) (l1 : Int) (F : zF) (B : zB) : zO := if 0 ≤ l0 ∧ l0 < K.2 3 then zbind (f_Parser_isName K l0 F B) (fun r2 F2 B2 => if r32 r2 then (if r2 = 0 then zbind (f_Parser_refuse K l0 2 F2 B2) (fun r15 F15 B15 => if (r15 = 0 ∨ r15 = 1) then some (r15, F15, B15) else none) else if 0 ≤ (F2 3 l0 11) ∧ (F2 3 l0 11) < K.2 10 then zbind (f_Parser_letNamed K l0 (F2 10 (F2 3 l0 11) 2) F2 B2) (fun r6 F6 B6 => if r32 r6 then (if r6 = (-1) then zbind (f_Parser_refuse K l0 4 F6 B6) (fun r13 F13 B13 => if (r13 = 0 ∨ r13 = 1) then some (r13, F13, B13) else none) else if 0 ≤ l1 ∧ l1 < 3000 then if 0 ≤ (F6 3 l0 11) ∧ (F6 3 l0 11) < K.2 10 then zbind (f_Tokens_advance K (F6 3 l0 11) F6 (zup4 B6 3 l0 2 l1 r6)) (fun r12 F12 B12 => some (1, F12, B12)) else none else none) else none) else none) else none) else none
set_option maxHeartbeats 4000000 in
set_option maxRecDepth 100000 in
theorem c_Parser_takeUse {l : Launch} {D : va_G} {ca : Nat → ClassId} {ad : Nat → Int → Nat → Nat} {L : List Nat} {aS vS : Nat → Nat} {sz : Nat} {K : zK}  {l0 : Int} {l1 : Int} {F F9 : zF} {B B9 : zB} {r : Int} (hf : f_Parser_takeUse K l0 l1 F B = some (r, F9, B9)) : Met l ({ cls := "StaveHouse$Parser", name := "takeUse", desc := "(I)Z" } : Jvm.MethodName) (Cond.code ({ cls := "StaveHouse$Parser", name := "takeUse", desc := "(I)Z" } : Jvm.MethodName) prog_5_method_33_code 3 (Option.some Jvm.ClassFile.FieldType.boolean) :: wAll) ({ frames := 2, cells := 0, slots := 0, locals := 45 } : Room) (va_Pc [.ref (ad 3 l0 0), .int (iI l1)] (zPre D ca ad lnC K.2 L aS vS F B sz)) (Q_Parser_takeUse K D ca ad L r F9 B9 (zA L sz)) 0 0 (zA L sz) := by
  refine zMet (Qc := Q_Parser_takeUse K D ca ad L r F9 B9) (lv := [(0, .ref (ad 3 l0 0)), (1, .int (iI l1))]) (by decide) (Nat.le_of_ble_eq_true rfl) rfl (fun A p e s m below meth c ls X hZ hS hl => ?_)
  obtain ⟨hx, hb, hr, hml, hown, hts, hlk, hK, hA, hL, hX⟩ := id X
  replace hf : (if 0 ≤ l0 ∧ l0 < K.2 3 then zbind (f_Parser_isName K l0 F B) (fun r2 F2 B2 => if r32 r2 then (if r2 = 0 then zbind (f_Parser_refuse K l0 2 F2 B2) (fun r15 F15 B15 => if (r15 = 0 ∨ r15 = 1) then some (r15, F15, B15) else none) else if 0 ≤ (F2 3 l0 11) ∧ (F2 3 l0 11) < K.2 10 then zbind (f_Parser_letNamed K l0 (F2 10 (F2 3 l0 11) 2) F2 B2) (fun r6 F6 B6 => if r32 r6 then (if r6 = (-1) then zbind (f_Parser_refuse K l0 4 F6 B6) (fun r13 F13 B13 => if (r13 = 0 ∨ r13 = 1) then some (r13, F13, B13) else none) else if 0 ≤ l1 ∧ l1 < 3000 then if 0 ≤ (F6 3 l0 11) ∧ (F6 3 l0 11) < K.2 10 then zbind (f_Tokens_advance K (F6 3 l0 11) F6 (zup4 B6 3 l0 2 l1 r6)) (fun r12 F12 B12 => some (1, F12, B12)) else none else none) else none) else none) else none) else none) = some (r, F9, B9) := hf
  refine lv_aload_n hx hb (D_42 W_prog_5_method_33_code_0 0 rfl rfl) rfl (lv_at hl 0 rfl) ?_
  obtain ⟨g1, hf⟩ := gif hf
  obtain ⟨r2, F2, B2, hc2, hf⟩ := gbind hf
  refine va_calli (va_runV (As := []) (rest := []) ⟨hx, hb, hml, hown, hts⟩ (c_Parser_isName (l := l) hc2) (cwV 0 hts (gdV k_3_181 k_3_183 ks_6 k_1_4 k_3_184) rfl rfl rfl (by decide +kernel) ⟨Nat.le_of_ble_eq_true rfl, Nat.le_of_ble_eq_true rfl⟩) (zPV X hZ hS (ci := 3) g1.1 g1.2 (r := (RX3, TX3, 22)) rfl []) rfl rfl hl.1 rfl (lv_room (Nat.le_of_ble_eq_true rfl)) (D_182 W_prog_5_method_33_code_0 1 rfl rfl rfl) ⟨Nat.le_of_ble_eq_true rfl, Nat.le_of_ble_eq_true rfl⟩) hS (fun q _ h => zAin X hS q h) (zAin X hS) (fun p2 u2 t2 H2 locs2 ht2 hv2 hw2 hB2 hz2 hk2 hS2 => ?_)
  have hZ2 := zBack X ht2 hB2
  subst hw2
  obtain ⟨g3, hf⟩ := gif hf
  refine z0ne (tgt := 13) hx hb g3 (D_154 W_prog_5_method_33_code_0 4 rfl rfl rfl) (by decide) (fun h4 => ?_) (fun h4 => ?_)
  · replace hf := gneg hf h4
    refine lv_aload_n hx hb (D_42 W_prog_5_method_33_code_0 13 rfl rfl) rfl (lv_at hl 0 rfl) ?_
    refine lv_aload_n hx hb (D_42 W_prog_5_method_33_code_0 14 rfl rfl) rfl (lv_at hl 0 rfl) ?_
    refine zget (ci := 3) (C := RX3) (T := TX3) (v := va_rf (zrf ad 10 (F2 3 l0 11))) (k := 11) hx hb hts inW_3 hown hK hZ2 g1.1 g1.2 rfl (by decide) k_1_128 rfl (D_180 W_prog_5_method_33_code_0 15 rfl rfl rfl) ?_
    obtain ⟨g5, hf⟩ := gif hf
    refine zunrf g5.1 ?_
    refine zget (ci := 10) (C := RX10) (T := TX10) (v := .long (lI (F2 10 (F2 3 l0 11) 2))) (k := 2) hx hb hts inW_10 hown hK hZ2 g5.1 g5.2 rfl (by decide) k_1_77 rfl (D_180 W_prog_5_method_33_code_0 18 rfl rfl rfl) ?_
    obtain ⟨r6, F6, B6, hc6, hf⟩ := gbind hf
    refine va_calli (va_runV (As := [.long (lI (F2 10 (F2 3 l0 11) 2))]) (rest := []) ⟨hx, hb, hml, hown, hts⟩ (c_Parser_letNamed (l := l) hc6) (cwV 1 hts (gdV k_3_200 k_3_202 ks_8 k_1_4 k_3_203) rfl rfl rfl (by decide +kernel) ⟨Nat.le_of_ble_eq_true rfl, Nat.le_of_ble_eq_true rfl⟩) (zPV X hZ2 hS2 (ci := 3) g1.1 g1.2 (r := (RX3, TX3, 22)) rfl [.long (lI (F2 10 (F2 3 l0 11) 2))]) rfl rfl hl.1 rfl (lv_room (Nat.le_of_ble_eq_true rfl)) (D_182 W_prog_5_method_33_code_0 21 rfl rfl rfl) ⟨Nat.le_of_ble_eq_true rfl, Nat.le_of_ble_eq_true rfl⟩) hS2 (fun q _ h => zAin X hS2 q h) (zAin X hS2) (fun p6 u6 t6 H6 locs6 ht6 hv6 hw6 hB6 hz6 hk6 hS6 => ?_)
    have hZ6 := zBack X ht6 hB6
    subst hw6
    refine lv_istore_n (lv' := [(2, .int (iI r6)), (0, .ref (ad 3 l0 0)), (1, .int (iI l1))]) hx hb (D_61 W_prog_5_method_33_code_0 24 rfl rfl) rfl hl (by decide) rfl (fun ls hl => ?_)
    refine lv_iload_n hx hb (D_28 W_prog_5_method_33_code_0 25 rfl rfl) rfl (lv_at hl 0 rfl) ?_
    refine lv_iconst (v := iI (-1)) hx hb (D_2 W_prog_5_method_33_code_0 26 rfl rfl) rfl ?_
    obtain ⟨g7, hf⟩ := gif hf
    refine zne (tgt := 36) hx hb g7 (by decide) (D_160 W_prog_5_method_33_code_0 27 rfl rfl rfl) (by decide) (fun h8 => ?_) (fun h8 => ?_)
    · replace hf := gneg hf h8
      refine lv_aload_n hx hb (D_42 W_prog_5_method_33_code_32 4 rfl rfl) rfl (lv_at hl 1 rfl) ?_
      refine zget (ci := 3) (C := RX3) (T := TX3) (v := .ref (ad 3 l0 (2 + 1))) (k := 2) hx hb hts inW_3 hown hK hZ6 g1.1 g1.2 rfl (by decide) k_1_110 rfl (D_180 W_prog_5_method_33_code_32 5 rfl rfl rfl) ?_
      refine lv_iload_n hx hb (D_27 W_prog_5_method_33_code_32 8 rfl rfl) rfl (lv_at hl 2 rfl) ?_
      refine lv_iload_n hx hb (D_28 W_prog_5_method_33_code_32 9 rfl rfl) rfl (lv_at hl 0 rfl) ?_
      obtain ⟨g9, hf⟩ := gif hf
      refine zast (ci := 3) (k := 2) hx hb hK rfl hZ6 hS6 g1.1 g1.2 rfl (Nat.le_of_ble_eq_true rfl) g9.1 g9.2 (D_79 W_prog_5_method_33_code_32 10 rfl rfl) (fun H10 locs10 hZ10 hS10 => ?_)
      refine lv_aload_n hx hb (D_42 W_prog_5_method_33_code_32 11 rfl rfl) rfl (lv_at hl 1 rfl) ?_
      refine zget (ci := 3) (C := RX3) (T := TX3) (v := va_rf (zrf ad 10 (F6 3 l0 11))) (k := 11) hx hb hts inW_3 hown hK hZ10 g1.1 g1.2 rfl (by decide) k_1_128 rfl (D_180 W_prog_5_method_33_code_32 12 rfl rfl rfl) ?_
      obtain ⟨g11, hf⟩ := gif hf
      refine W.eq (g2 := F0 m 47 ls [.ref (ad 10 (F6 3 l0 11) 0)]) (by rw [zrf_pos (ad := ad) (t := 10) g11.1]; try rfl) ?_
      obtain ⟨r12, F12, B12, hc12, hf⟩ := gbind hf
      refine va_callv (va_runV (As := []) (rest := []) ⟨hx, hb, hml, hown, hts⟩ (c_Tokens_advance (l := l) hc12) (cwV 0 hts (gdV k_3_180 k_3_152 k_3_153 k_1_5 k_3_154) rfl rfl rfl (by decide +kernel) ⟨Nat.le_of_ble_eq_true rfl, Nat.le_of_ble_eq_true rfl⟩) (zPV X hZ10 hS10 (ci := 10) g11.1 g11.2 (r := (RX10, TX10, 9)) rfl []) rfl rfl hl.1 rfl (lv_room (Nat.le_of_ble_eq_true rfl)) (D_182 W_prog_5_method_33_code_32 15 rfl rfl rfl) ⟨Nat.le_of_ble_eq_true rfl, Nat.le_of_ble_eq_true rfl⟩) hS10 (fun q _ h => zAin X hS10 q h) (zAin X hS10) (fun u12 t12 H12 locs12 ht12 hv12 hw12 hB12 hz12 hk12 hS12 => ?_)
      have hZ12 := zBack X ht12 hB12
      refine lv_iconst (v := iI 1) hx hb (D_4 W_prog_5_method_33_code_32 18 rfl rfl) rfl ?_
      cases hf
      exact W.zret hx hb hr rfl (fun t ht hW => ⟨⟨_, (), rfl, rfl, by rw [ht]; exact hZ12, va_K.moved hW.alike hK⟩, hS12.F ht⟩) hS12.2.2 (D_172 W_prog_5_method_33_code_32 19 rfl rfl) hlk
    · replace hf := gpos hf h8
      refine lv_aload_n hx hb (D_42 W_prog_5_method_33_code_0 30 rfl rfl) rfl (lv_at hl 1 rfl) ?_
      refine lv_iconst (v := iI 4) hx hb (D_7 W_prog_5_method_33_code_0 31 rfl rfl) rfl ?_
      obtain ⟨r13, F13, B13, hc13, hf⟩ := gbind hf
      refine va_calli (va_runV (As := [.int (iI 4)]) (rest := []) ⟨hx, hb, hml, hown, hts⟩ (c_Parser_refuse (l := l) hc13) (cwV 1 hts (gdV k_3_196 k_3_198 ks_7 k_1_4 k_3_199) rfl rfl rfl (by decide +kernel) ⟨Nat.le_of_ble_eq_true rfl, Nat.le_of_ble_eq_true rfl⟩) (zPV X hZ6 hS6 (ci := 3) g1.1 g1.2 (r := (RX3, TX3, 22)) rfl [.int (iI 4)]) rfl rfl hl.1 rfl (lv_room (Nat.le_of_ble_eq_true rfl)) (D_182 W_prog_5_method_33_code_32 0 rfl rfl rfl) ⟨Nat.le_of_ble_eq_true rfl, Nat.le_of_ble_eq_true rfl⟩) hS6 (fun q _ h => zAin X hS6 q h) (zAin X hS6) (fun p13 u13 t13 H13 locs13 ht13 hv13 hw13 hB13 hz13 hk13 hS13 => ?_)
      have hZ13 := zBack X ht13 hB13
      subst hw13
      obtain ⟨g14, hf⟩ := gif hf
      cases hf
      exact W.zret hx hb hr (zbool g14) (fun t ht hW => ⟨⟨_, (), rfl, rfl, by rw [ht]; exact hZ13, va_K.moved hW.alike hK⟩, hS13.F ht⟩) hS13.2.2 (D_172 W_prog_5_method_33_code_32 3 rfl rfl) hlk
  · replace hf := gpos hf h4
    refine lv_aload_n hx hb (D_42 W_prog_5_method_33_code_0 7 rfl rfl) rfl (lv_at hl 0 rfl) ?_
    refine lv_iconst (v := iI 2) hx hb (D_5 W_prog_5_method_33_code_0 8 rfl rfl) rfl ?_
    obtain ⟨r15, F15, B15, hc15, hf⟩ := gbind hf
    refine va_calli (va_runV (As := [.int (iI 2)]) (rest := []) ⟨hx, hb, hml, hown, hts⟩ (c_Parser_refuse (l := l) hc15) (cwV 1 hts (gdV k_3_196 k_3_198 ks_7 k_1_4 k_3_199) rfl rfl rfl (by decide +kernel) ⟨Nat.le_of_ble_eq_true rfl, Nat.le_of_ble_eq_true rfl⟩) (zPV X hZ2 hS2 (ci := 3) g1.1 g1.2 (r := (RX3, TX3, 22)) rfl [.int (iI 2)]) rfl rfl hl.1 rfl (lv_room (Nat.le_of_ble_eq_true rfl)) (D_182 W_prog_5_method_33_code_0 9 rfl rfl rfl) ⟨Nat.le_of_ble_eq_true rfl, Nat.le_of_ble_eq_true rfl⟩) hS2 (fun q _ h => zAin X hS2 q h) (zAin X hS2) (fun p15 u15 t15 H15 locs15 ht15 hv15 hw15 hB15 hz15 hk15 hS15 => ?_)
    have hZ15 := zBack X ht15 hB15
    subst hw15
    obtain ⟨g16, hf⟩ := gif hf
    cases hf
    exact W.zret hx hb hr (zbool g16) (fun t ht hW => ⟨⟨_, (), rfl, rfl, by rw [ht]; exact hZ15, va_K.moved hW.alike hK⟩, hS15.F ht⟩) hS15.2.2 (D_172 W_prog_5_method_33_code_0 12 rfl rfl) hlk

abbrev Q_S_naturalTone (K : zK) (D : va_G) (ca : Nat → ClassId) (ad : Nat → Int → Nat → Nat) (L : List Nat) (r : Int) (F : zF) (B : zB) (A : Nat → Prop) : Array Value → State → Outcome → State → Prop := va_Qi (S := Unit) (fun p _ => p = iI r) (fun _ => zPo D ca ad lnC K.2 L F B A) A
def f_S_naturalTone (K : zK) (l0 : Int) (F : zF) (B : zB) : zO := zbind (f_Math_floorDiv K l0 7 F B) (fun r1 F1 B1 => zbind (f_Math_floorMod K l0 7 F1 B1) (fun r2 F2 B2 => if 0 ≤ r2 ∧ r2 < ztl 5 then some ((12 * (r1 + 1)) + (ztv 5 r2), F2, B2) else none))
set_option maxHeartbeats 4000000 in
set_option maxRecDepth 100000 in
theorem c_S_naturalTone {l : Launch} {D : va_G} {ca : Nat → ClassId} {ad : Nat → Int → Nat → Nat} {L : List Nat} {aS vS : Nat → Nat} {sz : Nat} {K : zK}  {l0 : Int} {F F9 : zF} {B B9 : zB} {r : Int} (hf : f_S_naturalTone K l0 F B = some (r, F9, B9)) : Met l ({ cls := "StaveHouse", name := "naturalTone", desc := "(I)I" } : Jvm.MethodName) (Cond.code ({ cls := "StaveHouse", name := "naturalTone", desc := "(I)I" } : Jvm.MethodName) prog_1_method_37_code 1 (Option.some Jvm.ClassFile.FieldType.int) :: wAll) ({ frames := 1, cells := 0, slots := 0, locals := 22 } : Room) (va_Pc [.int (iI l0)] (zPre D ca ad lnC K.2 L aS vS F B sz)) (Q_S_naturalTone K D ca ad L r F9 B9 (zA L sz)) 0 0 (zA L sz) := by
  refine zMet (Qc := Q_S_naturalTone K D ca ad L r F9 B9) (lv := [(0, .int (iI l0))]) (by decide) (Nat.le_of_ble_eq_true rfl) rfl (fun A p e s m below meth c ls X hZ hS hl => ?_)
  obtain ⟨hx, hb, hr, hml, hown, hts, hlk, hK, hA, hL, hX⟩ := id X
  replace hf : (zbind (f_Math_floorDiv K l0 7 F B) (fun r1 F1 B1 => zbind (f_Math_floorMod K l0 7 F1 B1) (fun r2 F2 B2 => if 0 ≤ r2 ∧ r2 < ztl 5 then some ((12 * (r1 + 1)) + (ztv 5 r2), F2, B2) else none))) = some (r, F9, B9) := hf
  refine lv_bipush (v := iI 12) hx hb (D_16 W_prog_1_method_37_code_0 0 rfl rfl rfl) (by decide) ?_
  refine lv_iload_n hx hb (D_26 W_prog_1_method_37_code_0 2 rfl rfl) rfl (lv_at hl 0 rfl) ?_
  refine lv_bipush (v := iI 7) hx hb (D_16 W_prog_1_method_37_code_0 3 rfl rfl rfl) (by decide) ?_
  obtain ⟨r1, F1, B1, hc1, hf⟩ := gbind hf
  refine va_calli (va_runS (As := [.int (iI l0), .int (iI 7)]) (rest := [.int (iI 12)]) ⟨hx, hb, hml, hown, hts⟩ (c_Math_floorDiv (l := l) hc1) (va_cwS 2 hts (gdS k_4_65 k_4_66 k_1_3 k_4_67) rfl rfl rfl (by decide +kernel) ⟨Nat.le_of_ble_eq_true rfl, Nat.le_of_ble_eq_true rfl⟩) (zPS X hZ hS [.int (iI l0), .int (iI 7)]) rfl rfl hl.1 rfl (lv_room (Nat.le_of_ble_eq_true rfl)) (D_184 W_prog_1_method_37_code_0 5 rfl rfl rfl) ⟨Nat.le_of_ble_eq_true rfl, Nat.le_of_ble_eq_true rfl⟩) hS (fun q _ h => zAin X hS q h) (zAin X hS) (fun p1 u1 t1 H1 locs1 ht1 hv1 hw1 hB1 hz1 hk1 hS1 => ?_)
  have hZ1 := zBack X ht1 hB1
  subst hw1
  refine lv_iconst (v := iI 1) hx hb (D_4 W_prog_1_method_37_code_0 8 rfl rfl) rfl ?_
  refine zadd hx hb (D_96 W_prog_1_method_37_code_0 9 rfl rfl) ?_
  refine zmul hx hb (D_104 W_prog_1_method_37_code_0 10 rfl rfl) ?_
  refine va_gets hx hb (hX.2.2.2.2.2.2 5 _ rfl).1 hS1 hown (hts _ k_4_68) (fun _ h => h) (D_178 W_prog_1_method_37_code_0 11 rfl rfl rfl) ?_
  refine W.eq (g2 := F0 m 14 ls [.ref (vS (1000 + 5)), .int (iI (12 * (r1 + 1)))]) rfl ?_
  refine lv_iload_n hx hb (D_26 W_prog_1_method_37_code_0 14 rfl rfl) rfl (lv_at hl 0 rfl) ?_
  refine lv_bipush (v := iI 7) hx hb (D_16 W_prog_1_method_37_code_0 15 rfl rfl rfl) (by decide) ?_
  obtain ⟨r2, F2, B2, hc2, hf⟩ := gbind hf
  refine va_calli (va_runS (As := [.int (iI l0), .int (iI 7)]) (rest := [.ref (vS (1000 + 5)), .int (iI (12 * (r1 + 1)))]) ⟨hx, hb, hml, hown, hts⟩ (c_Math_floorMod (l := l) hc2) (va_cwS 2 hts (gdS k_4_70 k_4_71 k_1_3 k_4_72) rfl rfl rfl (by decide +kernel) ⟨Nat.le_of_ble_eq_true rfl, Nat.le_of_ble_eq_true rfl⟩) (zPS X hZ1 hS1 [.int (iI l0), .int (iI 7)]) rfl rfl hl.1 rfl (lv_room (Nat.le_of_ble_eq_true rfl)) (D_184 W_prog_1_method_37_code_0 17 rfl rfl rfl) ⟨Nat.le_of_ble_eq_true rfl, Nat.le_of_ble_eq_true rfl⟩) hS1 (fun q _ h => zAin X hS1 q h) (zAin X hS1) (fun p2 u2 t2 H2 locs2 ht2 hv2 hw2 hB2 hz2 hk2 hS2 => ?_)
  have hZ2 := zBack X ht2 hB2
  subst hw2
  obtain ⟨g3, hf⟩ := gif hf
  refine va_ti (v := .int (iI (ztv 5 r2))) hx hb (ztI hX (by decide) (by decide)) hS2 (zt_in (by decide) g3) (ztI_v (by decide) g3) (D_46 W_prog_1_method_37_code_0 20 rfl rfl) ?_
  refine zadd hx hb (D_96 W_prog_1_method_37_code_0 21 rfl rfl) ?_
  cases hf
  exact W.iret hx hb hr (fun t ht hW => ⟨⟨_, (), rfl, rfl, by rw [ht]; exact hZ2, va_K.moved hW.alike hK⟩, hS2.F ht⟩) hS2.2.2 (D_172 W_prog_1_method_37_code_0 22 rfl rfl) hlk

abbrev Q_Parser_takeKey (K : zK) (D : va_G) (ca : Nat → ClassId) (ad : Nat → Int → Nat → Nat) (L : List Nat) (r : Int) (F : zF) (B : zB) (A : Nat → Prop) : Array Value → State → Outcome → State → Prop := va_Qi (S := Unit) (fun p _ => p = iI r) (fun _ => zPo D ca ad lnC K.2 L F B A) A
def f_Parser_takeKey_108 (K : zK) (l0 : Int) (F : zF) (B : zB) : zO := if 0 ≤ l0 ∧ l0 < K.2 3 then if 0 ≤ (F 3 l0 11) ∧ (F 3 l0 11) < K.2 10 then zbind (f_Tokens_advance K (F 3 l0 11) F B) (fun r41 F41 B41 => some (1, F41, B41)) else none else none
set_option maxHeartbeats 4000000 in
set_option maxRecDepth 100000 in
theorem b_Parser_takeKey_108 {D : va_G} {ca : Nat → ClassId} {ad : Nat → Int → Nat → Nat} {L : List Nat} {aS vS : Nat → Nat} {A : Nat → Prop} {p : Program} {l : Launch} {e : Env} {s : State} {m : MethodId} {args : Array Value} {below : List Frame} {meth : Method} {c : Code} {K : zK} {r : Int} {F9 : zF} {B9 : zB} (X : zX D ca L aS vS A p s m args meth c prog_5_method_8_code 3 (Option.some Jvm.ClassFile.FieldType.boolean) "StaveHouse$Parser") {l0 : Int} {F : zF} {B : zB} {H : Heap} {locs : List Loc} {ls : Array Slot} (hf : f_Parser_takeKey_108 K l0 F B = some (r, F9, B9)) (hZ : zH D ca ad lnC K.2 L F B A H) (hS : va_S A s.heap H locs) (hl : lv_has ls 3 [(0, .ref (ad 3 l0 0))]) : W p l e ({ frames := 2, cells := 0, slots := 0, locals := 45 } : Room) s m args below meth c H locs 0 0 (MQ below (Q_Parser_takeKey K D ca ad L r F9 B9 A) args s 0 0 A) (F0 m 108 ls []) := by
  obtain ⟨hx, hb, hr, hml, hown, hts, hlk, hK, hA, hL, hX⟩ := id X
  replace hf : (if 0 ≤ l0 ∧ l0 < K.2 3 then if 0 ≤ (F 3 l0 11) ∧ (F 3 l0 11) < K.2 10 then zbind (f_Tokens_advance K (F 3 l0 11) F B) (fun r41 F41 B41 => some (1, F41, B41)) else none else none) = some (r, F9, B9) := hf
  refine lv_aload_n hx hb (D_42 W_prog_5_method_8_code_96 12 rfl rfl) rfl (lv_at hl 0 rfl) ?_
  obtain ⟨g39, hf⟩ := gif hf
  refine zget (ci := 3) (C := RX3) (T := TX3) (v := va_rf (zrf ad 10 (F 3 l0 11))) (k := 11) hx hb hts inW_3 hown hK hZ g39.1 g39.2 rfl (by decide) k_1_128 rfl (D_180 W_prog_5_method_8_code_96 13 rfl rfl rfl) ?_
  obtain ⟨g40, hf⟩ := gif hf
  refine W.eq (g2 := F0 m 112 ls [.ref (ad 10 (F 3 l0 11) 0)]) (by rw [zrf_pos (ad := ad) (t := 10) g40.1]; try rfl) ?_
  obtain ⟨r41, F41, B41, hc41, hf⟩ := gbind hf
  refine va_callv (va_runV (As := []) (rest := []) ⟨hx, hb, hml, hown, hts⟩ (c_Tokens_advance (l := l) hc41) (cwV 0 hts (gdV k_3_180 k_3_152 k_3_153 k_1_5 k_3_154) rfl rfl rfl (by decide +kernel) ⟨Nat.le_of_ble_eq_true rfl, Nat.le_of_ble_eq_true rfl⟩) (zPV X hZ hS (ci := 10) g40.1 g40.2 (r := (RX10, TX10, 9)) rfl []) rfl rfl hl.1 rfl (lv_room (Nat.le_of_ble_eq_true rfl)) (D_182 W_prog_5_method_8_code_96 16 rfl rfl rfl) ⟨Nat.le_of_ble_eq_true rfl, Nat.le_of_ble_eq_true rfl⟩) hS (fun q _ h => zAin X hS q h) (zAin X hS) (fun u41 t41 H41 locs41 ht41 hv41 hw41 hB41 hz41 hk41 hS41 => ?_)
  have hZ41 := zBack X ht41 hB41
  refine lv_iconst (v := iI 1) hx hb (D_4 W_prog_5_method_8_code_96 19 rfl rfl) rfl ?_
  cases hf
  exact W.zret hx hb hr rfl (fun t ht hW => ⟨⟨_, (), rfl, rfl, by rw [ht]; exact hZ41, va_K.moved hW.alike hK⟩, hS41.F ht⟩) hS41.2.2 (D_172 W_prog_5_method_8_code_96 20 rfl rfl) hlk

def f_Parser_takeKey_73 (K : zK) (l0 : Int) (s0 : Int) (s1 : Int) (F : zF) (B : zB) : zO := if 0 ≤ s0 ∧ s0 < K.2 6 then if 0 ≤ l0 ∧ l0 < K.2 3 then if 0 ≤ (F 3 l0 11) ∧ (F 3 l0 11) < K.2 10 then zbind (f_Tokens_isWord K (F 3 l0 11) 469920280434 (zup3 F 6 s0 3 s1) B) (fun r29 F29 B29 => if r32 r29 then (if r29 = 0 then if 0 ≤ (F29 3 l0 11) ∧ (F29 3 l0 11) < K.2 10 then zbind (f_Tokens_isWord K (F29 3 l0 11) 469785800562 F29 B29) (fun r34 F34 B34 => if r32 r34 then (if r34 = 0 then zbind (f_Parser_refuse K l0 2 F34 B34) (fun r37 F37 B37 => if (r37 = 0 ∨ r37 = 1) then some (r37, F37, B37) else none) else f_Parser_takeKey_108 K l0 F34 B34) else none) else none else f_Parser_takeKey_108 K l0 F29 B29) else none) else none else none else none
set_option maxHeartbeats 4000000 in
set_option maxRecDepth 100000 in
theorem b_Parser_takeKey_73 {D : va_G} {ca : Nat → ClassId} {ad : Nat → Int → Nat → Nat} {L : List Nat} {aS vS : Nat → Nat} {A : Nat → Prop} {p : Program} {l : Launch} {e : Env} {s : State} {m : MethodId} {args : Array Value} {below : List Frame} {meth : Method} {c : Code} {K : zK} {r : Int} {F9 : zF} {B9 : zB} (X : zX D ca L aS vS A p s m args meth c prog_5_method_8_code 3 (Option.some Jvm.ClassFile.FieldType.boolean) "StaveHouse$Parser") {l0 : Int} {s0 : Int} {s1 : Int} {F : zF} {B : zB} {H : Heap} {locs : List Loc} {ls : Array Slot} (hf : f_Parser_takeKey_73 K l0 s0 s1 F B = some (r, F9, B9)) (hZ : zH D ca ad lnC K.2 L F B A H) (hS : va_S A s.heap H locs) (hl : lv_has ls 3 [(0, .ref (ad 3 l0 0))]) : W p l e ({ frames := 2, cells := 0, slots := 0, locals := 45 } : Room) s m args below meth c H locs 0 0 (MQ below (Q_Parser_takeKey K D ca ad L r F9 B9 A) args s 0 0 A) (F0 m 73 ls [.int (iI s1), va_rf (zrf ad 6 s0)]) := by
  obtain ⟨hx, hb, hr, hml, hown, hts, hlk, hK, hA, hL, hX⟩ := id X
  replace hf : (if 0 ≤ s0 ∧ s0 < K.2 6 then if 0 ≤ l0 ∧ l0 < K.2 3 then if 0 ≤ (F 3 l0 11) ∧ (F 3 l0 11) < K.2 10 then zbind (f_Tokens_isWord K (F 3 l0 11) 469920280434 (zup3 F 6 s0 3 s1) B) (fun r29 F29 B29 => if r32 r29 then (if r29 = 0 then if 0 ≤ (F29 3 l0 11) ∧ (F29 3 l0 11) < K.2 10 then zbind (f_Tokens_isWord K (F29 3 l0 11) 469785800562 F29 B29) (fun r34 F34 B34 => if r32 r34 then (if r34 = 0 then zbind (f_Parser_refuse K l0 2 F34 B34) (fun r37 F37 B37 => if (r37 = 0 ∨ r37 = 1) then some (r37, F37, B37) else none) else f_Parser_takeKey_108 K l0 F34 B34) else none) else none else f_Parser_takeKey_108 K l0 F29 B29) else none) else none else none else none) = some (r, F9, B9) := hf
  obtain ⟨g25, hf⟩ := gif hf
  refine W.eq (g2 := F0 m 73 ls [.int (iI s1), .ref (ad 6 s0 0)]) (by rw [zrf_pos (ad := ad) (t := 6) g25.1]; try rfl) ?_
  refine zput (ci := 6) (C := RX6) (T := TX6) (k := 3) (v := s1) (w := .int (iI s1)) hx hb hts inW_6 tyX6 tyX6_ok nmX6 hown hK hZ hS g25.1 g25.2 rfl (by decide) k_2_203 rfl (fun G h => congrArg (fun q => Value.int (iI q)) h) rfl rfl (zno (by decide)) (D_181 W_prog_5_method_8_code_64 9 rfl rfl rfl) (fun H26 locs26 hZ26 hS26 => ?_)
  refine lv_aload_n hx hb (D_42 W_prog_5_method_8_code_64 12 rfl rfl) rfl (lv_at hl 0 rfl) ?_
  obtain ⟨g27, hf⟩ := gif hf
  refine zget (ci := 3) (C := RX3) (T := TX3) (v := va_rf (zrf ad 10 (F 3 l0 11))) (k := 11) hx hb hts inW_3 hown hK hZ26 g27.1 g27.2 rfl (by decide) k_1_128 (congrArg (fun q : Int => va_rf (zrf ad 10 q)) (show (zup3 F 6 s0 3 s1) 3 l0 11 = F 3 l0 11 by simp [zup3])) (D_180 W_prog_5_method_8_code_64 13 rfl rfl rfl) ?_
  refine lv_ldc2 hx hb hown (hts _ k_4_85) (D_20 W_prog_5_method_8_code_64 16 rfl rfl rfl) ?_
  refine W.eq (g2 := F0 m 83 ls [.long (lI 469920280434), va_rf (zrf ad 10 (F 3 l0 11))]) rfl ?_
  obtain ⟨g28, hf⟩ := gif hf
  refine W.eq (g2 := F0 m 83 ls [.long (lI 469920280434), .ref (ad 10 (F 3 l0 11) 0)]) (by rw [zrf_pos (ad := ad) (t := 10) g28.1]; try rfl) ?_
  obtain ⟨r29, F29, B29, hc29, hf⟩ := gbind hf
  refine va_calli (va_runV (As := [.long (lI 469920280434)]) (rest := []) ⟨hx, hb, hml, hown, hts⟩ (c_Tokens_isWord (l := l) hc29) (cwV 1 hts (gdV k_3_160 k_3_161 k_3_162 k_1_5 k_3_163) rfl rfl rfl (by decide +kernel) ⟨Nat.le_of_ble_eq_true rfl, Nat.le_of_ble_eq_true rfl⟩) (zPV X hZ26 hS26 (ci := 10) g28.1 g28.2 (r := (RX10, TX10, 9)) rfl [.long (lI 469920280434)]) rfl rfl hl.1 rfl (lv_room (Nat.le_of_ble_eq_true rfl)) (D_182 W_prog_5_method_8_code_64 19 rfl rfl rfl) ⟨Nat.le_of_ble_eq_true rfl, Nat.le_of_ble_eq_true rfl⟩) hS26 (fun q _ h => zAin X hS26 q h) (zAin X hS26) (fun p29 u29 t29 H29 locs29 ht29 hv29 hw29 hB29 hz29 hk29 hS29 => ?_)
  have hZ29 := zBack X ht29 hB29
  subst hw29
  obtain ⟨g30, hf⟩ := gif hf
  refine z0ne (tgt := 108) hx hb g30 (D_154 W_prog_5_method_8_code_64 22 rfl rfl rfl) (by decide) (fun h31 => ?_) (fun h31 => ?_)
  · replace hf := gneg hf h31
    exact b_Parser_takeKey_108 X hf hZ29 hS29 (lv_sub hl [0] rfl)
  · replace hf := gpos hf h31
    refine lv_aload_n hx hb (D_42 W_prog_5_method_8_code_64 25 rfl rfl) rfl (lv_at hl 0 rfl) ?_
    refine zget (ci := 3) (C := RX3) (T := TX3) (v := va_rf (zrf ad 10 (F29 3 l0 11))) (k := 11) hx hb hts inW_3 hown hK hZ29 g27.1 g27.2 rfl (by decide) k_1_128 rfl (D_180 W_prog_5_method_8_code_64 26 rfl rfl rfl) ?_
    refine lv_ldc2 hx hb hown (hts _ k_4_86) (D_20 W_prog_5_method_8_code_64 29 rfl rfl rfl) ?_
    refine W.eq (g2 := F0 m 96 ls [.long (lI 469785800562), va_rf (zrf ad 10 (F29 3 l0 11))]) rfl ?_
    obtain ⟨g33, hf⟩ := gif hf
    refine W.eq (g2 := F0 m 96 ls [.long (lI 469785800562), .ref (ad 10 (F29 3 l0 11) 0)]) (by rw [zrf_pos (ad := ad) (t := 10) g33.1]; try rfl) ?_
    obtain ⟨r34, F34, B34, hc34, hf⟩ := gbind hf
    refine va_calli (va_runV (As := [.long (lI 469785800562)]) (rest := []) ⟨hx, hb, hml, hown, hts⟩ (c_Tokens_isWord (l := l) hc34) (cwV 1 hts (gdV k_3_160 k_3_161 k_3_162 k_1_5 k_3_163) rfl rfl rfl (by decide +kernel) ⟨Nat.le_of_ble_eq_true rfl, Nat.le_of_ble_eq_true rfl⟩) (zPV X hZ29 hS29 (ci := 10) g33.1 g33.2 (r := (RX10, TX10, 9)) rfl [.long (lI 469785800562)]) rfl rfl hl.1 rfl (lv_room (Nat.le_of_ble_eq_true rfl)) (D_182 W_prog_5_method_8_code_96 0 rfl rfl rfl) ⟨Nat.le_of_ble_eq_true rfl, Nat.le_of_ble_eq_true rfl⟩) hS29 (fun q _ h => zAin X hS29 q h) (zAin X hS29) (fun p34 u34 t34 H34 locs34 ht34 hv34 hw34 hB34 hz34 hk34 hS34 => ?_)
    have hZ34 := zBack X ht34 hB34
    subst hw34
    obtain ⟨g35, hf⟩ := gif hf
    refine z0ne (tgt := 108) hx hb g35 (D_154 W_prog_5_method_8_code_96 3 rfl rfl rfl) (by decide) (fun h36 => ?_) (fun h36 => ?_)
    · replace hf := gneg hf h36
      exact b_Parser_takeKey_108 X hf hZ34 hS34 (lv_sub hl [0] rfl)
    · replace hf := gpos hf h36
      refine lv_aload_n hx hb (D_42 W_prog_5_method_8_code_96 6 rfl rfl) rfl (lv_at hl 0 rfl) ?_
      refine lv_iconst (v := iI 2) hx hb (D_5 W_prog_5_method_8_code_96 7 rfl rfl) rfl ?_
      obtain ⟨r37, F37, B37, hc37, hf⟩ := gbind hf
      refine va_calli (va_runV (As := [.int (iI 2)]) (rest := []) ⟨hx, hb, hml, hown, hts⟩ (c_Parser_refuse (l := l) hc37) (cwV 1 hts (gdV k_3_196 k_3_198 ks_7 k_1_4 k_3_199) rfl rfl rfl (by decide +kernel) ⟨Nat.le_of_ble_eq_true rfl, Nat.le_of_ble_eq_true rfl⟩) (zPV X hZ34 hS34 (ci := 3) g27.1 g27.2 (r := (RX3, TX3, 22)) rfl [.int (iI 2)]) rfl rfl hl.1 rfl (lv_room (Nat.le_of_ble_eq_true rfl)) (D_182 W_prog_5_method_8_code_96 8 rfl rfl rfl) ⟨Nat.le_of_ble_eq_true rfl, Nat.le_of_ble_eq_true rfl⟩) hS34 (fun q _ h => zAin X hS34 q h) (zAin X hS34) (fun p37 u37 t37 H37 locs37 ht37 hv37 hw37 hB37 hz37 hk37 hS37 => ?_)
      have hZ37 := zBack X ht37 hB37
      subst hw37
      obtain ⟨g38, hf⟩ := gif hf
      cases hf
      exact W.zret hx hb hr (zbool g38) (fun t ht hW => ⟨⟨_, (), rfl, rfl, by rw [ht]; exact hZ37, va_K.moved hW.alike hK⟩, hS37.F ht⟩) hS37.2.2 (D_172 W_prog_5_method_8_code_96 11 rfl rfl) hlk

def f_Parser_takeKey_51 (K : zK) (l0 : Int) (l1 : Int) (s0 : Int) (s1 : Int) (F : zF) (B : zB) : zO := if 0 ≤ s0 ∧ s0 < K.2 6 then if 0 ≤ l0 ∧ l0 < K.2 3 then if 0 ≤ (F 3 l0 11) ∧ (F 3 l0 11) < K.2 10 then zbind (f_Tokens_isWord K (F 3 l0 11) 469920280434 (zup3 F 6 s0 2 s1) B) (fun r20 F20 B20 => if r32 r20 then (if r20 = 0 then if 0 ≤ l1 ∧ l1 < K.2 6 then f_Parser_takeKey_73 K l0 l1 0 F20 B20 else none else if 0 ≤ l1 ∧ l1 < K.2 6 then f_Parser_takeKey_73 K l0 l1 1 F20 B20 else none) else none) else none else none else none
set_option maxHeartbeats 4000000 in
set_option maxRecDepth 100000 in
theorem b_Parser_takeKey_51 {D : va_G} {ca : Nat → ClassId} {ad : Nat → Int → Nat → Nat} {L : List Nat} {aS vS : Nat → Nat} {A : Nat → Prop} {p : Program} {l : Launch} {e : Env} {s : State} {m : MethodId} {args : Array Value} {below : List Frame} {meth : Method} {c : Code} {K : zK} {r : Int} {F9 : zF} {B9 : zB} (X : zX D ca L aS vS A p s m args meth c prog_5_method_8_code 3 (Option.some Jvm.ClassFile.FieldType.boolean) "StaveHouse$Parser") {l0 : Int} {l1 : Int} {s0 : Int} {s1 : Int} {F : zF} {B : zB} {H : Heap} {locs : List Loc} {ls : Array Slot} (hf : f_Parser_takeKey_51 K l0 l1 s0 s1 F B = some (r, F9, B9)) (hZ : zH D ca ad lnC K.2 L F B A H) (hS : va_S A s.heap H locs) (hl : lv_has ls 3 [(0, .ref (ad 3 l0 0)), (1, .ref (ad 6 l1 0))]) : W p l e ({ frames := 2, cells := 0, slots := 0, locals := 45 } : Room) s m args below meth c H locs 0 0 (MQ below (Q_Parser_takeKey K D ca ad L r F9 B9 A) args s 0 0 A) (F0 m 51 ls [.int (iI s1), va_rf (zrf ad 6 s0)]) := by
  obtain ⟨hx, hb, hr, hml, hown, hts, hlk, hK, hA, hL, hX⟩ := id X
  replace hf : (if 0 ≤ s0 ∧ s0 < K.2 6 then if 0 ≤ l0 ∧ l0 < K.2 3 then if 0 ≤ (F 3 l0 11) ∧ (F 3 l0 11) < K.2 10 then zbind (f_Tokens_isWord K (F 3 l0 11) 469920280434 (zup3 F 6 s0 2 s1) B) (fun r20 F20 B20 => if r32 r20 then (if r20 = 0 then if 0 ≤ l1 ∧ l1 < K.2 6 then f_Parser_takeKey_73 K l0 l1 0 F20 B20 else none else if 0 ≤ l1 ∧ l1 < K.2 6 then f_Parser_takeKey_73 K l0 l1 1 F20 B20 else none) else none) else none else none else none) = some (r, F9, B9) := hf
  obtain ⟨g16, hf⟩ := gif hf
  refine W.eq (g2 := F0 m 51 ls [.int (iI s1), .ref (ad 6 s0 0)]) (by rw [zrf_pos (ad := ad) (t := 6) g16.1]; try rfl) ?_
  refine zput (ci := 6) (C := RX6) (T := TX6) (k := 2) (v := s1) (w := .int (iI s1)) hx hb hts inW_6 tyX6 tyX6_ok nmX6 hown hK hZ hS g16.1 g16.2 rfl (by decide) k_2_197 rfl (fun G h => congrArg (fun q => Value.int (iI q)) h) rfl rfl (zno (by decide)) (D_181 W_prog_5_method_8_code_32 19 rfl rfl rfl) (fun H17 locs17 hZ17 hS17 => ?_)
  refine lv_aload_n hx hb (D_43 W_prog_5_method_8_code_32 22 rfl rfl) rfl (lv_at hl 1 rfl) ?_
  refine lv_aload_n hx hb (D_42 W_prog_5_method_8_code_32 23 rfl rfl) rfl (lv_at hl 0 rfl) ?_
  obtain ⟨g18, hf⟩ := gif hf
  refine zget (ci := 3) (C := RX3) (T := TX3) (v := va_rf (zrf ad 10 (F 3 l0 11))) (k := 11) hx hb hts inW_3 hown hK hZ17 g18.1 g18.2 rfl (by decide) k_1_128 (congrArg (fun q : Int => va_rf (zrf ad 10 q)) (show (zup3 F 6 s0 2 s1) 3 l0 11 = F 3 l0 11 by simp [zup3])) (D_180 W_prog_5_method_8_code_32 24 rfl rfl rfl) ?_
  refine lv_ldc2 hx hb hown (hts _ k_4_85) (D_20 W_prog_5_method_8_code_32 27 rfl rfl rfl) ?_
  refine W.eq (g2 := F0 m 62 ls [.long (lI 469920280434), va_rf (zrf ad 10 (F 3 l0 11)), .ref (ad 6 l1 0)]) rfl ?_
  obtain ⟨g19, hf⟩ := gif hf
  refine W.eq (g2 := F0 m 62 ls [.long (lI 469920280434), .ref (ad 10 (F 3 l0 11) 0), .ref (ad 6 l1 0)]) (by rw [zrf_pos (ad := ad) (t := 10) g19.1]; try rfl) ?_
  obtain ⟨r20, F20, B20, hc20, hf⟩ := gbind hf
  refine va_calli (va_runV (As := [.long (lI 469920280434)]) (rest := [.ref (ad 6 l1 0)]) ⟨hx, hb, hml, hown, hts⟩ (c_Tokens_isWord (l := l) hc20) (cwV 1 hts (gdV k_3_160 k_3_161 k_3_162 k_1_5 k_3_163) rfl rfl rfl (by decide +kernel) ⟨Nat.le_of_ble_eq_true rfl, Nat.le_of_ble_eq_true rfl⟩) (zPV X hZ17 hS17 (ci := 10) g19.1 g19.2 (r := (RX10, TX10, 9)) rfl [.long (lI 469920280434)]) rfl rfl hl.1 rfl (lv_room (Nat.le_of_ble_eq_true rfl)) (D_182 W_prog_5_method_8_code_32 30 rfl rfl rfl) ⟨Nat.le_of_ble_eq_true rfl, Nat.le_of_ble_eq_true rfl⟩) hS17 (fun q _ h => zAin X hS17 q h) (zAin X hS17) (fun p20 u20 t20 H20 locs20 ht20 hv20 hw20 hB20 hz20 hk20 hS20 => ?_)
  have hZ20 := zBack X ht20 hB20
  subst hw20
  obtain ⟨g21, hf⟩ := gif hf
  refine z0eq (tgt := 72) hx hb g21 (D_153 W_prog_5_method_8_code_64 1 rfl rfl rfl) (by decide) (fun h22 => ?_) (fun h22 => ?_)
  · replace hf := gpos hf h22
    refine lv_iconst (v := iI 0) hx hb (D_3 W_prog_5_method_8_code_64 8 rfl rfl) rfl ?_
    obtain ⟨g23, hf⟩ := gif hf
    refine W.eq (g2 := F0 m 73 ls [.int (iI 0), va_rf (zrf ad 6 l1)]) (by rw [zrf_pos (ad := ad) (t := 6) g23.1]; try rfl) ?_
    exact b_Parser_takeKey_73 X hf hZ20 hS20 (lv_sub hl [0] rfl)
  · replace hf := gneg hf h22
    refine lv_iconst (v := iI 1) hx hb (D_4 W_prog_5_method_8_code_64 4 rfl rfl) rfl ?_
    refine lv_goto (tgt := 73) hx hb (D_167 W_prog_5_method_8_code_64 5 rfl rfl rfl) (by decide) ?_
    obtain ⟨g24, hf⟩ := gif hf
    refine W.eq (g2 := F0 m 73 ls [.int (iI 1), va_rf (zrf ad 6 l1)]) (by rw [zrf_pos (ad := ad) (t := 6) g24.1]; try rfl) ?_
    exact b_Parser_takeKey_73 X hf hZ20 hS20 (lv_sub hl [0] rfl)

def f_Parser_takeKey_21 (K : zK) (l2 : Int) (l0 : Int) (l1 : Int) (F : zF) (B : zB) : zO := if 0 ≤ l0 ∧ l0 < K.2 3 then zbind (f_Parser_takeNumber K l0 0 7 0 F B) (fun r9 F9 B9 => if r32 r9 then (if r9 = 0 then some (0, F9, B9) else if r32 l2 then (if l2 = 0 then if 0 ≤ l1 ∧ l1 < K.2 6 then f_Parser_takeKey_51 K l0 l1 l1 (F9 3 l0 19) F9 B9 else none else if 0 ≤ l1 ∧ l1 < K.2 6 then f_Parser_takeKey_51 K l0 l1 l1 (-(F9 3 l0 19)) F9 B9 else none) else none) else none) else none
set_option maxHeartbeats 4000000 in
set_option maxRecDepth 100000 in
theorem b_Parser_takeKey_21 {D : va_G} {ca : Nat → ClassId} {ad : Nat → Int → Nat → Nat} {L : List Nat} {aS vS : Nat → Nat} {A : Nat → Prop} {p : Program} {l : Launch} {e : Env} {s : State} {m : MethodId} {args : Array Value} {below : List Frame} {meth : Method} {c : Code} {K : zK} {r : Int} {F9 : zF} {B9 : zB} (X : zX D ca L aS vS A p s m args meth c prog_5_method_8_code 3 (Option.some Jvm.ClassFile.FieldType.boolean) "StaveHouse$Parser") {l2 : Int} {l0 : Int} {l1 : Int} {F : zF} {B : zB} {H : Heap} {locs : List Loc} {ls : Array Slot} (hf : f_Parser_takeKey_21 K l2 l0 l1 F B = some (r, F9, B9)) (hZ : zH D ca ad lnC K.2 L F B A H) (hS : va_S A s.heap H locs) (hl : lv_has ls 3 [(2, .int (iI l2)), (0, .ref (ad 3 l0 0)), (1, .ref (ad 6 l1 0))]) : W p l e ({ frames := 2, cells := 0, slots := 0, locals := 45 } : Room) s m args below meth c H locs 0 0 (MQ below (Q_Parser_takeKey K D ca ad L r F9 B9 A) args s 0 0 A) (F0 m 21 ls []) := by
  obtain ⟨hx, hb, hr, hml, hown, hts, hlk, hK, hA, hL, hX⟩ := id X
  replace hf : (if 0 ≤ l0 ∧ l0 < K.2 3 then zbind (f_Parser_takeNumber K l0 0 7 0 F B) (fun r9 F9 B9 => if r32 r9 then (if r9 = 0 then some (0, F9, B9) else if r32 l2 then (if l2 = 0 then if 0 ≤ l1 ∧ l1 < K.2 6 then f_Parser_takeKey_51 K l0 l1 l1 (F9 3 l0 19) F9 B9 else none else if 0 ≤ l1 ∧ l1 < K.2 6 then f_Parser_takeKey_51 K l0 l1 l1 (-(F9 3 l0 19)) F9 B9 else none) else none) else none) else none) = some (r, F9, B9) := hf
  refine lv_aload_n hx hb (D_42 W_prog_5_method_8_code_0 21 rfl rfl) rfl (lv_at hl 1 rfl) ?_
  refine lv_iconst (v := iI 0) hx hb (D_3 W_prog_5_method_8_code_0 22 rfl rfl) rfl ?_
  refine lv_bipush (v := iI 7) hx hb (D_16 W_prog_5_method_8_code_0 23 rfl rfl rfl) (by decide) ?_
  refine lv_iconst (v := iI 0) hx hb (D_3 W_prog_5_method_8_code_0 25 rfl rfl) rfl ?_
  obtain ⟨g8, hf⟩ := gif hf
  obtain ⟨r9, F9, B9, hc9, hf⟩ := gbind hf
  refine va_calli (va_runV (As := [.int (iI 0), .int (iI 7), .int (iI 0)]) (rest := []) ⟨hx, hb, hml, hown, hts⟩ (c_Parser_takeNumber (l := l) hc9) (cwV 3 hts (gdV k_4_9 k_4_11 ks_19 k_1_4 k_4_12) rfl rfl rfl (by decide +kernel) ⟨Nat.le_of_ble_eq_true rfl, Nat.le_of_ble_eq_true rfl⟩) (zPV X hZ hS (ci := 3) g8.1 g8.2 (r := (RX3, TX3, 22)) rfl [.int (iI 0), .int (iI 7), .int (iI 0)]) rfl rfl hl.1 rfl (lv_room (Nat.le_of_ble_eq_true rfl)) (D_182 W_prog_5_method_8_code_0 26 rfl rfl rfl) ⟨Nat.le_of_ble_eq_true rfl, Nat.le_of_ble_eq_true rfl⟩) hS (fun q _ h => zAin X hS q h) (zAin X hS) (fun p9 u9 t9 H9 locs9 ht9 hv9 hw9 hB9 hz9 hk9 hS9 => ?_)
  have hZ9 := zBack X ht9 hB9
  subst hw9
  obtain ⟨g10, hf⟩ := gif hf
  refine z0ne (tgt := 34) hx hb g10 (D_154 W_prog_5_method_8_code_0 29 rfl rfl rfl) (by decide) (fun h11 => ?_) (fun h11 => ?_)
  · replace hf := gneg hf h11
    refine lv_aload_n hx hb (D_43 W_prog_5_method_8_code_32 2 rfl rfl) rfl (lv_at hl 2 rfl) ?_
    refine lv_iload_n hx hb (D_28 W_prog_5_method_8_code_32 3 rfl rfl) rfl (lv_at hl 0 rfl) ?_
    obtain ⟨g12, hf⟩ := gif hf
    refine z0eq (tgt := 47) hx hb g12 (D_153 W_prog_5_method_8_code_32 4 rfl rfl rfl) (by decide) (fun h13 => ?_) (fun h13 => ?_)
    · replace hf := gpos hf h13
      refine lv_aload_n hx hb (D_42 W_prog_5_method_8_code_32 15 rfl rfl) rfl (lv_at hl 1 rfl) ?_
      refine zget (ci := 3) (C := RX3) (T := TX3) (v := .int (iI (F9 3 l0 19))) (k := 19) hx hb hts inW_3 hown hK hZ9 g8.1 g8.2 rfl (by decide) k_1_136 rfl (D_180 W_prog_5_method_8_code_32 16 rfl rfl rfl) ?_
      obtain ⟨g14, hf⟩ := gif hf
      refine W.eq (g2 := F0 m 51 ls [.int (iI (F9 3 l0 19)), va_rf (zrf ad 6 l1)]) (by rw [zrf_pos (ad := ad) (t := 6) g14.1]; try rfl) ?_
      exact b_Parser_takeKey_51 X hf hZ9 hS9 (lv_sub hl [1, 2] rfl)
    · replace hf := gneg hf h13
      refine lv_aload_n hx hb (D_42 W_prog_5_method_8_code_32 7 rfl rfl) rfl (lv_at hl 1 rfl) ?_
      refine zget (ci := 3) (C := RX3) (T := TX3) (v := .int (iI (F9 3 l0 19))) (k := 19) hx hb hts inW_3 hown hK hZ9 g8.1 g8.2 rfl (by decide) k_1_136 rfl (D_180 W_prog_5_method_8_code_32 8 rfl rfl rfl) ?_
      refine zneg hx hb (D_116 W_prog_5_method_8_code_32 11 rfl rfl) ?_
      refine lv_goto (tgt := 51) hx hb (D_167 W_prog_5_method_8_code_32 12 rfl rfl rfl) (by decide) ?_
      obtain ⟨g15, hf⟩ := gif hf
      refine W.eq (g2 := F0 m 51 ls [.int (iI (-(F9 3 l0 19))), va_rf (zrf ad 6 l1)]) (by rw [zrf_pos (ad := ad) (t := 6) g15.1]; try rfl) ?_
      exact b_Parser_takeKey_51 X hf hZ9 hS9 (lv_sub hl [1, 2] rfl)
  · replace hf := gpos hf h11
    refine lv_iconst (v := iI 0) hx hb (D_3 W_prog_5_method_8_code_32 0 rfl rfl) rfl ?_
    cases hf
    exact W.zret hx hb hr rfl (fun t ht hW => ⟨⟨_, (), rfl, rfl, by rw [ht]; exact hZ9, va_K.moved hW.alike hK⟩, hS9.F ht⟩) hS9.2.2 (D_172 W_prog_5_method_8_code_32 1 rfl rfl) hlk

def f_Parser_takeKey (K : zK) (l0 : Int) (l1 : Int) (F : zF) (B : zB) : zO := if 0 ≤ l0 ∧ l0 < K.2 3 then if 0 ≤ (F 3 l0 11) ∧ (F 3 l0 11) < K.2 10 then zbind (f_Tokens_isSign K (F 3 l0 11) 45 F B) (fun r3 F3 B3 => if r32 r3 then (if r3 = 0 then f_Parser_takeKey_21 K r3 l0 l1 F3 B3 else if 0 ≤ (F3 3 l0 11) ∧ (F3 3 l0 11) < K.2 10 then zbind (f_Tokens_advance K (F3 3 l0 11) F3 B3) (fun r7 F7 B7 => f_Parser_takeKey_21 K r3 l0 l1 F7 B7) else none) else none) else none else none
set_option maxHeartbeats 4000000 in
set_option maxRecDepth 100000 in
theorem c_Parser_takeKey {l : Launch} {D : va_G} {ca : Nat → ClassId} {ad : Nat → Int → Nat → Nat} {L : List Nat} {aS vS : Nat → Nat} {sz : Nat} {K : zK}  {l0 : Int} {l1 : Int} {F F9 : zF} {B B9 : zB} {r : Int} (hf : f_Parser_takeKey K l0 l1 F B = some (r, F9, B9)) : Met l ({ cls := "StaveHouse$Parser", name := "takeKey", desc := "(LStaveHouse$Piece;)Z" } : Jvm.MethodName) (Cond.code ({ cls := "StaveHouse$Parser", name := "takeKey", desc := "(LStaveHouse$Piece;)Z" } : Jvm.MethodName) prog_5_method_8_code 3 (Option.some Jvm.ClassFile.FieldType.boolean) :: wAll) ({ frames := 2, cells := 0, slots := 0, locals := 45 } : Room) (va_Pc [.ref (ad 3 l0 0), .ref (ad 6 l1 0)] (zPre D ca ad lnC K.2 L aS vS F B sz)) (Q_Parser_takeKey K D ca ad L r F9 B9 (zA L sz)) 0 0 (zA L sz) := by
  refine zMet (Qc := Q_Parser_takeKey K D ca ad L r F9 B9) (lv := [(0, .ref (ad 3 l0 0)), (1, .ref (ad 6 l1 0))]) (by decide) (Nat.le_of_ble_eq_true rfl) rfl (fun A p e s m below meth c ls X hZ hS hl => ?_)
  obtain ⟨hx, hb, hr, hml, hown, hts, hlk, hK, hA, hL, hX⟩ := id X
  replace hf : (if 0 ≤ l0 ∧ l0 < K.2 3 then if 0 ≤ (F 3 l0 11) ∧ (F 3 l0 11) < K.2 10 then zbind (f_Tokens_isSign K (F 3 l0 11) 45 F B) (fun r3 F3 B3 => if r32 r3 then (if r3 = 0 then f_Parser_takeKey_21 K r3 l0 l1 F3 B3 else if 0 ≤ (F3 3 l0 11) ∧ (F3 3 l0 11) < K.2 10 then zbind (f_Tokens_advance K (F3 3 l0 11) F3 B3) (fun r7 F7 B7 => f_Parser_takeKey_21 K r3 l0 l1 F7 B7) else none) else none) else none else none) = some (r, F9, B9) := hf
  refine lv_aload_n hx hb (D_42 W_prog_5_method_8_code_0 0 rfl rfl) rfl (lv_at hl 0 rfl) ?_
  obtain ⟨g1, hf⟩ := gif hf
  refine zget (ci := 3) (C := RX3) (T := TX3) (v := va_rf (zrf ad 10 (F 3 l0 11))) (k := 11) hx hb hts inW_3 hown hK hZ g1.1 g1.2 rfl (by decide) k_1_128 rfl (D_180 W_prog_5_method_8_code_0 1 rfl rfl rfl) ?_
  refine lv_bipush (v := iI 45) hx hb (D_16 W_prog_5_method_8_code_0 4 rfl rfl rfl) (by decide) ?_
  obtain ⟨g2, hf⟩ := gif hf
  refine W.eq (g2 := F0 m 6 ls [.int (iI 45), .ref (ad 10 (F 3 l0 11) 0)]) (by rw [zrf_pos (ad := ad) (t := 10) g2.1]; try rfl) ?_
  obtain ⟨r3, F3, B3, hc3, hf⟩ := gbind hf
  refine va_calli (va_runV (As := [.int (iI 45)]) (rest := []) ⟨hx, hb, hml, hown, hts⟩ (c_Tokens_isSign (l := l) hc3) (cwV 1 hts (gdV k_3_208 k_3_209 k_3_210 k_1_5 k_3_211) rfl rfl rfl (by decide +kernel) ⟨Nat.le_of_ble_eq_true rfl, Nat.le_of_ble_eq_true rfl⟩) (zPV X hZ hS (ci := 10) g2.1 g2.2 (r := (RX10, TX10, 9)) rfl [.int (iI 45)]) rfl rfl hl.1 rfl (lv_room (Nat.le_of_ble_eq_true rfl)) (D_182 W_prog_5_method_8_code_0 6 rfl rfl rfl) ⟨Nat.le_of_ble_eq_true rfl, Nat.le_of_ble_eq_true rfl⟩) hS (fun q _ h => zAin X hS q h) (zAin X hS) (fun p3 u3 t3 H3 locs3 ht3 hv3 hw3 hB3 hz3 hk3 hS3 => ?_)
  have hZ3 := zBack X ht3 hB3
  subst hw3
  refine lv_istore_n (lv' := [(2, .int (iI r3)), (0, .ref (ad 3 l0 0)), (1, .ref (ad 6 l1 0))]) hx hb (D_61 W_prog_5_method_8_code_0 9 rfl rfl) rfl hl (by decide) rfl (fun ls hl => ?_)
  refine lv_iload_n hx hb (D_28 W_prog_5_method_8_code_0 10 rfl rfl) rfl (lv_at hl 0 rfl) ?_
  obtain ⟨g4, hf⟩ := gif hf
  refine z0eq (tgt := 21) hx hb g4 (D_153 W_prog_5_method_8_code_0 11 rfl rfl rfl) (by decide) (fun h5 => ?_) (fun h5 => ?_)
  · replace hf := gpos hf h5
    exact b_Parser_takeKey_21 X hf hZ3 hS3 (lv_sub hl [0, 1, 2] rfl)
  · replace hf := gneg hf h5
    refine lv_aload_n hx hb (D_42 W_prog_5_method_8_code_0 14 rfl rfl) rfl (lv_at hl 1 rfl) ?_
    refine zget (ci := 3) (C := RX3) (T := TX3) (v := va_rf (zrf ad 10 (F3 3 l0 11))) (k := 11) hx hb hts inW_3 hown hK hZ3 g1.1 g1.2 rfl (by decide) k_1_128 rfl (D_180 W_prog_5_method_8_code_0 15 rfl rfl rfl) ?_
    obtain ⟨g6, hf⟩ := gif hf
    refine W.eq (g2 := F0 m 18 ls [.ref (ad 10 (F3 3 l0 11) 0)]) (by rw [zrf_pos (ad := ad) (t := 10) g6.1]; try rfl) ?_
    obtain ⟨r7, F7, B7, hc7, hf⟩ := gbind hf
    refine va_callv (va_runV (As := []) (rest := []) ⟨hx, hb, hml, hown, hts⟩ (c_Tokens_advance (l := l) hc7) (cwV 0 hts (gdV k_3_180 k_3_152 k_3_153 k_1_5 k_3_154) rfl rfl rfl (by decide +kernel) ⟨Nat.le_of_ble_eq_true rfl, Nat.le_of_ble_eq_true rfl⟩) (zPV X hZ3 hS3 (ci := 10) g6.1 g6.2 (r := (RX10, TX10, 9)) rfl []) rfl rfl hl.1 rfl (lv_room (Nat.le_of_ble_eq_true rfl)) (D_182 W_prog_5_method_8_code_0 18 rfl rfl rfl) ⟨Nat.le_of_ble_eq_true rfl, Nat.le_of_ble_eq_true rfl⟩) hS3 (fun q _ h => zAin X hS3 q h) (zAin X hS3) (fun u7 t7 H7 locs7 ht7 hv7 hw7 hB7 hz7 hk7 hS7 => ?_)
    have hZ7 := zBack X ht7 hB7
    exact b_Parser_takeKey_21 X hf hZ7 hS7 (lv_sub hl [0, 1, 2] rfl)

abbrev Q_Parser_takeTime (K : zK) (D : va_G) (ca : Nat → ClassId) (ad : Nat → Int → Nat → Nat) (L : List Nat) (r : Int) (F : zF) (B : zB) (A : Nat → Prop) : Array Value → State → Outcome → State → Prop := va_Qi (S := Unit) (fun p _ => p = iI r) (fun _ => zPo D ca ad lnC K.2 L F B A) A
def f_Parser_takeTime_41 (K : zK)  (F : zF) (B : zB) : zO := some (0, F, B)
set_option maxHeartbeats 4000000 in
set_option maxRecDepth 100000 in
theorem b_Parser_takeTime_41 {D : va_G} {ca : Nat → ClassId} {ad : Nat → Int → Nat → Nat} {L : List Nat} {aS vS : Nat → Nat} {A : Nat → Prop} {p : Program} {l : Launch} {e : Env} {s : State} {m : MethodId} {args : Array Value} {below : List Frame} {meth : Method} {c : Code} {K : zK} {r : Int} {F9 : zF} {B9 : zB} (X : zX D ca L aS vS A p s m args meth c prog_5_method_7_code 2 (Option.some Jvm.ClassFile.FieldType.boolean) "StaveHouse$Parser")  {F : zF} {B : zB} {H : Heap} {locs : List Loc} {ls : Array Slot} (hf : f_Parser_takeTime_41 K  F B = some (r, F9, B9)) (hZ : zH D ca ad lnC K.2 L F B A H) (hS : va_S A s.heap H locs) (hl : lv_has ls 2 []) : W p l e ({ frames := 2, cells := 0, slots := 0, locals := 45 } : Room) s m args below meth c H locs 0 0 (MQ below (Q_Parser_takeTime K D ca ad L r F9 B9 A) args s 0 0 A) (F0 m 41 ls []) := by
  obtain ⟨hx, hb, hr, hml, hown, hts, hlk, hK, hA, hL, hX⟩ := id X
  replace hf : (some (0, F, B)) = some (r, F9, B9) := hf
  refine lv_iconst (v := iI 0) hx hb (D_3 W_prog_5_method_7_code_32 9 rfl rfl) rfl ?_
  cases hf
  exact W.zret hx hb hr rfl (fun t ht hW => ⟨⟨_, (), rfl, rfl, by rw [ht]; exact hZ, va_K.moved hW.alike hK⟩, hS.F ht⟩) hS.2.2 (D_172 W_prog_5_method_7_code_32 10 rfl rfl) hlk

def f_Parser_takeTime (K : zK) (l0 : Int) (l1 : Int) (F : zF) (B : zB) : zO := if 0 ≤ l0 ∧ l0 < K.2 3 then zbind (f_Parser_takeNumber K l0 1 12 0 F B) (fun r2 F2 B2 => if r32 r2 then (if r2 = 0 then some (0, F2, B2) else if 0 ≤ l1 ∧ l1 < K.2 6 then zbind (f_Parser_takeSign K l0 47 (zup3 F2 6 l1 4 (F2 3 l0 19)) B2) (fun r7 F7 B7 => if r32 r7 then (if r7 = 0 then f_Parser_takeTime_41 K F7 B7 else zbind (f_Parser_takeNumber K l0 2 16 1 F7 B7) (fun r10 F10 B10 => if r32 r10 then (if r10 = 0 then f_Parser_takeTime_41 K F10 B10 else some (1, (zup3 F10 6 l1 5 (F10 3 l0 19)), B10)) else none)) else none) else none) else none) else none
set_option maxHeartbeats 4000000 in
set_option maxRecDepth 100000 in
theorem c_Parser_takeTime {l : Launch} {D : va_G} {ca : Nat → ClassId} {ad : Nat → Int → Nat → Nat} {L : List Nat} {aS vS : Nat → Nat} {sz : Nat} {K : zK}  {l0 : Int} {l1 : Int} {F F9 : zF} {B B9 : zB} {r : Int} (hf : f_Parser_takeTime K l0 l1 F B = some (r, F9, B9)) : Met l ({ cls := "StaveHouse$Parser", name := "takeTime", desc := "(LStaveHouse$Piece;)Z" } : Jvm.MethodName) (Cond.code ({ cls := "StaveHouse$Parser", name := "takeTime", desc := "(LStaveHouse$Piece;)Z" } : Jvm.MethodName) prog_5_method_7_code 2 (Option.some Jvm.ClassFile.FieldType.boolean) :: wAll) ({ frames := 2, cells := 0, slots := 0, locals := 45 } : Room) (va_Pc [.ref (ad 3 l0 0), .ref (ad 6 l1 0)] (zPre D ca ad lnC K.2 L aS vS F B sz)) (Q_Parser_takeTime K D ca ad L r F9 B9 (zA L sz)) 0 0 (zA L sz) := by
  refine zMet (Qc := Q_Parser_takeTime K D ca ad L r F9 B9) (lv := [(0, .ref (ad 3 l0 0)), (1, .ref (ad 6 l1 0))]) (by decide) (Nat.le_of_ble_eq_true rfl) rfl (fun A p e s m below meth c ls X hZ hS hl => ?_)
  obtain ⟨hx, hb, hr, hml, hown, hts, hlk, hK, hA, hL, hX⟩ := id X
  replace hf : (if 0 ≤ l0 ∧ l0 < K.2 3 then zbind (f_Parser_takeNumber K l0 1 12 0 F B) (fun r2 F2 B2 => if r32 r2 then (if r2 = 0 then some (0, F2, B2) else if 0 ≤ l1 ∧ l1 < K.2 6 then zbind (f_Parser_takeSign K l0 47 (zup3 F2 6 l1 4 (F2 3 l0 19)) B2) (fun r7 F7 B7 => if r32 r7 then (if r7 = 0 then f_Parser_takeTime_41 K F7 B7 else zbind (f_Parser_takeNumber K l0 2 16 1 F7 B7) (fun r10 F10 B10 => if r32 r10 then (if r10 = 0 then f_Parser_takeTime_41 K F10 B10 else some (1, (zup3 F10 6 l1 5 (F10 3 l0 19)), B10)) else none)) else none) else none) else none) else none) = some (r, F9, B9) := hf
  refine lv_aload_n hx hb (D_42 W_prog_5_method_7_code_0 0 rfl rfl) rfl (lv_at hl 0 rfl) ?_
  refine lv_iconst (v := iI 1) hx hb (D_4 W_prog_5_method_7_code_0 1 rfl rfl) rfl ?_
  refine lv_bipush (v := iI 12) hx hb (D_16 W_prog_5_method_7_code_0 2 rfl rfl rfl) (by decide) ?_
  refine lv_iconst (v := iI 0) hx hb (D_3 W_prog_5_method_7_code_0 4 rfl rfl) rfl ?_
  obtain ⟨g1, hf⟩ := gif hf
  obtain ⟨r2, F2, B2, hc2, hf⟩ := gbind hf
  refine va_calli (va_runV (As := [.int (iI 1), .int (iI 12), .int (iI 0)]) (rest := []) ⟨hx, hb, hml, hown, hts⟩ (c_Parser_takeNumber (l := l) hc2) (cwV 3 hts (gdV k_4_9 k_4_11 ks_19 k_1_4 k_4_12) rfl rfl rfl (by decide +kernel) ⟨Nat.le_of_ble_eq_true rfl, Nat.le_of_ble_eq_true rfl⟩) (zPV X hZ hS (ci := 3) g1.1 g1.2 (r := (RX3, TX3, 22)) rfl [.int (iI 1), .int (iI 12), .int (iI 0)]) rfl rfl hl.1 rfl (lv_room (Nat.le_of_ble_eq_true rfl)) (D_182 W_prog_5_method_7_code_0 5 rfl rfl rfl) ⟨Nat.le_of_ble_eq_true rfl, Nat.le_of_ble_eq_true rfl⟩) hS (fun q _ h => zAin X hS q h) (zAin X hS) (fun p2 u2 t2 H2 locs2 ht2 hv2 hw2 hB2 hz2 hk2 hS2 => ?_)
  have hZ2 := zBack X ht2 hB2
  subst hw2
  obtain ⟨g3, hf⟩ := gif hf
  refine z0ne (tgt := 13) hx hb g3 (D_154 W_prog_5_method_7_code_0 8 rfl rfl rfl) (by decide) (fun h4 => ?_) (fun h4 => ?_)
  · replace hf := gneg hf h4
    refine lv_aload_n hx hb (D_43 W_prog_5_method_7_code_0 13 rfl rfl) rfl (lv_at hl 1 rfl) ?_
    refine lv_aload_n hx hb (D_42 W_prog_5_method_7_code_0 14 rfl rfl) rfl (lv_at hl 0 rfl) ?_
    refine zget (ci := 3) (C := RX3) (T := TX3) (v := .int (iI (F2 3 l0 19))) (k := 19) hx hb hts inW_3 hown hK hZ2 g1.1 g1.2 rfl (by decide) k_1_136 rfl (D_180 W_prog_5_method_7_code_0 15 rfl rfl rfl) ?_
    obtain ⟨g5, hf⟩ := gif hf
    refine zput (ci := 6) (C := RX6) (T := TX6) (k := 4) (v := (F2 3 l0 19)) (w := .int (iI (F2 3 l0 19))) hx hb hts inW_6 tyX6 tyX6_ok nmX6 hown hK hZ2 hS2 g5.1 g5.2 rfl (by decide) k_2_208 rfl (fun G h => congrArg (fun q => Value.int (iI q)) h) rfl rfl (zno (by decide)) (D_181 W_prog_5_method_7_code_0 18 rfl rfl rfl) (fun H6 locs6 hZ6 hS6 => ?_)
    refine lv_aload_n hx hb (D_42 W_prog_5_method_7_code_0 21 rfl rfl) rfl (lv_at hl 0 rfl) ?_
    refine lv_bipush (v := iI 47) hx hb (D_16 W_prog_5_method_7_code_0 22 rfl rfl rfl) (by decide) ?_
    obtain ⟨r7, F7, B7, hc7, hf⟩ := gbind hf
    refine va_calli (va_runV (As := [.int (iI 47)]) (rest := []) ⟨hx, hb, hml, hown, hts⟩ (c_Parser_takeSign (l := l) hc7) (cwV 1 hts (gdV k_3_204 k_3_206 ks_9 k_1_4 k_3_207) rfl rfl rfl (by decide +kernel) ⟨Nat.le_of_ble_eq_true rfl, Nat.le_of_ble_eq_true rfl⟩) (zPV X hZ6 hS6 (ci := 3) g1.1 g1.2 (r := (RX3, TX3, 22)) rfl [.int (iI 47)]) rfl rfl hl.1 rfl (lv_room (Nat.le_of_ble_eq_true rfl)) (D_182 W_prog_5_method_7_code_0 24 rfl rfl rfl) ⟨Nat.le_of_ble_eq_true rfl, Nat.le_of_ble_eq_true rfl⟩) hS6 (fun q _ h => zAin X hS6 q h) (zAin X hS6) (fun p7 u7 t7 H7 locs7 ht7 hv7 hw7 hB7 hz7 hk7 hS7 => ?_)
    have hZ7 := zBack X ht7 hB7
    subst hw7
    obtain ⟨g8, hf⟩ := gif hf
    refine z0eq (tgt := 41) hx hb g8 (D_153 W_prog_5_method_7_code_0 27 rfl rfl rfl) (by decide) (fun h9 => ?_) (fun h9 => ?_)
    · replace hf := gpos hf h9
      exact b_Parser_takeTime_41 X hf hZ7 hS7 (lv_sub hl [] rfl)
    · replace hf := gneg hf h9
      refine lv_aload_n hx hb (D_42 W_prog_5_method_7_code_0 30 rfl rfl) rfl (lv_at hl 0 rfl) ?_
      refine lv_iconst (v := iI 2) hx hb (D_5 W_prog_5_method_7_code_0 31 rfl rfl) rfl ?_
      refine lv_bipush (v := iI 16) hx hb (D_16 W_prog_5_method_7_code_32 0 rfl rfl rfl) (by decide) ?_
      refine lv_iconst (v := iI 1) hx hb (D_4 W_prog_5_method_7_code_32 2 rfl rfl) rfl ?_
      obtain ⟨r10, F10, B10, hc10, hf⟩ := gbind hf
      refine va_calli (va_runV (As := [.int (iI 2), .int (iI 16), .int (iI 1)]) (rest := []) ⟨hx, hb, hml, hown, hts⟩ (c_Parser_takeNumber (l := l) hc10) (cwV 3 hts (gdV k_4_9 k_4_11 ks_19 k_1_4 k_4_12) rfl rfl rfl (by decide +kernel) ⟨Nat.le_of_ble_eq_true rfl, Nat.le_of_ble_eq_true rfl⟩) (zPV X hZ7 hS7 (ci := 3) g1.1 g1.2 (r := (RX3, TX3, 22)) rfl [.int (iI 2), .int (iI 16), .int (iI 1)]) rfl rfl hl.1 rfl (lv_room (Nat.le_of_ble_eq_true rfl)) (D_182 W_prog_5_method_7_code_32 3 rfl rfl rfl) ⟨Nat.le_of_ble_eq_true rfl, Nat.le_of_ble_eq_true rfl⟩) hS7 (fun q _ h => zAin X hS7 q h) (zAin X hS7) (fun p10 u10 t10 H10 locs10 ht10 hv10 hw10 hB10 hz10 hk10 hS10 => ?_)
      have hZ10 := zBack X ht10 hB10
      subst hw10
      obtain ⟨g11, hf⟩ := gif hf
      refine z0ne (tgt := 43) hx hb g11 (D_154 W_prog_5_method_7_code_32 6 rfl rfl rfl) (by decide) (fun h12 => ?_) (fun h12 => ?_)
      · replace hf := gneg hf h12
        refine lv_aload_n hx hb (D_43 W_prog_5_method_7_code_32 11 rfl rfl) rfl (lv_at hl 1 rfl) ?_
        refine lv_aload_n hx hb (D_42 W_prog_5_method_7_code_32 12 rfl rfl) rfl (lv_at hl 0 rfl) ?_
        refine zget (ci := 3) (C := RX3) (T := TX3) (v := .int (iI (F10 3 l0 19))) (k := 19) hx hb hts inW_3 hown hK hZ10 g1.1 g1.2 rfl (by decide) k_1_136 rfl (D_180 W_prog_5_method_7_code_32 13 rfl rfl rfl) ?_
        refine zput (ci := 6) (C := RX6) (T := TX6) (k := 5) (v := (F10 3 l0 19)) (w := .int (iI (F10 3 l0 19))) hx hb hts inW_6 tyX6 tyX6_ok nmX6 hown hK hZ10 hS10 g5.1 g5.2 rfl (by decide) k_2_213 rfl (fun G h => congrArg (fun q => Value.int (iI q)) h) rfl rfl (zno (by decide)) (D_181 W_prog_5_method_7_code_32 16 rfl rfl rfl) (fun H13 locs13 hZ13 hS13 => ?_)
        refine lv_iconst (v := iI 1) hx hb (D_4 W_prog_5_method_7_code_32 19 rfl rfl) rfl ?_
        cases hf
        exact W.zret hx hb hr rfl (fun t ht hW => ⟨⟨_, (), rfl, rfl, by rw [ht]; exact hZ13, va_K.moved hW.alike hK⟩, hS13.F ht⟩) hS13.2.2 (D_172 W_prog_5_method_7_code_32 20 rfl rfl) hlk
      · replace hf := gpos hf h12
        exact b_Parser_takeTime_41 X hf hZ10 hS10 (lv_sub hl [] rfl)
  · replace hf := gpos hf h4
    refine lv_iconst (v := iI 0) hx hb (D_3 W_prog_5_method_7_code_0 11 rfl rfl) rfl ?_
    cases hf
    exact W.zret hx hb hr rfl (fun t ht hW => ⟨⟨_, (), rfl, rfl, by rw [ht]; exact hZ2, va_K.moved hW.alike hK⟩, hS2.F ht⟩) hS2.2.2 (D_172 W_prog_5_method_7_code_0 12 rfl rfl) hlk

abbrev Q_Walker_countItem (K : zK) (D : va_G) (ca : Nat → ClassId) (ad : Nat → Int → Nat → Nat) (L : List Nat) (r : Int) (F : zF) (B : zB) (A : Nat → Prop) : Array Value → State → Outcome → State → Prop := va_Qv (S := Unit) (fun _ => True) (fun _ => zPo D ca ad lnC K.2 L F B A) A
def f_Walker_countItem_27 (K : zK)  (F : zF) (B : zB) : zO := some (0, F, B)
set_option maxHeartbeats 4000000 in
set_option maxRecDepth 100000 in
theorem b_Walker_countItem_27 {D : va_G} {ca : Nat → ClassId} {ad : Nat → Int → Nat → Nat} {L : List Nat} {aS vS : Nat → Nat} {A : Nat → Prop} {p : Program} {l : Launch} {e : Env} {s : State} {m : MethodId} {args : Array Value} {below : List Frame} {meth : Method} {c : Code} {K : zK} {r : Int} {F9 : zF} {B9 : zB} (X : zX D ca L aS vS A p s m args meth c prog_13_method_5_code 2 (Option.none : Option Jvm.ClassFile.FieldType) "StaveHouse$Walker")  {F : zF} {B : zB} {H : Heap} {locs : List Loc} {ls : Array Slot} (hf : f_Walker_countItem_27 K  F B = some (r, F9, B9)) (hZ : zH D ca ad lnC K.2 L F B A H) (hS : va_S A s.heap H locs) (hl : lv_has ls 2 []) : W p l e ({ frames := 1, cells := 0, slots := 0, locals := 22 } : Room) s m args below meth c H locs 0 0 (MQ below (Q_Walker_countItem K D ca ad L r F9 B9 A) args s 0 0 A) (F0 m 27 ls []) := by
  obtain ⟨hx, hb, hr, hml, hown, hts, hlk, hK, hA, hL, hX⟩ := id X
  replace hf : (some (0, F, B)) = some (r, F9, B9) := hf
  cases hf
  exact W.vret hx hb hr (fun t ht hW => ⟨⟨(), rfl, trivial, by rw [ht]; exact hZ, va_K.moved hW.alike hK⟩, hS.F ht⟩) hS.2.2 (D_177 W_prog_13_method_5_code_0 27 rfl rfl) hlk

def f_Walker_countItem (K : zK) (l0 : Int) (l1 : Int) (F : zF) (B : zB) : zO := if 0 ≤ l0 ∧ l0 < K.2 11 then if r32 ((F 11 l0 3) + 1) then (if ((F 11 l0 3) + 1) ≤ 5000 then f_Walker_countItem_27 K (zup3 F 11 l0 3 ((F 11 l0 3) + 1)) B else zbind (f_Walker_refuse K l0 8 l1 (zup3 F 11 l0 3 ((F 11 l0 3) + 1)) B) (fun r5 F5 B5 => f_Walker_countItem_27 K F5 B5)) else none else none
set_option maxHeartbeats 4000000 in
set_option maxRecDepth 100000 in
theorem c_Walker_countItem {l : Launch} {D : va_G} {ca : Nat → ClassId} {ad : Nat → Int → Nat → Nat} {L : List Nat} {aS vS : Nat → Nat} {sz : Nat} {K : zK}  {l0 : Int} {l1 : Int} {F F9 : zF} {B B9 : zB} {r : Int} (hf : f_Walker_countItem K l0 l1 F B = some (r, F9, B9)) : Met l ({ cls := "StaveHouse$Walker", name := "countItem", desc := "(I)V" } : Jvm.MethodName) (Cond.code ({ cls := "StaveHouse$Walker", name := "countItem", desc := "(I)V" } : Jvm.MethodName) prog_13_method_5_code 2 (Option.none : Option Jvm.ClassFile.FieldType) :: wAll) ({ frames := 1, cells := 0, slots := 0, locals := 22 } : Room) (va_Pc [.ref (ad 11 l0 0), .int (iI l1)] (zPre D ca ad lnC K.2 L aS vS F B sz)) (Q_Walker_countItem K D ca ad L r F9 B9 (zA L sz)) 0 0 (zA L sz) := by
  refine zMet (Qc := Q_Walker_countItem K D ca ad L r F9 B9) (lv := [(0, .ref (ad 11 l0 0)), (1, .int (iI l1))]) (by decide) (Nat.le_of_ble_eq_true rfl) rfl (fun A p e s m below meth c ls X hZ hS hl => ?_)
  obtain ⟨hx, hb, hr, hml, hown, hts, hlk, hK, hA, hL, hX⟩ := id X
  replace hf : (if 0 ≤ l0 ∧ l0 < K.2 11 then if r32 ((F 11 l0 3) + 1) then (if ((F 11 l0 3) + 1) ≤ 5000 then f_Walker_countItem_27 K (zup3 F 11 l0 3 ((F 11 l0 3) + 1)) B else zbind (f_Walker_refuse K l0 8 l1 (zup3 F 11 l0 3 ((F 11 l0 3) + 1)) B) (fun r5 F5 B5 => f_Walker_countItem_27 K F5 B5)) else none else none) = some (r, F9, B9) := hf
  refine lv_aload_n hx hb (D_42 W_prog_13_method_5_code_0 0 rfl rfl) rfl (lv_at hl 0 rfl) ?_
  refine lv_dup hx hb (D_89 W_prog_13_method_5_code_0 1 rfl rfl) rfl ?_
  obtain ⟨g1, hf⟩ := gif hf
  refine zget (ci := 11) (C := RX11) (T := TX11) (v := .int (iI (F 11 l0 3))) (k := 3) hx hb hts inW_11 hown hK hZ g1.1 g1.2 rfl (by decide) k_1_193 rfl (D_180 W_prog_13_method_5_code_0 2 rfl rfl rfl) ?_
  refine lv_iconst (v := iI 1) hx hb (D_4 W_prog_13_method_5_code_0 5 rfl rfl) rfl ?_
  refine zadd hx hb (D_96 W_prog_13_method_5_code_0 6 rfl rfl) ?_
  refine zput (ci := 11) (C := RX11) (T := TX11) (k := 3) (v := ((F 11 l0 3) + 1)) (w := .int (iI ((F 11 l0 3) + 1))) hx hb hts inW_11 tyX11 tyX11_ok nmX11 hown hK hZ hS g1.1 g1.2 rfl (by decide) k_1_193 rfl (fun G h => congrArg (fun q => Value.int (iI q)) h) rfl rfl (zno (by decide)) (D_181 W_prog_13_method_5_code_0 7 rfl rfl rfl) (fun H2 locs2 hZ2 hS2 => ?_)
  refine lv_aload_n hx hb (D_42 W_prog_13_method_5_code_0 10 rfl rfl) rfl (lv_at hl 0 rfl) ?_
  refine zget (ci := 11) (C := RX11) (T := TX11) (v := .int (iI ((F 11 l0 3) + 1))) (k := 3) hx hb hts inW_11 hown hK hZ2 g1.1 g1.2 rfl (by decide) k_1_193 (congrArg (fun q : Int => Value.int (iI q)) (show (zup3 F 11 l0 3 ((F 11 l0 3) + 1)) 11 l0 3 = (F 11 l0 3) + 1 by simp [zup3])) (D_180 W_prog_13_method_5_code_0 11 rfl rfl rfl) ?_
  refine lv_sipush (v := iI 5000) hx hb (D_17 W_prog_13_method_5_code_0 14 rfl rfl rfl) (by decide) ?_
  obtain ⟨g3, hf⟩ := gif hf
  refine zle (tgt := 27) hx hb g3 (by decide) (D_164 W_prog_13_method_5_code_0 17 rfl rfl rfl) (by decide) (fun h4 => ?_) (fun h4 => ?_)
  · replace hf := gpos hf h4
    exact b_Walker_countItem_27 X hf hZ2 hS2 (lv_sub hl [] rfl)
  · replace hf := gneg hf h4
    refine lv_aload_n hx hb (D_42 W_prog_13_method_5_code_0 20 rfl rfl) rfl (lv_at hl 0 rfl) ?_
    refine lv_bipush (v := iI 8) hx hb (D_16 W_prog_13_method_5_code_0 21 rfl rfl rfl) (by decide) ?_
    refine lv_iload_n hx hb (D_27 W_prog_13_method_5_code_0 23 rfl rfl) rfl (lv_at hl 1 rfl) ?_
    obtain ⟨r5, F5, B5, hc5, hf⟩ := gbind hf
    refine va_callv (va_runV (As := [.int (iI 8), .int (iI l1)]) (rest := []) ⟨hx, hb, hml, hown, hts⟩ (c_Walker_refuse (l := l) hc5) (cwV 2 hts (gdV k_4_204 k_4_206 ks_36 k_1_6 k_4_207) rfl rfl rfl (by decide +kernel) ⟨Nat.le_of_ble_eq_true rfl, Nat.le_of_ble_eq_true rfl⟩) (zPV X hZ2 hS2 (ci := 11) g1.1 g1.2 (r := (RX11, TX11, 19)) rfl [.int (iI 8), .int (iI l1)]) rfl rfl hl.1 rfl (lv_room (Nat.le_of_ble_eq_true rfl)) (D_182 W_prog_13_method_5_code_0 24 rfl rfl rfl) ⟨Nat.le_of_ble_eq_true rfl, Nat.le_of_ble_eq_true rfl⟩) hS2 (fun q _ h => zAin X hS2 q h) (zAin X hS2) (fun u5 t5 H5 locs5 ht5 hv5 hw5 hB5 hz5 hk5 hS5 => ?_)
    have hZ5 := zBack X ht5 hB5
    exact b_Walker_countItem_27 X hf hZ5 hS5 (lv_sub hl [] rfl)

abbrev Q_Walker_addPitch (K : zK) (D : va_G) (ca : Nat → ClassId) (ad : Nat → Int → Nat → Nat) (L : List Nat) (r : Int) (F : zF) (B : zB) (A : Nat → Prop) : Array Value → State → Outcome → State → Prop := va_Qv (S := Unit) (fun _ => True) (fun _ => zPo D ca ad lnC K.2 L F B A) A
def f_Walker_addPitch_157 (K : zK)  (F : zF) (B : zB) : zO := some (0, F, B)
set_option maxHeartbeats 4000000 in
set_option maxRecDepth 100000 in
theorem b_Walker_addPitch_157 {D : va_G} {ca : Nat → ClassId} {ad : Nat → Int → Nat → Nat} {L : List Nat} {aS vS : Nat → Nat} {A : Nat → Prop} {p : Program} {l : Launch} {e : Env} {s : State} {m : MethodId} {args : Array Value} {below : List Frame} {meth : Method} {c : Code} {K : zK} {r : Int} {F9 : zF} {B9 : zB} (X : zX D ca L aS vS A p s m args meth c prog_13_method_14_code 7 (Option.none : Option Jvm.ClassFile.FieldType) "StaveHouse$Walker")  {F : zF} {B : zB} {H : Heap} {locs : List Loc} {ls : Array Slot} (hf : f_Walker_addPitch_157 K  F B = some (r, F9, B9)) (hZ : zH D ca ad lnC K.2 L F B A H) (hS : va_S A s.heap H locs) (hl : lv_has ls 7 []) : W p l e ({ frames := 2, cells := 0, slots := 0, locals := 42 } : Room) s m args below meth c H locs 0 0 (MQ below (Q_Walker_addPitch K D ca ad L r F9 B9 A) args s 0 0 A) (F0 m 157 ls []) := by
  obtain ⟨hx, hb, hr, hml, hown, hts, hlk, hK, hA, hL, hX⟩ := id X
  replace hf : (some (0, F, B)) = some (r, F9, B9) := hf
  cases hf
  exact W.vret hx hb hr (fun t ht hW => ⟨⟨(), rfl, trivial, by rw [ht]; exact hZ, va_K.moved hW.alike hK⟩, hS.F ht⟩) hS.2.2 (D_177 W_prog_13_method_14_code_128 29 rfl rfl) hlk

def f_Walker_addPitch_142 (K : zK) (l0 : Int) (l2 : Int) (F : zF) (B : zB) : zO := if 0 ≤ l0 ∧ l0 < K.2 11 then if 0 ≤ (F 11 l0 0) ∧ (F 11 l0 0) < K.2 3 then if 0 ≤ l2 ∧ l2 < 1500 then zbind (f_Walker_refuse K l0 9 (B 3 (F 11 l0 0) 10 l2) F B) (fun r29 F29 B29 => f_Walker_addPitch_157 K F29 B29) else none else none else none
set_option maxHeartbeats 4000000 in
set_option maxRecDepth 100000 in
theorem b_Walker_addPitch_142 {D : va_G} {ca : Nat → ClassId} {ad : Nat → Int → Nat → Nat} {L : List Nat} {aS vS : Nat → Nat} {A : Nat → Prop} {p : Program} {l : Launch} {e : Env} {s : State} {m : MethodId} {args : Array Value} {below : List Frame} {meth : Method} {c : Code} {K : zK} {r : Int} {F9 : zF} {B9 : zB} (X : zX D ca L aS vS A p s m args meth c prog_13_method_14_code 7 (Option.none : Option Jvm.ClassFile.FieldType) "StaveHouse$Walker") {l0 : Int} {l2 : Int} {F : zF} {B : zB} {H : Heap} {locs : List Loc} {ls : Array Slot} (hf : f_Walker_addPitch_142 K l0 l2 F B = some (r, F9, B9)) (hZ : zH D ca ad lnC K.2 L F B A H) (hS : va_S A s.heap H locs) (hl : lv_has ls 7 [(0, .ref (ad 11 l0 0)), (2, .int (iI l2))]) : W p l e ({ frames := 2, cells := 0, slots := 0, locals := 42 } : Room) s m args below meth c H locs 0 0 (MQ below (Q_Walker_addPitch K D ca ad L r F9 B9 A) args s 0 0 A) (F0 m 142 ls []) := by
  obtain ⟨hx, hb, hr, hml, hown, hts, hlk, hK, hA, hL, hX⟩ := id X
  replace hf : (if 0 ≤ l0 ∧ l0 < K.2 11 then if 0 ≤ (F 11 l0 0) ∧ (F 11 l0 0) < K.2 3 then if 0 ≤ l2 ∧ l2 < 1500 then zbind (f_Walker_refuse K l0 9 (B 3 (F 11 l0 0) 10 l2) F B) (fun r29 F29 B29 => f_Walker_addPitch_157 K F29 B29) else none else none else none) = some (r, F9, B9) := hf
  refine lv_aload_n hx hb (D_42 W_prog_13_method_14_code_128 14 rfl rfl) rfl (lv_at hl 0 rfl) ?_
  refine lv_bipush (v := iI 9) hx hb (D_16 W_prog_13_method_14_code_128 15 rfl rfl rfl) (by decide) ?_
  refine lv_aload_n hx hb (D_42 W_prog_13_method_14_code_128 17 rfl rfl) rfl (lv_at hl 0 rfl) ?_
  obtain ⟨g26, hf⟩ := gif hf
  refine zget (ci := 11) (C := RX11) (T := TX11) (v := va_rf (zrf ad 3 (F 11 l0 0))) (k := 0) hx hb hts inW_11 hown hK hZ g26.1 g26.2 rfl (by decide) k_1_190 rfl (D_180 W_prog_13_method_14_code_128 18 rfl rfl rfl) ?_
  obtain ⟨g27, hf⟩ := gif hf
  refine zunrf g27.1 ?_
  refine zget (ci := 3) (C := RX3) (T := TX3) (v := .ref (ad 3 (F 11 l0 0) (10 + 1))) (k := 10) hx hb hts inW_3 hown hK hZ g27.1 g27.2 rfl (by decide) k_1_127 rfl (D_180 W_prog_13_method_14_code_128 21 rfl rfl rfl) ?_
  refine lv_iload_n hx hb (D_28 W_prog_13_method_14_code_128 24 rfl rfl) rfl (lv_at hl 1 rfl) ?_
  obtain ⟨g28, hf⟩ := gif hf
  refine zald (ci := 3) (k := 10) hx hb hK rfl hZ g27.1 g27.2 rfl (Nat.le_of_ble_eq_true rfl) g28.1 g28.2 (D_46 W_prog_13_method_14_code_128 25 rfl rfl) ?_
  obtain ⟨r29, F29, B29, hc29, hf⟩ := gbind hf
  refine va_callv (va_runV (As := [.int (iI 9), .int (iI (B 3 (F 11 l0 0) 10 l2))]) (rest := []) ⟨hx, hb, hml, hown, hts⟩ (c_Walker_refuse (l := l) hc29) (cwV 2 hts (gdV k_4_204 k_4_206 ks_36 k_1_6 k_4_207) rfl rfl rfl (by decide +kernel) ⟨Nat.le_of_ble_eq_true rfl, Nat.le_of_ble_eq_true rfl⟩) (zPV X hZ hS (ci := 11) g26.1 g26.2 (r := (RX11, TX11, 19)) rfl [.int (iI 9), .int (iI (B 3 (F 11 l0 0) 10 l2))]) rfl rfl hl.1 rfl (lv_room (Nat.le_of_ble_eq_true rfl)) (D_182 W_prog_13_method_14_code_128 26 rfl rfl rfl) ⟨Nat.le_of_ble_eq_true rfl, Nat.le_of_ble_eq_true rfl⟩) hS (fun q _ h => zAin X hS q h) (zAin X hS) (fun u29 t29 H29 locs29 ht29 hv29 hw29 hB29 hz29 hk29 hS29 => ?_)
  have hZ29 := zBack X ht29 hB29
  exact b_Walker_addPitch_157 X hf hZ29 hS29 (lv_sub hl [] rfl)

def f_Walker_addPitch_122 (K : zK) (l5 : Int) (l4 : Int) (l3 : Int) (l0 : Int) (l1 : Int) (l2 : Int) (F : zF) (B : zB) : zO := if r32 l5 then (if l5 = 0 then f_Walker_addPitch_142 K l0 l2 F B else zbind (f_S_naturalTone K l3 F B) (fun r21 F21 B21 => if 0 ≤ l1 ∧ l1 < K.2 1 then zbind (f_Event_insert K l1 l3 (l4 - r21) F21 B21) (fun r23 F23 B23 => if r32 r23 then (if r23 = 0 then f_Walker_addPitch_142 K l0 l2 F23 B23 else f_Walker_addPitch_157 K F23 B23) else none) else none)) else none
set_option maxHeartbeats 4000000 in
set_option maxRecDepth 100000 in
theorem b_Walker_addPitch_122 {D : va_G} {ca : Nat → ClassId} {ad : Nat → Int → Nat → Nat} {L : List Nat} {aS vS : Nat → Nat} {A : Nat → Prop} {p : Program} {l : Launch} {e : Env} {s : State} {m : MethodId} {args : Array Value} {below : List Frame} {meth : Method} {c : Code} {K : zK} {r : Int} {F9 : zF} {B9 : zB} (X : zX D ca L aS vS A p s m args meth c prog_13_method_14_code 7 (Option.none : Option Jvm.ClassFile.FieldType) "StaveHouse$Walker") {l5 : Int} {l4 : Int} {l3 : Int} {l0 : Int} {l1 : Int} {l2 : Int} {F : zF} {B : zB} {H : Heap} {locs : List Loc} {ls : Array Slot} (hf : f_Walker_addPitch_122 K l5 l4 l3 l0 l1 l2 F B = some (r, F9, B9)) (hZ : zH D ca ad lnC K.2 L F B A H) (hS : va_S A s.heap H locs) (hl : lv_has ls 7 [(5, .int (iI l5)), (4, .int (iI l4)), (3, .int (iI l3)), (0, .ref (ad 11 l0 0)), (1, .ref (ad 1 l1 0)), (2, .int (iI l2))]) : W p l e ({ frames := 2, cells := 0, slots := 0, locals := 42 } : Room) s m args below meth c H locs 0 0 (MQ below (Q_Walker_addPitch K D ca ad L r F9 B9 A) args s 0 0 A) (F0 m 122 ls []) := by
  obtain ⟨hx, hb, hr, hml, hown, hts, hlk, hK, hA, hL, hX⟩ := id X
  replace hf : (if r32 l5 then (if l5 = 0 then f_Walker_addPitch_142 K l0 l2 F B else zbind (f_S_naturalTone K l3 F B) (fun r21 F21 B21 => if 0 ≤ l1 ∧ l1 < K.2 1 then zbind (f_Event_insert K l1 l3 (l4 - r21) F21 B21) (fun r23 F23 B23 => if r32 r23 then (if r23 = 0 then f_Walker_addPitch_142 K l0 l2 F23 B23 else f_Walker_addPitch_157 K F23 B23) else none) else none)) else none) = some (r, F9, B9) := hf
  refine lv_iload hx hb (D_21 W_prog_13_method_14_code_96 26 rfl rfl) (lv_at hl 0 rfl) ?_
  obtain ⟨g19, hf⟩ := gif hf
  refine z0eq (tgt := 142) hx hb g19 (D_153 W_prog_13_method_14_code_96 28 rfl rfl rfl) (by decide) (fun h20 => ?_) (fun h20 => ?_)
  · replace hf := gpos hf h20
    exact b_Walker_addPitch_142 X hf hZ hS (lv_sub hl [3, 5] rfl)
  · replace hf := gneg hf h20
    refine lv_aload_n hx hb (D_43 W_prog_13_method_14_code_96 31 rfl rfl) rfl (lv_at hl 4 rfl) ?_
    refine lv_iload_n hx hb (D_29 W_prog_13_method_14_code_128 0 rfl rfl) rfl (lv_at hl 2 rfl) ?_
    refine lv_iload hx hb (D_21 W_prog_13_method_14_code_128 1 rfl rfl) (lv_at hl 1 rfl) ?_
    refine lv_iload_n hx hb (D_29 W_prog_13_method_14_code_128 3 rfl rfl) rfl (lv_at hl 2 rfl) ?_
    obtain ⟨r21, F21, B21, hc21, hf⟩ := gbind hf
    refine va_calli (va_runSN (As := [.int (iI l3)]) (rest := [.int (iI l4), .int (iI l3), .ref (ad 1 l1 0)]) ⟨hx, hb, hml, hown, hts⟩ (c_S_naturalTone (l := l) hc21) ⟨va_cnB 1 hts (gdC k_4_64) rfl rfl rfl (hX.1 _ (List.mem_of_getElem? (i := 13) rfl) :) (hts _ k_1_1) (by decide +kernel) ⟨Nat.le_of_ble_eq_true rfl, Nat.le_of_ble_eq_true rfl⟩, hts _ k_4_63, trivial⟩ (zPS X hZ hS [.int (iI l3)]) rfl rfl hl.1 rfl (lv_room (Nat.le_of_ble_eq_true rfl)) (D_184 W_prog_13_method_14_code_128 4 rfl rfl rfl) ⟨Nat.le_of_ble_eq_true rfl, Nat.le_of_ble_eq_true rfl⟩) hS (fun q _ h => zAin X hS q h) (zAin X hS) (fun p21 u21 t21 H21 locs21 ht21 hv21 hw21 hB21 hz21 hk21 hS21 => ?_)
    have hZ21 := zBack X ht21 hB21
    subst hw21
    refine zsub hx hb (D_100 W_prog_13_method_14_code_128 7 rfl rfl) ?_
    obtain ⟨g22, hf⟩ := gif hf
    obtain ⟨r23, F23, B23, hc23, hf⟩ := gbind hf
    refine va_calli (va_runV (As := [.int (iI l3), .int (iI (l4 - r21))]) (rest := []) ⟨hx, hb, hml, hown, hts⟩ (c_Event_insert (l := l) hc23) (cwV 2 hts (gdV k_4_231 k_4_232 k_4_233 k_1_8 k_4_234) rfl rfl rfl (by decide +kernel) ⟨Nat.le_of_ble_eq_true rfl, Nat.le_of_ble_eq_true rfl⟩) (zPV X hZ21 hS21 (ci := 1) g22.1 g22.2 (r := (RX1, TX1, 14)) rfl [.int (iI l3), .int (iI (l4 - r21))]) rfl rfl hl.1 rfl (lv_room (Nat.le_of_ble_eq_true rfl)) (D_182 W_prog_13_method_14_code_128 8 rfl rfl rfl) ⟨Nat.le_of_ble_eq_true rfl, Nat.le_of_ble_eq_true rfl⟩) hS21 (fun q _ h => zAin X hS21 q h) (zAin X hS21) (fun p23 u23 t23 H23 locs23 ht23 hv23 hw23 hB23 hz23 hk23 hS23 => ?_)
    have hZ23 := zBack X ht23 hB23
    subst hw23
    obtain ⟨g24, hf⟩ := gif hf
    refine z0ne (tgt := 157) hx hb g24 (D_154 W_prog_13_method_14_code_128 11 rfl rfl rfl) (by decide) (fun h25 => ?_) (fun h25 => ?_)
    · replace hf := gneg hf h25
      exact b_Walker_addPitch_157 X hf hZ23 hS23 (lv_sub hl [] rfl)
    · replace hf := gpos hf h25
      exact b_Walker_addPitch_142 X hf hZ23 hS23 (lv_sub hl [3, 5] rfl)

def f_Walker_addPitch_114 (rec37 : Int → Int → Int → Int → Int → Int → Int → zF → zB → zO) (K : zK) (l4 : Int) (l3 : Int) (l6 : Int) (l0 : Int) (l1 : Int) (l2 : Int) (s0 : Int) (F : zF) (B : zB) : zO := rec37 (l6 - 1) s0 l4 l3 l0 l1 l2 F B
set_option maxHeartbeats 4000000 in
set_option maxRecDepth 100000 in
theorem b_Walker_addPitch_114 {D : va_G} {ca : Nat → ClassId} {ad : Nat → Int → Nat → Nat} {L : List Nat} {aS vS : Nat → Nat} {A : Nat → Prop} {p : Program} {l : Launch} {e : Env} {s : State} {m : MethodId} {args : Array Value} {below : List Frame} {meth : Method} {c : Code} {K : zK} {r : Int} {F9 : zF} {B9 : zB} (X : zX D ca L aS vS A p s m args meth c prog_13_method_14_code 7 (Option.none : Option Jvm.ClassFile.FieldType) "StaveHouse$Walker") {rec37 : Int → Int → Int → Int → Int → Int → Int → zF → zB → zO} (hrec37 : ∀ {l6 : Int} {l5 : Int} {l4 : Int} {l3 : Int} {l0 : Int} {l1 : Int} {l2 : Int} {F : zF} {B : zB} {H : Heap} {locs : List Loc} {ls : Array Slot}, rec37 l6 l5 l4 l3 l0 l1 l2 F B = some (r, F9, B9) → zH D ca ad lnC K.2 L F B A H → va_S A s.heap H locs → lv_has ls 7 [(6, .int (iI l6)), (5, .int (iI l5)), (4, .int (iI l4)), (3, .int (iI l3)), (0, .ref (ad 11 l0 0)), (1, .ref (ad 1 l1 0)), (2, .int (iI l2))] → W p l e ({ frames := 2, cells := 0, slots := 0, locals := 42 } : Room) s m args below meth c H locs 0 0 (MQ below (Q_Walker_addPitch K D ca ad L r F9 B9 A) args s 0 0 A) (F0 m 37 ls [])) {l4 : Int} {l3 : Int} {l6 : Int} {l0 : Int} {l1 : Int} {l2 : Int} {s0 : Int} {F : zF} {B : zB} {H : Heap} {locs : List Loc} {ls : Array Slot} (hf : f_Walker_addPitch_114 rec37 K l4 l3 l6 l0 l1 l2 s0 F B = some (r, F9, B9)) (hZ : zH D ca ad lnC K.2 L F B A H) (hS : va_S A s.heap H locs) (hl : lv_has ls 7 [(4, .int (iI l4)), (3, .int (iI l3)), (6, .int (iI l6)), (0, .ref (ad 11 l0 0)), (1, .ref (ad 1 l1 0)), (2, .int (iI l2))]) : W p l e ({ frames := 2, cells := 0, slots := 0, locals := 42 } : Room) s m args below meth c H locs 0 0 (MQ below (Q_Walker_addPitch K D ca ad L r F9 B9 A) args s 0 0 A) (F0 m 114 ls [.int (iI s0)]) := by
  obtain ⟨hx, hb, hr, hml, hown, hts, hlk, hK, hA, hL, hX⟩ := id X
  replace hf : (rec37 (l6 - 1) s0 l4 l3 l0 l1 l2 F B) = some (r, F9, B9) := hf
  refine lv_istore (lv' := [(5, .int (iI s0)), (4, .int (iI l4)), (3, .int (iI l3)), (6, .int (iI l6)), (0, .ref (ad 11 l0 0)), (1, .ref (ad 1 l1 0)), (2, .int (iI l2))]) hx hb (D_54 W_prog_13_method_14_code_96 18 rfl rfl) hl (by decide) rfl (fun ls hl => ?_)
  refine lv_iinc (v := iI (l6 - 1)) (lv' := [(6, .int (iI (l6 - 1))), (5, .int (iI s0)), (4, .int (iI l4)), (3, .int (iI l3)), (0, .ref (ad 11 l0 0)), (1, .ref (ad 1 l1 0)), (2, .int (iI l2))]) hx hb d_13_14_116 hl (k := 3) rfl (by rw [show Int32.ofInt (-1) = iI (-1) from rfl, iI_add]; congr 1) (by decide) rfl (fun ls hl => ?_)
  refine lv_goto (tgt := 37) hx hb (D_167 W_prog_13_method_14_code_96 23 rfl rfl rfl) (by decide) ?_
  exact hrec37 hf hZ hS (lv_sub hl [0, 1, 2, 3, 4, 5, 6] rfl)

def f_Walker_addPitch_113 (rec37 : Int → Int → Int → Int → Int → Int → Int → zF → zB → zO) (K : zK) (l4 : Int) (l3 : Int) (l6 : Int) (l0 : Int) (l1 : Int) (l2 : Int) (F : zF) (B : zB) : zO := f_Walker_addPitch_114 rec37 K l4 l3 l6 l0 l1 l2 0 F B
set_option maxHeartbeats 4000000 in
set_option maxRecDepth 100000 in
theorem b_Walker_addPitch_113 {D : va_G} {ca : Nat → ClassId} {ad : Nat → Int → Nat → Nat} {L : List Nat} {aS vS : Nat → Nat} {A : Nat → Prop} {p : Program} {l : Launch} {e : Env} {s : State} {m : MethodId} {args : Array Value} {below : List Frame} {meth : Method} {c : Code} {K : zK} {r : Int} {F9 : zF} {B9 : zB} (X : zX D ca L aS vS A p s m args meth c prog_13_method_14_code 7 (Option.none : Option Jvm.ClassFile.FieldType) "StaveHouse$Walker") {rec37 : Int → Int → Int → Int → Int → Int → Int → zF → zB → zO} (hrec37 : ∀ {l6 : Int} {l5 : Int} {l4 : Int} {l3 : Int} {l0 : Int} {l1 : Int} {l2 : Int} {F : zF} {B : zB} {H : Heap} {locs : List Loc} {ls : Array Slot}, rec37 l6 l5 l4 l3 l0 l1 l2 F B = some (r, F9, B9) → zH D ca ad lnC K.2 L F B A H → va_S A s.heap H locs → lv_has ls 7 [(6, .int (iI l6)), (5, .int (iI l5)), (4, .int (iI l4)), (3, .int (iI l3)), (0, .ref (ad 11 l0 0)), (1, .ref (ad 1 l1 0)), (2, .int (iI l2))] → W p l e ({ frames := 2, cells := 0, slots := 0, locals := 42 } : Room) s m args below meth c H locs 0 0 (MQ below (Q_Walker_addPitch K D ca ad L r F9 B9 A) args s 0 0 A) (F0 m 37 ls [])) {l4 : Int} {l3 : Int} {l6 : Int} {l0 : Int} {l1 : Int} {l2 : Int} {F : zF} {B : zB} {H : Heap} {locs : List Loc} {ls : Array Slot} (hf : f_Walker_addPitch_113 rec37 K l4 l3 l6 l0 l1 l2 F B = some (r, F9, B9)) (hZ : zH D ca ad lnC K.2 L F B A H) (hS : va_S A s.heap H locs) (hl : lv_has ls 7 [(4, .int (iI l4)), (3, .int (iI l3)), (6, .int (iI l6)), (0, .ref (ad 11 l0 0)), (1, .ref (ad 1 l1 0)), (2, .int (iI l2))]) : W p l e ({ frames := 2, cells := 0, slots := 0, locals := 42 } : Room) s m args below meth c H locs 0 0 (MQ below (Q_Walker_addPitch K D ca ad L r F9 B9 A) args s 0 0 A) (F0 m 113 ls []) := by
  obtain ⟨hx, hb, hr, hml, hown, hts, hlk, hK, hA, hL, hX⟩ := id X
  replace hf : (f_Walker_addPitch_114 rec37 K l4 l3 l6 l0 l1 l2 0 F B) = some (r, F9, B9) := hf
  refine lv_iconst (v := iI 0) hx hb (D_3 W_prog_13_method_14_code_96 17 rfl rfl) rfl ?_
  exact b_Walker_addPitch_114 X hrec37 hf hZ hS (lv_sub hl [0, 1, 2, 3, 4, 5] rfl)

def f_Walker_addPitch_37 (K : zK) : Nat → Int → Int → Int → Int → Int → Int → Int → zF → zB → zO
  | 0, _, _, _, _, _, _, _, _, _ => none
  | n + 1, l6, l5, l4, l3, l0, l1, l2, F, B => if r32 l6 then (if l6 < 0 then f_Walker_addPitch_122 K l5 l4 l3 l0 l1 l2 F B else if r32 l5 then (if l5 = 0 then f_Walker_addPitch_122 K l5 l4 l3 l0 l1 l2 F B else if 0 ≤ l0 ∧ l0 < K.2 11 then if 0 ≤ l6 ∧ l6 < 64 then if r32 ((B 11 l0 16 l6) + ((B 11 l0 15 l6) * l3)) then (if ((B 11 l0 16 l6) + ((B 11 l0 15 l6) * l3)) < 0 then f_Walker_addPitch_113 (f_Walker_addPitch_37 K n) K ((B 11 l0 17 l6) + ((B 11 l0 15 l6) * l4)) ((B 11 l0 16 l6) + ((B 11 l0 15 l6) * l3)) l6 l0 l1 l2 F B else (if 63 ≤ ((B 11 l0 16 l6) + ((B 11 l0 15 l6) * l3)) then f_Walker_addPitch_113 (f_Walker_addPitch_37 K n) K ((B 11 l0 17 l6) + ((B 11 l0 15 l6) * l4)) ((B 11 l0 16 l6) + ((B 11 l0 15 l6) * l3)) l6 l0 l1 l2 F B else zbind (f_S_naturalTone K ((B 11 l0 16 l6) + ((B 11 l0 15 l6) * l3)) F B) (fun r15 F15 B15 => if r32 (((B 11 l0 17 l6) + ((B 11 l0 15 l6) * l4)) - r15) then if r32 (zabs (((B 11 l0 17 l6) + ((B 11 l0 15 l6) * l4)) - r15)) then (if 2 < (zabs (((B 11 l0 17 l6) + ((B 11 l0 15 l6) * l4)) - r15)) then f_Walker_addPitch_113 (f_Walker_addPitch_37 K n) K ((B 11 l0 17 l6) + ((B 11 l0 15 l6) * l4)) ((B 11 l0 16 l6) + ((B 11 l0 15 l6) * l3)) l6 l0 l1 l2 F15 B15 else f_Walker_addPitch_114 (f_Walker_addPitch_37 K n) K ((B 11 l0 17 l6) + ((B 11 l0 15 l6) * l4)) ((B 11 l0 16 l6) + ((B 11 l0 15 l6) * l3)) l6 l0 l1 l2 1 F15 B15) else none else none))) else none else none else none) else none) else none
set_option maxHeartbeats 4000000 in
set_option maxRecDepth 100000 in
theorem b_Walker_addPitch_37 {D : va_G} {ca : Nat → ClassId} {ad : Nat → Int → Nat → Nat} {L : List Nat} {aS vS : Nat → Nat} {A : Nat → Prop} {p : Program} {l : Launch} {e : Env} {s : State} {m : MethodId} {args : Array Value} {below : List Frame} {meth : Method} {c : Code} {K : zK} {r : Int} {F9 : zF} {B9 : zB} (X : zX D ca L aS vS A p s m args meth c prog_13_method_14_code 7 (Option.none : Option Jvm.ClassFile.FieldType) "StaveHouse$Walker") : ∀ {n : Nat} {l6 : Int} {l5 : Int} {l4 : Int} {l3 : Int} {l0 : Int} {l1 : Int} {l2 : Int} {F : zF} {B : zB} {H : Heap} {locs : List Loc} {ls : Array Slot}, f_Walker_addPitch_37 K n l6 l5 l4 l3 l0 l1 l2 F B = some (r, F9, B9) → zH D ca ad lnC K.2 L F B A H → va_S A s.heap H locs → lv_has ls 7 [(6, .int (iI l6)), (5, .int (iI l5)), (4, .int (iI l4)), (3, .int (iI l3)), (0, .ref (ad 11 l0 0)), (1, .ref (ad 1 l1 0)), (2, .int (iI l2))] → W p l e ({ frames := 2, cells := 0, slots := 0, locals := 42 } : Room) s m args below meth c H locs 0 0 (MQ below (Q_Walker_addPitch K D ca ad L r F9 B9 A) args s 0 0 A) (F0 m 37 ls []) := by
  obtain ⟨hx, hb, hr, hml, hown, hts, hlk, hK, hA, hL, hX⟩ := id X
  intro n
  induction n with
  | zero =>
    intros
    rename_i hf _ _ _
    cases hf
  | succ n ih =>
    intro l6 l5 l4 l3 l0 l1 l2 F B H locs ls hf hZ hS hl
    replace hf : (if r32 l6 then (if l6 < 0 then f_Walker_addPitch_122 K l5 l4 l3 l0 l1 l2 F B else if r32 l5 then (if l5 = 0 then f_Walker_addPitch_122 K l5 l4 l3 l0 l1 l2 F B else if 0 ≤ l0 ∧ l0 < K.2 11 then if 0 ≤ l6 ∧ l6 < 64 then if r32 ((B 11 l0 16 l6) + ((B 11 l0 15 l6) * l3)) then (if ((B 11 l0 16 l6) + ((B 11 l0 15 l6) * l3)) < 0 then f_Walker_addPitch_113 (f_Walker_addPitch_37 K n) K ((B 11 l0 17 l6) + ((B 11 l0 15 l6) * l4)) ((B 11 l0 16 l6) + ((B 11 l0 15 l6) * l3)) l6 l0 l1 l2 F B else (if 63 ≤ ((B 11 l0 16 l6) + ((B 11 l0 15 l6) * l3)) then f_Walker_addPitch_113 (f_Walker_addPitch_37 K n) K ((B 11 l0 17 l6) + ((B 11 l0 15 l6) * l4)) ((B 11 l0 16 l6) + ((B 11 l0 15 l6) * l3)) l6 l0 l1 l2 F B else zbind (f_S_naturalTone K ((B 11 l0 16 l6) + ((B 11 l0 15 l6) * l3)) F B) (fun r15 F15 B15 => if r32 (((B 11 l0 17 l6) + ((B 11 l0 15 l6) * l4)) - r15) then if r32 (zabs (((B 11 l0 17 l6) + ((B 11 l0 15 l6) * l4)) - r15)) then (if 2 < (zabs (((B 11 l0 17 l6) + ((B 11 l0 15 l6) * l4)) - r15)) then f_Walker_addPitch_113 (f_Walker_addPitch_37 K n) K ((B 11 l0 17 l6) + ((B 11 l0 15 l6) * l4)) ((B 11 l0 16 l6) + ((B 11 l0 15 l6) * l3)) l6 l0 l1 l2 F15 B15 else f_Walker_addPitch_114 (f_Walker_addPitch_37 K n) K ((B 11 l0 17 l6) + ((B 11 l0 15 l6) * l4)) ((B 11 l0 16 l6) + ((B 11 l0 15 l6) * l3)) l6 l0 l1 l2 1 F15 B15) else none else none))) else none else none else none) else none) else none) = some (r, F9, B9) := hf
    refine lv_iload hx hb (D_21 W_prog_13_method_14_code_32 5 rfl rfl) (lv_at hl 0 rfl) ?_
    obtain ⟨g6, hf⟩ := gif hf
    refine z0lt (tgt := 122) hx hb g6 (D_155 W_prog_13_method_14_code_32 7 rfl rfl rfl) (by decide) (fun h7 => ?_) (fun h7 => ?_)
    · replace hf := gpos hf h7
      exact b_Walker_addPitch_122 X hf hZ hS (lv_sub hl [1, 2, 3, 4, 5, 6] rfl)
    · replace hf := gneg hf h7
      refine lv_iload hx hb (D_21 W_prog_13_method_14_code_32 10 rfl rfl) (lv_at hl 1 rfl) ?_
      obtain ⟨g8, hf⟩ := gif hf
      refine z0eq (tgt := 122) hx hb g8 (D_153 W_prog_13_method_14_code_32 12 rfl rfl rfl) (by decide) (fun h9 => ?_) (fun h9 => ?_)
      · replace hf := gpos hf h9
        exact b_Walker_addPitch_122 X hf hZ hS (lv_sub hl [1, 2, 3, 4, 5, 6] rfl)
      · replace hf := gneg hf h9
        refine lv_aload_n hx hb (D_42 W_prog_13_method_14_code_32 15 rfl rfl) rfl (lv_at hl 4 rfl) ?_
        obtain ⟨g10, hf⟩ := gif hf
        refine zget (ci := 11) (C := RX11) (T := TX11) (v := .ref (ad 11 l0 (16 + 1))) (k := 16) hx hb hts inW_11 hown hK hZ g10.1 g10.2 rfl (by decide) k_1_206 rfl (D_180 W_prog_13_method_14_code_32 16 rfl rfl rfl) ?_
        refine lv_iload hx hb (D_21 W_prog_13_method_14_code_32 19 rfl rfl) (lv_at hl 0 rfl) ?_
        obtain ⟨g11, hf⟩ := gif hf
        refine zald (ci := 11) (k := 16) hx hb hK rfl hZ g10.1 g10.2 rfl (Nat.le_of_ble_eq_true rfl) g11.1 g11.2 (D_46 W_prog_13_method_14_code_32 21 rfl rfl) ?_
        refine lv_aload_n hx hb (D_42 W_prog_13_method_14_code_32 22 rfl rfl) rfl (lv_at hl 4 rfl) ?_
        refine zget (ci := 11) (C := RX11) (T := TX11) (v := .ref (ad 11 l0 (15 + 1))) (k := 15) hx hb hts inW_11 hown hK hZ g10.1 g10.2 rfl (by decide) k_1_205 rfl (D_180 W_prog_13_method_14_code_32 23 rfl rfl rfl) ?_
        refine lv_iload hx hb (D_21 W_prog_13_method_14_code_32 26 rfl rfl) (lv_at hl 0 rfl) ?_
        refine zald (ci := 11) (k := 15) hx hb hK rfl hZ g10.1 g10.2 rfl (Nat.le_of_ble_eq_true rfl) g11.1 g11.2 (D_46 W_prog_13_method_14_code_32 28 rfl rfl) ?_
        refine lv_iload_n hx hb (D_29 W_prog_13_method_14_code_32 29 rfl rfl) rfl (lv_at hl 3 rfl) ?_
        refine zmul hx hb (D_104 W_prog_13_method_14_code_32 30 rfl rfl) ?_
        refine zadd hx hb (D_96 W_prog_13_method_14_code_32 31 rfl rfl) ?_
        refine lv_istore_n (lv' := [(3, .int (iI ((B 11 l0 16 l6) + ((B 11 l0 15 l6) * l3)))), (6, .int (iI l6)), (5, .int (iI l5)), (4, .int (iI l4)), (0, .ref (ad 11 l0 0)), (1, .ref (ad 1 l1 0)), (2, .int (iI l2))]) hx hb (D_62 W_prog_13_method_14_code_64 0 rfl rfl) rfl hl (by decide) rfl (fun ls hl => ?_)
        refine lv_aload_n hx hb (D_42 W_prog_13_method_14_code_64 1 rfl rfl) rfl (lv_at hl 4 rfl) ?_
        refine zget (ci := 11) (C := RX11) (T := TX11) (v := .ref (ad 11 l0 (17 + 1))) (k := 17) hx hb hts inW_11 hown hK hZ g10.1 g10.2 rfl (by decide) k_1_207 rfl (D_180 W_prog_13_method_14_code_64 2 rfl rfl rfl) ?_
        refine lv_iload hx hb (D_21 W_prog_13_method_14_code_64 5 rfl rfl) (lv_at hl 1 rfl) ?_
        refine zald (ci := 11) (k := 17) hx hb hK rfl hZ g10.1 g10.2 rfl (Nat.le_of_ble_eq_true rfl) g11.1 g11.2 (D_46 W_prog_13_method_14_code_64 7 rfl rfl) ?_
        refine lv_aload_n hx hb (D_42 W_prog_13_method_14_code_64 8 rfl rfl) rfl (lv_at hl 4 rfl) ?_
        refine zget (ci := 11) (C := RX11) (T := TX11) (v := .ref (ad 11 l0 (15 + 1))) (k := 15) hx hb hts inW_11 hown hK hZ g10.1 g10.2 rfl (by decide) k_1_205 rfl (D_180 W_prog_13_method_14_code_64 9 rfl rfl rfl) ?_
        refine lv_iload hx hb (D_21 W_prog_13_method_14_code_64 12 rfl rfl) (lv_at hl 1 rfl) ?_
        refine zald (ci := 11) (k := 15) hx hb hK rfl hZ g10.1 g10.2 rfl (Nat.le_of_ble_eq_true rfl) g11.1 g11.2 (D_46 W_prog_13_method_14_code_64 14 rfl rfl) ?_
        refine lv_iload hx hb (D_21 W_prog_13_method_14_code_64 15 rfl rfl) (lv_at hl 3 rfl) ?_
        refine zmul hx hb (D_104 W_prog_13_method_14_code_64 17 rfl rfl) ?_
        refine zadd hx hb (D_96 W_prog_13_method_14_code_64 18 rfl rfl) ?_
        refine lv_istore (lv' := [(4, .int (iI ((B 11 l0 17 l6) + ((B 11 l0 15 l6) * l4)))), (3, .int (iI ((B 11 l0 16 l6) + ((B 11 l0 15 l6) * l3)))), (6, .int (iI l6)), (5, .int (iI l5)), (0, .ref (ad 11 l0 0)), (1, .ref (ad 1 l1 0)), (2, .int (iI l2))]) hx hb (D_54 W_prog_13_method_14_code_64 19 rfl rfl) hl (by decide) rfl (fun ls hl => ?_)
        refine lv_iload_n hx hb (D_29 W_prog_13_method_14_code_64 21 rfl rfl) rfl (lv_at hl 1 rfl) ?_
        obtain ⟨g12, hf⟩ := gif hf
        refine z0lt (tgt := 113) hx hb g12 (D_155 W_prog_13_method_14_code_64 22 rfl rfl rfl) (by decide) (fun h13 => ?_) (fun h13 => ?_)
        · replace hf := gpos hf h13
          exact b_Walker_addPitch_113 X ih hf hZ hS (lv_sub hl [0, 1, 2, 4, 5, 6] rfl)
        · replace hf := gneg hf h13
          refine lv_iload_n hx hb (D_29 W_prog_13_method_14_code_64 25 rfl rfl) rfl (lv_at hl 1 rfl) ?_
          refine lv_bipush (v := iI 63) hx hb (D_16 W_prog_13_method_14_code_64 26 rfl rfl rfl) (by decide) ?_
          refine zge (tgt := 113) hx hb g12 (by decide) (D_162 W_prog_13_method_14_code_64 28 rfl rfl rfl) (by decide) (fun h14 => ?_) (fun h14 => ?_)
          · replace hf := gpos hf h14
            exact b_Walker_addPitch_113 X ih hf hZ hS (lv_sub hl [0, 1, 2, 4, 5, 6] rfl)
          · replace hf := gneg hf h14
            refine lv_iload hx hb (D_21 W_prog_13_method_14_code_64 31 rfl rfl) (lv_at hl 0 rfl) ?_
            refine lv_iload_n hx hb (D_29 W_prog_13_method_14_code_96 1 rfl rfl) rfl (lv_at hl 1 rfl) ?_
            obtain ⟨r15, F15, B15, hc15, hf⟩ := gbind hf
            refine va_calli (va_runSN (As := [.int (iI ((B 11 l0 16 l6) + ((B 11 l0 15 l6) * l3)))]) (rest := [.int (iI ((B 11 l0 17 l6) + ((B 11 l0 15 l6) * l4)))]) ⟨hx, hb, hml, hown, hts⟩ (c_S_naturalTone (l := l) hc15) ⟨va_cnB 1 hts (gdC k_4_64) rfl rfl rfl (hX.1 _ (List.mem_of_getElem? (i := 13) rfl) :) (hts _ k_1_1) (by decide +kernel) ⟨Nat.le_of_ble_eq_true rfl, Nat.le_of_ble_eq_true rfl⟩, hts _ k_4_63, trivial⟩ (zPS X hZ hS [.int (iI ((B 11 l0 16 l6) + ((B 11 l0 15 l6) * l3)))]) rfl rfl hl.1 rfl (lv_room (Nat.le_of_ble_eq_true rfl)) (D_184 W_prog_13_method_14_code_96 2 rfl rfl rfl) ⟨Nat.le_of_ble_eq_true rfl, Nat.le_of_ble_eq_true rfl⟩) hS (fun q _ h => zAin X hS q h) (zAin X hS) (fun p15 u15 t15 H15 locs15 ht15 hv15 hw15 hB15 hz15 hk15 hS15 => ?_)
            have hZ15 := zBack X ht15 hB15
            subst hw15
            refine zsub hx hb (D_100 W_prog_13_method_14_code_96 5 rfl rfl) ?_
            obtain ⟨g16, hf⟩ := gif hf
            refine va_mabs hx hb (by rw [hml]; exact hl.1.symm) hown (hts _ k_4_228) (hts _ k_4_229) (hts _ k_1_3) (hts _ k_4_230) (Nat.le_of_ble_eq_true rfl) (Nat.le_of_ble_eq_true rfl) (Nat.le_of_ble_eq_true rfl) (Nat.le_of_ble_eq_true rfl) (D_184 W_prog_13_method_14_code_96 6 rfl rfl rfl) ?_
            rw [zabs_e g16]
            refine lv_iconst (v := iI 2) hx hb (D_5 W_prog_13_method_14_code_96 9 rfl rfl) rfl ?_
            obtain ⟨g17, hf⟩ := gif hf
            refine zgt (tgt := 113) hx hb g17 (by decide) (D_163 W_prog_13_method_14_code_96 10 rfl rfl rfl) (by decide) (fun h18 => ?_) (fun h18 => ?_)
            · replace hf := gpos hf h18
              exact b_Walker_addPitch_113 X ih hf hZ15 hS15 (lv_sub hl [0, 1, 2, 4, 5, 6] rfl)
            · replace hf := gneg hf h18
              refine lv_iconst (v := iI 1) hx hb (D_4 W_prog_13_method_14_code_96 13 rfl rfl) rfl ?_
              refine lv_goto (tgt := 114) hx hb (D_167 W_prog_13_method_14_code_96 14 rfl rfl rfl) (by decide) ?_
              exact b_Walker_addPitch_114 X ih hf hZ15 hS15 (lv_sub hl [0, 1, 2, 4, 5, 6] rfl)

def f_Walker_addPitch (K : zK) (l0 : Int) (l1 : Int) (l2 : Int) (F : zF) (B : zB) : zO := if 0 ≤ l0 ∧ l0 < K.2 11 then if 0 ≤ (F 11 l0 0) ∧ (F 11 l0 0) < K.2 3 then if 0 ≤ l2 ∧ l2 < 1500 then zbind (f_S_naturalTone K (B 3 (F 11 l0 0) 8 l2) F B) (fun r4 F4 B4 => if 0 ≤ (F4 11 l0 0) ∧ (F4 11 l0 0) < K.2 3 then f_Walker_addPitch_37 K K.1 ((F4 11 l0 18) - 1) 1 (r4 + (B4 3 (F4 11 l0 0) 9 l2)) (B 3 (F 11 l0 0) 8 l2) l0 l1 l2 F4 B4 else none) else none else none else none
set_option maxHeartbeats 4000000 in
set_option maxRecDepth 100000 in
theorem c_Walker_addPitch {l : Launch} {D : va_G} {ca : Nat → ClassId} {ad : Nat → Int → Nat → Nat} {L : List Nat} {aS vS : Nat → Nat} {sz : Nat} {K : zK}  {l0 : Int} {l1 : Int} {l2 : Int} {F F9 : zF} {B B9 : zB} {r : Int} (hf : f_Walker_addPitch K l0 l1 l2 F B = some (r, F9, B9)) : Met l ({ cls := "StaveHouse$Walker", name := "addPitch", desc := "(LStaveHouse$Event;I)V" } : Jvm.MethodName) (Cond.code ({ cls := "StaveHouse$Walker", name := "addPitch", desc := "(LStaveHouse$Event;I)V" } : Jvm.MethodName) prog_13_method_14_code 7 (Option.none : Option Jvm.ClassFile.FieldType) :: wAll) ({ frames := 2, cells := 0, slots := 0, locals := 42 } : Room) (va_Pc [.ref (ad 11 l0 0), .ref (ad 1 l1 0), .int (iI l2)] (zPre D ca ad lnC K.2 L aS vS F B sz)) (Q_Walker_addPitch K D ca ad L r F9 B9 (zA L sz)) 0 0 (zA L sz) := by
  refine zMet (Qc := Q_Walker_addPitch K D ca ad L r F9 B9) (lv := [(0, .ref (ad 11 l0 0)), (1, .ref (ad 1 l1 0)), (2, .int (iI l2))]) (by decide) (Nat.le_of_ble_eq_true rfl) rfl (fun A p e s m below meth c ls X hZ hS hl => ?_)
  obtain ⟨hx, hb, hr, hml, hown, hts, hlk, hK, hA, hL, hX⟩ := id X
  replace hf : (if 0 ≤ l0 ∧ l0 < K.2 11 then if 0 ≤ (F 11 l0 0) ∧ (F 11 l0 0) < K.2 3 then if 0 ≤ l2 ∧ l2 < 1500 then zbind (f_S_naturalTone K (B 3 (F 11 l0 0) 8 l2) F B) (fun r4 F4 B4 => if 0 ≤ (F4 11 l0 0) ∧ (F4 11 l0 0) < K.2 3 then f_Walker_addPitch_37 K K.1 ((F4 11 l0 18) - 1) 1 (r4 + (B4 3 (F4 11 l0 0) 9 l2)) (B 3 (F 11 l0 0) 8 l2) l0 l1 l2 F4 B4 else none) else none else none else none) = some (r, F9, B9) := hf
  refine lv_aload_n hx hb (D_42 W_prog_13_method_14_code_0 0 rfl rfl) rfl (lv_at hl 0 rfl) ?_
  obtain ⟨g1, hf⟩ := gif hf
  refine zget (ci := 11) (C := RX11) (T := TX11) (v := va_rf (zrf ad 3 (F 11 l0 0))) (k := 0) hx hb hts inW_11 hown hK hZ g1.1 g1.2 rfl (by decide) k_1_190 rfl (D_180 W_prog_13_method_14_code_0 1 rfl rfl rfl) ?_
  obtain ⟨g2, hf⟩ := gif hf
  refine zunrf g2.1 ?_
  refine zget (ci := 3) (C := RX3) (T := TX3) (v := .ref (ad 3 (F 11 l0 0) (8 + 1))) (k := 8) hx hb hts inW_3 hown hK hZ g2.1 g2.2 rfl (by decide) k_1_123 rfl (D_180 W_prog_13_method_14_code_0 4 rfl rfl rfl) ?_
  refine lv_iload_n hx hb (D_28 W_prog_13_method_14_code_0 7 rfl rfl) rfl (lv_at hl 2 rfl) ?_
  obtain ⟨g3, hf⟩ := gif hf
  refine zald (ci := 3) (k := 8) hx hb hK rfl hZ g2.1 g2.2 rfl (Nat.le_of_ble_eq_true rfl) g3.1 g3.2 (D_46 W_prog_13_method_14_code_0 8 rfl rfl) ?_
  refine lv_istore_n (lv' := [(3, .int (iI (B 3 (F 11 l0 0) 8 l2))), (0, .ref (ad 11 l0 0)), (1, .ref (ad 1 l1 0)), (2, .int (iI l2))]) hx hb (D_62 W_prog_13_method_14_code_0 9 rfl rfl) rfl hl (by decide) rfl (fun ls hl => ?_)
  refine lv_iload_n hx hb (D_29 W_prog_13_method_14_code_0 10 rfl rfl) rfl (lv_at hl 0 rfl) ?_
  obtain ⟨r4, F4, B4, hc4, hf⟩ := gbind hf
  refine va_calli (va_runSN (As := [.int (iI (B 3 (F 11 l0 0) 8 l2))]) (rest := []) ⟨hx, hb, hml, hown, hts⟩ (c_S_naturalTone (l := l) hc4) ⟨va_cnB 1 hts (gdC k_4_64) rfl rfl rfl (hX.1 _ (List.mem_of_getElem? (i := 13) rfl) :) (hts _ k_1_1) (by decide +kernel) ⟨Nat.le_of_ble_eq_true rfl, Nat.le_of_ble_eq_true rfl⟩, hts _ k_4_63, trivial⟩ (zPS X hZ hS [.int (iI (B 3 (F 11 l0 0) 8 l2))]) rfl rfl hl.1 rfl (lv_room (Nat.le_of_ble_eq_true rfl)) (D_184 W_prog_13_method_14_code_0 11 rfl rfl rfl) ⟨Nat.le_of_ble_eq_true rfl, Nat.le_of_ble_eq_true rfl⟩) hS (fun q _ h => zAin X hS q h) (zAin X hS) (fun p4 u4 t4 H4 locs4 ht4 hv4 hw4 hB4 hz4 hk4 hS4 => ?_)
  have hZ4 := zBack X ht4 hB4
  subst hw4
  refine lv_aload_n hx hb (D_42 W_prog_13_method_14_code_0 14 rfl rfl) rfl (lv_at hl 1 rfl) ?_
  refine zget (ci := 11) (C := RX11) (T := TX11) (v := va_rf (zrf ad 3 (F4 11 l0 0))) (k := 0) hx hb hts inW_11 hown hK hZ4 g1.1 g1.2 rfl (by decide) k_1_190 rfl (D_180 W_prog_13_method_14_code_0 15 rfl rfl rfl) ?_
  obtain ⟨g5, hf⟩ := gif hf
  refine zunrf g5.1 ?_
  refine zget (ci := 3) (C := RX3) (T := TX3) (v := .ref (ad 3 (F4 11 l0 0) (9 + 1))) (k := 9) hx hb hts inW_3 hown hK hZ4 g5.1 g5.2 rfl (by decide) k_1_125 rfl (D_180 W_prog_13_method_14_code_0 18 rfl rfl rfl) ?_
  refine lv_iload_n hx hb (D_28 W_prog_13_method_14_code_0 21 rfl rfl) rfl (lv_at hl 3 rfl) ?_
  refine zald (ci := 3) (k := 9) hx hb hK rfl hZ4 g5.1 g5.2 rfl (Nat.le_of_ble_eq_true rfl) g3.1 g3.2 (D_46 W_prog_13_method_14_code_0 22 rfl rfl) ?_
  refine zadd hx hb (D_96 W_prog_13_method_14_code_0 23 rfl rfl) ?_
  refine lv_istore (lv' := [(4, .int (iI (r4 + (B4 3 (F4 11 l0 0) 9 l2)))), (3, .int (iI (B 3 (F 11 l0 0) 8 l2))), (0, .ref (ad 11 l0 0)), (1, .ref (ad 1 l1 0)), (2, .int (iI l2))]) hx hb (D_54 W_prog_13_method_14_code_0 24 rfl rfl) hl (by decide) rfl (fun ls hl => ?_)
  refine lv_iconst (v := iI 1) hx hb (D_4 W_prog_13_method_14_code_0 26 rfl rfl) rfl ?_
  refine lv_istore (lv' := [(5, .int (iI 1)), (4, .int (iI (r4 + (B4 3 (F4 11 l0 0) 9 l2)))), (3, .int (iI (B 3 (F 11 l0 0) 8 l2))), (0, .ref (ad 11 l0 0)), (1, .ref (ad 1 l1 0)), (2, .int (iI l2))]) hx hb (D_54 W_prog_13_method_14_code_0 27 rfl rfl) hl (by decide) rfl (fun ls hl => ?_)
  refine lv_aload_n hx hb (D_42 W_prog_13_method_14_code_0 29 rfl rfl) rfl (lv_at hl 3 rfl) ?_
  refine zget (ci := 11) (C := RX11) (T := TX11) (v := .int (iI (F4 11 l0 18))) (k := 18) hx hb hts inW_11 hown hK hZ4 g1.1 g1.2 rfl (by decide) k_1_208 rfl (D_180 W_prog_13_method_14_code_0 30 rfl rfl rfl) ?_
  refine lv_iconst (v := iI 1) hx hb (D_4 W_prog_13_method_14_code_32 1 rfl rfl) rfl ?_
  refine zsub hx hb (D_100 W_prog_13_method_14_code_32 2 rfl rfl) ?_
  refine lv_istore (lv' := [(6, .int (iI ((F4 11 l0 18) - 1))), (5, .int (iI 1)), (4, .int (iI (r4 + (B4 3 (F4 11 l0 0) 9 l2)))), (3, .int (iI (B 3 (F 11 l0 0) 8 l2))), (0, .ref (ad 11 l0 0)), (1, .ref (ad 1 l1 0)), (2, .int (iI l2))]) hx hb (D_54 W_prog_13_method_14_code_32 3 rfl rfl) hl (by decide) rfl (fun ls hl => ?_)
  exact b_Walker_addPitch_37 X hf hZ4 hS4 (lv_sub hl [0, 1, 2, 3, 4, 5, 6] rfl)

abbrev Q_Part_turn (K : zK) (D : va_G) (ca : Nat → ClassId) (ad : Nat → Int → Nat → Nat) (L : List Nat) (r : Int) (F : zF) (B : zB) (A : Nat → Prop) : Array Value → State → Outcome → State → Prop := va_Qv (S := Unit) (fun _ => True) (fun _ => zPo D ca ad lnC K.2 L F B A) A
def f_Part_turn_149 (rec53 : Int → Int → zF → zB → zO) (K : zK) (l4 : Int) (l3 : Int) (l0 : Int) (s0 : Int) (s1 : Int) (F : zF) (B : zB) : zO := if 0 ≤ l4 ∧ l4 < K.2 1 then rec53 (l3 + 1) l0 (zup3 F 1 l4 7 (zor s0 s1)) B else none
set_option maxHeartbeats 4000000 in
set_option maxRecDepth 100000 in
theorem b_Part_turn_149 {D : va_G} {ca : Nat → ClassId} {ad : Nat → Int → Nat → Nat} {L : List Nat} {aS vS : Nat → Nat} {A : Nat → Prop} {p : Program} {l : Launch} {e : Env} {s : State} {m : MethodId} {args : Array Value} {below : List Frame} {meth : Method} {c : Code} {K : zK} {r : Int} {F9 : zF} {B9 : zB} (X : zX D ca L aS vS A p s m args meth c prog_6_method_3_code 6 (Option.none : Option Jvm.ClassFile.FieldType) "StaveHouse$Part") {rec53 : Int → Int → zF → zB → zO} (hrec53 : ∀ {l3 : Int} {l0 : Int} {F : zF} {B : zB} {H : Heap} {locs : List Loc} {ls : Array Slot}, rec53 l3 l0 F B = some (r, F9, B9) → zH D ca ad lnC K.2 L F B A H → va_S A s.heap H locs → lv_has ls 6 [(3, .int (iI l3)), (0, .ref (ad 4 l0 0))] → W p l e ({ frames := 1, cells := 0, slots := 0, locals := 21 } : Room) s m args below meth c H locs 0 0 (MQ below (Q_Part_turn K D ca ad L r F9 B9 A) args s 0 0 A) (F0 m 53 ls [])) {l4 : Int} {l3 : Int} {l0 : Int} {s0 : Int} {s1 : Int} {F : zF} {B : zB} {H : Heap} {locs : List Loc} {ls : Array Slot} (hf : f_Part_turn_149 rec53 K l4 l3 l0 s0 s1 F B = some (r, F9, B9)) (hZ : zH D ca ad lnC K.2 L F B A H) (hS : va_S A s.heap H locs) (hl : lv_has ls 6 [(4, va_rf (zrf ad 1 l4)), (3, .int (iI l3)), (0, .ref (ad 4 l0 0))]) : W p l e ({ frames := 1, cells := 0, slots := 0, locals := 21 } : Room) s m args below meth c H locs 0 0 (MQ below (Q_Part_turn K D ca ad L r F9 B9 A) args s 0 0 A) (F0 m 149 ls [.int (iI s1), .int (iI s0)]) := by
  obtain ⟨hx, hb, hr, hml, hown, hts, hlk, hK, hA, hL, hX⟩ := id X
  replace hf : (if 0 ≤ l4 ∧ l4 < K.2 1 then rec53 (l3 + 1) l0 (zup3 F 1 l4 7 (zor s0 s1)) B else none) = some (r, F9, B9) := hf
  refine zor_r hx hb (D_128 W_prog_6_method_3_code_128 21 rfl rfl) ?_
  refine lv_istore (lv' := [(5, .int (iI (zor s0 s1))), (4, va_rf (zrf ad 1 l4)), (3, .int (iI l3)), (0, .ref (ad 4 l0 0))]) hx hb (D_54 W_prog_6_method_3_code_128 22 rfl rfl) hl (by decide) (by cases zrf ad 1 l4 <;> rfl) (fun ls hl => ?_)
  refine zaload hx hb (D_25 W_prog_6_method_3_code_128 24 rfl rfl) (lv_at hl 1 rfl) ?_
  refine lv_iload hx hb (D_21 W_prog_6_method_3_code_128 26 rfl rfl) (lv_at hl 0 rfl) ?_
  obtain ⟨g35, hf⟩ := gif hf
  refine W.eq (g2 := F0 m 156 ls [.int (iI (zor s0 s1)), .ref (ad 1 l4 0)]) (by rw [zrf_pos (ad := ad) (t := 1) g35.1]; try rfl) ?_
  refine zput (ci := 1) (C := RX1) (T := TX1) (k := 7) (v := (zor s0 s1)) (w := .int (iI (zor s0 s1))) hx hb hts inW_1 tyX1 tyX1_ok nmX1 hown hK hZ hS g35.1 g35.2 rfl (by decide) k_2_39 rfl (fun G h => congrArg (fun q => Value.int (iI q)) h) rfl rfl (zno (by decide)) (D_181 W_prog_6_method_3_code_128 28 rfl rfl rfl) (fun H36 locs36 hZ36 hS36 => ?_)
  refine lv_iinc (v := iI (l3 + 1)) (lv' := [(3, .int (iI (l3 + 1))), (5, .int (iI (zor s0 s1))), (4, va_rf (zrf ad 1 l4)), (0, .ref (ad 4 l0 0))]) hx hb d_6_3_159 hl (k := 2) rfl (iI_add _ 1) (by decide) rfl (fun ls hl => ?_)
  refine lv_goto (tgt := 53) hx hb (D_167 W_prog_6_method_3_code_160 2 rfl rfl rfl) (by decide) ?_
  exact hrec53 hf hZ36 hS36 (lv_sub hl [0, 3] rfl)

def f_Part_turn_148 (rec53 : Int → Int → zF → zB → zO) (K : zK) (l4 : Int) (l3 : Int) (l0 : Int) (s0 : Int) (F : zF) (B : zB) : zO := f_Part_turn_149 rec53 K l4 l3 l0 s0 0 F B
set_option maxHeartbeats 4000000 in
set_option maxRecDepth 100000 in
theorem b_Part_turn_148 {D : va_G} {ca : Nat → ClassId} {ad : Nat → Int → Nat → Nat} {L : List Nat} {aS vS : Nat → Nat} {A : Nat → Prop} {p : Program} {l : Launch} {e : Env} {s : State} {m : MethodId} {args : Array Value} {below : List Frame} {meth : Method} {c : Code} {K : zK} {r : Int} {F9 : zF} {B9 : zB} (X : zX D ca L aS vS A p s m args meth c prog_6_method_3_code 6 (Option.none : Option Jvm.ClassFile.FieldType) "StaveHouse$Part") {rec53 : Int → Int → zF → zB → zO} (hrec53 : ∀ {l3 : Int} {l0 : Int} {F : zF} {B : zB} {H : Heap} {locs : List Loc} {ls : Array Slot}, rec53 l3 l0 F B = some (r, F9, B9) → zH D ca ad lnC K.2 L F B A H → va_S A s.heap H locs → lv_has ls 6 [(3, .int (iI l3)), (0, .ref (ad 4 l0 0))] → W p l e ({ frames := 1, cells := 0, slots := 0, locals := 21 } : Room) s m args below meth c H locs 0 0 (MQ below (Q_Part_turn K D ca ad L r F9 B9 A) args s 0 0 A) (F0 m 53 ls [])) {l4 : Int} {l3 : Int} {l0 : Int} {s0 : Int} {F : zF} {B : zB} {H : Heap} {locs : List Loc} {ls : Array Slot} (hf : f_Part_turn_148 rec53 K l4 l3 l0 s0 F B = some (r, F9, B9)) (hZ : zH D ca ad lnC K.2 L F B A H) (hS : va_S A s.heap H locs) (hl : lv_has ls 6 [(4, va_rf (zrf ad 1 l4)), (3, .int (iI l3)), (0, .ref (ad 4 l0 0))]) : W p l e ({ frames := 1, cells := 0, slots := 0, locals := 21 } : Room) s m args below meth c H locs 0 0 (MQ below (Q_Part_turn K D ca ad L r F9 B9 A) args s 0 0 A) (F0 m 148 ls [.int (iI s0)]) := by
  obtain ⟨hx, hb, hr, hml, hown, hts, hlk, hK, hA, hL, hX⟩ := id X
  replace hf : (f_Part_turn_149 rec53 K l4 l3 l0 s0 0 F B) = some (r, F9, B9) := hf
  refine lv_iconst (v := iI 0) hx hb (D_3 W_prog_6_method_3_code_128 20 rfl rfl) rfl ?_
  exact b_Part_turn_149 X hrec53 hf hZ hS (lv_sub hl [0, 1, 2] rfl)

def f_Part_turn_114 (rec53 : Int → Int → zF → zB → zO) (K : zK) (l4 : Int) (l3 : Int) (l0 : Int) (s0 : Int) (s1 : Int) (F : zF) (B : zB) : zO := if 0 ≤ l0 ∧ l0 < K.2 4 then if r32 (l3 + 1) then if r32 (F 4 l0 6) then (if (F 4 l0 6) ≤ (l3 + 1) then f_Part_turn_148 rec53 K l4 l3 l0 (zor s0 s1) F B else if 0 ≤ (l3 + 1) ∧ (l3 + 1) < 200 then if 0 ≤ (B 4 l0 5 (l3 + 1)) ∧ (B 4 l0 5 (l3 + 1)) < K.2 1 then zbind (f_Event_has K (B 4 l0 5 (l3 + 1)) 1 F B) (fun r31 F31 B31 => if r32 r31 then (if r31 = 0 then f_Part_turn_148 rec53 K l4 l3 l0 (zor s0 s1) F31 B31 else f_Part_turn_149 rec53 K l4 l3 l0 (zor s0 s1) 1 F31 B31) else none) else none else none) else none else none else none
set_option maxHeartbeats 4000000 in
set_option maxRecDepth 100000 in
theorem b_Part_turn_114 {D : va_G} {ca : Nat → ClassId} {ad : Nat → Int → Nat → Nat} {L : List Nat} {aS vS : Nat → Nat} {A : Nat → Prop} {p : Program} {l : Launch} {e : Env} {s : State} {m : MethodId} {args : Array Value} {below : List Frame} {meth : Method} {c : Code} {K : zK} {r : Int} {F9 : zF} {B9 : zB} (X : zX D ca L aS vS A p s m args meth c prog_6_method_3_code 6 (Option.none : Option Jvm.ClassFile.FieldType) "StaveHouse$Part") {rec53 : Int → Int → zF → zB → zO} (hrec53 : ∀ {l3 : Int} {l0 : Int} {F : zF} {B : zB} {H : Heap} {locs : List Loc} {ls : Array Slot}, rec53 l3 l0 F B = some (r, F9, B9) → zH D ca ad lnC K.2 L F B A H → va_S A s.heap H locs → lv_has ls 6 [(3, .int (iI l3)), (0, .ref (ad 4 l0 0))] → W p l e ({ frames := 1, cells := 0, slots := 0, locals := 21 } : Room) s m args below meth c H locs 0 0 (MQ below (Q_Part_turn K D ca ad L r F9 B9 A) args s 0 0 A) (F0 m 53 ls [])) {l4 : Int} {l3 : Int} {l0 : Int} {s0 : Int} {s1 : Int} {F : zF} {B : zB} {H : Heap} {locs : List Loc} {ls : Array Slot} (hf : f_Part_turn_114 rec53 K l4 l3 l0 s0 s1 F B = some (r, F9, B9)) (hZ : zH D ca ad lnC K.2 L F B A H) (hS : va_S A s.heap H locs) (hl : lv_has ls 6 [(4, va_rf (zrf ad 1 l4)), (3, .int (iI l3)), (0, .ref (ad 4 l0 0))]) : W p l e ({ frames := 1, cells := 0, slots := 0, locals := 21 } : Room) s m args below meth c H locs 0 0 (MQ below (Q_Part_turn K D ca ad L r F9 B9 A) args s 0 0 A) (F0 m 114 ls [.int (iI s1), .int (iI s0)]) := by
  obtain ⟨hx, hb, hr, hml, hown, hts, hlk, hK, hA, hL, hX⟩ := id X
  replace hf : (if 0 ≤ l0 ∧ l0 < K.2 4 then if r32 (l3 + 1) then if r32 (F 4 l0 6) then (if (F 4 l0 6) ≤ (l3 + 1) then f_Part_turn_148 rec53 K l4 l3 l0 (zor s0 s1) F B else if 0 ≤ (l3 + 1) ∧ (l3 + 1) < 200 then if 0 ≤ (B 4 l0 5 (l3 + 1)) ∧ (B 4 l0 5 (l3 + 1)) < K.2 1 then zbind (f_Event_has K (B 4 l0 5 (l3 + 1)) 1 F B) (fun r31 F31 B31 => if r32 r31 then (if r31 = 0 then f_Part_turn_148 rec53 K l4 l3 l0 (zor s0 s1) F31 B31 else f_Part_turn_149 rec53 K l4 l3 l0 (zor s0 s1) 1 F31 B31) else none) else none else none) else none else none else none) = some (r, F9, B9) := hf
  refine zor_r hx hb (D_128 W_prog_6_method_3_code_96 18 rfl rfl) ?_
  refine lv_istore (lv' := [(5, .int (iI (zor s0 s1))), (4, va_rf (zrf ad 1 l4)), (3, .int (iI l3)), (0, .ref (ad 4 l0 0))]) hx hb (D_54 W_prog_6_method_3_code_96 19 rfl rfl) hl (by decide) (by cases zrf ad 1 l4 <;> rfl) (fun ls hl => ?_)
  refine lv_iload hx hb (D_21 W_prog_6_method_3_code_96 21 rfl rfl) (lv_at hl 0 rfl) ?_
  refine lv_iload_n hx hb (D_29 W_prog_6_method_3_code_96 23 rfl rfl) rfl (lv_at hl 2 rfl) ?_
  refine lv_iconst (v := iI 1) hx hb (D_4 W_prog_6_method_3_code_96 24 rfl rfl) rfl ?_
  refine zadd hx hb (D_96 W_prog_6_method_3_code_96 25 rfl rfl) ?_
  refine lv_aload_n hx hb (D_42 W_prog_6_method_3_code_96 26 rfl rfl) rfl (lv_at hl 3 rfl) ?_
  obtain ⟨g25, hf⟩ := gif hf
  refine zget (ci := 4) (C := RX4) (T := TX4) (v := .int (iI (F 4 l0 6))) (k := 6) hx hb hts inW_4 hown hK hZ g25.1 g25.2 rfl (by decide) k_4_135 rfl (D_180 W_prog_6_method_3_code_96 27 rfl rfl rfl) ?_
  obtain ⟨g26, hf⟩ := gif hf
  obtain ⟨g27, hf⟩ := gif hf
  refine zge (tgt := 148) hx hb g26 g27 (D_162 W_prog_6_method_3_code_96 30 rfl rfl rfl) (by decide) (fun h28 => ?_) (fun h28 => ?_)
  · replace hf := gpos hf h28
    exact b_Part_turn_148 X hrec53 hf hZ hS (lv_sub hl [1, 2, 3] rfl)
  · replace hf := gneg hf h28
    refine lv_aload_n hx hb (D_42 W_prog_6_method_3_code_128 1 rfl rfl) rfl (lv_at hl 3 rfl) ?_
    refine zget (ci := 4) (C := RX4) (T := TX4) (v := .ref (ad 4 l0 (5 + 1))) (k := 5) hx hb hts inW_4 hown hK hZ g25.1 g25.2 rfl (by decide) k_4_130 rfl (D_180 W_prog_6_method_3_code_128 2 rfl rfl rfl) ?_
    refine lv_iload_n hx hb (D_29 W_prog_6_method_3_code_128 5 rfl rfl) rfl (lv_at hl 2 rfl) ?_
    refine lv_iconst (v := iI 1) hx hb (D_4 W_prog_6_method_3_code_128 6 rfl rfl) rfl ?_
    refine zadd hx hb (D_96 W_prog_6_method_3_code_128 7 rfl rfl) ?_
    obtain ⟨g29, hf⟩ := gif hf
    refine zaldR (t := 1) (x := 7) (ci := 4) (k := 5) hx hb hK rfl rfl hZ g25.1 g25.2 rfl (Nat.le_of_ble_eq_true rfl) g29.1 g29.2 (D_50 W_prog_6_method_3_code_128 8 rfl rfl) ?_
    refine lv_iconst (v := iI 1) hx hb (D_4 W_prog_6_method_3_code_128 9 rfl rfl) rfl ?_
    obtain ⟨g30, hf⟩ := gif hf
    refine W.eq (g2 := F0 m 138 ls [.int (iI 1), .ref (ad 1 (B 4 l0 5 (l3 + 1)) 0), .int (iI (zor s0 s1))]) (by rw [zrf_pos (ad := ad) (t := 1) g30.1]; try rfl) ?_
    obtain ⟨r31, F31, B31, hc31, hf⟩ := gbind hf
    refine va_calli (va_runV (As := [.int (iI 1)]) (rest := [.int (iI (zor s0 s1))]) ⟨hx, hb, hml, hown, hts⟩ (c_Event_has (l := l) hc31) (cwV 1 hts (gdV k_5_15 k_5_16 k_5_17 k_1_8 k_5_18) rfl rfl rfl (by decide +kernel) ⟨Nat.le_of_ble_eq_true rfl, Nat.le_of_ble_eq_true rfl⟩) (zPV X hZ hS (ci := 1) g30.1 g30.2 (r := (RX1, TX1, 14)) rfl [.int (iI 1)]) rfl rfl hl.1 rfl (lv_room (Nat.le_of_ble_eq_true rfl)) (D_182 W_prog_6_method_3_code_128 10 rfl rfl rfl) ⟨Nat.le_of_ble_eq_true rfl, Nat.le_of_ble_eq_true rfl⟩) hS (fun q _ h => zAin X hS q h) (zAin X hS) (fun p31 u31 t31 H31 locs31 ht31 hv31 hw31 hB31 hz31 hk31 hS31 => ?_)
    have hZ31 := zBack X ht31 hB31
    subst hw31
    obtain ⟨g33, hf⟩ := gif hf
    refine z0eq (tgt := 148) hx hb g33 (D_153 W_prog_6_method_3_code_128 13 rfl rfl rfl) (by decide) (fun h34 => ?_) (fun h34 => ?_)
    · replace hf := gpos hf h34
      exact b_Part_turn_148 X hrec53 hf hZ31 hS31 (lv_sub hl [1, 2, 3] rfl)
    · replace hf := gneg hf h34
      refine lv_iconst (v := iI 1) hx hb (D_4 W_prog_6_method_3_code_128 16 rfl rfl) rfl ?_
      refine lv_goto (tgt := 149) hx hb (D_167 W_prog_6_method_3_code_128 17 rfl rfl rfl) (by decide) ?_
      exact b_Part_turn_149 X hrec53 hf hZ31 hS31 (lv_sub hl [1, 2, 3] rfl)

def f_Part_turn_95 (rec53 : Int → Int → zF → zB → zO) (K : zK) (l4 : Int) (l3 : Int) (l0 : Int) (s0 : Int) (s1 : Int) (F : zF) (B : zB) : zO := if 0 ≤ l4 ∧ l4 < K.2 1 then zbind (f_Event_has K l4 4 F B) (fun r22 F22 B22 => if r32 r22 then (if r22 = 0 then f_Part_turn_114 rec53 K l4 l3 l0 (zor s0 s1) 0 F22 B22 else f_Part_turn_114 rec53 K l4 l3 l0 (zor s0 s1) 2 F22 B22) else none) else none
set_option maxHeartbeats 4000000 in
set_option maxRecDepth 100000 in
theorem b_Part_turn_95 {D : va_G} {ca : Nat → ClassId} {ad : Nat → Int → Nat → Nat} {L : List Nat} {aS vS : Nat → Nat} {A : Nat → Prop} {p : Program} {l : Launch} {e : Env} {s : State} {m : MethodId} {args : Array Value} {below : List Frame} {meth : Method} {c : Code} {K : zK} {r : Int} {F9 : zF} {B9 : zB} (X : zX D ca L aS vS A p s m args meth c prog_6_method_3_code 6 (Option.none : Option Jvm.ClassFile.FieldType) "StaveHouse$Part") {rec53 : Int → Int → zF → zB → zO} (hrec53 : ∀ {l3 : Int} {l0 : Int} {F : zF} {B : zB} {H : Heap} {locs : List Loc} {ls : Array Slot}, rec53 l3 l0 F B = some (r, F9, B9) → zH D ca ad lnC K.2 L F B A H → va_S A s.heap H locs → lv_has ls 6 [(3, .int (iI l3)), (0, .ref (ad 4 l0 0))] → W p l e ({ frames := 1, cells := 0, slots := 0, locals := 21 } : Room) s m args below meth c H locs 0 0 (MQ below (Q_Part_turn K D ca ad L r F9 B9 A) args s 0 0 A) (F0 m 53 ls [])) {l4 : Int} {l3 : Int} {l0 : Int} {s0 : Int} {s1 : Int} {F : zF} {B : zB} {H : Heap} {locs : List Loc} {ls : Array Slot} (hf : f_Part_turn_95 rec53 K l4 l3 l0 s0 s1 F B = some (r, F9, B9)) (hZ : zH D ca ad lnC K.2 L F B A H) (hS : va_S A s.heap H locs) (hl : lv_has ls 6 [(4, va_rf (zrf ad 1 l4)), (3, .int (iI l3)), (0, .ref (ad 4 l0 0))]) : W p l e ({ frames := 1, cells := 0, slots := 0, locals := 21 } : Room) s m args below meth c H locs 0 0 (MQ below (Q_Part_turn K D ca ad L r F9 B9 A) args s 0 0 A) (F0 m 95 ls [.int (iI s1), .int (iI s0)]) := by
  obtain ⟨hx, hb, hr, hml, hown, hts, hlk, hK, hA, hL, hX⟩ := id X
  replace hf : (if 0 ≤ l4 ∧ l4 < K.2 1 then zbind (f_Event_has K l4 4 F B) (fun r22 F22 B22 => if r32 r22 then (if r22 = 0 then f_Part_turn_114 rec53 K l4 l3 l0 (zor s0 s1) 0 F22 B22 else f_Part_turn_114 rec53 K l4 l3 l0 (zor s0 s1) 2 F22 B22) else none) else none) = some (r, F9, B9) := hf
  refine zor_r hx hb (D_128 W_prog_6_method_3_code_64 31 rfl rfl) ?_
  refine lv_istore (lv' := [(5, .int (iI (zor s0 s1))), (4, va_rf (zrf ad 1 l4)), (3, .int (iI l3)), (0, .ref (ad 4 l0 0))]) hx hb (D_54 W_prog_6_method_3_code_96 0 rfl rfl) hl (by decide) (by cases zrf ad 1 l4 <;> rfl) (fun ls hl => ?_)
  refine lv_iload hx hb (D_21 W_prog_6_method_3_code_96 2 rfl rfl) (lv_at hl 0 rfl) ?_
  refine zaload hx hb (D_25 W_prog_6_method_3_code_96 4 rfl rfl) (lv_at hl 1 rfl) ?_
  refine lv_iconst (v := iI 4) hx hb (D_7 W_prog_6_method_3_code_96 6 rfl rfl) rfl ?_
  obtain ⟨g21, hf⟩ := gif hf
  refine W.eq (g2 := F0 m 103 ls [.int (iI 4), .ref (ad 1 l4 0), .int (iI (zor s0 s1))]) (by rw [zrf_pos (ad := ad) (t := 1) g21.1]; try rfl) ?_
  obtain ⟨r22, F22, B22, hc22, hf⟩ := gbind hf
  refine va_calli (va_runV (As := [.int (iI 4)]) (rest := [.int (iI (zor s0 s1))]) ⟨hx, hb, hml, hown, hts⟩ (c_Event_has (l := l) hc22) (cwV 1 hts (gdV k_5_15 k_5_16 k_5_17 k_1_8 k_5_18) rfl rfl rfl (by decide +kernel) ⟨Nat.le_of_ble_eq_true rfl, Nat.le_of_ble_eq_true rfl⟩) (zPV X hZ hS (ci := 1) g21.1 g21.2 (r := (RX1, TX1, 14)) rfl [.int (iI 4)]) rfl rfl hl.1 rfl (lv_room (Nat.le_of_ble_eq_true rfl)) (D_182 W_prog_6_method_3_code_96 7 rfl rfl rfl) ⟨Nat.le_of_ble_eq_true rfl, Nat.le_of_ble_eq_true rfl⟩) hS (fun q _ h => zAin X hS q h) (zAin X hS) (fun p22 u22 t22 H22 locs22 ht22 hv22 hw22 hB22 hz22 hk22 hS22 => ?_)
  have hZ22 := zBack X ht22 hB22
  subst hw22
  obtain ⟨g23, hf⟩ := gif hf
  refine z0eq (tgt := 113) hx hb g23 (D_153 W_prog_6_method_3_code_96 10 rfl rfl rfl) (by decide) (fun h24 => ?_) (fun h24 => ?_)
  · replace hf := gpos hf h24
    refine lv_iconst (v := iI 0) hx hb (D_3 W_prog_6_method_3_code_96 17 rfl rfl) rfl ?_
    exact b_Part_turn_114 X hrec53 hf hZ22 hS22 (lv_sub hl [1, 2, 3] rfl)
  · replace hf := gneg hf h24
    refine lv_iconst (v := iI 2) hx hb (D_5 W_prog_6_method_3_code_96 13 rfl rfl) rfl ?_
    refine lv_goto (tgt := 114) hx hb (D_167 W_prog_6_method_3_code_96 14 rfl rfl rfl) (by decide) ?_
    exact b_Part_turn_114 X hrec53 hf hZ22 hS22 (lv_sub hl [1, 2, 3] rfl)

def f_Part_turn_53 (K : zK) : Nat → Int → Int → zF → zB → zO
  | 0, _, _, _, _ => none
  | n + 1, l3, l0, F, B => if 0 ≤ l0 ∧ l0 < K.2 4 then if r32 l3 then if r32 (F 4 l0 6) then (if (F 4 l0 6) ≤ l3 then some (0, F, B) else if 0 ≤ l3 ∧ l3 < 200 then if 0 ≤ (B 4 l0 5 l3) ∧ (B 4 l0 5 l3) < K.2 1 then zbind (f_Event_has K (B 4 l0 5 l3) 2 F B) (fun r18 F18 B18 => if r32 r18 then (if r18 = 0 then f_Part_turn_95 (f_Part_turn_53 K n) K (B 4 l0 5 l3) l3 l0 (zand (F 1 (B 4 l0 5 l3) 7) (-8)) 0 F18 B18 else f_Part_turn_95 (f_Part_turn_53 K n) K (B 4 l0 5 l3) l3 l0 (zand (F 1 (B 4 l0 5 l3) 7) (-8)) 4 F18 B18) else none) else none else none) else none else none else none
set_option maxHeartbeats 4000000 in
set_option maxRecDepth 100000 in
theorem b_Part_turn_53 {D : va_G} {ca : Nat → ClassId} {ad : Nat → Int → Nat → Nat} {L : List Nat} {aS vS : Nat → Nat} {A : Nat → Prop} {p : Program} {l : Launch} {e : Env} {s : State} {m : MethodId} {args : Array Value} {below : List Frame} {meth : Method} {c : Code} {K : zK} {r : Int} {F9 : zF} {B9 : zB} (X : zX D ca L aS vS A p s m args meth c prog_6_method_3_code 6 (Option.none : Option Jvm.ClassFile.FieldType) "StaveHouse$Part") : ∀ {n : Nat} {l3 : Int} {l0 : Int} {F : zF} {B : zB} {H : Heap} {locs : List Loc} {ls : Array Slot}, f_Part_turn_53 K n l3 l0 F B = some (r, F9, B9) → zH D ca ad lnC K.2 L F B A H → va_S A s.heap H locs → lv_has ls 6 [(3, .int (iI l3)), (0, .ref (ad 4 l0 0))] → W p l e ({ frames := 1, cells := 0, slots := 0, locals := 21 } : Room) s m args below meth c H locs 0 0 (MQ below (Q_Part_turn K D ca ad L r F9 B9 A) args s 0 0 A) (F0 m 53 ls []) := by
  obtain ⟨hx, hb, hr, hml, hown, hts, hlk, hK, hA, hL, hX⟩ := id X
  intro n
  induction n with
  | zero =>
    intros
    rename_i hf _ _ _
    cases hf
  | succ n ih =>
    intro l3 l0 F B H locs ls hf hZ hS hl
    replace hf : (if 0 ≤ l0 ∧ l0 < K.2 4 then if r32 l3 then if r32 (F 4 l0 6) then (if (F 4 l0 6) ≤ l3 then some (0, F, B) else if 0 ≤ l3 ∧ l3 < 200 then if 0 ≤ (B 4 l0 5 l3) ∧ (B 4 l0 5 l3) < K.2 1 then zbind (f_Event_has K (B 4 l0 5 l3) 2 F B) (fun r18 F18 B18 => if r32 r18 then (if r18 = 0 then f_Part_turn_95 (f_Part_turn_53 K n) K (B 4 l0 5 l3) l3 l0 (zand (F 1 (B 4 l0 5 l3) 7) (-8)) 0 F18 B18 else f_Part_turn_95 (f_Part_turn_53 K n) K (B 4 l0 5 l3) l3 l0 (zand (F 1 (B 4 l0 5 l3) 7) (-8)) 4 F18 B18) else none) else none else none) else none else none else none) = some (r, F9, B9) := hf
    refine lv_iload_n hx hb (D_29 W_prog_6_method_3_code_32 21 rfl rfl) rfl (lv_at hl 0 rfl) ?_
    refine lv_aload_n hx hb (D_42 W_prog_6_method_3_code_32 22 rfl rfl) rfl (lv_at hl 1 rfl) ?_
    obtain ⟨g12, hf⟩ := gif hf
    refine zget (ci := 4) (C := RX4) (T := TX4) (v := .int (iI (F 4 l0 6))) (k := 6) hx hb hts inW_4 hown hK hZ g12.1 g12.2 rfl (by decide) k_4_135 rfl (D_180 W_prog_6_method_3_code_32 23 rfl rfl rfl) ?_
    obtain ⟨g13, hf⟩ := gif hf
    obtain ⟨g14, hf⟩ := gif hf
    refine zge (tgt := 165) hx hb g13 g14 (D_162 W_prog_6_method_3_code_32 26 rfl rfl rfl) (by decide) (fun h15 => ?_) (fun h15 => ?_)
    · replace hf := gpos hf h15
      cases hf
      exact W.vret hx hb hr (fun t ht hW => ⟨⟨(), rfl, trivial, by rw [ht]; exact hZ, va_K.moved hW.alike hK⟩, hS.F ht⟩) hS.2.2 (D_177 W_prog_6_method_3_code_160 5 rfl rfl) hlk
    · replace hf := gneg hf h15
      refine lv_aload_n hx hb (D_42 W_prog_6_method_3_code_32 29 rfl rfl) rfl (lv_at hl 1 rfl) ?_
      refine zget (ci := 4) (C := RX4) (T := TX4) (v := .ref (ad 4 l0 (5 + 1))) (k := 5) hx hb hts inW_4 hown hK hZ g12.1 g12.2 rfl (by decide) k_4_130 rfl (D_180 W_prog_6_method_3_code_32 30 rfl rfl rfl) ?_
      refine lv_iload_n hx hb (D_29 W_prog_6_method_3_code_64 1 rfl rfl) rfl (lv_at hl 0 rfl) ?_
      obtain ⟨g16, hf⟩ := gif hf
      refine zaldR (t := 1) (x := 7) (ci := 4) (k := 5) hx hb hK rfl rfl hZ g12.1 g12.2 rfl (Nat.le_of_ble_eq_true rfl) g16.1 g16.2 (D_50 W_prog_6_method_3_code_64 2 rfl rfl) ?_
      refine zastore (lv' := [(3, .int (iI l3)), (0, .ref (ad 4 l0 0))]) hx hb (D_58 W_prog_6_method_3_code_64 3 rfl rfl) hl (by decide) (fun _ _ => rfl) (fun ls hl => ?_)
      refine zaload hx hb (D_25 W_prog_6_method_3_code_64 5 rfl rfl) (lv_at hl 0 rfl) ?_
      obtain ⟨g17, hf⟩ := gif hf
      refine zunrf g17.1 ?_
      refine zget (ci := 1) (C := RX1) (T := TX1) (v := .int (iI (F 1 (B 4 l0 5 l3) 7))) (k := 7) hx hb hts inW_1 hown hK hZ g17.1 g17.2 rfl (by decide) k_2_39 rfl (D_180 W_prog_6_method_3_code_64 7 rfl rfl rfl) ?_
      refine lv_bipush (v := iI (-8)) hx hb (D_16 W_prog_6_method_3_code_64 10 rfl rfl rfl) (by decide) ?_
      refine zand_r hx hb (D_126 W_prog_6_method_3_code_64 12 rfl rfl) ?_
      refine lv_istore (lv' := [(5, .int (iI (zand (F 1 (B 4 l0 5 l3) 7) (-8)))), (4, va_rf (zrf ad 1 (B 4 l0 5 l3))), (3, .int (iI l3)), (0, .ref (ad 4 l0 0))]) hx hb (D_54 W_prog_6_method_3_code_64 13 rfl rfl) hl (by decide) (by cases zrf ad 1 (B 4 l0 5 l3) <;> rfl) (fun ls hl => ?_)
      refine lv_iload hx hb (D_21 W_prog_6_method_3_code_64 15 rfl rfl) (lv_at hl 0 rfl) ?_
      refine zaload hx hb (D_25 W_prog_6_method_3_code_64 17 rfl rfl) (lv_at hl 1 rfl) ?_
      refine lv_iconst (v := iI 2) hx hb (D_5 W_prog_6_method_3_code_64 19 rfl rfl) rfl ?_
      refine W.eq (g2 := F0 m 84 ls [.int (iI 2), .ref (ad 1 (B 4 l0 5 l3) 0), .int (iI (zand (F 1 (B 4 l0 5 l3) 7) (-8)))]) (by rw [zrf_pos (ad := ad) (t := 1) g17.1]; try rfl) ?_
      obtain ⟨r18, F18, B18, hc18, hf⟩ := gbind hf
      refine va_calli (va_runV (As := [.int (iI 2)]) (rest := [.int (iI (zand (F 1 (B 4 l0 5 l3) 7) (-8)))]) ⟨hx, hb, hml, hown, hts⟩ (c_Event_has (l := l) hc18) (cwV 1 hts (gdV k_5_15 k_5_16 k_5_17 k_1_8 k_5_18) rfl rfl rfl (by decide +kernel) ⟨Nat.le_of_ble_eq_true rfl, Nat.le_of_ble_eq_true rfl⟩) (zPV X hZ hS (ci := 1) g17.1 g17.2 (r := (RX1, TX1, 14)) rfl [.int (iI 2)]) rfl rfl hl.1 rfl (lv_room (Nat.le_of_ble_eq_true rfl)) (D_182 W_prog_6_method_3_code_64 20 rfl rfl rfl) ⟨Nat.le_of_ble_eq_true rfl, Nat.le_of_ble_eq_true rfl⟩) hS (fun q _ h => zAin X hS q h) (zAin X hS) (fun p18 u18 t18 H18 locs18 ht18 hv18 hw18 hB18 hz18 hk18 hS18 => ?_)
      have hZ18 := zBack X ht18 hB18
      subst hw18
      obtain ⟨g19, hf⟩ := gif hf
      refine z0eq (tgt := 94) hx hb g19 (D_153 W_prog_6_method_3_code_64 23 rfl rfl rfl) (by decide) (fun h20 => ?_) (fun h20 => ?_)
      · replace hf := gpos hf h20
        refine lv_iconst (v := iI 0) hx hb (D_3 W_prog_6_method_3_code_64 30 rfl rfl) rfl ?_
        exact b_Part_turn_95 X ih hf hZ18 hS18 (lv_sub hl [1, 2, 3] rfl)
      · replace hf := gneg hf h20
        refine lv_iconst (v := iI 4) hx hb (D_7 W_prog_6_method_3_code_64 26 rfl rfl) rfl ?_
        refine lv_goto (tgt := 95) hx hb (D_167 W_prog_6_method_3_code_64 27 rfl rfl rfl) (by decide) ?_
        exact b_Part_turn_95 X ih hf hZ18 hS18 (lv_sub hl [1, 2, 3] rfl)

def f_Part_turn_9 (K : zK) : Nat → Int → Int → Int → Int → zF → zB → zO
  | 0, _, _, _, _, _, _ => none
  | n + 1, l3, l2, l0, l1, F, B => if r32 l2 then if r32 l3 then (if l3 ≤ l2 then f_Part_turn_53 K K.1 l1 l0 F B else if 0 ≤ l0 ∧ l0 < K.2 4 then if 0 ≤ l2 ∧ l2 < 200 then if 0 ≤ l3 ∧ l3 < 200 then if 0 ≤ (B 4 l0 5 l3) ∧ (B 4 l0 5 l3) < K.2 1 then if 0 ≤ (B 4 l0 5 l2) ∧ (B 4 l0 5 l2) < K.2 1 then f_Part_turn_9 K n (l3 - 1) (l2 + 1) l0 l1 F (zup4 (zup4 B 4 l0 5 l2 (B 4 l0 5 l3)) 4 l0 5 l3 (B 4 l0 5 l2)) else none else none else none else none else none) else none else none
set_option maxHeartbeats 4000000 in
set_option maxRecDepth 100000 in
theorem b_Part_turn_9 {D : va_G} {ca : Nat → ClassId} {ad : Nat → Int → Nat → Nat} {L : List Nat} {aS vS : Nat → Nat} {A : Nat → Prop} {p : Program} {l : Launch} {e : Env} {s : State} {m : MethodId} {args : Array Value} {below : List Frame} {meth : Method} {c : Code} {K : zK} {r : Int} {F9 : zF} {B9 : zB} (X : zX D ca L aS vS A p s m args meth c prog_6_method_3_code 6 (Option.none : Option Jvm.ClassFile.FieldType) "StaveHouse$Part") : ∀ {n : Nat} {l3 : Int} {l2 : Int} {l0 : Int} {l1 : Int} {F : zF} {B : zB} {H : Heap} {locs : List Loc} {ls : Array Slot}, f_Part_turn_9 K n l3 l2 l0 l1 F B = some (r, F9, B9) → zH D ca ad lnC K.2 L F B A H → va_S A s.heap H locs → lv_has ls 6 [(3, .int (iI l3)), (2, .int (iI l2)), (0, .ref (ad 4 l0 0)), (1, .int (iI l1))] → W p l e ({ frames := 1, cells := 0, slots := 0, locals := 21 } : Room) s m args below meth c H locs 0 0 (MQ below (Q_Part_turn K D ca ad L r F9 B9 A) args s 0 0 A) (F0 m 9 ls []) := by
  obtain ⟨hx, hb, hr, hml, hown, hts, hlk, hK, hA, hL, hX⟩ := id X
  intro n
  induction n with
  | zero =>
    intros
    rename_i hf _ _ _
    cases hf
  | succ n ih =>
    intro l3 l2 l0 l1 F B H locs ls hf hZ hS hl
    replace hf : (if r32 l2 then if r32 l3 then (if l3 ≤ l2 then f_Part_turn_53 K K.1 l1 l0 F B else if 0 ≤ l0 ∧ l0 < K.2 4 then if 0 ≤ l2 ∧ l2 < 200 then if 0 ≤ l3 ∧ l3 < 200 then if 0 ≤ (B 4 l0 5 l3) ∧ (B 4 l0 5 l3) < K.2 1 then if 0 ≤ (B 4 l0 5 l2) ∧ (B 4 l0 5 l2) < K.2 1 then f_Part_turn_9 K n (l3 - 1) (l2 + 1) l0 l1 F (zup4 (zup4 B 4 l0 5 l2 (B 4 l0 5 l3)) 4 l0 5 l3 (B 4 l0 5 l2)) else none else none else none else none else none) else none else none) = some (r, F9, B9) := hf
    refine lv_iload_n hx hb (D_28 W_prog_6_method_3_code_0 9 rfl rfl) rfl (lv_at hl 1 rfl) ?_
    refine lv_iload_n hx hb (D_29 W_prog_6_method_3_code_0 10 rfl rfl) rfl (lv_at hl 0 rfl) ?_
    obtain ⟨g2, hf⟩ := gif hf
    obtain ⟨g3, hf⟩ := gif hf
    refine zge (tgt := 51) hx hb g2 g3 (D_162 W_prog_6_method_3_code_0 11 rfl rfl rfl) (by decide) (fun h4 => ?_) (fun h4 => ?_)
    · replace hf := gpos hf h4
      refine lv_iload_n hx hb (D_27 W_prog_6_method_3_code_32 19 rfl rfl) rfl (lv_at hl 3 rfl) ?_
      refine lv_istore_n (lv' := [(3, .int (iI l1)), (2, .int (iI l2)), (0, .ref (ad 4 l0 0)), (1, .int (iI l1))]) hx hb (D_62 W_prog_6_method_3_code_32 20 rfl rfl) rfl hl (by decide) rfl (fun ls hl => ?_)
      exact b_Part_turn_53 X hf hZ hS (lv_sub hl [0, 2] rfl)
    · replace hf := gneg hf h4
      refine lv_aload_n hx hb (D_42 W_prog_6_method_3_code_0 14 rfl rfl) rfl (lv_at hl 2 rfl) ?_
      obtain ⟨g5, hf⟩ := gif hf
      refine zget (ci := 4) (C := RX4) (T := TX4) (v := .ref (ad 4 l0 (5 + 1))) (k := 5) hx hb hts inW_4 hown hK hZ g5.1 g5.2 rfl (by decide) k_4_130 rfl (D_180 W_prog_6_method_3_code_0 15 rfl rfl rfl) ?_
      refine lv_iload_n hx hb (D_28 W_prog_6_method_3_code_0 18 rfl rfl) rfl (lv_at hl 1 rfl) ?_
      obtain ⟨g6, hf⟩ := gif hf
      refine zaldR (t := 1) (x := 7) (ci := 4) (k := 5) hx hb hK rfl rfl hZ g5.1 g5.2 rfl (Nat.le_of_ble_eq_true rfl) g6.1 g6.2 (D_50 W_prog_6_method_3_code_0 19 rfl rfl) ?_
      refine zastore (lv' := [(3, .int (iI l3)), (2, .int (iI l2)), (0, .ref (ad 4 l0 0)), (1, .int (iI l1))]) hx hb (D_58 W_prog_6_method_3_code_0 20 rfl rfl) hl (by decide) (fun _ _ => rfl) (fun ls hl => ?_)
      refine lv_aload_n hx hb (D_42 W_prog_6_method_3_code_0 22 rfl rfl) rfl (lv_at hl 3 rfl) ?_
      refine zget (ci := 4) (C := RX4) (T := TX4) (v := .ref (ad 4 l0 (5 + 1))) (k := 5) hx hb hts inW_4 hown hK hZ g5.1 g5.2 rfl (by decide) k_4_130 rfl (D_180 W_prog_6_method_3_code_0 23 rfl rfl rfl) ?_
      refine lv_iload_n hx hb (D_28 W_prog_6_method_3_code_0 26 rfl rfl) rfl (lv_at hl 2 rfl) ?_
      refine lv_aload_n hx hb (D_42 W_prog_6_method_3_code_0 27 rfl rfl) rfl (lv_at hl 3 rfl) ?_
      refine zget (ci := 4) (C := RX4) (T := TX4) (v := .ref (ad 4 l0 (5 + 1))) (k := 5) hx hb hts inW_4 hown hK hZ g5.1 g5.2 rfl (by decide) k_4_130 rfl (D_180 W_prog_6_method_3_code_0 28 rfl rfl rfl) ?_
      refine lv_iload_n hx hb (D_29 W_prog_6_method_3_code_0 31 rfl rfl) rfl (lv_at hl 1 rfl) ?_
      obtain ⟨g7, hf⟩ := gif hf
      refine zaldR (t := 1) (x := 7) (ci := 4) (k := 5) hx hb hK rfl rfl hZ g5.1 g5.2 rfl (Nat.le_of_ble_eq_true rfl) g7.1 g7.2 (D_50 W_prog_6_method_3_code_32 0 rfl rfl) ?_
      obtain ⟨g8, hf⟩ := gif hf
      refine W.eq (g2 := F0 m 33 ls [.ref (ad 1 (B 4 l0 5 l3) 0), .int (iI l2), .ref (ad 4 l0 (5 + 1))]) (by rw [zrf_pos (ad := ad) (t := 1) g8.1]; try rfl) ?_
      refine zastR (t := 1) (x := 7) (r := (RX1, TX1, 14)) (ci := 4) (k := 5) hx hb hK rfl rfl rfl hZ hS g5.1 g5.2 rfl (Nat.le_of_ble_eq_true rfl) g8.1 g8.2 g6.1 g6.2 (D_83 W_prog_6_method_3_code_32 1 rfl rfl) (fun H9 locs9 hZ9 hS9 => ?_)
      refine lv_aload_n hx hb (D_42 W_prog_6_method_3_code_32 2 rfl rfl) rfl (lv_at hl 3 rfl) ?_
      refine zget (ci := 4) (C := RX4) (T := TX4) (v := .ref (ad 4 l0 (5 + 1))) (k := 5) hx hb hts inW_4 hown hK hZ9 g5.1 g5.2 rfl (by decide) k_4_130 rfl (D_180 W_prog_6_method_3_code_32 3 rfl rfl rfl) ?_
      refine lv_iload_n hx hb (D_29 W_prog_6_method_3_code_32 6 rfl rfl) rfl (lv_at hl 1 rfl) ?_
      refine zaload hx hb (D_25 W_prog_6_method_3_code_32 7 rfl rfl) (lv_at hl 0 rfl) ?_
      obtain ⟨g10, hf⟩ := gif hf
      refine W.eq (g2 := F0 m 41 ls [.ref (ad 1 (B 4 l0 5 l2) 0), .int (iI l3), .ref (ad 4 l0 (5 + 1))]) (by rw [zrf_pos (ad := ad) (t := 1) g10.1]; try rfl) ?_
      refine zastR (t := 1) (x := 7) (r := (RX1, TX1, 14)) (ci := 4) (k := 5) hx hb hK rfl rfl rfl hZ9 hS9 g5.1 g5.2 rfl (Nat.le_of_ble_eq_true rfl) g10.1 g10.2 g7.1 g7.2 (D_83 W_prog_6_method_3_code_32 9 rfl rfl) (fun H11 locs11 hZ11 hS11 => ?_)
      refine lv_iinc (v := iI (l2 + 1)) (lv' := [(2, .int (iI (l2 + 1))), (4, va_rf (zrf ad 1 (B 4 l0 5 l2))), (3, .int (iI l3)), (0, .ref (ad 4 l0 0)), (1, .int (iI l1))]) hx hb d_6_3_42 hl (k := 2) rfl (iI_add _ 1) (by decide) rfl (fun ls hl => ?_)
      refine lv_iinc (v := iI (l3 - 1)) (lv' := [(3, .int (iI (l3 - 1))), (2, .int (iI (l2 + 1))), (4, va_rf (zrf ad 1 (B 4 l0 5 l2))), (0, .ref (ad 4 l0 0)), (1, .int (iI l1))]) hx hb d_6_3_45 hl (k := 2) rfl (by rw [show Int32.ofInt (-1) = iI (-1) from rfl, iI_add]; congr 1) (by decide) rfl (fun ls hl => ?_)
      refine lv_goto (tgt := 9) hx hb (D_167 W_prog_6_method_3_code_32 16 rfl rfl rfl) (by decide) ?_
      exact ih hf hZ11 hS11 (lv_sub hl [0, 1, 3, 4] rfl)

def f_Part_turn (K : zK) (l0 : Int) (l1 : Int) (F : zF) (B : zB) : zO := if 0 ≤ l0 ∧ l0 < K.2 4 then f_Part_turn_9 K K.1 ((F 4 l0 6) - 1) l1 l0 l1 F B else none
set_option maxHeartbeats 4000000 in
set_option maxRecDepth 100000 in
theorem c_Part_turn {l : Launch} {D : va_G} {ca : Nat → ClassId} {ad : Nat → Int → Nat → Nat} {L : List Nat} {aS vS : Nat → Nat} {sz : Nat} {K : zK}  {l0 : Int} {l1 : Int} {F F9 : zF} {B B9 : zB} {r : Int} (hf : f_Part_turn K l0 l1 F B = some (r, F9, B9)) : Met l ({ cls := "StaveHouse$Part", name := "turn", desc := "(I)V" } : Jvm.MethodName) (Cond.code ({ cls := "StaveHouse$Part", name := "turn", desc := "(I)V" } : Jvm.MethodName) prog_6_method_3_code 6 (Option.none : Option Jvm.ClassFile.FieldType) :: wAll) ({ frames := 1, cells := 0, slots := 0, locals := 21 } : Room) (va_Pc [.ref (ad 4 l0 0), .int (iI l1)] (zPre D ca ad lnC K.2 L aS vS F B sz)) (Q_Part_turn K D ca ad L r F9 B9 (zA L sz)) 0 0 (zA L sz) := by
  refine zMet (Qc := Q_Part_turn K D ca ad L r F9 B9) (lv := [(0, .ref (ad 4 l0 0)), (1, .int (iI l1))]) (by decide) (Nat.le_of_ble_eq_true rfl) rfl (fun A p e s m below meth c ls X hZ hS hl => ?_)
  obtain ⟨hx, hb, hr, hml, hown, hts, hlk, hK, hA, hL, hX⟩ := id X
  replace hf : (if 0 ≤ l0 ∧ l0 < K.2 4 then f_Part_turn_9 K K.1 ((F 4 l0 6) - 1) l1 l0 l1 F B else none) = some (r, F9, B9) := hf
  refine lv_iload_n hx hb (D_27 W_prog_6_method_3_code_0 0 rfl rfl) rfl (lv_at hl 1 rfl) ?_
  refine lv_istore_n (lv' := [(2, .int (iI l1)), (0, .ref (ad 4 l0 0)), (1, .int (iI l1))]) hx hb (D_61 W_prog_6_method_3_code_0 1 rfl rfl) rfl hl (by decide) rfl (fun ls hl => ?_)
  refine lv_aload_n hx hb (D_42 W_prog_6_method_3_code_0 2 rfl rfl) rfl (lv_at hl 1 rfl) ?_
  obtain ⟨g1, hf⟩ := gif hf
  refine zget (ci := 4) (C := RX4) (T := TX4) (v := .int (iI (F 4 l0 6))) (k := 6) hx hb hts inW_4 hown hK hZ g1.1 g1.2 rfl (by decide) k_4_135 rfl (D_180 W_prog_6_method_3_code_0 3 rfl rfl rfl) ?_
  refine lv_iconst (v := iI 1) hx hb (D_4 W_prog_6_method_3_code_0 6 rfl rfl) rfl ?_
  refine zsub hx hb (D_100 W_prog_6_method_3_code_0 7 rfl rfl) ?_
  refine lv_istore_n (lv' := [(3, .int (iI ((F 4 l0 6) - 1))), (2, .int (iI l1)), (0, .ref (ad 4 l0 0)), (1, .int (iI l1))]) hx hb (D_62 W_prog_6_method_3_code_0 8 rfl rfl) rfl hl (by decide) rfl (fun ls hl => ?_)
  exact b_Part_turn_9 X hf hZ hS (lv_sub hl [0, 1, 2, 3] rfl)

abbrev Q_Event_sharedWith (K : zK) (D : va_G) (ca : Nat → ClassId) (ad : Nat → Int → Nat → Nat) (L : List Nat) (r : Int) (F : zF) (B : zB) (A : Nat → Prop) : Array Value → State → Outcome → State → Prop := va_Qi (S := Unit) (fun p _ => p = iI r) (fun _ => zPo D ca ad lnC K.2 L F B A) A
def f_Event_sharedWith_39 (rec4 : Int → Int → Int → Int → zF → zB → zO) (K : zK) (l3 : Int) (l0 : Int) (l1 : Int) (s0 : Int) (s1 : Int) (F : zF) (B : zB) : zO := rec4 (l3 + 1) (zor s0 s1) l0 l1 F B
set_option maxHeartbeats 4000000 in
set_option maxRecDepth 100000 in
theorem b_Event_sharedWith_39 {D : va_G} {ca : Nat → ClassId} {ad : Nat → Int → Nat → Nat} {L : List Nat} {aS vS : Nat → Nat} {A : Nat → Prop} {p : Program} {l : Launch} {e : Env} {s : State} {m : MethodId} {args : Array Value} {below : List Frame} {meth : Method} {c : Code} {K : zK} {r : Int} {F9 : zF} {B9 : zB} (X : zX D ca L aS vS A p s m args meth c prog_3_method_7_code 4 (Option.some Jvm.ClassFile.FieldType.int) "StaveHouse$Event") {rec4 : Int → Int → Int → Int → zF → zB → zO} (hrec4 : ∀ {l3 : Int} {l2 : Int} {l0 : Int} {l1 : Int} {F : zF} {B : zB} {H : Heap} {locs : List Loc} {ls : Array Slot}, rec4 l3 l2 l0 l1 F B = some (r, F9, B9) → zH D ca ad lnC K.2 L F B A H → va_S A s.heap H locs → lv_has ls 4 [(3, .int (iI l3)), (2, .int (iI l2)), (0, .ref (ad 1 l0 0)), (1, .ref (ad 1 l1 0))] → W p l e ({ frames := 1, cells := 0, slots := 0, locals := 23 } : Room) s m args below meth c H locs 0 0 (MQ below (Q_Event_sharedWith K D ca ad L r F9 B9 A) args s 0 0 A) (F0 m 4 ls [])) {l3 : Int} {l0 : Int} {l1 : Int} {s0 : Int} {s1 : Int} {F : zF} {B : zB} {H : Heap} {locs : List Loc} {ls : Array Slot} (hf : f_Event_sharedWith_39 rec4 K l3 l0 l1 s0 s1 F B = some (r, F9, B9)) (hZ : zH D ca ad lnC K.2 L F B A H) (hS : va_S A s.heap H locs) (hl : lv_has ls 4 [(3, .int (iI l3)), (0, .ref (ad 1 l0 0)), (1, .ref (ad 1 l1 0))]) : W p l e ({ frames := 1, cells := 0, slots := 0, locals := 23 } : Room) s m args below meth c H locs 0 0 (MQ below (Q_Event_sharedWith K D ca ad L r F9 B9 A) args s 0 0 A) (F0 m 39 ls [.int (iI s1), .int (iI s0)]) := by
  obtain ⟨hx, hb, hr, hml, hown, hts, hlk, hK, hA, hL, hX⟩ := id X
  replace hf : (rec4 (l3 + 1) (zor s0 s1) l0 l1 F B) = some (r, F9, B9) := hf
  refine zor_r hx hb (D_128 W_prog_3_method_7_code_32 7 rfl rfl) ?_
  refine lv_istore_n (lv' := [(2, .int (iI (zor s0 s1))), (3, .int (iI l3)), (0, .ref (ad 1 l0 0)), (1, .ref (ad 1 l1 0))]) hx hb (D_61 W_prog_3_method_7_code_32 8 rfl rfl) rfl hl (by decide) rfl (fun ls hl => ?_)
  refine lv_iinc (v := iI (l3 + 1)) (lv' := [(3, .int (iI (l3 + 1))), (2, .int (iI (zor s0 s1))), (0, .ref (ad 1 l0 0)), (1, .ref (ad 1 l1 0))]) hx hb d_3_7_41 hl (k := 1) rfl (iI_add _ 1) (by decide) rfl (fun ls hl => ?_)
  refine lv_goto (tgt := 4) hx hb (D_167 W_prog_3_method_7_code_32 12 rfl rfl rfl) (by decide) ?_
  exact hrec4 hf hZ hS (lv_sub hl [0, 1, 2, 3] rfl)

def f_Event_sharedWith_4 (K : zK) : Nat → Int → Int → Int → Int → zF → zB → zO
  | 0, _, _, _, _, _, _ => none
  | n + 1, l3, l2, l0, l1, F, B => if 0 ≤ l0 ∧ l0 < K.2 1 then if r32 l3 then if r32 (F 1 l0 10) then (if (F 1 l0 10) ≤ l3 then some (l2, F, B) else if 0 ≤ l3 ∧ l3 < 6 then if 0 ≤ l1 ∧ l1 < K.2 1 then zbind (f_Event_hasPitch K l1 (B 1 l0 12 l3) (B 1 l0 13 l3) F B) (fun r7 F7 B7 => if r32 r7 then (if r7 = 0 then f_Event_sharedWith_39 (f_Event_sharedWith_4 K n) K l3 l0 l1 l2 0 F7 B7 else f_Event_sharedWith_39 (f_Event_sharedWith_4 K n) K l3 l0 l1 l2 (zshl 1 l3) F7 B7) else none) else none else none) else none else none else none
set_option maxHeartbeats 4000000 in
set_option maxRecDepth 100000 in
theorem b_Event_sharedWith_4 {D : va_G} {ca : Nat → ClassId} {ad : Nat → Int → Nat → Nat} {L : List Nat} {aS vS : Nat → Nat} {A : Nat → Prop} {p : Program} {l : Launch} {e : Env} {s : State} {m : MethodId} {args : Array Value} {below : List Frame} {meth : Method} {c : Code} {K : zK} {r : Int} {F9 : zF} {B9 : zB} (X : zX D ca L aS vS A p s m args meth c prog_3_method_7_code 4 (Option.some Jvm.ClassFile.FieldType.int) "StaveHouse$Event") : ∀ {n : Nat} {l3 : Int} {l2 : Int} {l0 : Int} {l1 : Int} {F : zF} {B : zB} {H : Heap} {locs : List Loc} {ls : Array Slot}, f_Event_sharedWith_4 K n l3 l2 l0 l1 F B = some (r, F9, B9) → zH D ca ad lnC K.2 L F B A H → va_S A s.heap H locs → lv_has ls 4 [(3, .int (iI l3)), (2, .int (iI l2)), (0, .ref (ad 1 l0 0)), (1, .ref (ad 1 l1 0))] → W p l e ({ frames := 1, cells := 0, slots := 0, locals := 23 } : Room) s m args below meth c H locs 0 0 (MQ below (Q_Event_sharedWith K D ca ad L r F9 B9 A) args s 0 0 A) (F0 m 4 ls []) := by
  obtain ⟨hx, hb, hr, hml, hown, hts, hlk, hK, hA, hL, hX⟩ := id X
  intro n
  induction n with
  | zero =>
    intros
    rename_i hf _ _ _
    cases hf
  | succ n ih =>
    intro l3 l2 l0 l1 F B H locs ls hf hZ hS hl
    replace hf : (if 0 ≤ l0 ∧ l0 < K.2 1 then if r32 l3 then if r32 (F 1 l0 10) then (if (F 1 l0 10) ≤ l3 then some (l2, F, B) else if 0 ≤ l3 ∧ l3 < 6 then if 0 ≤ l1 ∧ l1 < K.2 1 then zbind (f_Event_hasPitch K l1 (B 1 l0 12 l3) (B 1 l0 13 l3) F B) (fun r7 F7 B7 => if r32 r7 then (if r7 = 0 then f_Event_sharedWith_39 (f_Event_sharedWith_4 K n) K l3 l0 l1 l2 0 F7 B7 else f_Event_sharedWith_39 (f_Event_sharedWith_4 K n) K l3 l0 l1 l2 (zshl 1 l3) F7 B7) else none) else none else none) else none else none else none) = some (r, F9, B9) := hf
    refine lv_iload_n hx hb (D_29 W_prog_3_method_7_code_0 4 rfl rfl) rfl (lv_at hl 0 rfl) ?_
    refine lv_aload_n hx hb (D_42 W_prog_3_method_7_code_0 5 rfl rfl) rfl (lv_at hl 2 rfl) ?_
    obtain ⟨g1, hf⟩ := gif hf
    refine zget (ci := 1) (C := RX1) (T := TX1) (v := .int (iI (F 1 l0 10))) (k := 10) hx hb hts inW_1 hown hK hZ g1.1 g1.2 rfl (by decide) k_2_48 rfl (D_180 W_prog_3_method_7_code_0 6 rfl rfl rfl) ?_
    obtain ⟨g2, hf⟩ := gif hf
    obtain ⟨g3, hf⟩ := gif hf
    refine zge (tgt := 47) hx hb g2 g3 (D_162 W_prog_3_method_7_code_0 9 rfl rfl rfl) (by decide) (fun h4 => ?_) (fun h4 => ?_)
    · replace hf := gpos hf h4
      refine lv_iload_n hx hb (D_28 W_prog_3_method_7_code_32 15 rfl rfl) rfl (lv_at hl 1 rfl) ?_
      cases hf
      exact W.iret hx hb hr (fun t ht hW => ⟨⟨_, (), rfl, rfl, by rw [ht]; exact hZ, va_K.moved hW.alike hK⟩, hS.F ht⟩) hS.2.2 (D_172 W_prog_3_method_7_code_32 16 rfl rfl) hlk
    · replace hf := gneg hf h4
      refine lv_iload_n hx hb (D_28 W_prog_3_method_7_code_0 12 rfl rfl) rfl (lv_at hl 1 rfl) ?_
      refine lv_aload_n hx hb (D_43 W_prog_3_method_7_code_0 13 rfl rfl) rfl (lv_at hl 3 rfl) ?_
      refine lv_aload_n hx hb (D_42 W_prog_3_method_7_code_0 14 rfl rfl) rfl (lv_at hl 2 rfl) ?_
      refine zget (ci := 1) (C := RX1) (T := TX1) (v := .ref (ad 1 l0 (12 + 1))) (k := 12) hx hb hts inW_1 hown hK hZ g1.1 g1.2 rfl (by decide) k_2_57 rfl (D_180 W_prog_3_method_7_code_0 15 rfl rfl rfl) ?_
      refine lv_iload_n hx hb (D_29 W_prog_3_method_7_code_0 18 rfl rfl) rfl (lv_at hl 0 rfl) ?_
      obtain ⟨g5, hf⟩ := gif hf
      refine zald (ci := 1) (k := 12) hx hb hK rfl hZ g1.1 g1.2 rfl (Nat.le_of_ble_eq_true rfl) g5.1 g5.2 (D_46 W_prog_3_method_7_code_0 19 rfl rfl) ?_
      refine lv_aload_n hx hb (D_42 W_prog_3_method_7_code_0 20 rfl rfl) rfl (lv_at hl 2 rfl) ?_
      refine zget (ci := 1) (C := RX1) (T := TX1) (v := .ref (ad 1 l0 (13 + 1))) (k := 13) hx hb hts inW_1 hown hK hZ g1.1 g1.2 rfl (by decide) k_2_63 rfl (D_180 W_prog_3_method_7_code_0 21 rfl rfl rfl) ?_
      refine lv_iload_n hx hb (D_29 W_prog_3_method_7_code_0 24 rfl rfl) rfl (lv_at hl 0 rfl) ?_
      refine zald (ci := 1) (k := 13) hx hb hK rfl hZ g1.1 g1.2 rfl (Nat.le_of_ble_eq_true rfl) g5.1 g5.2 (D_46 W_prog_3_method_7_code_0 25 rfl rfl) ?_
      obtain ⟨g6, hf⟩ := gif hf
      obtain ⟨r7, F7, B7, hc7, hf⟩ := gbind hf
      refine va_calli (va_runV (As := [.int (iI (B 1 l0 12 l3)), .int (iI (B 1 l0 13 l3))]) (rest := [.int (iI l2)]) ⟨hx, hb, hml, hown, hts⟩ (c_Event_hasPitch (l := l) hc7) (cwV 2 hts (gdV k_5_45 k_5_46 k_5_47 k_1_8 k_5_48) rfl rfl rfl (by decide +kernel) ⟨Nat.le_of_ble_eq_true rfl, Nat.le_of_ble_eq_true rfl⟩) (zPV X hZ hS (ci := 1) g6.1 g6.2 (r := (RX1, TX1, 14)) rfl [.int (iI (B 1 l0 12 l3)), .int (iI (B 1 l0 13 l3))]) rfl rfl hl.1 rfl (lv_room (Nat.le_of_ble_eq_true rfl)) (D_182 W_prog_3_method_7_code_0 26 rfl rfl rfl) ⟨Nat.le_of_ble_eq_true rfl, Nat.le_of_ble_eq_true rfl⟩) hS (fun q _ h => zAin X hS q h) (zAin X hS) (fun p7 u7 t7 H7 locs7 ht7 hv7 hw7 hB7 hz7 hk7 hS7 => ?_)
      have hZ7 := zBack X ht7 hB7
      subst hw7
      obtain ⟨g8, hf⟩ := gif hf
      refine z0eq (tgt := 38) hx hb g8 (D_153 W_prog_3_method_7_code_0 29 rfl rfl rfl) (by decide) (fun h9 => ?_) (fun h9 => ?_)
      · replace hf := gpos hf h9
        refine lv_iconst (v := iI 0) hx hb (D_3 W_prog_3_method_7_code_32 6 rfl rfl) rfl ?_
        exact b_Event_sharedWith_39 X ih hf hZ7 hS7 (lv_sub hl [0, 2, 3] rfl)
      · replace hf := gneg hf h9
        refine lv_iconst (v := iI 1) hx hb (D_4 W_prog_3_method_7_code_32 0 rfl rfl) rfl ?_
        refine lv_iload_n hx hb (D_29 W_prog_3_method_7_code_32 1 rfl rfl) rfl (lv_at hl 0 rfl) ?_
        refine zshl_r hx hb (D_120 W_prog_3_method_7_code_32 2 rfl rfl) ?_
        refine lv_goto (tgt := 39) hx hb (D_167 W_prog_3_method_7_code_32 3 rfl rfl rfl) (by decide) ?_
        exact b_Event_sharedWith_39 X ih hf hZ7 hS7 (lv_sub hl [0, 2, 3] rfl)

def f_Event_sharedWith (K : zK) (l0 : Int) (l1 : Int) (F : zF) (B : zB) : zO := f_Event_sharedWith_4 K K.1 0 0 l0 l1 F B
set_option maxHeartbeats 4000000 in
set_option maxRecDepth 100000 in
theorem c_Event_sharedWith {l : Launch} {D : va_G} {ca : Nat → ClassId} {ad : Nat → Int → Nat → Nat} {L : List Nat} {aS vS : Nat → Nat} {sz : Nat} {K : zK}  {l0 : Int} {l1 : Int} {F F9 : zF} {B B9 : zB} {r : Int} (hf : f_Event_sharedWith K l0 l1 F B = some (r, F9, B9)) : Met l ({ cls := "StaveHouse$Event", name := "sharedWith", desc := "(LStaveHouse$Event;)I" } : Jvm.MethodName) (Cond.code ({ cls := "StaveHouse$Event", name := "sharedWith", desc := "(LStaveHouse$Event;)I" } : Jvm.MethodName) prog_3_method_7_code 4 (Option.some Jvm.ClassFile.FieldType.int) :: wAll) ({ frames := 1, cells := 0, slots := 0, locals := 23 } : Room) (va_Pc [.ref (ad 1 l0 0), .ref (ad 1 l1 0)] (zPre D ca ad lnC K.2 L aS vS F B sz)) (Q_Event_sharedWith K D ca ad L r F9 B9 (zA L sz)) 0 0 (zA L sz) := by
  refine zMet (Qc := Q_Event_sharedWith K D ca ad L r F9 B9) (lv := [(0, .ref (ad 1 l0 0)), (1, .ref (ad 1 l1 0))]) (by decide) (Nat.le_of_ble_eq_true rfl) rfl (fun A p e s m below meth c ls X hZ hS hl => ?_)
  obtain ⟨hx, hb, hr, hml, hown, hts, hlk, hK, hA, hL, hX⟩ := id X
  replace hf : (f_Event_sharedWith_4 K K.1 0 0 l0 l1 F B) = some (r, F9, B9) := hf
  refine lv_iconst (v := iI 0) hx hb (D_3 W_prog_3_method_7_code_0 0 rfl rfl) rfl ?_
  refine lv_istore_n (lv' := [(2, .int (iI 0)), (0, .ref (ad 1 l0 0)), (1, .ref (ad 1 l1 0))]) hx hb (D_61 W_prog_3_method_7_code_0 1 rfl rfl) rfl hl (by decide) rfl (fun ls hl => ?_)
  refine lv_iconst (v := iI 0) hx hb (D_3 W_prog_3_method_7_code_0 2 rfl rfl) rfl ?_
  refine lv_istore_n (lv' := [(3, .int (iI 0)), (2, .int (iI 0)), (0, .ref (ad 1 l0 0)), (1, .ref (ad 1 l1 0))]) hx hb (D_62 W_prog_3_method_7_code_0 3 rfl rfl) rfl hl (by decide) rfl (fun ls hl => ?_)
  exact b_Event_sharedWith_4 X hf hZ hS (lv_sub hl [0, 1, 2, 3] rfl)

abbrev Q_S_greatestValue (K : zK) (D : va_G) (ca : Nat → ClassId) (ad : Nat → Int → Nat → Nat) (L : List Nat) (r : Int) (F : zF) (B : zB) (A : Nat → Prop) : Array Value → State → Outcome → State → Prop := va_Qi (S := Unit) (fun p _ => p = iI r) (fun _ => zPo D ca ad lnC K.2 L F B A) A
def f_S_greatestValue_2 (K : zK) : Nat → Int → Int → zF → zB → zO
  | 0, _, _, _, _ => none
  | n + 1, l1, l0, F, B => if r32 l1 then (if 24 ≤ l1 then some (23, F, B) else zbind (f_S_fineValue K l1 F B) (fun r3 F3 B3 => if r32 r3 then if r32 l0 then (if l0 < r3 then f_S_greatestValue_2 K n (l1 + 1) l0 F3 B3 else some (l1, F3, B3)) else none else none)) else none
set_option maxHeartbeats 4000000 in
set_option maxRecDepth 100000 in
theorem b_S_greatestValue_2 {D : va_G} {ca : Nat → ClassId} {ad : Nat → Int → Nat → Nat} {L : List Nat} {aS vS : Nat → Nat} {A : Nat → Prop} {p : Program} {l : Launch} {e : Env} {s : State} {m : MethodId} {args : Array Value} {below : List Frame} {meth : Method} {c : Code} {K : zK} {r : Int} {F9 : zF} {B9 : zB} (X : zX D ca L aS vS A p s m args meth c prog_1_method_41_code 2 (Option.some Jvm.ClassFile.FieldType.int) "StaveHouse") : ∀ {n : Nat} {l1 : Int} {l0 : Int} {F : zF} {B : zB} {H : Heap} {locs : List Loc} {ls : Array Slot}, f_S_greatestValue_2 K n l1 l0 F B = some (r, F9, B9) → zH D ca ad lnC K.2 L F B A H → va_S A s.heap H locs → lv_has ls 2 [(1, .int (iI l1)), (0, .int (iI l0))] → W p l e ({ frames := 1, cells := 0, slots := 0, locals := 20 } : Room) s m args below meth c H locs 0 0 (MQ below (Q_S_greatestValue K D ca ad L r F9 B9 A) args s 0 0 A) (F0 m 2 ls []) := by
  obtain ⟨hx, hb, hr, hml, hown, hts, hlk, hK, hA, hL, hX⟩ := id X
  intro n
  induction n with
  | zero =>
    intros
    rename_i hf _ _ _
    cases hf
  | succ n ih =>
    intro l1 l0 F B H locs ls hf hZ hS hl
    replace hf : (if r32 l1 then (if 24 ≤ l1 then some (23, F, B) else zbind (f_S_fineValue K l1 F B) (fun r3 F3 B3 => if r32 r3 then if r32 l0 then (if l0 < r3 then f_S_greatestValue_2 K n (l1 + 1) l0 F3 B3 else some (l1, F3, B3)) else none else none)) else none) = some (r, F9, B9) := hf
    refine lv_iload_n hx hb (D_27 W_prog_1_method_41_code_0 2 rfl rfl) rfl (lv_at hl 0 rfl) ?_
    refine lv_bipush (v := iI 24) hx hb (D_16 W_prog_1_method_41_code_0 3 rfl rfl rfl) (by decide) ?_
    obtain ⟨g1, hf⟩ := gif hf
    refine zge (tgt := 24) hx hb g1 (by decide) (D_162 W_prog_1_method_41_code_0 5 rfl rfl rfl) (by decide) (fun h2 => ?_) (fun h2 => ?_)
    · replace hf := gpos hf h2
      refine lv_bipush (v := iI 23) hx hb (D_16 W_prog_1_method_41_code_0 24 rfl rfl rfl) (by decide) ?_
      cases hf
      exact W.iret hx hb hr (fun t ht hW => ⟨⟨_, (), rfl, rfl, by rw [ht]; exact hZ, va_K.moved hW.alike hK⟩, hS.F ht⟩) hS.2.2 (D_172 W_prog_1_method_41_code_0 26 rfl rfl) hlk
    · replace hf := gneg hf h2
      refine lv_iload_n hx hb (D_27 W_prog_1_method_41_code_0 8 rfl rfl) rfl (lv_at hl 0 rfl) ?_
      obtain ⟨r3, F3, B3, hc3, hf⟩ := gbind hf
      refine va_calli (va_runS (As := [.int (iI l1)]) (rest := []) ⟨hx, hb, hml, hown, hts⟩ (c_S_fineValue (l := l) hc3) (va_cwS 1 hts (gdS k_5_67 k_5_68 k_1_1 k_5_69) rfl rfl rfl (by decide +kernel) ⟨Nat.le_of_ble_eq_true rfl, Nat.le_of_ble_eq_true rfl⟩) (zPS X hZ hS [.int (iI l1)]) rfl rfl hl.1 rfl (lv_room (Nat.le_of_ble_eq_true rfl)) (D_184 W_prog_1_method_41_code_0 9 rfl rfl rfl) ⟨Nat.le_of_ble_eq_true rfl, Nat.le_of_ble_eq_true rfl⟩) hS (fun q _ h => zAin X hS q h) (zAin X hS) (fun p3 u3 t3 H3 locs3 ht3 hv3 hw3 hB3 hz3 hk3 hS3 => ?_)
      have hZ3 := zBack X ht3 hB3
      subst hw3
      refine lv_iload_n hx hb (D_26 W_prog_1_method_41_code_0 12 rfl rfl) rfl (lv_at hl 1 rfl) ?_
      obtain ⟨g4, hf⟩ := gif hf
      obtain ⟨g5, hf⟩ := gif hf
      refine zgt (tgt := 18) hx hb g4 g5 (D_163 W_prog_1_method_41_code_0 13 rfl rfl rfl) (by decide) (fun h6 => ?_) (fun h6 => ?_)
      · replace hf := gpos hf h6
        refine lv_iinc (v := iI (l1 + 1)) (lv' := [(1, .int (iI (l1 + 1))), (0, .int (iI l0))]) hx hb d_1_41_18 hl (k := 0) rfl (iI_add _ 1) (by decide) rfl (fun ls hl => ?_)
        refine lv_goto (tgt := 2) hx hb (D_167 W_prog_1_method_41_code_0 21 rfl rfl rfl) (by decide) ?_
        exact ih hf hZ3 hS3 (lv_sub hl [0, 1] rfl)
      · replace hf := gneg hf h6
        refine lv_iload_n hx hb (D_27 W_prog_1_method_41_code_0 16 rfl rfl) rfl (lv_at hl 0 rfl) ?_
        cases hf
        exact W.iret hx hb hr (fun t ht hW => ⟨⟨_, (), rfl, rfl, by rw [ht]; exact hZ3, va_K.moved hW.alike hK⟩, hS3.F ht⟩) hS3.2.2 (D_172 W_prog_1_method_41_code_0 17 rfl rfl) hlk

def f_S_greatestValue (K : zK) (l0 : Int) (F : zF) (B : zB) : zO := f_S_greatestValue_2 K K.1 0 l0 F B
set_option maxHeartbeats 4000000 in
set_option maxRecDepth 100000 in
theorem c_S_greatestValue {l : Launch} {D : va_G} {ca : Nat → ClassId} {ad : Nat → Int → Nat → Nat} {L : List Nat} {aS vS : Nat → Nat} {sz : Nat} {K : zK}  {l0 : Int} {F F9 : zF} {B B9 : zB} {r : Int} (hf : f_S_greatestValue K l0 F B = some (r, F9, B9)) : Met l ({ cls := "StaveHouse", name := "greatestValue", desc := "(I)I" } : Jvm.MethodName) (Cond.code ({ cls := "StaveHouse", name := "greatestValue", desc := "(I)I" } : Jvm.MethodName) prog_1_method_41_code 2 (Option.some Jvm.ClassFile.FieldType.int) :: wAll) ({ frames := 1, cells := 0, slots := 0, locals := 20 } : Room) (va_Pc [.int (iI l0)] (zPre D ca ad lnC K.2 L aS vS F B sz)) (Q_S_greatestValue K D ca ad L r F9 B9 (zA L sz)) 0 0 (zA L sz) := by
  refine zMet (Qc := Q_S_greatestValue K D ca ad L r F9 B9) (lv := [(0, .int (iI l0))]) (by decide) (Nat.le_of_ble_eq_true rfl) rfl (fun A p e s m below meth c ls X hZ hS hl => ?_)
  obtain ⟨hx, hb, hr, hml, hown, hts, hlk, hK, hA, hL, hX⟩ := id X
  replace hf : (f_S_greatestValue_2 K K.1 0 l0 F B) = some (r, F9, B9) := hf
  refine lv_iconst (v := iI 0) hx hb (D_3 W_prog_1_method_41_code_0 0 rfl rfl) rfl ?_
  refine lv_istore_n (lv' := [(1, .int (iI 0)), (0, .int (iI l0))]) hx hb (D_60 W_prog_1_method_41_code_0 1 rfl rfl) rfl hl (by decide) rfl (fun ls hl => ?_)
  exact b_S_greatestValue_2 X hf hZ hS (lv_sub hl [0, 1] rfl)

abbrev Q_S_nextValue (K : zK) (D : va_G) (ca : Nat → ClassId) (ad : Nat → Int → Nat → Nat) (L : List Nat) (r : Int) (F : zF) (B : zB) (A : Nat → Prop) : Array Value → State → Outcome → State → Prop := va_Qi (S := Unit) (fun p _ => p = iI r) (fun _ => zPo D ca ad lnC K.2 L F B A) A
def f_S_nextValue_104 (rec42 : Int → Int → Int → Int → Int → Int → Int → zF → zB → zO) (K : zK) (l8 : Int) (l7 : Int) (l6 : Int) (l5 : Int) (l4 : Int) (l2 : Int) (l3 : Int) (F : zF) (B : zB) : zO := rec42 (l8 + 1) l7 l6 l5 l4 l2 l3 F B
set_option maxHeartbeats 4000000 in
set_option maxRecDepth 100000 in
theorem b_S_nextValue_104 {D : va_G} {ca : Nat → ClassId} {ad : Nat → Int → Nat → Nat} {L : List Nat} {aS vS : Nat → Nat} {A : Nat → Prop} {p : Program} {l : Launch} {e : Env} {s : State} {m : MethodId} {args : Array Value} {below : List Frame} {meth : Method} {c : Code} {K : zK} {r : Int} {F9 : zF} {B9 : zB} (X : zX D ca L aS vS A p s m args meth c prog_1_method_42_code 11 (Option.some Jvm.ClassFile.FieldType.int) "StaveHouse") {rec42 : Int → Int → Int → Int → Int → Int → Int → zF → zB → zO} (hrec42 : ∀ {l8 : Int} {l7 : Int} {l6 : Int} {l5 : Int} {l4 : Int} {l2 : Int} {l3 : Int} {F : zF} {B : zB} {H : Heap} {locs : List Loc} {ls : Array Slot}, rec42 l8 l7 l6 l5 l4 l2 l3 F B = some (r, F9, B9) → zH D ca ad lnC K.2 L F B A H → va_S A s.heap H locs → lv_has ls 11 [(8, .int (iI l8)), (7, .int (iI l7)), (6, .int (iI l6)), (5, .int (iI l5)), (4, .int (iI l4)), (2, .int (iI l2)), (3, .int (iI l3))] → W p l e ({ frames := 2, cells := 0, slots := 0, locals := 41 } : Room) s m args below meth c H locs 0 0 (MQ below (Q_S_nextValue K D ca ad L r F9 B9 A) args s 0 0 A) (F0 m 42 ls [])) {l8 : Int} {l7 : Int} {l6 : Int} {l5 : Int} {l4 : Int} {l2 : Int} {l3 : Int} {F : zF} {B : zB} {H : Heap} {locs : List Loc} {ls : Array Slot} (hf : f_S_nextValue_104 rec42 K l8 l7 l6 l5 l4 l2 l3 F B = some (r, F9, B9)) (hZ : zH D ca ad lnC K.2 L F B A H) (hS : va_S A s.heap H locs) (hl : lv_has ls 11 [(8, .int (iI l8)), (7, .int (iI l7)), (6, .int (iI l6)), (5, .int (iI l5)), (4, .int (iI l4)), (2, .int (iI l2)), (3, .int (iI l3))]) : W p l e ({ frames := 2, cells := 0, slots := 0, locals := 41 } : Room) s m args below meth c H locs 0 0 (MQ below (Q_S_nextValue K D ca ad L r F9 B9 A) args s 0 0 A) (F0 m 104 ls []) := by
  obtain ⟨hx, hb, hr, hml, hown, hts, hlk, hK, hA, hL, hX⟩ := id X
  replace hf : (rec42 (l8 + 1) l7 l6 l5 l4 l2 l3 F B) = some (r, F9, B9) := hf
  refine lv_iinc (v := iI (l8 + 1)) (lv' := [(8, .int (iI (l8 + 1))), (7, .int (iI l7)), (6, .int (iI l6)), (5, .int (iI l5)), (4, .int (iI l4)), (2, .int (iI l2)), (3, .int (iI l3))]) hx hb d_1_42_104 hl (k := 0) rfl (iI_add _ 1) (by decide) rfl (fun ls hl => ?_)
  refine lv_goto (tgt := 42) hx hb (D_167 W_prog_1_method_42_code_96 11 rfl rfl rfl) (by decide) ?_
  exact hrec42 hf hZ hS (lv_sub hl [0, 1, 2, 3, 4, 5, 6] rfl)

def f_S_nextValue_42 (K : zK) : Nat → Int → Int → Int → Int → Int → Int → Int → zF → zB → zO
  | 0, _, _, _, _, _, _, _, _, _ => none
  | n + 1, l8, l7, l6, l5, l4, l2, l3, F, B => if r32 l8 then (if 24 ≤ l8 then zbind (f_S_greatestValue K l3 F B) (fun r7 F7 B7 => some (r7, F7, B7)) else zbind (f_S_fineValue K l8 F B) (fun r8 F8 B8 => if r32 (l2 + r8) then if r32 (l2 + l3) then (if (l2 + l3) < (l2 + r8) then f_S_nextValue_104 (f_S_nextValue_42 K n) K l8 l7 l6 l5 l4 l2 l3 F8 B8 else zbind (f_S_strength K l5 l6 l4 (l2 + r8) F8 B8) (fun r12 F12 B12 => if r32 l7 then if r32 r12 then zbind (f_S_strengthBetween K l5 l6 l4 l2 (l2 + r8) F12 B12) (fun r15 F15 B15 => if r32 r15 then if r32 (zmax l7 r12) then (if (zmax l7 r12) < r15 then f_S_nextValue_104 (f_S_nextValue_42 K n) K l8 l7 l6 l5 l4 l2 l3 F15 B15 else some (l8, F15, B15)) else none else none) else none else none)) else none else none)) else none
set_option maxHeartbeats 4000000 in
set_option maxRecDepth 100000 in
theorem b_S_nextValue_42 {D : va_G} {ca : Nat → ClassId} {ad : Nat → Int → Nat → Nat} {L : List Nat} {aS vS : Nat → Nat} {A : Nat → Prop} {p : Program} {l : Launch} {e : Env} {s : State} {m : MethodId} {args : Array Value} {below : List Frame} {meth : Method} {c : Code} {K : zK} {r : Int} {F9 : zF} {B9 : zB} (X : zX D ca L aS vS A p s m args meth c prog_1_method_42_code 11 (Option.some Jvm.ClassFile.FieldType.int) "StaveHouse") : ∀ {n : Nat} {l8 : Int} {l7 : Int} {l6 : Int} {l5 : Int} {l4 : Int} {l2 : Int} {l3 : Int} {F : zF} {B : zB} {H : Heap} {locs : List Loc} {ls : Array Slot}, f_S_nextValue_42 K n l8 l7 l6 l5 l4 l2 l3 F B = some (r, F9, B9) → zH D ca ad lnC K.2 L F B A H → va_S A s.heap H locs → lv_has ls 11 [(8, .int (iI l8)), (7, .int (iI l7)), (6, .int (iI l6)), (5, .int (iI l5)), (4, .int (iI l4)), (2, .int (iI l2)), (3, .int (iI l3))] → W p l e ({ frames := 2, cells := 0, slots := 0, locals := 41 } : Room) s m args below meth c H locs 0 0 (MQ below (Q_S_nextValue K D ca ad L r F9 B9 A) args s 0 0 A) (F0 m 42 ls []) := by
  obtain ⟨hx, hb, hr, hml, hown, hts, hlk, hK, hA, hL, hX⟩ := id X
  intro n
  induction n with
  | zero =>
    intros
    rename_i hf _ _ _
    cases hf
  | succ n ih =>
    intro l8 l7 l6 l5 l4 l2 l3 F B H locs ls hf hZ hS hl
    replace hf : (if r32 l8 then (if 24 ≤ l8 then zbind (f_S_greatestValue K l3 F B) (fun r7 F7 B7 => some (r7, F7, B7)) else zbind (f_S_fineValue K l8 F B) (fun r8 F8 B8 => if r32 (l2 + r8) then if r32 (l2 + l3) then (if (l2 + l3) < (l2 + r8) then f_S_nextValue_104 (f_S_nextValue_42 K n) K l8 l7 l6 l5 l4 l2 l3 F8 B8 else zbind (f_S_strength K l5 l6 l4 (l2 + r8) F8 B8) (fun r12 F12 B12 => if r32 l7 then if r32 r12 then zbind (f_S_strengthBetween K l5 l6 l4 l2 (l2 + r8) F12 B12) (fun r15 F15 B15 => if r32 r15 then if r32 (zmax l7 r12) then (if (zmax l7 r12) < r15 then f_S_nextValue_104 (f_S_nextValue_42 K n) K l8 l7 l6 l5 l4 l2 l3 F15 B15 else some (l8, F15, B15)) else none else none) else none else none)) else none else none)) else none) = some (r, F9, B9) := hf
    refine lv_iload hx hb (D_21 W_prog_1_method_42_code_32 10 rfl rfl) (lv_at hl 0 rfl) ?_
    refine lv_bipush (v := iI 24) hx hb (D_16 W_prog_1_method_42_code_32 12 rfl rfl rfl) (by decide) ?_
    obtain ⟨g5, hf⟩ := gif hf
    refine zge (tgt := 110) hx hb g5 (by decide) (D_162 W_prog_1_method_42_code_32 14 rfl rfl rfl) (by decide) (fun h6 => ?_) (fun h6 => ?_)
    · replace hf := gpos hf h6
      refine lv_iload_n hx hb (D_29 W_prog_1_method_42_code_96 14 rfl rfl) rfl (lv_at hl 6 rfl) ?_
      obtain ⟨r7, F7, B7, hc7, hf⟩ := gbind hf
      refine va_calli (va_runS (As := [.int (iI l3)]) (rest := []) ⟨hx, hb, hml, hown, hts⟩ (c_S_greatestValue (l := l) hc7) (va_cwS 1 hts (gdS k_5_99 k_5_65 k_1_1 k_5_66) rfl rfl rfl (by decide +kernel) ⟨Nat.le_of_ble_eq_true rfl, Nat.le_of_ble_eq_true rfl⟩) (zPS X hZ hS [.int (iI l3)]) rfl rfl hl.1 rfl (lv_room (Nat.le_of_ble_eq_true rfl)) (D_184 W_prog_1_method_42_code_96 15 rfl rfl rfl) ⟨Nat.le_of_ble_eq_true rfl, Nat.le_of_ble_eq_true rfl⟩) hS (fun q _ h => zAin X hS q h) (zAin X hS) (fun p7 u7 t7 H7 locs7 ht7 hv7 hw7 hB7 hz7 hk7 hS7 => ?_)
      have hZ7 := zBack X ht7 hB7
      subst hw7
      cases hf
      exact W.iret hx hb hr (fun t ht hW => ⟨⟨_, (), rfl, rfl, by rw [ht]; exact hZ7, va_K.moved hW.alike hK⟩, hS7.F ht⟩) hS7.2.2 (D_172 W_prog_1_method_42_code_96 18 rfl rfl) hlk
    · replace hf := gneg hf h6
      refine lv_iload_n hx hb (D_28 W_prog_1_method_42_code_32 17 rfl rfl) rfl (lv_at hl 5 rfl) ?_
      refine lv_iload hx hb (D_21 W_prog_1_method_42_code_32 18 rfl rfl) (lv_at hl 0 rfl) ?_
      obtain ⟨r8, F8, B8, hc8, hf⟩ := gbind hf
      refine va_calli (va_runS (As := [.int (iI l8)]) (rest := [.int (iI l2)]) ⟨hx, hb, hml, hown, hts⟩ (c_S_fineValue (l := l) hc8) (va_cwS 1 hts (gdS k_5_67 k_5_68 k_1_1 k_5_69) rfl rfl rfl (by decide +kernel) ⟨Nat.le_of_ble_eq_true rfl, Nat.le_of_ble_eq_true rfl⟩) (zPS X hZ hS [.int (iI l8)]) rfl rfl hl.1 rfl (lv_room (Nat.le_of_ble_eq_true rfl)) (D_184 W_prog_1_method_42_code_32 20 rfl rfl rfl) ⟨Nat.le_of_ble_eq_true rfl, Nat.le_of_ble_eq_true rfl⟩) hS (fun q _ h => zAin X hS q h) (zAin X hS) (fun p8 u8 t8 H8 locs8 ht8 hv8 hw8 hB8 hz8 hk8 hS8 => ?_)
      have hZ8 := zBack X ht8 hB8
      subst hw8
      refine zadd hx hb (D_96 W_prog_1_method_42_code_32 23 rfl rfl) ?_
      refine lv_istore (lv' := [(9, .int (iI (l2 + r8))), (8, .int (iI l8)), (7, .int (iI l7)), (6, .int (iI l6)), (5, .int (iI l5)), (4, .int (iI l4)), (2, .int (iI l2)), (3, .int (iI l3))]) hx hb (D_54 W_prog_1_method_42_code_32 24 rfl rfl) hl (by decide) rfl (fun ls hl => ?_)
      refine lv_iload hx hb (D_21 W_prog_1_method_42_code_32 26 rfl rfl) (lv_at hl 0 rfl) ?_
      refine lv_iload_n hx hb (D_28 W_prog_1_method_42_code_32 28 rfl rfl) rfl (lv_at hl 6 rfl) ?_
      refine lv_iload_n hx hb (D_29 W_prog_1_method_42_code_32 29 rfl rfl) rfl (lv_at hl 7 rfl) ?_
      refine zadd hx hb (D_96 W_prog_1_method_42_code_32 30 rfl rfl) ?_
      obtain ⟨g9, hf⟩ := gif hf
      obtain ⟨g10, hf⟩ := gif hf
      refine zgt (tgt := 104) hx hb g9 g10 (D_163 W_prog_1_method_42_code_32 31 rfl rfl rfl) (by decide) (fun h11 => ?_) (fun h11 => ?_)
      · replace hf := gpos hf h11
        exact b_S_nextValue_104 X ih hf hZ8 hS8 (lv_sub hl [1, 2, 3, 4, 5, 6, 7] rfl)
      · replace hf := gneg hf h11
        refine lv_iload hx hb (D_21 W_prog_1_method_42_code_64 2 rfl rfl) (lv_at hl 2 rfl) ?_
        refine lv_iload hx hb (D_21 W_prog_1_method_42_code_64 4 rfl rfl) (lv_at hl 4 rfl) ?_
        refine lv_iload hx hb (D_21 W_prog_1_method_42_code_64 6 rfl rfl) (lv_at hl 3 rfl) ?_
        refine lv_iload hx hb (D_21 W_prog_1_method_42_code_64 8 rfl rfl) (lv_at hl 5 rfl) ?_
        refine lv_iload hx hb (D_21 W_prog_1_method_42_code_64 10 rfl rfl) (lv_at hl 0 rfl) ?_
        obtain ⟨r12, F12, B12, hc12, hf⟩ := gbind hf
        refine va_calli (va_runS (As := [.int (iI l5), .int (iI l6), .int (iI l4), .int (iI (l2 + r8))]) (rest := [.int (iI l7)]) ⟨hx, hb, hml, hown, hts⟩ (c_S_strength (l := l) hc12) (va_cwS 4 hts (gdS k_5_93 k_5_94 k_1_1 k_5_95) rfl rfl rfl (by decide +kernel) ⟨Nat.le_of_ble_eq_true rfl, Nat.le_of_ble_eq_true rfl⟩) (zPS X hZ8 hS8 [.int (iI l5), .int (iI l6), .int (iI l4), .int (iI (l2 + r8))]) rfl rfl hl.1 rfl (lv_room (Nat.le_of_ble_eq_true rfl)) (D_184 W_prog_1_method_42_code_64 12 rfl rfl rfl) ⟨Nat.le_of_ble_eq_true rfl, Nat.le_of_ble_eq_true rfl⟩) hS8 (fun q _ h => zAin X hS8 q h) (zAin X hS8) (fun p12 u12 t12 H12 locs12 ht12 hv12 hw12 hB12 hz12 hk12 hS12 => ?_)
        have hZ12 := zBack X ht12 hB12
        subst hw12
        obtain ⟨g13, hf⟩ := gif hf
        obtain ⟨g14, hf⟩ := gif hf
        refine va_mmax hx hb (by rw [hml]; exact hl.1.symm) hown (hts _ k_5_89) (hts _ k_1_39) (hts _ k_1_3) (hts _ k_1_40) (Nat.le_of_ble_eq_true rfl) (Nat.le_of_ble_eq_true rfl) (Nat.le_of_ble_eq_true rfl) (Nat.le_of_ble_eq_true rfl) (D_184 W_prog_1_method_42_code_64 15 rfl rfl rfl) ?_
        rw [zmax_e g13 g14]
        refine lv_istore (lv' := [(10, .int (iI (zmax l7 r12))), (9, .int (iI (l2 + r8))), (8, .int (iI l8)), (7, .int (iI l7)), (6, .int (iI l6)), (5, .int (iI l5)), (4, .int (iI l4)), (2, .int (iI l2)), (3, .int (iI l3))]) hx hb (D_54 W_prog_1_method_42_code_64 18 rfl rfl) hl (by decide) rfl (fun ls hl => ?_)
        refine lv_iload hx hb (D_21 W_prog_1_method_42_code_64 20 rfl rfl) (lv_at hl 5 rfl) ?_
        refine lv_iload hx hb (D_21 W_prog_1_method_42_code_64 22 rfl rfl) (lv_at hl 4 rfl) ?_
        refine lv_iload hx hb (D_21 W_prog_1_method_42_code_64 24 rfl rfl) (lv_at hl 6 rfl) ?_
        refine lv_iload_n hx hb (D_28 W_prog_1_method_42_code_64 26 rfl rfl) rfl (lv_at hl 7 rfl) ?_
        refine lv_iload hx hb (D_21 W_prog_1_method_42_code_64 27 rfl rfl) (lv_at hl 1 rfl) ?_
        obtain ⟨r15, F15, B15, hc15, hf⟩ := gbind hf
        refine va_calli (va_runS (As := [.int (iI l5), .int (iI l6), .int (iI l4), .int (iI l2), .int (iI (l2 + r8))]) (rest := []) ⟨hx, hb, hml, hown, hts⟩ (c_S_strengthBetween (l := l) hc15) (va_cwS 5 hts (gdS k_5_96 k_5_97 k_1_1 k_5_98) rfl rfl rfl (by decide +kernel) ⟨Nat.le_of_ble_eq_true rfl, Nat.le_of_ble_eq_true rfl⟩) (zPS X hZ12 hS12 [.int (iI l5), .int (iI l6), .int (iI l4), .int (iI l2), .int (iI (l2 + r8))]) rfl rfl hl.1 rfl (lv_room (Nat.le_of_ble_eq_true rfl)) (D_184 W_prog_1_method_42_code_64 29 rfl rfl rfl) ⟨Nat.le_of_ble_eq_true rfl, Nat.le_of_ble_eq_true rfl⟩) hS12 (fun q _ h => zAin X hS12 q h) (zAin X hS12) (fun p15 u15 t15 H15 locs15 ht15 hv15 hw15 hB15 hz15 hk15 hS15 => ?_)
        have hZ15 := zBack X ht15 hB15
        subst hw15
        refine lv_iload hx hb (D_21 W_prog_1_method_42_code_96 0 rfl rfl) (lv_at hl 0 rfl) ?_
        obtain ⟨g16, hf⟩ := gif hf
        obtain ⟨g17, hf⟩ := gif hf
        refine zgt (tgt := 104) hx hb g16 g17 (D_163 W_prog_1_method_42_code_96 2 rfl rfl rfl) (by decide) (fun h18 => ?_) (fun h18 => ?_)
        · replace hf := gpos hf h18
          exact b_S_nextValue_104 X ih hf hZ15 hS15 (lv_sub hl [2, 3, 4, 5, 6, 7, 8] rfl)
        · replace hf := gneg hf h18
          refine lv_iload hx hb (D_21 W_prog_1_method_42_code_96 5 rfl rfl) (lv_at hl 2 rfl) ?_
          cases hf
          exact W.iret hx hb hr (fun t ht hW => ⟨⟨_, (), rfl, rfl, by rw [ht]; exact hZ15, va_K.moved hW.alike hK⟩, hS15.F ht⟩) hS15.2.2 (D_172 W_prog_1_method_42_code_96 7 rfl rfl) hlk

def f_S_nextValue (K : zK) (l0 : Int) (l1 : Int) (l2 : Int) (l3 : Int) (F : zF) (B : zB) : zO := if r32 l1 then if ¬ iI (zmax l1 1) = 0 then zbind (f_S_beatCount K l0 l1 F B) (fun r3 F3 B3 => zbind (f_S_strength K ((zdv 512 (zmax l1 1)) * l0) ((zdv 512 (zmax l1 1)) * r3) (zdv 512 (zmax l1 1)) l2 F3 B3) (fun r4 F4 B4 => f_S_nextValue_42 K K.1 0 r4 ((zdv 512 (zmax l1 1)) * r3) ((zdv 512 (zmax l1 1)) * l0) (zdv 512 (zmax l1 1)) l2 l3 F4 B4)) else none else none
set_option maxHeartbeats 4000000 in
set_option maxRecDepth 100000 in
theorem c_S_nextValue {l : Launch} {D : va_G} {ca : Nat → ClassId} {ad : Nat → Int → Nat → Nat} {L : List Nat} {aS vS : Nat → Nat} {sz : Nat} {K : zK}  {l0 : Int} {l1 : Int} {l2 : Int} {l3 : Int} {F F9 : zF} {B B9 : zB} {r : Int} (hf : f_S_nextValue K l0 l1 l2 l3 F B = some (r, F9, B9)) : Met l ({ cls := "StaveHouse", name := "nextValue", desc := "(IIII)I" } : Jvm.MethodName) (Cond.code ({ cls := "StaveHouse", name := "nextValue", desc := "(IIII)I" } : Jvm.MethodName) prog_1_method_42_code 11 (Option.some Jvm.ClassFile.FieldType.int) :: wAll) ({ frames := 2, cells := 0, slots := 0, locals := 41 } : Room) (va_Pc [.int (iI l0), .int (iI l1), .int (iI l2), .int (iI l3)] (zPre D ca ad lnC K.2 L aS vS F B sz)) (Q_S_nextValue K D ca ad L r F9 B9 (zA L sz)) 0 0 (zA L sz) := by
  refine zMet (Qc := Q_S_nextValue K D ca ad L r F9 B9) (lv := [(0, .int (iI l0)), (1, .int (iI l1)), (2, .int (iI l2)), (3, .int (iI l3))]) (by decide) (Nat.le_of_ble_eq_true rfl) rfl (fun A p e s m below meth c ls X hZ hS hl => ?_)
  obtain ⟨hx, hb, hr, hml, hown, hts, hlk, hK, hA, hL, hX⟩ := id X
  replace hf : (if r32 l1 then if ¬ iI (zmax l1 1) = 0 then zbind (f_S_beatCount K l0 l1 F B) (fun r3 F3 B3 => zbind (f_S_strength K ((zdv 512 (zmax l1 1)) * l0) ((zdv 512 (zmax l1 1)) * r3) (zdv 512 (zmax l1 1)) l2 F3 B3) (fun r4 F4 B4 => f_S_nextValue_42 K K.1 0 r4 ((zdv 512 (zmax l1 1)) * r3) ((zdv 512 (zmax l1 1)) * l0) (zdv 512 (zmax l1 1)) l2 l3 F4 B4)) else none else none) = some (r, F9, B9) := hf
  refine lv_sipush (v := iI 512) hx hb (D_17 W_prog_1_method_42_code_0 0 rfl rfl rfl) (by decide) ?_
  refine lv_iload_n hx hb (D_27 W_prog_1_method_42_code_0 3 rfl rfl) rfl (lv_at hl 1 rfl) ?_
  refine lv_iconst (v := iI 1) hx hb (D_4 W_prog_1_method_42_code_0 4 rfl rfl) rfl ?_
  obtain ⟨g1, hf⟩ := gif hf
  refine va_mmax hx hb (by rw [hml]; exact hl.1.symm) hown (hts _ k_5_89) (hts _ k_1_39) (hts _ k_1_3) (hts _ k_1_40) (Nat.le_of_ble_eq_true rfl) (Nat.le_of_ble_eq_true rfl) (Nat.le_of_ble_eq_true rfl) (Nat.le_of_ble_eq_true rfl) (D_184 W_prog_1_method_42_code_0 5 rfl rfl rfl) ?_
  rw [zmax_e g1 (by decide)]
  obtain ⟨g2, hf⟩ := gif hf
  refine zdv_r hx hb g2 (D_108 W_prog_1_method_42_code_0 8 rfl rfl) ?_
  refine lv_istore (lv' := [(4, .int (iI (zdv 512 (zmax l1 1)))), (0, .int (iI l0)), (1, .int (iI l1)), (2, .int (iI l2)), (3, .int (iI l3))]) hx hb (D_54 W_prog_1_method_42_code_0 9 rfl rfl) hl (by decide) rfl (fun ls hl => ?_)
  refine lv_iload hx hb (D_21 W_prog_1_method_42_code_0 11 rfl rfl) (lv_at hl 0 rfl) ?_
  refine lv_iload_n hx hb (D_26 W_prog_1_method_42_code_0 13 rfl rfl) rfl (lv_at hl 1 rfl) ?_
  refine zmul hx hb (D_104 W_prog_1_method_42_code_0 14 rfl rfl) ?_
  refine lv_istore (lv' := [(5, .int (iI ((zdv 512 (zmax l1 1)) * l0))), (4, .int (iI (zdv 512 (zmax l1 1)))), (0, .int (iI l0)), (1, .int (iI l1)), (2, .int (iI l2)), (3, .int (iI l3))]) hx hb (D_54 W_prog_1_method_42_code_0 15 rfl rfl) hl (by decide) rfl (fun ls hl => ?_)
  refine lv_iload hx hb (D_21 W_prog_1_method_42_code_0 17 rfl rfl) (lv_at hl 1 rfl) ?_
  refine lv_iload_n hx hb (D_26 W_prog_1_method_42_code_0 19 rfl rfl) rfl (lv_at hl 2 rfl) ?_
  refine lv_iload_n hx hb (D_27 W_prog_1_method_42_code_0 20 rfl rfl) rfl (lv_at hl 3 rfl) ?_
  obtain ⟨r3, F3, B3, hc3, hf⟩ := gbind hf
  refine va_calli (va_runS (As := [.int (iI l0), .int (iI l1)]) (rest := [.int (iI (zdv 512 (zmax l1 1)))]) ⟨hx, hb, hml, hown, hts⟩ (c_S_beatCount (l := l) hc3) (va_cwS 2 hts (gdS k_5_90 k_5_91 k_1_1 k_5_92) rfl rfl rfl (by decide +kernel) ⟨Nat.le_of_ble_eq_true rfl, Nat.le_of_ble_eq_true rfl⟩) (zPS X hZ hS [.int (iI l0), .int (iI l1)]) rfl rfl hl.1 rfl (lv_room (Nat.le_of_ble_eq_true rfl)) (D_184 W_prog_1_method_42_code_0 21 rfl rfl rfl) ⟨Nat.le_of_ble_eq_true rfl, Nat.le_of_ble_eq_true rfl⟩) hS (fun q _ h => zAin X hS q h) (zAin X hS) (fun p3 u3 t3 H3 locs3 ht3 hv3 hw3 hB3 hz3 hk3 hS3 => ?_)
  have hZ3 := zBack X ht3 hB3
  subst hw3
  refine zmul hx hb (D_104 W_prog_1_method_42_code_0 24 rfl rfl) ?_
  refine lv_istore (lv' := [(6, .int (iI ((zdv 512 (zmax l1 1)) * r3))), (5, .int (iI ((zdv 512 (zmax l1 1)) * l0))), (4, .int (iI (zdv 512 (zmax l1 1)))), (0, .int (iI l0)), (1, .int (iI l1)), (2, .int (iI l2)), (3, .int (iI l3))]) hx hb (D_54 W_prog_1_method_42_code_0 25 rfl rfl) hl (by decide) rfl (fun ls hl => ?_)
  refine lv_iload hx hb (D_21 W_prog_1_method_42_code_0 27 rfl rfl) (lv_at hl 1 rfl) ?_
  refine lv_iload hx hb (D_21 W_prog_1_method_42_code_0 29 rfl rfl) (lv_at hl 0 rfl) ?_
  refine lv_iload hx hb (D_21 W_prog_1_method_42_code_0 31 rfl rfl) (lv_at hl 2 rfl) ?_
  refine lv_iload_n hx hb (D_28 W_prog_1_method_42_code_32 1 rfl rfl) rfl (lv_at hl 5 rfl) ?_
  obtain ⟨r4, F4, B4, hc4, hf⟩ := gbind hf
  refine va_calli (va_runS (As := [.int (iI ((zdv 512 (zmax l1 1)) * l0)), .int (iI ((zdv 512 (zmax l1 1)) * r3)), .int (iI (zdv 512 (zmax l1 1))), .int (iI l2)]) (rest := []) ⟨hx, hb, hml, hown, hts⟩ (c_S_strength (l := l) hc4) (va_cwS 4 hts (gdS k_5_93 k_5_94 k_1_1 k_5_95) rfl rfl rfl (by decide +kernel) ⟨Nat.le_of_ble_eq_true rfl, Nat.le_of_ble_eq_true rfl⟩) (zPS X hZ3 hS3 [.int (iI ((zdv 512 (zmax l1 1)) * l0)), .int (iI ((zdv 512 (zmax l1 1)) * r3)), .int (iI (zdv 512 (zmax l1 1))), .int (iI l2)]) rfl rfl hl.1 rfl (lv_room (Nat.le_of_ble_eq_true rfl)) (D_184 W_prog_1_method_42_code_32 2 rfl rfl rfl) ⟨Nat.le_of_ble_eq_true rfl, Nat.le_of_ble_eq_true rfl⟩) hS3 (fun q _ h => zAin X hS3 q h) (zAin X hS3) (fun p4 u4 t4 H4 locs4 ht4 hv4 hw4 hB4 hz4 hk4 hS4 => ?_)
  have hZ4 := zBack X ht4 hB4
  subst hw4
  refine lv_istore (lv' := [(7, .int (iI r4)), (6, .int (iI ((zdv 512 (zmax l1 1)) * r3))), (5, .int (iI ((zdv 512 (zmax l1 1)) * l0))), (4, .int (iI (zdv 512 (zmax l1 1)))), (0, .int (iI l0)), (1, .int (iI l1)), (2, .int (iI l2)), (3, .int (iI l3))]) hx hb (D_54 W_prog_1_method_42_code_32 5 rfl rfl) hl (by decide) rfl (fun ls hl => ?_)
  refine lv_iconst (v := iI 0) hx hb (D_3 W_prog_1_method_42_code_32 7 rfl rfl) rfl ?_
  refine lv_istore (lv' := [(8, .int (iI 0)), (7, .int (iI r4)), (6, .int (iI ((zdv 512 (zmax l1 1)) * r3))), (5, .int (iI ((zdv 512 (zmax l1 1)) * l0))), (4, .int (iI (zdv 512 (zmax l1 1)))), (0, .int (iI l0)), (1, .int (iI l1)), (2, .int (iI l2)), (3, .int (iI l3))]) hx hb (D_54 W_prog_1_method_42_code_32 8 rfl rfl) hl (by decide) rfl (fun ls hl => ?_)
  exact b_S_nextValue_42 X hf hZ4 hS4 (lv_sub hl [0, 1, 2, 3, 4, 7, 8] rfl)

abbrev Q_Part_accidentalsOf (K : zK) (D : va_G) (ca : Nat → ClassId) (ad : Nat → Int → Nat → Nat) (L : List Nat) (r : Int) (F : zF) (B : zB) (A : Nat → Prop) : Array Value → State → Outcome → State → Prop := va_Qi (S := Unit) (fun p _ => p = iI r) (fun _ => zPo D ca ad lnC K.2 L F B A) A
def f_Part_accidentalsOf_78 (rec12 : Int → Int → Int → Int → Int → zF → zB → zO) (K : zK) (l4 : Int) (l3 : Int) (l2 : Int) (l0 : Int) (l1 : Int) (F : zF) (B : zB) : zO := rec12 (l4 + 1) l3 l2 l0 l1 F B
set_option maxHeartbeats 4000000 in
set_option maxRecDepth 100000 in
theorem b_Part_accidentalsOf_78 {D : va_G} {ca : Nat → ClassId} {ad : Nat → Int → Nat → Nat} {L : List Nat} {aS vS : Nat → Nat} {A : Nat → Prop} {p : Program} {l : Launch} {e : Env} {s : State} {m : MethodId} {args : Array Value} {below : List Frame} {meth : Method} {c : Code} {K : zK} {r : Int} {F9 : zF} {B9 : zB} (X : zX D ca L aS vS A p s m args meth c prog_6_method_18_code 6 (Option.some Jvm.ClassFile.FieldType.int) "StaveHouse$Part") {rec12 : Int → Int → Int → Int → Int → zF → zB → zO} (hrec12 : ∀ {l4 : Int} {l3 : Int} {l2 : Int} {l0 : Int} {l1 : Int} {F : zF} {B : zB} {H : Heap} {locs : List Loc} {ls : Array Slot}, rec12 l4 l3 l2 l0 l1 F B = some (r, F9, B9) → zH D ca ad lnC K.2 L F B A H → va_S A s.heap H locs → lv_has ls 6 [(4, .int (iI l4)), (3, .int (iI l3)), (2, va_rf (zrf ad 1 l2)), (0, .ref (ad 4 l0 0)), (1, .int (iI l1))] → W p l e ({ frames := 2, cells := 0, slots := 0, locals := 46 } : Room) s m args below meth c H locs 0 0 (MQ below (Q_Part_accidentalsOf K D ca ad L r F9 B9 A) args s 0 0 A) (F0 m 12 ls [])) {l4 : Int} {l3 : Int} {l2 : Int} {l0 : Int} {l1 : Int} {F : zF} {B : zB} {H : Heap} {locs : List Loc} {ls : Array Slot} (hf : f_Part_accidentalsOf_78 rec12 K l4 l3 l2 l0 l1 F B = some (r, F9, B9)) (hZ : zH D ca ad lnC K.2 L F B A H) (hS : va_S A s.heap H locs) (hl : lv_has ls 6 [(4, .int (iI l4)), (3, .int (iI l3)), (2, va_rf (zrf ad 1 l2)), (0, .ref (ad 4 l0 0)), (1, .int (iI l1))]) : W p l e ({ frames := 2, cells := 0, slots := 0, locals := 46 } : Room) s m args below meth c H locs 0 0 (MQ below (Q_Part_accidentalsOf K D ca ad L r F9 B9 A) args s 0 0 A) (F0 m 78 ls []) := by
  obtain ⟨hx, hb, hr, hml, hown, hts, hlk, hK, hA, hL, hX⟩ := id X
  replace hf : (rec12 (l4 + 1) l3 l2 l0 l1 F B) = some (r, F9, B9) := hf
  refine lv_iinc (v := iI (l4 + 1)) (lv' := [(4, .int (iI (l4 + 1))), (3, .int (iI l3)), (2, va_rf (zrf ad 1 l2)), (0, .ref (ad 4 l0 0)), (1, .int (iI l1))]) hx hb d_6_18_78 hl (k := 0) rfl (iI_add _ 1) (by decide) rfl (fun ls hl => ?_)
  refine lv_goto (tgt := 12) hx hb (D_167 W_prog_6_method_18_code_64 17 rfl rfl rfl) (by decide) ?_
  exact hrec12 hf hZ hS (lv_sub hl [0, 1, 2, 3, 4] rfl)

def f_Part_accidentalsOf_12 (K : zK) : Nat → Int → Int → Int → Int → Int → zF → zB → zO
  | 0, _, _, _, _, _, _, _ => none
  | n + 1, l4, l3, l2, l0, l1, F, B => if 0 ≤ l2 ∧ l2 < K.2 1 then if r32 l4 then if r32 (F 1 l2 10) then (if (F 1 l2 10) ≤ l4 then some (l3, F, B) else if 0 ≤ l4 ∧ l4 < 6 then if 0 ≤ l0 ∧ l0 < K.2 4 then zbind (f_Part_isTiedFrom K l0 l1 l4 F B) (fun r9 F9 B9 => if r32 r9 then (if r9 = 0 then if 0 ≤ (B 1 l2 12 l4) ∧ (B 1 l2 12 l4) < 63 then if r32 (B9 4 l0 12 (B 1 l2 12 l4)) then if r32 (B9 1 l2 13 l4) then (if (B9 4 l0 12 (B 1 l2 12 l4)) = (B9 1 l2 13 l4) then f_Part_accidentalsOf_78 (f_Part_accidentalsOf_12 K n) K l4 l3 l2 l0 l1 F9 B9 else f_Part_accidentalsOf_78 (f_Part_accidentalsOf_12 K n) K l4 (zor l3 (zshl 1 l4)) l2 l0 l1 F9 (zup4 B9 4 l0 12 (B 1 l2 12 l4) (B9 1 l2 13 l4))) else none else none else none else f_Part_accidentalsOf_78 (f_Part_accidentalsOf_12 K n) K l4 l3 l2 l0 l1 F9 B9) else none) else none else none) else none else none else none
set_option maxHeartbeats 4000000 in
set_option maxRecDepth 100000 in
theorem b_Part_accidentalsOf_12 {D : va_G} {ca : Nat → ClassId} {ad : Nat → Int → Nat → Nat} {L : List Nat} {aS vS : Nat → Nat} {A : Nat → Prop} {p : Program} {l : Launch} {e : Env} {s : State} {m : MethodId} {args : Array Value} {below : List Frame} {meth : Method} {c : Code} {K : zK} {r : Int} {F9 : zF} {B9 : zB} (X : zX D ca L aS vS A p s m args meth c prog_6_method_18_code 6 (Option.some Jvm.ClassFile.FieldType.int) "StaveHouse$Part") : ∀ {n : Nat} {l4 : Int} {l3 : Int} {l2 : Int} {l0 : Int} {l1 : Int} {F : zF} {B : zB} {H : Heap} {locs : List Loc} {ls : Array Slot}, f_Part_accidentalsOf_12 K n l4 l3 l2 l0 l1 F B = some (r, F9, B9) → zH D ca ad lnC K.2 L F B A H → va_S A s.heap H locs → lv_has ls 6 [(4, .int (iI l4)), (3, .int (iI l3)), (2, va_rf (zrf ad 1 l2)), (0, .ref (ad 4 l0 0)), (1, .int (iI l1))] → W p l e ({ frames := 2, cells := 0, slots := 0, locals := 46 } : Room) s m args below meth c H locs 0 0 (MQ below (Q_Part_accidentalsOf K D ca ad L r F9 B9 A) args s 0 0 A) (F0 m 12 ls []) := by
  obtain ⟨hx, hb, hr, hml, hown, hts, hlk, hK, hA, hL, hX⟩ := id X
  intro n
  induction n with
  | zero =>
    intros
    rename_i hf _ _ _
    cases hf
  | succ n ih =>
    intro l4 l3 l2 l0 l1 F B H locs ls hf hZ hS hl
    replace hf : (if 0 ≤ l2 ∧ l2 < K.2 1 then if r32 l4 then if r32 (F 1 l2 10) then (if (F 1 l2 10) ≤ l4 then some (l3, F, B) else if 0 ≤ l4 ∧ l4 < 6 then if 0 ≤ l0 ∧ l0 < K.2 4 then zbind (f_Part_isTiedFrom K l0 l1 l4 F B) (fun r9 F9 B9 => if r32 r9 then (if r9 = 0 then if 0 ≤ (B 1 l2 12 l4) ∧ (B 1 l2 12 l4) < 63 then if r32 (B9 4 l0 12 (B 1 l2 12 l4)) then if r32 (B9 1 l2 13 l4) then (if (B9 4 l0 12 (B 1 l2 12 l4)) = (B9 1 l2 13 l4) then f_Part_accidentalsOf_78 (f_Part_accidentalsOf_12 K n) K l4 l3 l2 l0 l1 F9 B9 else f_Part_accidentalsOf_78 (f_Part_accidentalsOf_12 K n) K l4 (zor l3 (zshl 1 l4)) l2 l0 l1 F9 (zup4 B9 4 l0 12 (B 1 l2 12 l4) (B9 1 l2 13 l4))) else none else none else none else f_Part_accidentalsOf_78 (f_Part_accidentalsOf_12 K n) K l4 l3 l2 l0 l1 F9 B9) else none) else none else none) else none else none else none) = some (r, F9, B9) := hf
    refine lv_iload hx hb (D_21 W_prog_6_method_18_code_0 12 rfl rfl) (lv_at hl 0 rfl) ?_
    refine zaload_n hx hb (D_44 W_prog_6_method_18_code_0 14 rfl rfl) rfl (lv_at hl 2 rfl) ?_
    obtain ⟨g3, hf⟩ := gif hf
    refine zunrf g3.1 ?_
    refine zget (ci := 1) (C := RX1) (T := TX1) (v := .int (iI (F 1 l2 10))) (k := 10) hx hb hts inW_1 hown hK hZ g3.1 g3.2 rfl (by decide) k_2_54 rfl (D_180 W_prog_6_method_18_code_0 15 rfl rfl rfl) ?_
    obtain ⟨g4, hf⟩ := gif hf
    obtain ⟨g5, hf⟩ := gif hf
    refine zge (tgt := 84) hx hb g4 g5 (D_162 W_prog_6_method_18_code_0 18 rfl rfl rfl) (by decide) (fun h6 => ?_) (fun h6 => ?_)
    · replace hf := gpos hf h6
      refine lv_iload_n hx hb (D_29 W_prog_6_method_18_code_64 20 rfl rfl) rfl (lv_at hl 1 rfl) ?_
      cases hf
      exact W.iret hx hb hr (fun t ht hW => ⟨⟨_, (), rfl, rfl, by rw [ht]; exact hZ, va_K.moved hW.alike hK⟩, hS.F ht⟩) hS.2.2 (D_172 W_prog_6_method_18_code_64 21 rfl rfl) hlk
    · replace hf := gneg hf h6
      refine zaload_n hx hb (D_44 W_prog_6_method_18_code_0 21 rfl rfl) rfl (lv_at hl 2 rfl) ?_
      refine zunrf g3.1 ?_
      refine zget (ci := 1) (C := RX1) (T := TX1) (v := .ref (ad 1 l2 (12 + 1))) (k := 12) hx hb hts inW_1 hown hK hZ g3.1 g3.2 rfl (by decide) k_2_60 rfl (D_180 W_prog_6_method_18_code_0 22 rfl rfl rfl) ?_
      refine lv_iload hx hb (D_21 W_prog_6_method_18_code_0 25 rfl rfl) (lv_at hl 0 rfl) ?_
      obtain ⟨g7, hf⟩ := gif hf
      refine zald (ci := 1) (k := 12) hx hb hK rfl hZ g3.1 g3.2 rfl (Nat.le_of_ble_eq_true rfl) g7.1 g7.2 (D_46 W_prog_6_method_18_code_0 27 rfl rfl) ?_
      refine lv_istore (lv' := [(5, .int (iI (B 1 l2 12 l4))), (4, .int (iI l4)), (3, .int (iI l3)), (2, va_rf (zrf ad 1 l2)), (0, .ref (ad 4 l0 0)), (1, .int (iI l1))]) hx hb (D_54 W_prog_6_method_18_code_0 28 rfl rfl) hl (by decide) rfl (fun ls hl => ?_)
      refine lv_aload_n hx hb (D_42 W_prog_6_method_18_code_0 30 rfl rfl) rfl (lv_at hl 4 rfl) ?_
      refine lv_iload_n hx hb (D_27 W_prog_6_method_18_code_0 31 rfl rfl) rfl (lv_at hl 5 rfl) ?_
      refine lv_iload hx hb (D_21 W_prog_6_method_18_code_32 0 rfl rfl) (lv_at hl 1 rfl) ?_
      obtain ⟨g8, hf⟩ := gif hf
      obtain ⟨r9, F9, B9, hc9, hf⟩ := gbind hf
      refine va_calli (va_runV (As := [.int (iI l1), .int (iI l4)]) (rest := []) ⟨hx, hb, hml, hown, hts⟩ (c_Part_isTiedFrom (l := l) hc9) (cwV 2 hts (gdV k_5_125 k_5_126 k_5_127 k_1_18 k_5_128) rfl rfl rfl (by decide +kernel) ⟨Nat.le_of_ble_eq_true rfl, Nat.le_of_ble_eq_true rfl⟩) (zPV X hZ hS (ci := 4) g8.1 g8.2 (r := (RX4, TX4, 13)) rfl [.int (iI l1), .int (iI l4)]) rfl rfl hl.1 rfl (lv_room (Nat.le_of_ble_eq_true rfl)) (D_182 W_prog_6_method_18_code_32 2 rfl rfl rfl) ⟨Nat.le_of_ble_eq_true rfl, Nat.le_of_ble_eq_true rfl⟩) hS (fun q _ h => zAin X hS q h) (zAin X hS) (fun p9 u9 t9 H9 locs9 ht9 hv9 hw9 hB9 hz9 hk9 hS9 => ?_)
      have hZ9 := zBack X ht9 hB9
      subst hw9
      obtain ⟨g10, hf⟩ := gif hf
      refine z0ne (tgt := 78) hx hb g10 (D_154 W_prog_6_method_18_code_32 5 rfl rfl rfl) (by decide) (fun h11 => ?_) (fun h11 => ?_)
      · replace hf := gneg hf h11
        exact b_Part_accidentalsOf_78 X ih hf hZ9 hS9 (lv_sub hl [1, 2, 3, 4, 5] rfl)
      · replace hf := gpos hf h11
        refine lv_aload_n hx hb (D_42 W_prog_6_method_18_code_32 8 rfl rfl) rfl (lv_at hl 4 rfl) ?_
        refine zget (ci := 4) (C := RX4) (T := TX4) (v := .ref (ad 4 l0 (12 + 1))) (k := 12) hx hb hts inW_4 hown hK hZ9 g8.1 g8.2 rfl (by decide) k_4_152 rfl (D_180 W_prog_6_method_18_code_32 9 rfl rfl rfl) ?_
        refine lv_iload hx hb (D_21 W_prog_6_method_18_code_32 12 rfl rfl) (lv_at hl 0 rfl) ?_
        obtain ⟨g12, hf⟩ := gif hf
        refine zald (ci := 4) (k := 12) hx hb hK rfl hZ9 g8.1 g8.2 rfl (Nat.le_of_ble_eq_true rfl) g12.1 g12.2 (D_46 W_prog_6_method_18_code_32 14 rfl rfl) ?_
        refine zaload_n hx hb (D_44 W_prog_6_method_18_code_32 15 rfl rfl) rfl (lv_at hl 3 rfl) ?_
        refine zunrf g3.1 ?_
        refine zget (ci := 1) (C := RX1) (T := TX1) (v := .ref (ad 1 l2 (13 + 1))) (k := 13) hx hb hts inW_1 hown hK hZ9 g3.1 g3.2 rfl (by decide) k_2_65 rfl (D_180 W_prog_6_method_18_code_32 16 rfl rfl rfl) ?_
        refine lv_iload hx hb (D_21 W_prog_6_method_18_code_32 19 rfl rfl) (lv_at hl 1 rfl) ?_
        refine zald (ci := 1) (k := 13) hx hb hK rfl hZ9 g3.1 g3.2 rfl (Nat.le_of_ble_eq_true rfl) g7.1 g7.2 (D_46 W_prog_6_method_18_code_32 21 rfl rfl) ?_
        obtain ⟨g13, hf⟩ := gif hf
        obtain ⟨g14, hf⟩ := gif hf
        refine zeq (tgt := 78) hx hb g13 g14 (D_159 W_prog_6_method_18_code_32 22 rfl rfl rfl) (by decide) (fun h15 => ?_) (fun h15 => ?_)
        · replace hf := gpos hf h15
          exact b_Part_accidentalsOf_78 X ih hf hZ9 hS9 (lv_sub hl [1, 2, 3, 4, 5] rfl)
        · replace hf := gneg hf h15
          refine lv_iload_n hx hb (D_29 W_prog_6_method_18_code_32 25 rfl rfl) rfl (lv_at hl 2 rfl) ?_
          refine lv_iconst (v := iI 1) hx hb (D_4 W_prog_6_method_18_code_32 26 rfl rfl) rfl ?_
          refine lv_iload hx hb (D_21 W_prog_6_method_18_code_32 27 rfl rfl) (lv_at hl 1 rfl) ?_
          refine zshl_r hx hb (D_120 W_prog_6_method_18_code_32 29 rfl rfl) ?_
          refine zor_r hx hb (D_128 W_prog_6_method_18_code_32 30 rfl rfl) ?_
          refine lv_istore_n (lv' := [(3, .int (iI (zor l3 (zshl 1 l4)))), (5, .int (iI (B 1 l2 12 l4))), (4, .int (iI l4)), (2, va_rf (zrf ad 1 l2)), (0, .ref (ad 4 l0 0)), (1, .int (iI l1))]) hx hb (D_62 W_prog_6_method_18_code_32 31 rfl rfl) rfl hl (by decide) (by cases zrf ad 1 l2 <;> rfl) (fun ls hl => ?_)
          refine lv_aload_n hx hb (D_42 W_prog_6_method_18_code_64 0 rfl rfl) rfl (lv_at hl 4 rfl) ?_
          refine zget (ci := 4) (C := RX4) (T := TX4) (v := .ref (ad 4 l0 (12 + 1))) (k := 12) hx hb hts inW_4 hown hK hZ9 g8.1 g8.2 rfl (by decide) k_4_152 rfl (D_180 W_prog_6_method_18_code_64 1 rfl rfl rfl) ?_
          refine lv_iload hx hb (D_21 W_prog_6_method_18_code_64 4 rfl rfl) (lv_at hl 1 rfl) ?_
          refine zaload_n hx hb (D_44 W_prog_6_method_18_code_64 6 rfl rfl) rfl (lv_at hl 3 rfl) ?_
          refine zunrf g3.1 ?_
          refine zget (ci := 1) (C := RX1) (T := TX1) (v := .ref (ad 1 l2 (13 + 1))) (k := 13) hx hb hts inW_1 hown hK hZ9 g3.1 g3.2 rfl (by decide) k_2_65 rfl (D_180 W_prog_6_method_18_code_64 7 rfl rfl rfl) ?_
          refine lv_iload hx hb (D_21 W_prog_6_method_18_code_64 10 rfl rfl) (lv_at hl 2 rfl) ?_
          refine zald (ci := 1) (k := 13) hx hb hK rfl hZ9 g3.1 g3.2 rfl (Nat.le_of_ble_eq_true rfl) g7.1 g7.2 (D_46 W_prog_6_method_18_code_64 12 rfl rfl) ?_
          refine zast (ci := 4) (k := 12) hx hb hK rfl hZ9 hS9 g8.1 g8.2 rfl (Nat.le_of_ble_eq_true rfl) g12.1 g12.2 (D_79 W_prog_6_method_18_code_64 13 rfl rfl) (fun H16 locs16 hZ16 hS16 => ?_)
          exact b_Part_accidentalsOf_78 X ih hf hZ16 hS16 (lv_sub hl [2, 0, 3, 4, 5] rfl)

def f_Part_accidentalsOf (K : zK) (l0 : Int) (l1 : Int) (F : zF) (B : zB) : zO := if 0 ≤ l0 ∧ l0 < K.2 4 then if 0 ≤ l1 ∧ l1 < 200 then f_Part_accidentalsOf_12 K K.1 0 0 (B 4 l0 5 l1) l0 l1 F B else none else none
set_option maxHeartbeats 4000000 in
set_option maxRecDepth 100000 in
theorem c_Part_accidentalsOf {l : Launch} {D : va_G} {ca : Nat → ClassId} {ad : Nat → Int → Nat → Nat} {L : List Nat} {aS vS : Nat → Nat} {sz : Nat} {K : zK}  {l0 : Int} {l1 : Int} {F F9 : zF} {B B9 : zB} {r : Int} (hf : f_Part_accidentalsOf K l0 l1 F B = some (r, F9, B9)) : Met l ({ cls := "StaveHouse$Part", name := "accidentalsOf", desc := "(I)I" } : Jvm.MethodName) (Cond.code ({ cls := "StaveHouse$Part", name := "accidentalsOf", desc := "(I)I" } : Jvm.MethodName) prog_6_method_18_code 6 (Option.some Jvm.ClassFile.FieldType.int) :: wAll) ({ frames := 2, cells := 0, slots := 0, locals := 46 } : Room) (va_Pc [.ref (ad 4 l0 0), .int (iI l1)] (zPre D ca ad lnC K.2 L aS vS F B sz)) (Q_Part_accidentalsOf K D ca ad L r F9 B9 (zA L sz)) 0 0 (zA L sz) := by
  refine zMet (Qc := Q_Part_accidentalsOf K D ca ad L r F9 B9) (lv := [(0, .ref (ad 4 l0 0)), (1, .int (iI l1))]) (by decide) (Nat.le_of_ble_eq_true rfl) rfl (fun A p e s m below meth c ls X hZ hS hl => ?_)
  obtain ⟨hx, hb, hr, hml, hown, hts, hlk, hK, hA, hL, hX⟩ := id X
  replace hf : (if 0 ≤ l0 ∧ l0 < K.2 4 then if 0 ≤ l1 ∧ l1 < 200 then f_Part_accidentalsOf_12 K K.1 0 0 (B 4 l0 5 l1) l0 l1 F B else none else none) = some (r, F9, B9) := hf
  refine lv_aload_n hx hb (D_42 W_prog_6_method_18_code_0 0 rfl rfl) rfl (lv_at hl 0 rfl) ?_
  obtain ⟨g1, hf⟩ := gif hf
  refine zget (ci := 4) (C := RX4) (T := TX4) (v := .ref (ad 4 l0 (5 + 1))) (k := 5) hx hb hts inW_4 hown hK hZ g1.1 g1.2 rfl (by decide) k_4_130 rfl (D_180 W_prog_6_method_18_code_0 1 rfl rfl rfl) ?_
  refine lv_iload_n hx hb (D_27 W_prog_6_method_18_code_0 4 rfl rfl) rfl (lv_at hl 1 rfl) ?_
  obtain ⟨g2, hf⟩ := gif hf
  refine zaldR (t := 1) (x := 7) (ci := 4) (k := 5) hx hb hK rfl rfl hZ g1.1 g1.2 rfl (Nat.le_of_ble_eq_true rfl) g2.1 g2.2 (D_50 W_prog_6_method_18_code_0 5 rfl rfl) ?_
  refine zastore_n (lv' := [(0, .ref (ad 4 l0 0)), (1, .int (iI l1))]) hx hb (D_77 W_prog_6_method_18_code_0 6 rfl rfl) rfl hl (by decide) (fun _ _ => rfl) (fun ls hl => ?_)
  refine lv_iconst (v := iI 0) hx hb (D_3 W_prog_6_method_18_code_0 7 rfl rfl) rfl ?_
  refine lv_istore_n (lv' := [(3, .int (iI 0)), (2, va_rf (zrf ad 1 (B 4 l0 5 l1))), (0, .ref (ad 4 l0 0)), (1, .int (iI l1))]) hx hb (D_62 W_prog_6_method_18_code_0 8 rfl rfl) rfl hl (by decide) (by cases zrf ad 1 (B 4 l0 5 l1) <;> rfl) (fun ls hl => ?_)
  refine lv_iconst (v := iI 0) hx hb (D_3 W_prog_6_method_18_code_0 9 rfl rfl) rfl ?_
  refine lv_istore (lv' := [(4, .int (iI 0)), (3, .int (iI 0)), (2, va_rf (zrf ad 1 (B 4 l0 5 l1))), (0, .ref (ad 4 l0 0)), (1, .int (iI l1))]) hx hb (D_54 W_prog_6_method_18_code_0 10 rfl rfl) hl (by decide) rfl (fun ls hl => ?_)
  exact b_Part_accidentalsOf_12 X hf hZ hS (lv_sub hl [0, 1, 2, 3, 4] rfl)

abbrev Q_Part_setLedgers (K : zK) (D : va_G) (ca : Nat → ClassId) (ad : Nat → Int → Nat → Nat) (L : List Nat) (r : Int) (F : zF) (B : zB) (A : Nat → Prop) : Array Value → State → Outcome → State → Prop := va_Qv (S := Unit) (fun _ => True) (fun _ => zPo D ca ad lnC K.2 L F B A) A
def f_Part_setLedgers_52 (rec2 : Int → Int → zF → zB → zO) (K : zK) (l2 : Int) (l1 : Int) (l0 : Int) (F : zF) (B : zB) : zO := if 0 ≤ l0 ∧ l0 < K.2 4 then if 0 ≤ l1 ∧ l1 < 800 then rec2 (l1 + 1) l0 F (zup4 B 4 l0 368 l1 l2) else none else none
set_option maxHeartbeats 4000000 in
set_option maxRecDepth 100000 in
theorem b_Part_setLedgers_52 {D : va_G} {ca : Nat → ClassId} {ad : Nat → Int → Nat → Nat} {L : List Nat} {aS vS : Nat → Nat} {A : Nat → Prop} {p : Program} {l : Launch} {e : Env} {s : State} {m : MethodId} {args : Array Value} {below : List Frame} {meth : Method} {c : Code} {K : zK} {r : Int} {F9 : zF} {B9 : zB} (X : zX D ca L aS vS A p s m args meth c prog_6_method_21_code 3 (Option.none : Option Jvm.ClassFile.FieldType) "StaveHouse$Part") {rec2 : Int → Int → zF → zB → zO} (hrec2 : ∀ {l1 : Int} {l0 : Int} {F : zF} {B : zB} {H : Heap} {locs : List Loc} {ls : Array Slot}, rec2 l1 l0 F B = some (r, F9, B9) → zH D ca ad lnC K.2 L F B A H → va_S A s.heap H locs → lv_has ls 3 [(1, .int (iI l1)), (0, .ref (ad 4 l0 0))] → W p l e ({ frames := 2, cells := 0, slots := 0, locals := 36 } : Room) s m args below meth c H locs 0 0 (MQ below (Q_Part_setLedgers K D ca ad L r F9 B9 A) args s 0 0 A) (F0 m 2 ls [])) {l2 : Int} {l1 : Int} {l0 : Int} {F : zF} {B : zB} {H : Heap} {locs : List Loc} {ls : Array Slot} (hf : f_Part_setLedgers_52 rec2 K l2 l1 l0 F B = some (r, F9, B9)) (hZ : zH D ca ad lnC K.2 L F B A H) (hS : va_S A s.heap H locs) (hl : lv_has ls 3 [(2, .int (iI l2)), (1, .int (iI l1)), (0, .ref (ad 4 l0 0))]) : W p l e ({ frames := 2, cells := 0, slots := 0, locals := 36 } : Room) s m args below meth c H locs 0 0 (MQ below (Q_Part_setLedgers K D ca ad L r F9 B9 A) args s 0 0 A) (F0 m 52 ls []) := by
  obtain ⟨hx, hb, hr, hml, hown, hts, hlk, hK, hA, hL, hX⟩ := id X
  replace hf : (if 0 ≤ l0 ∧ l0 < K.2 4 then if 0 ≤ l1 ∧ l1 < 800 then rec2 (l1 + 1) l0 F (zup4 B 4 l0 368 l1 l2) else none else none) = some (r, F9, B9) := hf
  refine lv_aload_n hx hb (D_42 W_prog_6_method_21_code_32 20 rfl rfl) rfl (lv_at hl 2 rfl) ?_
  obtain ⟨g12, hf⟩ := gif hf
  refine zget (ci := 4) (C := RX4) (T := TX4) (v := .ref (ad 4 l0 (8 + 1))) (k := 8) hx hb hts inW_4 hown hK hZ g12.1 g12.2 rfl (by decide) k_4_142 rfl (D_180 W_prog_6_method_21_code_32 21 rfl rfl rfl) ?_
  refine lv_bipush (v := iI 8) hx hb (D_16 W_prog_6_method_21_code_32 24 rfl rfl rfl) (by decide) ?_
  refine zaldQ (t := 0) (ci := 4) (k := 8) hx hb hK rfl hZ g12.1 g12.2 rfl (Nat.le_of_ble_eq_true rfl) (by decide) (by decide) (D_50 W_prog_6_method_21_code_32 26 rfl rfl) ?_
  refine W.eq (g2 := F0 m 59 ls [.ref (ad 4 l0 (368 + 1))]) rfl ?_
  refine lv_iload_n hx hb (D_27 W_prog_6_method_21_code_32 27 rfl rfl) rfl (lv_at hl 1 rfl) ?_
  refine lv_iload_n hx hb (D_28 W_prog_6_method_21_code_32 28 rfl rfl) rfl (lv_at hl 0 rfl) ?_
  obtain ⟨g13, hf⟩ := gif hf
  refine zast (ci := 4) (k := 368) hx hb hK rfl hZ hS g12.1 g12.2 rfl (Nat.le_of_ble_eq_true rfl) g13.1 g13.2 (D_79 W_prog_6_method_21_code_32 29 rfl rfl) (fun H14 locs14 hZ14 hS14 => ?_)
  refine lv_iinc (v := iI (l1 + 1)) (lv' := [(1, .int (iI (l1 + 1))), (2, .int (iI l2)), (0, .ref (ad 4 l0 0))]) hx hb d_6_21_62 hl (k := 1) rfl (iI_add _ 1) (by decide) rfl (fun ls hl => ?_)
  refine lv_goto (tgt := 2) hx hb (D_167 W_prog_6_method_21_code_64 1 rfl rfl rfl) (by decide) ?_
  exact hrec2 hf hZ14 hS14 (lv_sub hl [0, 2] rfl)

def f_Part_setLedgers_2 (K : zK) : Nat → Int → Int → zF → zB → zO
  | 0, _, _, _, _ => none
  | n + 1, l1, l0, F, B => if 0 ≤ l0 ∧ l0 < K.2 4 then if r32 l1 then if r32 (F 4 l0 10) then (if (F 4 l0 10) ≤ l1 then some (0, F, B) else zbind (f_Part_isRestNote K l0 l1 F B) (fun r5 F5 B5 => if r32 r5 then (if r5 = 0 then zbind (f_Part_greatestHeight K l0 l1 F5 B5) (fun r8 F8 B8 => if r32 (r8 - 8) then zbind (f_Part_leastHeight K l0 l1 F8 B8) (fun r10 F10 B10 => if r32 (-r10) then f_Part_setLedgers_52 (f_Part_setLedgers_2 K n) K ((0 + (zdv (zmax (r8 - 8) 0) 2)) + (zdv (zmax (-r10) 0) 2)) l1 l0 F10 B10 else none) else none) else f_Part_setLedgers_52 (f_Part_setLedgers_2 K n) K 0 l1 l0 F5 B5) else none)) else none else none else none
set_option maxHeartbeats 4000000 in
set_option maxRecDepth 100000 in
theorem b_Part_setLedgers_2 {D : va_G} {ca : Nat → ClassId} {ad : Nat → Int → Nat → Nat} {L : List Nat} {aS vS : Nat → Nat} {A : Nat → Prop} {p : Program} {l : Launch} {e : Env} {s : State} {m : MethodId} {args : Array Value} {below : List Frame} {meth : Method} {c : Code} {K : zK} {r : Int} {F9 : zF} {B9 : zB} (X : zX D ca L aS vS A p s m args meth c prog_6_method_21_code 3 (Option.none : Option Jvm.ClassFile.FieldType) "StaveHouse$Part") : ∀ {n : Nat} {l1 : Int} {l0 : Int} {F : zF} {B : zB} {H : Heap} {locs : List Loc} {ls : Array Slot}, f_Part_setLedgers_2 K n l1 l0 F B = some (r, F9, B9) → zH D ca ad lnC K.2 L F B A H → va_S A s.heap H locs → lv_has ls 3 [(1, .int (iI l1)), (0, .ref (ad 4 l0 0))] → W p l e ({ frames := 2, cells := 0, slots := 0, locals := 36 } : Room) s m args below meth c H locs 0 0 (MQ below (Q_Part_setLedgers K D ca ad L r F9 B9 A) args s 0 0 A) (F0 m 2 ls []) := by
  obtain ⟨hx, hb, hr, hml, hown, hts, hlk, hK, hA, hL, hX⟩ := id X
  intro n
  induction n with
  | zero =>
    intros
    rename_i hf _ _ _
    cases hf
  | succ n ih =>
    intro l1 l0 F B H locs ls hf hZ hS hl
    replace hf : (if 0 ≤ l0 ∧ l0 < K.2 4 then if r32 l1 then if r32 (F 4 l0 10) then (if (F 4 l0 10) ≤ l1 then some (0, F, B) else zbind (f_Part_isRestNote K l0 l1 F B) (fun r5 F5 B5 => if r32 r5 then (if r5 = 0 then zbind (f_Part_greatestHeight K l0 l1 F5 B5) (fun r8 F8 B8 => if r32 (r8 - 8) then zbind (f_Part_leastHeight K l0 l1 F8 B8) (fun r10 F10 B10 => if r32 (-r10) then f_Part_setLedgers_52 (f_Part_setLedgers_2 K n) K ((0 + (zdv (zmax (r8 - 8) 0) 2)) + (zdv (zmax (-r10) 0) 2)) l1 l0 F10 B10 else none) else none) else f_Part_setLedgers_52 (f_Part_setLedgers_2 K n) K 0 l1 l0 F5 B5) else none)) else none else none else none) = some (r, F9, B9) := hf
    refine lv_iload_n hx hb (D_27 W_prog_6_method_21_code_0 2 rfl rfl) rfl (lv_at hl 0 rfl) ?_
    refine lv_aload_n hx hb (D_42 W_prog_6_method_21_code_0 3 rfl rfl) rfl (lv_at hl 1 rfl) ?_
    obtain ⟨g1, hf⟩ := gif hf
    refine zget (ci := 4) (C := RX4) (T := TX4) (v := .int (iI (F 4 l0 10))) (k := 10) hx hb hts inW_4 hown hK hZ g1.1 g1.2 rfl (by decide) k_4_148 rfl (D_180 W_prog_6_method_21_code_0 4 rfl rfl rfl) ?_
    obtain ⟨g2, hf⟩ := gif hf
    obtain ⟨g3, hf⟩ := gif hf
    refine zge (tgt := 68) hx hb g2 g3 (D_162 W_prog_6_method_21_code_0 7 rfl rfl rfl) (by decide) (fun h4 => ?_) (fun h4 => ?_)
    · replace hf := gpos hf h4
      cases hf
      exact W.vret hx hb hr (fun t ht hW => ⟨⟨(), rfl, trivial, by rw [ht]; exact hZ, va_K.moved hW.alike hK⟩, hS.F ht⟩) hS.2.2 (D_177 W_prog_6_method_21_code_64 4 rfl rfl) hlk
    · replace hf := gneg hf h4
      refine lv_iconst (v := iI 0) hx hb (D_3 W_prog_6_method_21_code_0 10 rfl rfl) rfl ?_
      refine lv_istore_n (lv' := [(2, .int (iI 0)), (1, .int (iI l1)), (0, .ref (ad 4 l0 0))]) hx hb (D_61 W_prog_6_method_21_code_0 11 rfl rfl) rfl hl (by decide) rfl (fun ls hl => ?_)
      refine lv_aload_n hx hb (D_42 W_prog_6_method_21_code_0 12 rfl rfl) rfl (lv_at hl 2 rfl) ?_
      refine lv_iload_n hx hb (D_27 W_prog_6_method_21_code_0 13 rfl rfl) rfl (lv_at hl 1 rfl) ?_
      obtain ⟨r5, F5, B5, hc5, hf⟩ := gbind hf
      refine va_calli (va_runV (As := [.int (iI l1)]) (rest := []) ⟨hx, hb, hml, hown, hts⟩ (c_Part_isRestNote (l := l) hc5) (cwV 1 hts (gdV k_5_104 k_5_106 ks_54 k_1_18 k_5_107) rfl rfl rfl (by decide +kernel) ⟨Nat.le_of_ble_eq_true rfl, Nat.le_of_ble_eq_true rfl⟩) (zPV X hZ hS (ci := 4) g1.1 g1.2 (r := (RX4, TX4, 13)) rfl [.int (iI l1)]) rfl rfl hl.1 rfl (lv_room (Nat.le_of_ble_eq_true rfl)) (D_182 W_prog_6_method_21_code_0 14 rfl rfl rfl) ⟨Nat.le_of_ble_eq_true rfl, Nat.le_of_ble_eq_true rfl⟩) hS (fun q _ h => zAin X hS q h) (zAin X hS) (fun p5 u5 t5 H5 locs5 ht5 hv5 hw5 hB5 hz5 hk5 hS5 => ?_)
      have hZ5 := zBack X ht5 hB5
      subst hw5
      obtain ⟨g6, hf⟩ := gif hf
      refine z0ne (tgt := 52) hx hb g6 (D_154 W_prog_6_method_21_code_0 17 rfl rfl rfl) (by decide) (fun h7 => ?_) (fun h7 => ?_)
      · replace hf := gneg hf h7
        exact b_Part_setLedgers_52 X ih hf hZ5 hS5 (lv_sub hl [0, 1, 2] rfl)
      · replace hf := gpos hf h7
        refine lv_iload_n hx hb (D_28 W_prog_6_method_21_code_0 20 rfl rfl) rfl (lv_at hl 0 rfl) ?_
        refine lv_aload_n hx hb (D_42 W_prog_6_method_21_code_0 21 rfl rfl) rfl (lv_at hl 2 rfl) ?_
        refine lv_iload_n hx hb (D_27 W_prog_6_method_21_code_0 22 rfl rfl) rfl (lv_at hl 1 rfl) ?_
        obtain ⟨r8, F8, B8, hc8, hf⟩ := gbind hf
        refine va_calli (va_runV (As := [.int (iI l1)]) (rest := [.int (iI 0)]) ⟨hx, hb, hml, hown, hts⟩ (c_Part_greatestHeight (l := l) hc8) (cwV 1 hts (gdV k_5_134 k_5_136 ks_59 k_1_18 k_5_137) rfl rfl rfl (by decide +kernel) ⟨Nat.le_of_ble_eq_true rfl, Nat.le_of_ble_eq_true rfl⟩) (zPV X hZ5 hS5 (ci := 4) g1.1 g1.2 (r := (RX4, TX4, 13)) rfl [.int (iI l1)]) rfl rfl hl.1 rfl (lv_room (Nat.le_of_ble_eq_true rfl)) (D_182 W_prog_6_method_21_code_0 23 rfl rfl rfl) ⟨Nat.le_of_ble_eq_true rfl, Nat.le_of_ble_eq_true rfl⟩) hS5 (fun q _ h => zAin X hS5 q h) (zAin X hS5) (fun p8 u8 t8 H8 locs8 ht8 hv8 hw8 hB8 hz8 hk8 hS8 => ?_)
        have hZ8 := zBack X ht8 hB8
        subst hw8
        refine lv_bipush (v := iI 8) hx hb (D_16 W_prog_6_method_21_code_0 26 rfl rfl rfl) (by decide) ?_
        refine zsub hx hb (D_100 W_prog_6_method_21_code_0 28 rfl rfl) ?_
        refine lv_iconst (v := iI 0) hx hb (D_3 W_prog_6_method_21_code_0 29 rfl rfl) rfl ?_
        obtain ⟨g9, hf⟩ := gif hf
        refine va_mmax hx hb (by rw [hml]; exact hl.1.symm) hown (hts _ k_5_77) (hts _ k_1_39) (hts _ k_1_3) (hts _ k_1_40) (Nat.le_of_ble_eq_true rfl) (Nat.le_of_ble_eq_true rfl) (Nat.le_of_ble_eq_true rfl) (Nat.le_of_ble_eq_true rfl) (D_184 W_prog_6_method_21_code_0 30 rfl rfl rfl) ?_
        rw [zmax_e g9 (by decide)]
        refine lv_iconst (v := iI 2) hx hb (D_5 W_prog_6_method_21_code_32 1 rfl rfl) rfl ?_
        refine zdv_r hx hb (by decide) (D_108 W_prog_6_method_21_code_32 2 rfl rfl) ?_
        refine zadd hx hb (D_96 W_prog_6_method_21_code_32 3 rfl rfl) ?_
        refine lv_istore_n (lv' := [(2, .int (iI (0 + (zdv (zmax (r8 - 8) 0) 2)))), (1, .int (iI l1)), (0, .ref (ad 4 l0 0))]) hx hb (D_61 W_prog_6_method_21_code_32 4 rfl rfl) rfl hl (by decide) rfl (fun ls hl => ?_)
        refine lv_iload_n hx hb (D_28 W_prog_6_method_21_code_32 5 rfl rfl) rfl (lv_at hl 0 rfl) ?_
        refine lv_aload_n hx hb (D_42 W_prog_6_method_21_code_32 6 rfl rfl) rfl (lv_at hl 2 rfl) ?_
        refine lv_iload_n hx hb (D_27 W_prog_6_method_21_code_32 7 rfl rfl) rfl (lv_at hl 1 rfl) ?_
        obtain ⟨r10, F10, B10, hc10, hf⟩ := gbind hf
        refine va_calli (va_runV (As := [.int (iI l1)]) (rest := [.int (iI (0 + (zdv (zmax (r8 - 8) 0) 2)))]) ⟨hx, hb, hml, hown, hts⟩ (c_Part_leastHeight (l := l) hc10) (cwV 1 hts (gdV k_5_140 k_5_142 ks_60 k_1_18 k_5_143) rfl rfl rfl (by decide +kernel) ⟨Nat.le_of_ble_eq_true rfl, Nat.le_of_ble_eq_true rfl⟩) (zPV X hZ8 hS8 (ci := 4) g1.1 g1.2 (r := (RX4, TX4, 13)) rfl [.int (iI l1)]) rfl rfl hl.1 rfl (lv_room (Nat.le_of_ble_eq_true rfl)) (D_182 W_prog_6_method_21_code_32 8 rfl rfl rfl) ⟨Nat.le_of_ble_eq_true rfl, Nat.le_of_ble_eq_true rfl⟩) hS8 (fun q _ h => zAin X hS8 q h) (zAin X hS8) (fun p10 u10 t10 H10 locs10 ht10 hv10 hw10 hB10 hz10 hk10 hS10 => ?_)
        have hZ10 := zBack X ht10 hB10
        subst hw10
        refine zneg hx hb (D_116 W_prog_6_method_21_code_32 11 rfl rfl) ?_
        refine lv_iconst (v := iI 0) hx hb (D_3 W_prog_6_method_21_code_32 12 rfl rfl) rfl ?_
        obtain ⟨g11, hf⟩ := gif hf
        refine va_mmax hx hb (by rw [hml]; exact hl.1.symm) hown (hts _ k_5_77) (hts _ k_1_39) (hts _ k_1_3) (hts _ k_1_40) (Nat.le_of_ble_eq_true rfl) (Nat.le_of_ble_eq_true rfl) (Nat.le_of_ble_eq_true rfl) (Nat.le_of_ble_eq_true rfl) (D_184 W_prog_6_method_21_code_32 13 rfl rfl rfl) ?_
        rw [zmax_e g11 (by decide)]
        refine lv_iconst (v := iI 2) hx hb (D_5 W_prog_6_method_21_code_32 16 rfl rfl) rfl ?_
        refine zdv_r hx hb (by decide) (D_108 W_prog_6_method_21_code_32 17 rfl rfl) ?_
        refine zadd hx hb (D_96 W_prog_6_method_21_code_32 18 rfl rfl) ?_
        refine lv_istore_n (lv' := [(2, .int (iI ((0 + (zdv (zmax (r8 - 8) 0) 2)) + (zdv (zmax (-r10) 0) 2)))), (1, .int (iI l1)), (0, .ref (ad 4 l0 0))]) hx hb (D_61 W_prog_6_method_21_code_32 19 rfl rfl) rfl hl (by decide) rfl (fun ls hl => ?_)
        exact b_Part_setLedgers_52 X ih hf hZ10 hS10 (lv_sub hl [0, 1, 2] rfl)

def f_Part_setLedgers (K : zK) (l0 : Int) (F : zF) (B : zB) : zO := f_Part_setLedgers_2 K K.1 0 l0 F B
set_option maxHeartbeats 4000000 in
set_option maxRecDepth 100000 in
theorem c_Part_setLedgers {l : Launch} {D : va_G} {ca : Nat → ClassId} {ad : Nat → Int → Nat → Nat} {L : List Nat} {aS vS : Nat → Nat} {sz : Nat} {K : zK}  {l0 : Int} {F F9 : zF} {B B9 : zB} {r : Int} (hf : f_Part_setLedgers K l0 F B = some (r, F9, B9)) : Met l ({ cls := "StaveHouse$Part", name := "setLedgers", desc := "()V" } : Jvm.MethodName) (Cond.code ({ cls := "StaveHouse$Part", name := "setLedgers", desc := "()V" } : Jvm.MethodName) prog_6_method_21_code 3 (Option.none : Option Jvm.ClassFile.FieldType) :: wAll) ({ frames := 2, cells := 0, slots := 0, locals := 36 } : Room) (va_Pc [.ref (ad 4 l0 0)] (zPre D ca ad lnC K.2 L aS vS F B sz)) (Q_Part_setLedgers K D ca ad L r F9 B9 (zA L sz)) 0 0 (zA L sz) := by
  refine zMet (Qc := Q_Part_setLedgers K D ca ad L r F9 B9) (lv := [(0, .ref (ad 4 l0 0))]) (by decide) (Nat.le_of_ble_eq_true rfl) rfl (fun A p e s m below meth c ls X hZ hS hl => ?_)
  obtain ⟨hx, hb, hr, hml, hown, hts, hlk, hK, hA, hL, hX⟩ := id X
  replace hf : (f_Part_setLedgers_2 K K.1 0 l0 F B) = some (r, F9, B9) := hf
  refine lv_iconst (v := iI 0) hx hb (D_3 W_prog_6_method_21_code_0 0 rfl rfl) rfl ?_
  refine lv_istore_n (lv' := [(1, .int (iI 0)), (0, .ref (ad 4 l0 0))]) hx hb (D_60 W_prog_6_method_21_code_0 1 rfl rfl) rfl hl (by decide) rfl (fun ls hl => ?_)
  exact b_Part_setLedgers_2 X hf hZ hS (lv_sub hl [0, 1] rfl)

abbrev Q_Part_group (K : zK) (D : va_G) (ca : Nat → ClassId) (ad : Nat → Int → Nat → Nat) (L : List Nat) (r : Int) (F : zF) (B : zB) (A : Nat → Prop) : Array Value → State → Outcome → State → Prop := va_Qv (S := Unit) (fun _ => True) (fun _ => zPo D ca ad lnC K.2 L F B A) A
def f_Part_group_207 (K : zK)  (F : zF) (B : zB) : zO := some (0, F, B)
set_option maxHeartbeats 4000000 in
set_option maxRecDepth 100000 in
theorem b_Part_group_207 {D : va_G} {ca : Nat → ClassId} {ad : Nat → Int → Nat → Nat} {L : List Nat} {aS vS : Nat → Nat} {A : Nat → Prop} {p : Program} {l : Launch} {e : Env} {s : State} {m : MethodId} {args : Array Value} {below : List Frame} {meth : Method} {c : Code} {K : zK} {r : Int} {F9 : zF} {B9 : zB} (X : zX D ca L aS vS A p s m args meth c prog_6_method_24_code 9 (Option.none : Option Jvm.ClassFile.FieldType) "StaveHouse$Part")  {F : zF} {B : zB} {H : Heap} {locs : List Loc} {ls : Array Slot} (hf : f_Part_group_207 K  F B = some (r, F9, B9)) (hZ : zH D ca ad lnC K.2 L F B A H) (hS : va_S A s.heap H locs) (hl : lv_has ls 9 []) : W p l e ({ frames := 3, cells := 0, slots := 0, locals := 67 } : Room) s m args below meth c H locs 0 0 (MQ below (Q_Part_group K D ca ad L r F9 B9 A) args s 0 0 A) (F0 m 207 ls []) := by
  obtain ⟨hx, hb, hr, hml, hown, hts, hlk, hK, hA, hL, hX⟩ := id X
  replace hf : (some (0, F, B)) = some (r, F9, B9) := hf
  cases hf
  exact W.vret hx hb hr (fun t ht hW => ⟨⟨(), rfl, trivial, by rw [ht]; exact hZ, va_K.moved hW.alike hK⟩, hS.F ht⟩) hS.2.2 (D_177 W_prog_6_method_24_code_192 15 rfl rfl) hlk

def f_Part_group_192 (rec8 : Int → Int → Int → Int → Int → zF → zB → zO) (K : zK) (l6 : Int) (l5 : Int) (l4 : Int) (l0 : Int) (l1 : Int) (s0 : Int) (s1 : Int) (F : zF) (B : zB) : zO := rec8 (l5 + 1) (l4 + l6) (s0 + s1) l0 l1 F B
set_option maxHeartbeats 4000000 in
set_option maxRecDepth 100000 in
theorem b_Part_group_192 {D : va_G} {ca : Nat → ClassId} {ad : Nat → Int → Nat → Nat} {L : List Nat} {aS vS : Nat → Nat} {A : Nat → Prop} {p : Program} {l : Launch} {e : Env} {s : State} {m : MethodId} {args : Array Value} {below : List Frame} {meth : Method} {c : Code} {K : zK} {r : Int} {F9 : zF} {B9 : zB} (X : zX D ca L aS vS A p s m args meth c prog_6_method_24_code 9 (Option.none : Option Jvm.ClassFile.FieldType) "StaveHouse$Part") {rec8 : Int → Int → Int → Int → Int → zF → zB → zO} (hrec8 : ∀ {l5 : Int} {l4 : Int} {l3 : Int} {l0 : Int} {l1 : Int} {F : zF} {B : zB} {H : Heap} {locs : List Loc} {ls : Array Slot}, rec8 l5 l4 l3 l0 l1 F B = some (r, F9, B9) → zH D ca ad lnC K.2 L F B A H → va_S A s.heap H locs → lv_has ls 9 [(5, .int (iI l5)), (4, .int (iI l4)), (3, .int (iI l3)), (0, .ref (ad 4 l0 0)), (1, .long (lI l1))] → W p l e ({ frames := 3, cells := 0, slots := 0, locals := 67 } : Room) s m args below meth c H locs 0 0 (MQ below (Q_Part_group K D ca ad L r F9 B9 A) args s 0 0 A) (F0 m 8 ls [])) {l6 : Int} {l5 : Int} {l4 : Int} {l0 : Int} {l1 : Int} {s0 : Int} {s1 : Int} {F : zF} {B : zB} {H : Heap} {locs : List Loc} {ls : Array Slot} (hf : f_Part_group_192 rec8 K l6 l5 l4 l0 l1 s0 s1 F B = some (r, F9, B9)) (hZ : zH D ca ad lnC K.2 L F B A H) (hS : va_S A s.heap H locs) (hl : lv_has ls 9 [(6, .int (iI l6)), (5, .int (iI l5)), (4, .int (iI l4)), (0, .ref (ad 4 l0 0)), (1, .long (lI l1))]) : W p l e ({ frames := 3, cells := 0, slots := 0, locals := 67 } : Room) s m args below meth c H locs 0 0 (MQ below (Q_Part_group K D ca ad L r F9 B9 A) args s 0 0 A) (F0 m 192 ls [.int (iI s1), .int (iI s0)]) := by
  obtain ⟨hx, hb, hr, hml, hown, hts, hlk, hK, hA, hL, hX⟩ := id X
  replace hf : (rec8 (l5 + 1) (l4 + l6) (s0 + s1) l0 l1 F B) = some (r, F9, B9) := hf
  refine zadd hx hb (D_96 W_prog_6_method_24_code_192 0 rfl rfl) ?_
  refine lv_istore_n (lv' := [(3, .int (iI (s0 + s1))), (6, .int (iI l6)), (5, .int (iI l5)), (4, .int (iI l4)), (0, .ref (ad 4 l0 0)), (1, .long (lI l1))]) hx hb (D_62 W_prog_6_method_24_code_192 1 rfl rfl) rfl hl (by decide) rfl (fun ls hl => ?_)
  refine lv_iload hx hb (D_21 W_prog_6_method_24_code_192 2 rfl rfl) (lv_at hl 3 rfl) ?_
  refine lv_iload hx hb (D_21 W_prog_6_method_24_code_192 4 rfl rfl) (lv_at hl 1 rfl) ?_
  refine zadd hx hb (D_96 W_prog_6_method_24_code_192 6 rfl rfl) ?_
  refine lv_istore (lv' := [(4, .int (iI (l4 + l6))), (3, .int (iI (s0 + s1))), (6, .int (iI l6)), (5, .int (iI l5)), (0, .ref (ad 4 l0 0)), (1, .long (lI l1))]) hx hb (D_54 W_prog_6_method_24_code_192 7 rfl rfl) hl (by decide) rfl (fun ls hl => ?_)
  refine lv_iinc (v := iI (l5 + 1)) (lv' := [(5, .int (iI (l5 + 1))), (4, .int (iI (l4 + l6))), (3, .int (iI (s0 + s1))), (6, .int (iI l6)), (0, .ref (ad 4 l0 0)), (1, .long (lI l1))]) hx hb d_6_24_201 hl (k := 3) rfl (iI_add _ 1) (by decide) rfl (fun ls hl => ?_)
  refine lv_goto (tgt := 8) hx hb (D_167 W_prog_6_method_24_code_192 12 rfl rfl rfl) (by decide) ?_
  exact hrec8 hf hZ hS (lv_sub hl [0, 1, 2, 4, 5] rfl)

def f_Part_group_173 (rec8 : Int → Int → Int → Int → Int → zF → zB → zO) (rec80 : Int → Int → Int → Int → Int → Int → Int → zF → zB → zO) (K : zK) (l7 : Int) (l6 : Int) (l5 : Int) (l4 : Int) (l3 : Int) (l0 : Int) (l1 : Int) (s0 : Int) (s1 : Int) (s2 : Int) (F : zF) (B : zB) : zO := if 0 ≤ s0 ∧ s0 < K.2 4 then if 0 ≤ s1 ∧ s1 < 800 then rec80 (l7 + 1) l6 l5 l4 l3 l0 l1 F (zup4 B 4 s0 370 s1 s2) else none else none
set_option maxHeartbeats 4000000 in
set_option maxRecDepth 100000 in
theorem b_Part_group_173 {D : va_G} {ca : Nat → ClassId} {ad : Nat → Int → Nat → Nat} {L : List Nat} {aS vS : Nat → Nat} {A : Nat → Prop} {p : Program} {l : Launch} {e : Env} {s : State} {m : MethodId} {args : Array Value} {below : List Frame} {meth : Method} {c : Code} {K : zK} {r : Int} {F9 : zF} {B9 : zB} (X : zX D ca L aS vS A p s m args meth c prog_6_method_24_code 9 (Option.none : Option Jvm.ClassFile.FieldType) "StaveHouse$Part") {rec8 : Int → Int → Int → Int → Int → zF → zB → zO} {rec80 : Int → Int → Int → Int → Int → Int → Int → zF → zB → zO} (hrec8 : ∀ {l5 : Int} {l4 : Int} {l3 : Int} {l0 : Int} {l1 : Int} {F : zF} {B : zB} {H : Heap} {locs : List Loc} {ls : Array Slot}, rec8 l5 l4 l3 l0 l1 F B = some (r, F9, B9) → zH D ca ad lnC K.2 L F B A H → va_S A s.heap H locs → lv_has ls 9 [(5, .int (iI l5)), (4, .int (iI l4)), (3, .int (iI l3)), (0, .ref (ad 4 l0 0)), (1, .long (lI l1))] → W p l e ({ frames := 3, cells := 0, slots := 0, locals := 67 } : Room) s m args below meth c H locs 0 0 (MQ below (Q_Part_group K D ca ad L r F9 B9 A) args s 0 0 A) (F0 m 8 ls [])) (hrec80 : ∀ {l7 : Int} {l6 : Int} {l5 : Int} {l4 : Int} {l3 : Int} {l0 : Int} {l1 : Int} {F : zF} {B : zB} {H : Heap} {locs : List Loc} {ls : Array Slot}, rec80 l7 l6 l5 l4 l3 l0 l1 F B = some (r, F9, B9) → zH D ca ad lnC K.2 L F B A H → va_S A s.heap H locs → lv_has ls 9 [(7, .int (iI l7)), (6, .int (iI l6)), (5, .int (iI l5)), (4, .int (iI l4)), (3, .int (iI l3)), (0, .ref (ad 4 l0 0)), (1, .long (lI l1))] → W p l e ({ frames := 3, cells := 0, slots := 0, locals := 67 } : Room) s m args below meth c H locs 0 0 (MQ below (Q_Part_group K D ca ad L r F9 B9 A) args s 0 0 A) (F0 m 80 ls [])) {l7 : Int} {l6 : Int} {l5 : Int} {l4 : Int} {l3 : Int} {l0 : Int} {l1 : Int} {s0 : Int} {s1 : Int} {s2 : Int} {F : zF} {B : zB} {H : Heap} {locs : List Loc} {ls : Array Slot} (hf : f_Part_group_173 rec8 rec80 K l7 l6 l5 l4 l3 l0 l1 s0 s1 s2 F B = some (r, F9, B9)) (hZ : zH D ca ad lnC K.2 L F B A H) (hS : va_S A s.heap H locs) (hl : lv_has ls 9 [(7, .int (iI l7)), (6, .int (iI l6)), (5, .int (iI l5)), (4, .int (iI l4)), (3, .int (iI l3)), (0, .ref (ad 4 l0 0)), (1, .long (lI l1))]) : W p l e ({ frames := 3, cells := 0, slots := 0, locals := 67 } : Room) s m args below meth c H locs 0 0 (MQ below (Q_Part_group K D ca ad L r F9 B9 A) args s 0 0 A) (F0 m 173 ls [.int (iI s2), .int (iI s1), .ref (ad 4 s0 (370 + 1))]) := by
  obtain ⟨hx, hb, hr, hml, hown, hts, hlk, hK, hA, hL, hX⟩ := id X
  replace hf : (if 0 ≤ s0 ∧ s0 < K.2 4 then if 0 ≤ s1 ∧ s1 < 800 then rec80 (l7 + 1) l6 l5 l4 l3 l0 l1 F (zup4 B 4 s0 370 s1 s2) else none else none) = some (r, F9, B9) := hf
  obtain ⟨g40, hf⟩ := gif hf
  obtain ⟨g41, hf⟩ := gif hf
  refine zast (ci := 4) (k := 370) hx hb hK rfl hZ hS g40.1 g40.2 rfl (Nat.le_of_ble_eq_true rfl) g41.1 g41.2 (D_79 W_prog_6_method_24_code_160 13 rfl rfl) (fun H42 locs42 hZ42 hS42 => ?_)
  refine lv_iinc (v := iI (l7 + 1)) (lv' := [(7, .int (iI (l7 + 1))), (6, .int (iI l6)), (5, .int (iI l5)), (4, .int (iI l4)), (3, .int (iI l3)), (0, .ref (ad 4 l0 0)), (1, .long (lI l1))]) hx hb d_6_24_174 hl (k := 0) rfl (iI_add _ 1) (by decide) rfl (fun ls hl => ?_)
  refine lv_goto (tgt := 80) hx hb (D_167 W_prog_6_method_24_code_160 17 rfl rfl rfl) (by decide) ?_
  exact hrec80 hf hZ42 hS42 (lv_sub hl [0, 1, 2, 3, 4, 5, 6] rfl)

def f_Part_group_129 (rec8 : Int → Int → Int → Int → Int → zF → zB → zO) (rec80 : Int → Int → Int → Int → Int → Int → Int → zF → zB → zO) (K : zK) (l8 : Int) (l7 : Int) (l6 : Int) (l5 : Int) (l4 : Int) (l3 : Int) (l0 : Int) (l1 : Int) (s0 : Int) (s1 : Int) (s2 : Int) (F : zF) (B : zB) : zO := if 0 ≤ s0 ∧ s0 < K.2 4 then if 0 ≤ s1 ∧ s1 < 800 then if 0 ≤ l0 ∧ l0 < K.2 4 then if r32 l8 then (if l8 = 0 then f_Part_group_173 rec8 rec80 K l7 l6 l5 l4 l3 l0 l1 l0 l7 0 F (zup4 B 4 s0 369 s1 s2) else if 0 ≤ l7 ∧ l7 < 800 then if 0 ≤ (l7 + 1) ∧ (l7 + 1) < 800 then if r32 ((zup4 B 4 s0 369 s1 s2) 4 l0 364 l7) then if r32 ((zup4 B 4 s0 369 s1 s2) 4 l0 364 (l7 + 1)) then f_Part_group_173 rec8 rec80 K l7 l6 l5 l4 l3 l0 l1 l0 l7 ((zmin ((zup4 B 4 s0 369 s1 s2) 4 l0 364 l7) ((zup4 B 4 s0 369 s1 s2) 4 l0 364 (l7 + 1))) - 2) F (zup4 B 4 s0 369 s1 s2) else none else none else none else none) else none else none else none else none
set_option maxHeartbeats 4000000 in
set_option maxRecDepth 100000 in
theorem b_Part_group_129 {D : va_G} {ca : Nat → ClassId} {ad : Nat → Int → Nat → Nat} {L : List Nat} {aS vS : Nat → Nat} {A : Nat → Prop} {p : Program} {l : Launch} {e : Env} {s : State} {m : MethodId} {args : Array Value} {below : List Frame} {meth : Method} {c : Code} {K : zK} {r : Int} {F9 : zF} {B9 : zB} (X : zX D ca L aS vS A p s m args meth c prog_6_method_24_code 9 (Option.none : Option Jvm.ClassFile.FieldType) "StaveHouse$Part") {rec8 : Int → Int → Int → Int → Int → zF → zB → zO} {rec80 : Int → Int → Int → Int → Int → Int → Int → zF → zB → zO} (hrec8 : ∀ {l5 : Int} {l4 : Int} {l3 : Int} {l0 : Int} {l1 : Int} {F : zF} {B : zB} {H : Heap} {locs : List Loc} {ls : Array Slot}, rec8 l5 l4 l3 l0 l1 F B = some (r, F9, B9) → zH D ca ad lnC K.2 L F B A H → va_S A s.heap H locs → lv_has ls 9 [(5, .int (iI l5)), (4, .int (iI l4)), (3, .int (iI l3)), (0, .ref (ad 4 l0 0)), (1, .long (lI l1))] → W p l e ({ frames := 3, cells := 0, slots := 0, locals := 67 } : Room) s m args below meth c H locs 0 0 (MQ below (Q_Part_group K D ca ad L r F9 B9 A) args s 0 0 A) (F0 m 8 ls [])) (hrec80 : ∀ {l7 : Int} {l6 : Int} {l5 : Int} {l4 : Int} {l3 : Int} {l0 : Int} {l1 : Int} {F : zF} {B : zB} {H : Heap} {locs : List Loc} {ls : Array Slot}, rec80 l7 l6 l5 l4 l3 l0 l1 F B = some (r, F9, B9) → zH D ca ad lnC K.2 L F B A H → va_S A s.heap H locs → lv_has ls 9 [(7, .int (iI l7)), (6, .int (iI l6)), (5, .int (iI l5)), (4, .int (iI l4)), (3, .int (iI l3)), (0, .ref (ad 4 l0 0)), (1, .long (lI l1))] → W p l e ({ frames := 3, cells := 0, slots := 0, locals := 67 } : Room) s m args below meth c H locs 0 0 (MQ below (Q_Part_group K D ca ad L r F9 B9 A) args s 0 0 A) (F0 m 80 ls [])) {l8 : Int} {l7 : Int} {l6 : Int} {l5 : Int} {l4 : Int} {l3 : Int} {l0 : Int} {l1 : Int} {s0 : Int} {s1 : Int} {s2 : Int} {F : zF} {B : zB} {H : Heap} {locs : List Loc} {ls : Array Slot} (hf : f_Part_group_129 rec8 rec80 K l8 l7 l6 l5 l4 l3 l0 l1 s0 s1 s2 F B = some (r, F9, B9)) (hZ : zH D ca ad lnC K.2 L F B A H) (hS : va_S A s.heap H locs) (hl : lv_has ls 9 [(8, .int (iI l8)), (7, .int (iI l7)), (6, .int (iI l6)), (5, .int (iI l5)), (4, .int (iI l4)), (3, .int (iI l3)), (0, .ref (ad 4 l0 0)), (1, .long (lI l1))]) : W p l e ({ frames := 3, cells := 0, slots := 0, locals := 67 } : Room) s m args below meth c H locs 0 0 (MQ below (Q_Part_group K D ca ad L r F9 B9 A) args s 0 0 A) (F0 m 129 ls [.int (iI s2), .int (iI s1), .ref (ad 4 s0 (369 + 1))]) := by
  obtain ⟨hx, hb, hr, hml, hown, hts, hlk, hK, hA, hL, hX⟩ := id X
  replace hf : (if 0 ≤ s0 ∧ s0 < K.2 4 then if 0 ≤ s1 ∧ s1 < 800 then if 0 ≤ l0 ∧ l0 < K.2 4 then if r32 l8 then (if l8 = 0 then f_Part_group_173 rec8 rec80 K l7 l6 l5 l4 l3 l0 l1 l0 l7 0 F (zup4 B 4 s0 369 s1 s2) else if 0 ≤ l7 ∧ l7 < 800 then if 0 ≤ (l7 + 1) ∧ (l7 + 1) < 800 then if r32 ((zup4 B 4 s0 369 s1 s2) 4 l0 364 l7) then if r32 ((zup4 B 4 s0 369 s1 s2) 4 l0 364 (l7 + 1)) then f_Part_group_173 rec8 rec80 K l7 l6 l5 l4 l3 l0 l1 l0 l7 ((zmin ((zup4 B 4 s0 369 s1 s2) 4 l0 364 l7) ((zup4 B 4 s0 369 s1 s2) 4 l0 364 (l7 + 1))) - 2) F (zup4 B 4 s0 369 s1 s2) else none else none else none else none) else none else none else none else none) = some (r, F9, B9) := hf
  obtain ⟨g29, hf⟩ := gif hf
  obtain ⟨g30, hf⟩ := gif hf
  refine zast (ci := 4) (k := 369) hx hb hK rfl hZ hS g29.1 g29.2 rfl (Nat.le_of_ble_eq_true rfl) g30.1 g30.2 (D_79 W_prog_6_method_24_code_128 1 rfl rfl) (fun H31 locs31 hZ31 hS31 => ?_)
  refine lv_aload_n hx hb (D_42 W_prog_6_method_24_code_128 2 rfl rfl) rfl (lv_at hl 6 rfl) ?_
  obtain ⟨g33, hf⟩ := gif hf
  refine zget (ci := 4) (C := RX4) (T := TX4) (v := .ref (ad 4 l0 (8 + 1))) (k := 8) hx hb hts inW_4 hown hK hZ31 g33.1 g33.2 rfl (by decide) k_4_142 rfl (D_180 W_prog_6_method_24_code_128 3 rfl rfl rfl) ?_
  refine lv_bipush (v := iI 10) hx hb (D_16 W_prog_6_method_24_code_128 6 rfl rfl rfl) (by decide) ?_
  refine zaldQ (t := 0) (ci := 4) (k := 8) hx hb hK rfl hZ31 g33.1 g33.2 rfl (Nat.le_of_ble_eq_true rfl) (by decide) (by decide) (D_50 W_prog_6_method_24_code_128 8 rfl rfl) ?_
  refine W.eq (g2 := F0 m 137 ls [.ref (ad 4 l0 (370 + 1))]) rfl ?_
  refine lv_iload hx hb (D_21 W_prog_6_method_24_code_128 9 rfl rfl) (lv_at hl 1 rfl) ?_
  refine lv_iload hx hb (D_21 W_prog_6_method_24_code_128 11 rfl rfl) (lv_at hl 0 rfl) ?_
  obtain ⟨g34, hf⟩ := gif hf
  refine z0eq (tgt := 172) hx hb g34 (D_153 W_prog_6_method_24_code_128 13 rfl rfl rfl) (by decide) (fun h35 => ?_) (fun h35 => ?_)
  · replace hf := gpos hf h35
    refine lv_iconst (v := iI 0) hx hb (D_3 W_prog_6_method_24_code_160 12 rfl rfl) rfl ?_
    exact b_Part_group_173 X hrec8 hrec80 hf hZ31 hS31 (lv_sub hl [1, 2, 3, 4, 5, 6, 7] rfl)
  · replace hf := gneg hf h35
    refine lv_aload_n hx hb (D_42 W_prog_6_method_24_code_128 16 rfl rfl) rfl (lv_at hl 6 rfl) ?_
    refine zget (ci := 4) (C := RX4) (T := TX4) (v := .ref (ad 4 l0 (8 + 1))) (k := 8) hx hb hts inW_4 hown hK hZ31 g33.1 g33.2 rfl (by decide) k_4_142 rfl (D_180 W_prog_6_method_24_code_128 17 rfl rfl rfl) ?_
    refine lv_iconst (v := iI 4) hx hb (D_7 W_prog_6_method_24_code_128 20 rfl rfl) rfl ?_
    refine zaldQ (t := 0) (ci := 4) (k := 8) hx hb hK rfl hZ31 g33.1 g33.2 rfl (Nat.le_of_ble_eq_true rfl) (by decide) (by decide) (D_50 W_prog_6_method_24_code_128 21 rfl rfl) ?_
    refine W.eq (g2 := F0 m 150 ls [.ref (ad 4 l0 (364 + 1)), .int (iI l7), .ref (ad 4 l0 (370 + 1))]) rfl ?_
    refine lv_iload hx hb (D_21 W_prog_6_method_24_code_128 22 rfl rfl) (lv_at hl 1 rfl) ?_
    obtain ⟨g36, hf⟩ := gif hf
    refine zald (ci := 4) (k := 364) hx hb hK rfl hZ31 g33.1 g33.2 rfl (Nat.le_of_ble_eq_true rfl) g36.1 g36.2 (D_46 W_prog_6_method_24_code_128 24 rfl rfl) ?_
    refine lv_aload_n hx hb (D_42 W_prog_6_method_24_code_128 25 rfl rfl) rfl (lv_at hl 6 rfl) ?_
    refine zget (ci := 4) (C := RX4) (T := TX4) (v := .ref (ad 4 l0 (8 + 1))) (k := 8) hx hb hts inW_4 hown hK hZ31 g33.1 g33.2 rfl (by decide) k_4_142 rfl (D_180 W_prog_6_method_24_code_128 26 rfl rfl rfl) ?_
    refine lv_iconst (v := iI 4) hx hb (D_7 W_prog_6_method_24_code_128 29 rfl rfl) rfl ?_
    refine zaldQ (t := 0) (ci := 4) (k := 8) hx hb hK rfl hZ31 g33.1 g33.2 rfl (Nat.le_of_ble_eq_true rfl) (by decide) (by decide) (D_50 W_prog_6_method_24_code_128 30 rfl rfl) ?_
    refine W.eq (g2 := F0 m 159 ls [.ref (ad 4 l0 (364 + 1)), .int (iI ((zup4 B 4 s0 369 s1 s2) 4 l0 364 l7)), .int (iI l7), .ref (ad 4 l0 (370 + 1))]) rfl ?_
    refine lv_iload hx hb (D_21 W_prog_6_method_24_code_128 31 rfl rfl) (lv_at hl 1 rfl) ?_
    refine lv_iconst (v := iI 1) hx hb (D_4 W_prog_6_method_24_code_160 1 rfl rfl) rfl ?_
    refine zadd hx hb (D_96 W_prog_6_method_24_code_160 2 rfl rfl) ?_
    obtain ⟨g37, hf⟩ := gif hf
    refine zald (ci := 4) (k := 364) hx hb hK rfl hZ31 g33.1 g33.2 rfl (Nat.le_of_ble_eq_true rfl) g37.1 g37.2 (D_46 W_prog_6_method_24_code_160 3 rfl rfl) ?_
    obtain ⟨g38, hf⟩ := gif hf
    obtain ⟨g39, hf⟩ := gif hf
    refine va_mmin hx hb (by rw [hml]; exact hl.1.symm) hown (hts _ k_5_161) (hts _ k_3_97) (hts _ k_1_3) (hts _ k_3_98) (Nat.le_of_ble_eq_true rfl) (Nat.le_of_ble_eq_true rfl) (Nat.le_of_ble_eq_true rfl) (Nat.le_of_ble_eq_true rfl) (D_184 W_prog_6_method_24_code_160 4 rfl rfl rfl) ?_
    rw [zmin_e g38 g39]
    refine lv_iconst (v := iI 2) hx hb (D_5 W_prog_6_method_24_code_160 7 rfl rfl) rfl ?_
    refine zsub hx hb (D_100 W_prog_6_method_24_code_160 8 rfl rfl) ?_
    refine lv_goto (tgt := 173) hx hb (D_167 W_prog_6_method_24_code_160 9 rfl rfl rfl) (by decide) ?_
    exact b_Part_group_173 X hrec8 hrec80 hf hZ31 hS31 (lv_sub hl [1, 2, 3, 4, 5, 6, 7] rfl)

def f_Part_group_107 (rec8 : Int → Int → Int → Int → Int → zF → zB → zO) (rec80 : Int → Int → Int → Int → Int → Int → Int → zF → zB → zO) (K : zK) (l7 : Int) (l6 : Int) (l5 : Int) (l4 : Int) (l3 : Int) (l0 : Int) (l1 : Int) (s0 : Int) (F : zF) (B : zB) : zO := if 0 ≤ l0 ∧ l0 < K.2 4 then if r32 l6 then (if l6 ≤ 1 then f_Part_group_129 rec8 rec80 K s0 l7 l6 l5 l4 l3 l0 l1 l0 l7 (-1) F B else f_Part_group_129 rec8 rec80 K s0 l7 l6 l5 l4 l3 l0 l1 l0 l7 l3 F B) else none else none
set_option maxHeartbeats 4000000 in
set_option maxRecDepth 100000 in
theorem b_Part_group_107 {D : va_G} {ca : Nat → ClassId} {ad : Nat → Int → Nat → Nat} {L : List Nat} {aS vS : Nat → Nat} {A : Nat → Prop} {p : Program} {l : Launch} {e : Env} {s : State} {m : MethodId} {args : Array Value} {below : List Frame} {meth : Method} {c : Code} {K : zK} {r : Int} {F9 : zF} {B9 : zB} (X : zX D ca L aS vS A p s m args meth c prog_6_method_24_code 9 (Option.none : Option Jvm.ClassFile.FieldType) "StaveHouse$Part") {rec8 : Int → Int → Int → Int → Int → zF → zB → zO} {rec80 : Int → Int → Int → Int → Int → Int → Int → zF → zB → zO} (hrec8 : ∀ {l5 : Int} {l4 : Int} {l3 : Int} {l0 : Int} {l1 : Int} {F : zF} {B : zB} {H : Heap} {locs : List Loc} {ls : Array Slot}, rec8 l5 l4 l3 l0 l1 F B = some (r, F9, B9) → zH D ca ad lnC K.2 L F B A H → va_S A s.heap H locs → lv_has ls 9 [(5, .int (iI l5)), (4, .int (iI l4)), (3, .int (iI l3)), (0, .ref (ad 4 l0 0)), (1, .long (lI l1))] → W p l e ({ frames := 3, cells := 0, slots := 0, locals := 67 } : Room) s m args below meth c H locs 0 0 (MQ below (Q_Part_group K D ca ad L r F9 B9 A) args s 0 0 A) (F0 m 8 ls [])) (hrec80 : ∀ {l7 : Int} {l6 : Int} {l5 : Int} {l4 : Int} {l3 : Int} {l0 : Int} {l1 : Int} {F : zF} {B : zB} {H : Heap} {locs : List Loc} {ls : Array Slot}, rec80 l7 l6 l5 l4 l3 l0 l1 F B = some (r, F9, B9) → zH D ca ad lnC K.2 L F B A H → va_S A s.heap H locs → lv_has ls 9 [(7, .int (iI l7)), (6, .int (iI l6)), (5, .int (iI l5)), (4, .int (iI l4)), (3, .int (iI l3)), (0, .ref (ad 4 l0 0)), (1, .long (lI l1))] → W p l e ({ frames := 3, cells := 0, slots := 0, locals := 67 } : Room) s m args below meth c H locs 0 0 (MQ below (Q_Part_group K D ca ad L r F9 B9 A) args s 0 0 A) (F0 m 80 ls [])) {l7 : Int} {l6 : Int} {l5 : Int} {l4 : Int} {l3 : Int} {l0 : Int} {l1 : Int} {s0 : Int} {F : zF} {B : zB} {H : Heap} {locs : List Loc} {ls : Array Slot} (hf : f_Part_group_107 rec8 rec80 K l7 l6 l5 l4 l3 l0 l1 s0 F B = some (r, F9, B9)) (hZ : zH D ca ad lnC K.2 L F B A H) (hS : va_S A s.heap H locs) (hl : lv_has ls 9 [(7, .int (iI l7)), (6, .int (iI l6)), (5, .int (iI l5)), (4, .int (iI l4)), (3, .int (iI l3)), (0, .ref (ad 4 l0 0)), (1, .long (lI l1))]) : W p l e ({ frames := 3, cells := 0, slots := 0, locals := 67 } : Room) s m args below meth c H locs 0 0 (MQ below (Q_Part_group K D ca ad L r F9 B9 A) args s 0 0 A) (F0 m 107 ls [.int (iI s0)]) := by
  obtain ⟨hx, hb, hr, hml, hown, hts, hlk, hK, hA, hL, hX⟩ := id X
  replace hf : (if 0 ≤ l0 ∧ l0 < K.2 4 then if r32 l6 then (if l6 ≤ 1 then f_Part_group_129 rec8 rec80 K s0 l7 l6 l5 l4 l3 l0 l1 l0 l7 (-1) F B else f_Part_group_129 rec8 rec80 K s0 l7 l6 l5 l4 l3 l0 l1 l0 l7 l3 F B) else none else none) = some (r, F9, B9) := hf
  refine lv_istore (lv' := [(8, .int (iI s0)), (7, .int (iI l7)), (6, .int (iI l6)), (5, .int (iI l5)), (4, .int (iI l4)), (3, .int (iI l3)), (0, .ref (ad 4 l0 0)), (1, .long (lI l1))]) hx hb (D_54 W_prog_6_method_24_code_96 11 rfl rfl) hl (by decide) rfl (fun ls hl => ?_)
  refine lv_aload_n hx hb (D_42 W_prog_6_method_24_code_96 13 rfl rfl) rfl (lv_at hl 6 rfl) ?_
  obtain ⟨g26, hf⟩ := gif hf
  refine zget (ci := 4) (C := RX4) (T := TX4) (v := .ref (ad 4 l0 (8 + 1))) (k := 8) hx hb hts inW_4 hown hK hZ g26.1 g26.2 rfl (by decide) k_4_142 rfl (D_180 W_prog_6_method_24_code_96 14 rfl rfl rfl) ?_
  refine lv_bipush (v := iI 9) hx hb (D_16 W_prog_6_method_24_code_96 17 rfl rfl rfl) (by decide) ?_
  refine zaldQ (t := 0) (ci := 4) (k := 8) hx hb hK rfl hZ g26.1 g26.2 rfl (Nat.le_of_ble_eq_true rfl) (by decide) (by decide) (D_50 W_prog_6_method_24_code_96 19 rfl rfl) ?_
  refine W.eq (g2 := F0 m 116 ls [.ref (ad 4 l0 (369 + 1))]) rfl ?_
  refine lv_iload hx hb (D_21 W_prog_6_method_24_code_96 20 rfl rfl) (lv_at hl 1 rfl) ?_
  refine lv_iload hx hb (D_21 W_prog_6_method_24_code_96 22 rfl rfl) (lv_at hl 2 rfl) ?_
  refine lv_iconst (v := iI 1) hx hb (D_4 W_prog_6_method_24_code_96 24 rfl rfl) rfl ?_
  obtain ⟨g27, hf⟩ := gif hf
  refine zle (tgt := 128) hx hb g27 (by decide) (D_164 W_prog_6_method_24_code_96 25 rfl rfl rfl) (by decide) (fun h28 => ?_) (fun h28 => ?_)
  · replace hf := gpos hf h28
    refine lv_iconst (v := iI (-1)) hx hb (D_2 W_prog_6_method_24_code_128 0 rfl rfl) rfl ?_
    exact b_Part_group_129 X hrec8 hrec80 hf hZ hS (lv_sub hl [0, 1, 2, 3, 4, 5, 6, 7] rfl)
  · replace hf := gneg hf h28
    refine lv_iload_n hx hb (D_29 W_prog_6_method_24_code_96 28 rfl rfl) rfl (lv_at hl 5 rfl) ?_
    refine lv_goto (tgt := 129) hx hb (D_167 W_prog_6_method_24_code_96 29 rfl rfl rfl) (by decide) ?_
    exact b_Part_group_129 X hrec8 hrec80 hf hZ hS (lv_sub hl [0, 1, 2, 3, 4, 5, 6, 7] rfl)

def f_Part_group_80 (rec8 : Int → Int → Int → Int → Int → zF → zB → zO) (K : zK) : Nat → Int → Int → Int → Int → Int → Int → Int → zF → zB → zO
  | 0, _, _, _, _, _, _, _, _, _ => none
  | n + 1, l7, l6, l5, l4, l3, l0, l1, F, B => if r32 l7 then if r32 (l4 + l6) then (if (l4 + l6) ≤ l7 then if r32 l6 then (if l6 ≤ 1 then f_Part_group_192 rec8 K l6 l5 l4 l0 l1 l3 0 F B else f_Part_group_192 rec8 K l6 l5 l4 l0 l1 l3 1 F B) else none else if r32 (l7 + 1) then (if (l4 + l6) ≤ (l7 + 1) then f_Part_group_107 rec8 (f_Part_group_80 rec8 K n) K l7 l6 l5 l4 l3 l0 l1 0 F B else f_Part_group_107 rec8 (f_Part_group_80 rec8 K n) K l7 l6 l5 l4 l3 l0 l1 1 F B) else none) else none else none
set_option maxHeartbeats 4000000 in
set_option maxRecDepth 100000 in
theorem b_Part_group_80 {D : va_G} {ca : Nat → ClassId} {ad : Nat → Int → Nat → Nat} {L : List Nat} {aS vS : Nat → Nat} {A : Nat → Prop} {p : Program} {l : Launch} {e : Env} {s : State} {m : MethodId} {args : Array Value} {below : List Frame} {meth : Method} {c : Code} {K : zK} {r : Int} {F9 : zF} {B9 : zB} (X : zX D ca L aS vS A p s m args meth c prog_6_method_24_code 9 (Option.none : Option Jvm.ClassFile.FieldType) "StaveHouse$Part") {rec8 : Int → Int → Int → Int → Int → zF → zB → zO} (hrec8 : ∀ {l5 : Int} {l4 : Int} {l3 : Int} {l0 : Int} {l1 : Int} {F : zF} {B : zB} {H : Heap} {locs : List Loc} {ls : Array Slot}, rec8 l5 l4 l3 l0 l1 F B = some (r, F9, B9) → zH D ca ad lnC K.2 L F B A H → va_S A s.heap H locs → lv_has ls 9 [(5, .int (iI l5)), (4, .int (iI l4)), (3, .int (iI l3)), (0, .ref (ad 4 l0 0)), (1, .long (lI l1))] → W p l e ({ frames := 3, cells := 0, slots := 0, locals := 67 } : Room) s m args below meth c H locs 0 0 (MQ below (Q_Part_group K D ca ad L r F9 B9 A) args s 0 0 A) (F0 m 8 ls [])) : ∀ {n : Nat} {l7 : Int} {l6 : Int} {l5 : Int} {l4 : Int} {l3 : Int} {l0 : Int} {l1 : Int} {F : zF} {B : zB} {H : Heap} {locs : List Loc} {ls : Array Slot}, f_Part_group_80 rec8 K n l7 l6 l5 l4 l3 l0 l1 F B = some (r, F9, B9) → zH D ca ad lnC K.2 L F B A H → va_S A s.heap H locs → lv_has ls 9 [(7, .int (iI l7)), (6, .int (iI l6)), (5, .int (iI l5)), (4, .int (iI l4)), (3, .int (iI l3)), (0, .ref (ad 4 l0 0)), (1, .long (lI l1))] → W p l e ({ frames := 3, cells := 0, slots := 0, locals := 67 } : Room) s m args below meth c H locs 0 0 (MQ below (Q_Part_group K D ca ad L r F9 B9 A) args s 0 0 A) (F0 m 80 ls []) := by
  obtain ⟨hx, hb, hr, hml, hown, hts, hlk, hK, hA, hL, hX⟩ := id X
  intro n
  induction n with
  | zero =>
    intros
    rename_i hf _ _ _
    cases hf
  | succ n ih =>
    intro l7 l6 l5 l4 l3 l0 l1 F B H locs ls hf hZ hS hl
    replace hf : (if r32 l7 then if r32 (l4 + l6) then (if (l4 + l6) ≤ l7 then if r32 l6 then (if l6 ≤ 1 then f_Part_group_192 rec8 K l6 l5 l4 l0 l1 l3 0 F B else f_Part_group_192 rec8 K l6 l5 l4 l0 l1 l3 1 F B) else none else if r32 (l7 + 1) then (if (l4 + l6) ≤ (l7 + 1) then f_Part_group_107 rec8 (f_Part_group_80 rec8 K n) K l7 l6 l5 l4 l3 l0 l1 0 F B else f_Part_group_107 rec8 (f_Part_group_80 rec8 K n) K l7 l6 l5 l4 l3 l0 l1 1 F B) else none) else none else none) = some (r, F9, B9) := hf
    refine lv_iload hx hb (D_21 W_prog_6_method_24_code_64 16 rfl rfl) (lv_at hl 0 rfl) ?_
    refine lv_iload hx hb (D_21 W_prog_6_method_24_code_64 18 rfl rfl) (lv_at hl 3 rfl) ?_
    refine lv_iload hx hb (D_21 W_prog_6_method_24_code_64 20 rfl rfl) (lv_at hl 1 rfl) ?_
    refine zadd hx hb (D_96 W_prog_6_method_24_code_64 22 rfl rfl) ?_
    obtain ⟨g19, hf⟩ := gif hf
    obtain ⟨g20, hf⟩ := gif hf
    refine zge (tgt := 180) hx hb g19 g20 (D_162 W_prog_6_method_24_code_64 23 rfl rfl rfl) (by decide) (fun h21 => ?_) (fun h21 => ?_)
    · replace hf := gpos hf h21
      refine lv_iload_n hx hb (D_29 W_prog_6_method_24_code_160 20 rfl rfl) rfl (lv_at hl 4 rfl) ?_
      refine lv_iload hx hb (D_21 W_prog_6_method_24_code_160 21 rfl rfl) (lv_at hl 1 rfl) ?_
      refine lv_iconst (v := iI 1) hx hb (D_4 W_prog_6_method_24_code_160 23 rfl rfl) rfl ?_
      obtain ⟨g22, hf⟩ := gif hf
      refine zle (tgt := 191) hx hb g22 (by decide) (D_164 W_prog_6_method_24_code_160 24 rfl rfl rfl) (by decide) (fun h23 => ?_) (fun h23 => ?_)
      · replace hf := gpos hf h23
        refine lv_iconst (v := iI 0) hx hb (D_3 W_prog_6_method_24_code_160 31 rfl rfl) rfl ?_
        exact b_Part_group_192 X hrec8 hf hZ hS (lv_sub hl [1, 2, 3, 5, 6] rfl)
      · replace hf := gneg hf h23
        refine lv_iconst (v := iI 1) hx hb (D_4 W_prog_6_method_24_code_160 27 rfl rfl) rfl ?_
        refine lv_goto (tgt := 192) hx hb (D_167 W_prog_6_method_24_code_160 28 rfl rfl rfl) (by decide) ?_
        exact b_Part_group_192 X hrec8 hf hZ hS (lv_sub hl [1, 2, 3, 5, 6] rfl)
    · replace hf := gneg hf h21
      refine lv_iload hx hb (D_21 W_prog_6_method_24_code_64 26 rfl rfl) (lv_at hl 0 rfl) ?_
      refine lv_iconst (v := iI 1) hx hb (D_4 W_prog_6_method_24_code_64 28 rfl rfl) rfl ?_
      refine zadd hx hb (D_96 W_prog_6_method_24_code_64 29 rfl rfl) ?_
      refine lv_iload hx hb (D_21 W_prog_6_method_24_code_64 30 rfl rfl) (lv_at hl 3 rfl) ?_
      refine lv_iload hx hb (D_21 W_prog_6_method_24_code_96 0 rfl rfl) (lv_at hl 1 rfl) ?_
      refine zadd hx hb (D_96 W_prog_6_method_24_code_96 2 rfl rfl) ?_
      obtain ⟨g24, hf⟩ := gif hf
      refine zge (tgt := 106) hx hb g24 g20 (D_162 W_prog_6_method_24_code_96 3 rfl rfl rfl) (by decide) (fun h25 => ?_) (fun h25 => ?_)
      · replace hf := gpos hf h25
        refine lv_iconst (v := iI 0) hx hb (D_3 W_prog_6_method_24_code_96 10 rfl rfl) rfl ?_
        exact b_Part_group_107 X hrec8 ih hf hZ hS (lv_sub hl [0, 1, 2, 3, 4, 5, 6] rfl)
      · replace hf := gneg hf h25
        refine lv_iconst (v := iI 1) hx hb (D_4 W_prog_6_method_24_code_96 6 rfl rfl) rfl ?_
        refine lv_goto (tgt := 107) hx hb (D_167 W_prog_6_method_24_code_96 7 rfl rfl rfl) (by decide) ?_
        exact b_Part_group_107 X hrec8 ih hf hZ hS (lv_sub hl [0, 1, 2, 3, 4, 5, 6] rfl)

def f_Part_group_76 (rec8 : Int → Int → Int → Int → Int → zF → zB → zO) (K : zK) (l6 : Int) (l5 : Int) (l4 : Int) (l3 : Int) (l0 : Int) (l1 : Int) (F : zF) (B : zB) : zO := f_Part_group_80 rec8 K K.1 l4 l6 l5 l4 l3 l0 l1 F B
set_option maxHeartbeats 4000000 in
set_option maxRecDepth 100000 in
theorem b_Part_group_76 {D : va_G} {ca : Nat → ClassId} {ad : Nat → Int → Nat → Nat} {L : List Nat} {aS vS : Nat → Nat} {A : Nat → Prop} {p : Program} {l : Launch} {e : Env} {s : State} {m : MethodId} {args : Array Value} {below : List Frame} {meth : Method} {c : Code} {K : zK} {r : Int} {F9 : zF} {B9 : zB} (X : zX D ca L aS vS A p s m args meth c prog_6_method_24_code 9 (Option.none : Option Jvm.ClassFile.FieldType) "StaveHouse$Part") {rec8 : Int → Int → Int → Int → Int → zF → zB → zO} (hrec8 : ∀ {l5 : Int} {l4 : Int} {l3 : Int} {l0 : Int} {l1 : Int} {F : zF} {B : zB} {H : Heap} {locs : List Loc} {ls : Array Slot}, rec8 l5 l4 l3 l0 l1 F B = some (r, F9, B9) → zH D ca ad lnC K.2 L F B A H → va_S A s.heap H locs → lv_has ls 9 [(5, .int (iI l5)), (4, .int (iI l4)), (3, .int (iI l3)), (0, .ref (ad 4 l0 0)), (1, .long (lI l1))] → W p l e ({ frames := 3, cells := 0, slots := 0, locals := 67 } : Room) s m args below meth c H locs 0 0 (MQ below (Q_Part_group K D ca ad L r F9 B9 A) args s 0 0 A) (F0 m 8 ls [])) {l6 : Int} {l5 : Int} {l4 : Int} {l3 : Int} {l0 : Int} {l1 : Int} {F : zF} {B : zB} {H : Heap} {locs : List Loc} {ls : Array Slot} (hf : f_Part_group_76 rec8 K l6 l5 l4 l3 l0 l1 F B = some (r, F9, B9)) (hZ : zH D ca ad lnC K.2 L F B A H) (hS : va_S A s.heap H locs) (hl : lv_has ls 9 [(6, .int (iI l6)), (5, .int (iI l5)), (4, .int (iI l4)), (3, .int (iI l3)), (0, .ref (ad 4 l0 0)), (1, .long (lI l1))]) : W p l e ({ frames := 3, cells := 0, slots := 0, locals := 67 } : Room) s m args below meth c H locs 0 0 (MQ below (Q_Part_group K D ca ad L r F9 B9 A) args s 0 0 A) (F0 m 76 ls []) := by
  obtain ⟨hx, hb, hr, hml, hown, hts, hlk, hK, hA, hL, hX⟩ := id X
  replace hf : (f_Part_group_80 rec8 K K.1 l4 l6 l5 l4 l3 l0 l1 F B) = some (r, F9, B9) := hf
  refine lv_iload hx hb (D_21 W_prog_6_method_24_code_64 12 rfl rfl) (lv_at hl 2 rfl) ?_
  refine lv_istore (lv' := [(7, .int (iI l4)), (6, .int (iI l6)), (5, .int (iI l5)), (4, .int (iI l4)), (3, .int (iI l3)), (0, .ref (ad 4 l0 0)), (1, .long (lI l1))]) hx hb (D_54 W_prog_6_method_24_code_64 14 rfl rfl) hl (by decide) rfl (fun ls hl => ?_)
  exact b_Part_group_80 X hrec8 hf hZ hS (lv_sub hl [0, 1, 2, 3, 4, 5, 6] rfl)

def f_Part_group_34 (rec8 : Int → Int → Int → Int → Int → zF → zB → zO) (K : zK) : Nat → Int → Int → Int → Int → Int → Int → zF → zB → zO
  | 0, _, _, _, _, _, _, _, _ => none
  | n + 1, l6, l5, l4, l3, l0, l1, F, B => if 0 ≤ l0 ∧ l0 < K.2 4 then zbind (f_Part_isBeamed K l0 l4 F B) (fun r10 F10 B10 => if r32 r10 then (if r10 = 0 then f_Part_group_76 rec8 K l6 l5 l4 l3 l0 l1 F10 B10 else if r32 (l4 + l6) then if r32 (F10 4 l0 10) then (if (F10 4 l0 10) ≤ (l4 + l6) then f_Part_group_76 rec8 K l6 l5 l4 l3 l0 l1 F10 B10 else zbind (f_Part_beamsWith K l0 l4 (l4 + l6) l1 F10 B10) (fun r16 F16 B16 => if r32 r16 then (if r16 = 0 then f_Part_group_76 rec8 K l6 l5 l4 l3 l0 l1 F16 B16 else f_Part_group_34 rec8 K n (l6 + 1) l5 l4 l3 l0 l1 F16 B16) else none)) else none else none) else none) else none
set_option maxHeartbeats 4000000 in
set_option maxRecDepth 100000 in
theorem b_Part_group_34 {D : va_G} {ca : Nat → ClassId} {ad : Nat → Int → Nat → Nat} {L : List Nat} {aS vS : Nat → Nat} {A : Nat → Prop} {p : Program} {l : Launch} {e : Env} {s : State} {m : MethodId} {args : Array Value} {below : List Frame} {meth : Method} {c : Code} {K : zK} {r : Int} {F9 : zF} {B9 : zB} (X : zX D ca L aS vS A p s m args meth c prog_6_method_24_code 9 (Option.none : Option Jvm.ClassFile.FieldType) "StaveHouse$Part") {rec8 : Int → Int → Int → Int → Int → zF → zB → zO} (hrec8 : ∀ {l5 : Int} {l4 : Int} {l3 : Int} {l0 : Int} {l1 : Int} {F : zF} {B : zB} {H : Heap} {locs : List Loc} {ls : Array Slot}, rec8 l5 l4 l3 l0 l1 F B = some (r, F9, B9) → zH D ca ad lnC K.2 L F B A H → va_S A s.heap H locs → lv_has ls 9 [(5, .int (iI l5)), (4, .int (iI l4)), (3, .int (iI l3)), (0, .ref (ad 4 l0 0)), (1, .long (lI l1))] → W p l e ({ frames := 3, cells := 0, slots := 0, locals := 67 } : Room) s m args below meth c H locs 0 0 (MQ below (Q_Part_group K D ca ad L r F9 B9 A) args s 0 0 A) (F0 m 8 ls [])) : ∀ {n : Nat} {l6 : Int} {l5 : Int} {l4 : Int} {l3 : Int} {l0 : Int} {l1 : Int} {F : zF} {B : zB} {H : Heap} {locs : List Loc} {ls : Array Slot}, f_Part_group_34 rec8 K n l6 l5 l4 l3 l0 l1 F B = some (r, F9, B9) → zH D ca ad lnC K.2 L F B A H → va_S A s.heap H locs → lv_has ls 9 [(6, .int (iI l6)), (5, .int (iI l5)), (4, .int (iI l4)), (3, .int (iI l3)), (0, .ref (ad 4 l0 0)), (1, .long (lI l1))] → W p l e ({ frames := 3, cells := 0, slots := 0, locals := 67 } : Room) s m args below meth c H locs 0 0 (MQ below (Q_Part_group K D ca ad L r F9 B9 A) args s 0 0 A) (F0 m 34 ls []) := by
  obtain ⟨hx, hb, hr, hml, hown, hts, hlk, hK, hA, hL, hX⟩ := id X
  intro n
  induction n with
  | zero =>
    intros
    rename_i hf _ _ _
    cases hf
  | succ n ih =>
    intro l6 l5 l4 l3 l0 l1 F B H locs ls hf hZ hS hl
    replace hf : (if 0 ≤ l0 ∧ l0 < K.2 4 then zbind (f_Part_isBeamed K l0 l4 F B) (fun r10 F10 B10 => if r32 r10 then (if r10 = 0 then f_Part_group_76 rec8 K l6 l5 l4 l3 l0 l1 F10 B10 else if r32 (l4 + l6) then if r32 (F10 4 l0 10) then (if (F10 4 l0 10) ≤ (l4 + l6) then f_Part_group_76 rec8 K l6 l5 l4 l3 l0 l1 F10 B10 else zbind (f_Part_beamsWith K l0 l4 (l4 + l6) l1 F10 B10) (fun r16 F16 B16 => if r32 r16 then (if r16 = 0 then f_Part_group_76 rec8 K l6 l5 l4 l3 l0 l1 F16 B16 else f_Part_group_34 rec8 K n (l6 + 1) l5 l4 l3 l0 l1 F16 B16) else none)) else none else none) else none) else none) = some (r, F9, B9) := hf
    refine lv_aload_n hx hb (D_42 W_prog_6_method_24_code_32 2 rfl rfl) rfl (lv_at hl 4 rfl) ?_
    refine lv_iload hx hb (D_21 W_prog_6_method_24_code_32 3 rfl rfl) (lv_at hl 2 rfl) ?_
    obtain ⟨g9, hf⟩ := gif hf
    obtain ⟨r10, F10, B10, hc10, hf⟩ := gbind hf
    refine va_calli (va_runV (As := [.int (iI l4)]) (rest := []) ⟨hx, hb, hml, hown, hts⟩ (c_Part_isBeamed (l := l) hc10) (cwV 1 hts (gdV k_5_153 k_5_155 ks_62 k_1_18 k_5_156) rfl rfl rfl (by decide +kernel) ⟨Nat.le_of_ble_eq_true rfl, Nat.le_of_ble_eq_true rfl⟩) (zPV X hZ hS (ci := 4) g9.1 g9.2 (r := (RX4, TX4, 13)) rfl [.int (iI l4)]) rfl rfl hl.1 rfl (lv_room (Nat.le_of_ble_eq_true rfl)) (D_182 W_prog_6_method_24_code_32 5 rfl rfl rfl) ⟨Nat.le_of_ble_eq_true rfl, Nat.le_of_ble_eq_true rfl⟩) hS (fun q _ h => zAin X hS q h) (zAin X hS) (fun p10 u10 t10 H10 locs10 ht10 hv10 hw10 hB10 hz10 hk10 hS10 => ?_)
    have hZ10 := zBack X ht10 hB10
    subst hw10
    obtain ⟨g11, hf⟩ := gif hf
    refine z0eq (tgt := 76) hx hb g11 (D_153 W_prog_6_method_24_code_32 8 rfl rfl rfl) (by decide) (fun h12 => ?_) (fun h12 => ?_)
    · replace hf := gpos hf h12
      exact b_Part_group_76 X hrec8 hf hZ10 hS10 (lv_sub hl [0, 1, 2, 3, 4, 5] rfl)
    · replace hf := gneg hf h12
      refine lv_iload hx hb (D_21 W_prog_6_method_24_code_32 11 rfl rfl) (lv_at hl 2 rfl) ?_
      refine lv_iload hx hb (D_21 W_prog_6_method_24_code_32 13 rfl rfl) (lv_at hl 0 rfl) ?_
      refine zadd hx hb (D_96 W_prog_6_method_24_code_32 15 rfl rfl) ?_
      refine lv_aload_n hx hb (D_42 W_prog_6_method_24_code_32 16 rfl rfl) rfl (lv_at hl 4 rfl) ?_
      refine zget (ci := 4) (C := RX4) (T := TX4) (v := .int (iI (F10 4 l0 10))) (k := 10) hx hb hts inW_4 hown hK hZ10 g9.1 g9.2 rfl (by decide) k_4_148 rfl (D_180 W_prog_6_method_24_code_32 17 rfl rfl rfl) ?_
      obtain ⟨g13, hf⟩ := gif hf
      obtain ⟨g14, hf⟩ := gif hf
      refine zge (tgt := 76) hx hb g13 g14 (D_162 W_prog_6_method_24_code_32 20 rfl rfl rfl) (by decide) (fun h15 => ?_) (fun h15 => ?_)
      · replace hf := gpos hf h15
        exact b_Part_group_76 X hrec8 hf hZ10 hS10 (lv_sub hl [0, 1, 2, 3, 4, 5] rfl)
      · replace hf := gneg hf h15
        refine lv_aload_n hx hb (D_42 W_prog_6_method_24_code_32 23 rfl rfl) rfl (lv_at hl 4 rfl) ?_
        refine lv_iload hx hb (D_21 W_prog_6_method_24_code_32 24 rfl rfl) (lv_at hl 2 rfl) ?_
        refine lv_iload hx hb (D_21 W_prog_6_method_24_code_32 26 rfl rfl) (lv_at hl 2 rfl) ?_
        refine lv_iload hx hb (D_21 W_prog_6_method_24_code_32 28 rfl rfl) (lv_at hl 0 rfl) ?_
        refine zadd hx hb (D_96 W_prog_6_method_24_code_32 30 rfl rfl) ?_
        refine lv_lload_n hx hb (D_31 W_prog_6_method_24_code_32 31 rfl rfl) rfl (lv_at hl 5 rfl) ?_
        obtain ⟨r16, F16, B16, hc16, hf⟩ := gbind hf
        refine va_calli (va_runV (As := [.int (iI l4), .int (iI (l4 + l6)), .long (lI l1)]) (rest := []) ⟨hx, hb, hml, hown, hts⟩ (c_Part_beamsWith (l := l) hc16) (cwV 3 hts (gdV k_5_157 k_5_159 ks_63 k_1_18 k_5_160) rfl rfl rfl (by decide +kernel) ⟨Nat.le_of_ble_eq_true rfl, Nat.le_of_ble_eq_true rfl⟩) (zPV X hZ10 hS10 (ci := 4) g9.1 g9.2 (r := (RX4, TX4, 13)) rfl [.int (iI l4), .int (iI (l4 + l6)), .long (lI l1)]) rfl rfl hl.1 rfl (lv_room (Nat.le_of_ble_eq_true rfl)) (D_182 W_prog_6_method_24_code_64 0 rfl rfl rfl) ⟨Nat.le_of_ble_eq_true rfl, Nat.le_of_ble_eq_true rfl⟩) hS10 (fun q _ h => zAin X hS10 q h) (zAin X hS10) (fun p16 u16 t16 H16 locs16 ht16 hv16 hw16 hB16 hz16 hk16 hS16 => ?_)
        have hZ16 := zBack X ht16 hB16
        subst hw16
        obtain ⟨g17, hf⟩ := gif hf
        refine z0eq (tgt := 76) hx hb g17 (D_153 W_prog_6_method_24_code_64 3 rfl rfl rfl) (by decide) (fun h18 => ?_) (fun h18 => ?_)
        · replace hf := gpos hf h18
          exact b_Part_group_76 X hrec8 hf hZ16 hS16 (lv_sub hl [0, 1, 2, 3, 4, 5] rfl)
        · replace hf := gneg hf h18
          refine lv_iinc (v := iI (l6 + 1)) (lv' := [(6, .int (iI (l6 + 1))), (5, .int (iI l5)), (4, .int (iI l4)), (3, .int (iI l3)), (0, .ref (ad 4 l0 0)), (1, .long (lI l1))]) hx hb d_6_24_70 hl (k := 0) rfl (iI_add _ 1) (by decide) rfl (fun ls hl => ?_)
          refine lv_goto (tgt := 34) hx hb (D_167 W_prog_6_method_24_code_64 9 rfl rfl rfl) (by decide) ?_
          exact ih hf hZ16 hS16 (lv_sub hl [0, 1, 2, 3, 4, 5] rfl)

def f_Part_group_8 (K : zK) : Nat → Int → Int → Int → Int → Int → zF → zB → zO
  | 0, _, _, _, _, _, _, _ => none
  | n + 1, l5, l4, l3, l0, l1, F, B => if r32 l5 then (if 800 ≤ l5 then f_Part_group_207 K F B else if 0 ≤ l0 ∧ l0 < K.2 4 then if r32 l4 then if r32 (F 4 l0 10) then (if (F 4 l0 10) ≤ l4 then f_Part_group_207 K F B else if r64 l1 then (if (zcmp l1 0) ≤ 0 then f_Part_group_207 K F B else f_Part_group_34 (f_Part_group_8 K n) K K.1 1 l5 l4 l3 l0 l1 F B) else none) else none else none else none) else none
set_option maxHeartbeats 4000000 in
set_option maxRecDepth 100000 in
theorem b_Part_group_8 {D : va_G} {ca : Nat → ClassId} {ad : Nat → Int → Nat → Nat} {L : List Nat} {aS vS : Nat → Nat} {A : Nat → Prop} {p : Program} {l : Launch} {e : Env} {s : State} {m : MethodId} {args : Array Value} {below : List Frame} {meth : Method} {c : Code} {K : zK} {r : Int} {F9 : zF} {B9 : zB} (X : zX D ca L aS vS A p s m args meth c prog_6_method_24_code 9 (Option.none : Option Jvm.ClassFile.FieldType) "StaveHouse$Part") : ∀ {n : Nat} {l5 : Int} {l4 : Int} {l3 : Int} {l0 : Int} {l1 : Int} {F : zF} {B : zB} {H : Heap} {locs : List Loc} {ls : Array Slot}, f_Part_group_8 K n l5 l4 l3 l0 l1 F B = some (r, F9, B9) → zH D ca ad lnC K.2 L F B A H → va_S A s.heap H locs → lv_has ls 9 [(5, .int (iI l5)), (4, .int (iI l4)), (3, .int (iI l3)), (0, .ref (ad 4 l0 0)), (1, .long (lI l1))] → W p l e ({ frames := 3, cells := 0, slots := 0, locals := 67 } : Room) s m args below meth c H locs 0 0 (MQ below (Q_Part_group K D ca ad L r F9 B9 A) args s 0 0 A) (F0 m 8 ls []) := by
  obtain ⟨hx, hb, hr, hml, hown, hts, hlk, hK, hA, hL, hX⟩ := id X
  intro n
  induction n with
  | zero =>
    intros
    rename_i hf _ _ _
    cases hf
  | succ n ih =>
    intro l5 l4 l3 l0 l1 F B H locs ls hf hZ hS hl
    replace hf : (if r32 l5 then (if 800 ≤ l5 then f_Part_group_207 K F B else if 0 ≤ l0 ∧ l0 < K.2 4 then if r32 l4 then if r32 (F 4 l0 10) then (if (F 4 l0 10) ≤ l4 then f_Part_group_207 K F B else if r64 l1 then (if (zcmp l1 0) ≤ 0 then f_Part_group_207 K F B else f_Part_group_34 (f_Part_group_8 K n) K K.1 1 l5 l4 l3 l0 l1 F B) else none) else none else none else none) else none) = some (r, F9, B9) := hf
    refine lv_iload hx hb (D_21 W_prog_6_method_24_code_0 8 rfl rfl) (lv_at hl 0 rfl) ?_
    refine lv_sipush (v := iI 800) hx hb (D_17 W_prog_6_method_24_code_0 10 rfl rfl rfl) (by decide) ?_
    obtain ⟨g1, hf⟩ := gif hf
    refine zge (tgt := 207) hx hb g1 (by decide) (D_162 W_prog_6_method_24_code_0 13 rfl rfl rfl) (by decide) (fun h2 => ?_) (fun h2 => ?_)
    · replace hf := gpos hf h2
      exact b_Part_group_207 X hf hZ hS (lv_sub hl [] rfl)
    · replace hf := gneg hf h2
      refine lv_iload hx hb (D_21 W_prog_6_method_24_code_0 16 rfl rfl) (lv_at hl 1 rfl) ?_
      refine lv_aload_n hx hb (D_42 W_prog_6_method_24_code_0 18 rfl rfl) rfl (lv_at hl 3 rfl) ?_
      obtain ⟨g3, hf⟩ := gif hf
      refine zget (ci := 4) (C := RX4) (T := TX4) (v := .int (iI (F 4 l0 10))) (k := 10) hx hb hts inW_4 hown hK hZ g3.1 g3.2 rfl (by decide) k_4_148 rfl (D_180 W_prog_6_method_24_code_0 19 rfl rfl rfl) ?_
      obtain ⟨g4, hf⟩ := gif hf
      obtain ⟨g5, hf⟩ := gif hf
      refine zge (tgt := 207) hx hb g4 g5 (D_162 W_prog_6_method_24_code_0 22 rfl rfl rfl) (by decide) (fun h6 => ?_) (fun h6 => ?_)
      · replace hf := gpos hf h6
        exact b_Part_group_207 X hf hZ hS (lv_sub hl [] rfl)
      · replace hf := gneg hf h6
        refine lv_lload_n hx hb (D_31 W_prog_6_method_24_code_0 25 rfl rfl) rfl (lv_at hl 4 rfl) ?_
        refine lv_lconst (v := lI 0) hx hb (D_9 W_prog_6_method_24_code_0 26 rfl rfl) (by decide) ?_
        obtain ⟨g7, hf⟩ := gif hf
        refine zcmp_r hx hb g7 (by decide) (D_148 W_prog_6_method_24_code_0 27 rfl rfl) ?_
        refine z0le (tgt := 207) hx hb zcmp_32 (D_158 W_prog_6_method_24_code_0 28 rfl rfl rfl) (by decide) (fun h8 => ?_) (fun h8 => ?_)
        · replace hf := gpos hf h8
          exact b_Part_group_207 X hf hZ hS (lv_sub hl [] rfl)
        · replace hf := gneg hf h8
          refine lv_iconst (v := iI 1) hx hb (D_4 W_prog_6_method_24_code_0 31 rfl rfl) rfl ?_
          refine lv_istore (lv' := [(6, .int (iI 1)), (5, .int (iI l5)), (4, .int (iI l4)), (3, .int (iI l3)), (0, .ref (ad 4 l0 0)), (1, .long (lI l1))]) hx hb (D_54 W_prog_6_method_24_code_32 0 rfl rfl) hl (by decide) rfl (fun ls hl => ?_)
          exact b_Part_group_34 X ih hf hZ hS (lv_sub hl [0, 1, 2, 3, 4, 5] rfl)

def f_Part_group (K : zK) (l0 : Int) (l1 : Int) (F : zF) (B : zB) : zO := f_Part_group_8 K K.1 0 0 0 l0 l1 F B
set_option maxHeartbeats 4000000 in
set_option maxRecDepth 100000 in
theorem c_Part_group {l : Launch} {D : va_G} {ca : Nat → ClassId} {ad : Nat → Int → Nat → Nat} {L : List Nat} {aS vS : Nat → Nat} {sz : Nat} {K : zK}  {l0 : Int} {l1 : Int} {F F9 : zF} {B B9 : zB} {r : Int} (hf : f_Part_group K l0 l1 F B = some (r, F9, B9)) : Met l ({ cls := "StaveHouse$Part", name := "group", desc := "(J)V" } : Jvm.MethodName) (Cond.code ({ cls := "StaveHouse$Part", name := "group", desc := "(J)V" } : Jvm.MethodName) prog_6_method_24_code 9 (Option.none : Option Jvm.ClassFile.FieldType) :: wAll) ({ frames := 3, cells := 0, slots := 0, locals := 67 } : Room) (va_Pc [.ref (ad 4 l0 0), .long (lI l1)] (zPre D ca ad lnC K.2 L aS vS F B sz)) (Q_Part_group K D ca ad L r F9 B9 (zA L sz)) 0 0 (zA L sz) := by
  refine zMet (Qc := Q_Part_group K D ca ad L r F9 B9) (lv := [(0, .ref (ad 4 l0 0)), (1, .long (lI l1))]) (by decide) (Nat.le_of_ble_eq_true rfl) rfl (fun A p e s m below meth c ls X hZ hS hl => ?_)
  obtain ⟨hx, hb, hr, hml, hown, hts, hlk, hK, hA, hL, hX⟩ := id X
  replace hf : (f_Part_group_8 K K.1 0 0 0 l0 l1 F B) = some (r, F9, B9) := hf
  refine lv_iconst (v := iI 0) hx hb (D_3 W_prog_6_method_24_code_0 0 rfl rfl) rfl ?_
  refine lv_istore_n (lv' := [(3, .int (iI 0)), (0, .ref (ad 4 l0 0)), (1, .long (lI l1))]) hx hb (D_62 W_prog_6_method_24_code_0 1 rfl rfl) rfl hl (by decide) rfl (fun ls hl => ?_)
  refine lv_iconst (v := iI 0) hx hb (D_3 W_prog_6_method_24_code_0 2 rfl rfl) rfl ?_
  refine lv_istore (lv' := [(4, .int (iI 0)), (3, .int (iI 0)), (0, .ref (ad 4 l0 0)), (1, .long (lI l1))]) hx hb (D_54 W_prog_6_method_24_code_0 3 rfl rfl) hl (by decide) rfl (fun ls hl => ?_)
  refine lv_iconst (v := iI 0) hx hb (D_3 W_prog_6_method_24_code_0 5 rfl rfl) rfl ?_
  refine lv_istore (lv' := [(5, .int (iI 0)), (4, .int (iI 0)), (3, .int (iI 0)), (0, .ref (ad 4 l0 0)), (1, .long (lI l1))]) hx hb (D_54 W_prog_6_method_24_code_0 6 rfl rfl) hl (by decide) rfl (fun ls hl => ?_)
  exact b_Part_group_8 X hf hZ hS (lv_sub hl [0, 1, 2, 3, 4] rfl)

abbrev Q_Study_findMoments (K : zK) (D : va_G) (ca : Nat → ClassId) (ad : Nat → Int → Nat → Nat) (L : List Nat) (r : Int) (F : zF) (B : zB) (A : Nat → Prop) : Array Value → State → Outcome → State → Prop := va_Qv (S := Unit) (fun _ => True) (fun _ => zPo D ca ad lnC K.2 L F B A) A
def f_Study_findMoments_160 (rec29 : Int → Int → Int → zF → zB → zO) (rec68 : Int → Int → Int → Int → Int → zF → zB → zO) (K : zK) (l5 : Int) (l3 : Int) (l2 : Int) (l0 : Int) (l1 : Int) (s0i : Int) (s0z : Int) (s1 : Int) (s2 : Int) (F : zF) (B : zB) : zO := if 0 ≤ s0i ∧ s0i < K.2 9 then if 0 ≤ s0z ∧ s0z < 4 then if 0 ≤ s1 ∧ s1 < 800 then rec68 (l5 + 1) l3 l2 l0 l1 F (zup4 B 9 s0i (280 + s0z.toNat) s1 s2) else none else none else none
set_option maxHeartbeats 4000000 in
set_option maxRecDepth 100000 in
theorem b_Study_findMoments_160 {D : va_G} {ca : Nat → ClassId} {ad : Nat → Int → Nat → Nat} {L : List Nat} {aS vS : Nat → Nat} {A : Nat → Prop} {p : Program} {l : Launch} {e : Env} {s : State} {m : MethodId} {args : Array Value} {below : List Frame} {meth : Method} {c : Code} {K : zK} {r : Int} {F9 : zF} {B9 : zB} (X : zX D ca L aS vS A p s m args meth c prog_11_method_3_code 9 (Option.none : Option Jvm.ClassFile.FieldType) "StaveHouse$Study") {rec29 : Int → Int → Int → zF → zB → zO} {rec68 : Int → Int → Int → Int → Int → zF → zB → zO} (hrec29 : ∀ {l2 : Int} {l0 : Int} {l1 : Int} {F : zF} {B : zB} {H : Heap} {locs : List Loc} {ls : Array Slot}, rec29 l2 l0 l1 F B = some (r, F9, B9) → zH D ca ad lnC K.2 L F B A H → va_S A s.heap H locs → lv_has ls 9 [(2, .int (iI l2)), (0, .ref (ad 9 l0 0)), (1, .ref (ad 6 l1 0))] → W p l e ({ frames := 1, cells := 0, slots := 0, locals := 27 } : Room) s m args below meth c H locs 0 0 (MQ below (Q_Study_findMoments K D ca ad L r F9 B9 A) args s 0 0 A) (F0 m 29 ls [])) (hrec68 : ∀ {l5 : Int} {l3 : Int} {l2 : Int} {l0 : Int} {l1 : Int} {F : zF} {B : zB} {H : Heap} {locs : List Loc} {ls : Array Slot}, rec68 l5 l3 l2 l0 l1 F B = some (r, F9, B9) → zH D ca ad lnC K.2 L F B A H → va_S A s.heap H locs → lv_has ls 9 [(5, .int (iI l5)), (3, .long (lI l3)), (2, .int (iI l2)), (0, .ref (ad 9 l0 0)), (1, .ref (ad 6 l1 0))] → W p l e ({ frames := 1, cells := 0, slots := 0, locals := 27 } : Room) s m args below meth c H locs 0 0 (MQ below (Q_Study_findMoments K D ca ad L r F9 B9 A) args s 0 0 A) (F0 m 68 ls [])) {l5 : Int} {l3 : Int} {l2 : Int} {l0 : Int} {l1 : Int} {s0i : Int} {s0z : Int} {s1 : Int} {s2 : Int} {F : zF} {B : zB} {H : Heap} {locs : List Loc} {ls : Array Slot} (hf : f_Study_findMoments_160 rec29 rec68 K l5 l3 l2 l0 l1 s0i s0z s1 s2 F B = some (r, F9, B9)) (hZ : zH D ca ad lnC K.2 L F B A H) (hS : va_S A s.heap H locs) (hl : lv_has ls 9 [(5, .int (iI l5)), (3, .long (lI l3)), (2, .int (iI l2)), (0, .ref (ad 9 l0 0)), (1, .ref (ad 6 l1 0))]) : W p l e ({ frames := 1, cells := 0, slots := 0, locals := 27 } : Room) s m args below meth c H locs 0 0 (MQ below (Q_Study_findMoments K D ca ad L r F9 B9 A) args s 0 0 A) (F0 m 160 ls [.int (iI s2), .int (iI s1), .ref (ad 9 s0i (280 + s0z.toNat + 1))]) := by
  obtain ⟨hx, hb, hr, hml, hown, hts, hlk, hK, hA, hL, hX⟩ := id X
  replace hf : (if 0 ≤ s0i ∧ s0i < K.2 9 then if 0 ≤ s0z ∧ s0z < 4 then if 0 ≤ s1 ∧ s1 < 800 then rec68 (l5 + 1) l3 l2 l0 l1 F (zup4 B 9 s0i (280 + s0z.toNat) s1 s2) else none else none else none) = some (r, F9, B9) := hf
  obtain ⟨g41, hf⟩ := gif hf
  obtain ⟨g42, hf⟩ := gif hf
  obtain ⟨g43, hf⟩ := gif hf
  refine zast (ci := 9) (k := (280 + s0z.toNat)) hx hb hK rfl hZ hS g41.1 g41.2 (zkq (c := 9) (b := 280) (n := 4) (t := 0) (by decide) g42.1 g42.2) (lnq_le (c := 9) (b := 280) (n := 4) (m := 800) (by decide) (by decide) (by decide) g42.1 g42.2) g43.1 (lnq_lt (c := 9) (b := 280) (n := 4) (m := 800) (by decide) (by decide) g42.1 g42.2 g43.2) (D_79 W_prog_11_method_3_code_160 0 rfl rfl) (fun H44 locs44 hZ44 hS44 => ?_)
  refine lv_iinc (v := iI (l5 + 1)) (lv' := [(5, .int (iI (l5 + 1))), (3, .long (lI l3)), (2, .int (iI l2)), (0, .ref (ad 9 l0 0)), (1, .ref (ad 6 l1 0))]) hx hb d_11_3_161 hl (k := 0) rfl (iI_add _ 1) (by decide) rfl (fun ls hl => ?_)
  refine lv_goto (tgt := 68) hx hb (D_167 W_prog_11_method_3_code_160 4 rfl rfl rfl) (by decide) ?_
  exact hrec68 hf hZ44 hS44 (lv_sub hl [0, 1, 2, 3, 4] rfl)

def f_Study_findMoments_136 (rec29 : Int → Int → Int → zF → zB → zO) (rec68 : Int → Int → Int → Int → Int → zF → zB → zO) (K : zK) (l7 : Int) (l5 : Int) (l3 : Int) (l2 : Int) (l0 : Int) (l1 : Int) (s0 : Int) (F : zF) (B : zB) : zO := if 0 ≤ l0 ∧ l0 < K.2 9 then if 0 ≤ l5 ∧ l5 < 4 then if r32 s0 then (if s0 = 0 then f_Study_findMoments_160 rec29 rec68 K l5 l3 l2 l0 l1 l0 l5 l2 (l7 - 1) F B else f_Study_findMoments_160 rec29 rec68 K l5 l3 l2 l0 l1 l0 l5 l2 l7 F B) else none else none else none
set_option maxHeartbeats 4000000 in
set_option maxRecDepth 100000 in
theorem b_Study_findMoments_136 {D : va_G} {ca : Nat → ClassId} {ad : Nat → Int → Nat → Nat} {L : List Nat} {aS vS : Nat → Nat} {A : Nat → Prop} {p : Program} {l : Launch} {e : Env} {s : State} {m : MethodId} {args : Array Value} {below : List Frame} {meth : Method} {c : Code} {K : zK} {r : Int} {F9 : zF} {B9 : zB} (X : zX D ca L aS vS A p s m args meth c prog_11_method_3_code 9 (Option.none : Option Jvm.ClassFile.FieldType) "StaveHouse$Study") {rec29 : Int → Int → Int → zF → zB → zO} {rec68 : Int → Int → Int → Int → Int → zF → zB → zO} (hrec29 : ∀ {l2 : Int} {l0 : Int} {l1 : Int} {F : zF} {B : zB} {H : Heap} {locs : List Loc} {ls : Array Slot}, rec29 l2 l0 l1 F B = some (r, F9, B9) → zH D ca ad lnC K.2 L F B A H → va_S A s.heap H locs → lv_has ls 9 [(2, .int (iI l2)), (0, .ref (ad 9 l0 0)), (1, .ref (ad 6 l1 0))] → W p l e ({ frames := 1, cells := 0, slots := 0, locals := 27 } : Room) s m args below meth c H locs 0 0 (MQ below (Q_Study_findMoments K D ca ad L r F9 B9 A) args s 0 0 A) (F0 m 29 ls [])) (hrec68 : ∀ {l5 : Int} {l3 : Int} {l2 : Int} {l0 : Int} {l1 : Int} {F : zF} {B : zB} {H : Heap} {locs : List Loc} {ls : Array Slot}, rec68 l5 l3 l2 l0 l1 F B = some (r, F9, B9) → zH D ca ad lnC K.2 L F B A H → va_S A s.heap H locs → lv_has ls 9 [(5, .int (iI l5)), (3, .long (lI l3)), (2, .int (iI l2)), (0, .ref (ad 9 l0 0)), (1, .ref (ad 6 l1 0))] → W p l e ({ frames := 1, cells := 0, slots := 0, locals := 27 } : Room) s m args below meth c H locs 0 0 (MQ below (Q_Study_findMoments K D ca ad L r F9 B9 A) args s 0 0 A) (F0 m 68 ls [])) {l7 : Int} {l5 : Int} {l3 : Int} {l2 : Int} {l0 : Int} {l1 : Int} {s0 : Int} {F : zF} {B : zB} {H : Heap} {locs : List Loc} {ls : Array Slot} (hf : f_Study_findMoments_136 rec29 rec68 K l7 l5 l3 l2 l0 l1 s0 F B = some (r, F9, B9)) (hZ : zH D ca ad lnC K.2 L F B A H) (hS : va_S A s.heap H locs) (hl : lv_has ls 9 [(7, .int (iI l7)), (5, .int (iI l5)), (3, .long (lI l3)), (2, .int (iI l2)), (0, .ref (ad 9 l0 0)), (1, .ref (ad 6 l1 0))]) : W p l e ({ frames := 1, cells := 0, slots := 0, locals := 27 } : Room) s m args below meth c H locs 0 0 (MQ below (Q_Study_findMoments K D ca ad L r F9 B9 A) args s 0 0 A) (F0 m 136 ls [.int (iI s0)]) := by
  obtain ⟨hx, hb, hr, hml, hown, hts, hlk, hK, hA, hL, hX⟩ := id X
  replace hf : (if 0 ≤ l0 ∧ l0 < K.2 9 then if 0 ≤ l5 ∧ l5 < 4 then if r32 s0 then (if s0 = 0 then f_Study_findMoments_160 rec29 rec68 K l5 l3 l2 l0 l1 l0 l5 l2 (l7 - 1) F B else f_Study_findMoments_160 rec29 rec68 K l5 l3 l2 l0 l1 l0 l5 l2 l7 F B) else none else none else none) = some (r, F9, B9) := hf
  refine lv_istore (lv' := [(8, .int (iI s0)), (7, .int (iI l7)), (5, .int (iI l5)), (3, .long (lI l3)), (2, .int (iI l2)), (0, .ref (ad 9 l0 0)), (1, .ref (ad 6 l1 0))]) hx hb (D_54 W_prog_11_method_3_code_128 8 rfl rfl) hl (by decide) rfl (fun ls hl => ?_)
  refine lv_aload_n hx hb (D_42 W_prog_11_method_3_code_128 10 rfl rfl) rfl (lv_at hl 5 rfl) ?_
  obtain ⟨g37, hf⟩ := gif hf
  refine zget (ci := 9) (C := RX9) (T := TX9) (v := .ref (ad 9 l0 (4 + 1))) (k := 4) hx hb hts inW_9 hown hK hZ g37.1 g37.2 rfl (by decide) k_5_205 rfl (D_180 W_prog_11_method_3_code_128 11 rfl rfl rfl) ?_
  refine lv_iload hx hb (D_21 W_prog_11_method_3_code_128 14 rfl rfl) (lv_at hl 2 rfl) ?_
  obtain ⟨g38, hf⟩ := gif hf
  refine zaldQ (t := 0) (ci := 9) (k := 4) hx hb hK rfl hZ g37.1 g37.2 rfl (Nat.le_of_ble_eq_true rfl) g38.1 g38.2 (D_50 W_prog_11_method_3_code_128 16 rfl rfl) ?_
  refine W.eq (g2 := F0 m 145 ls [.ref (ad 9 l0 (280 + l5.toNat + 1))]) rfl ?_
  refine lv_iload_n hx hb (D_28 W_prog_11_method_3_code_128 17 rfl rfl) rfl (lv_at hl 4 rfl) ?_
  refine lv_iload hx hb (D_21 W_prog_11_method_3_code_128 18 rfl rfl) (lv_at hl 0 rfl) ?_
  obtain ⟨g39, hf⟩ := gif hf
  refine z0eq (tgt := 156) hx hb g39 (D_153 W_prog_11_method_3_code_128 20 rfl rfl rfl) (by decide) (fun h40 => ?_) (fun h40 => ?_)
  · replace hf := gpos hf h40
    refine lv_iload hx hb (D_21 W_prog_11_method_3_code_128 28 rfl rfl) (lv_at hl 1 rfl) ?_
    refine lv_iconst (v := iI 1) hx hb (D_4 W_prog_11_method_3_code_128 30 rfl rfl) rfl ?_
    refine zsub hx hb (D_100 W_prog_11_method_3_code_128 31 rfl rfl) ?_
    exact b_Study_findMoments_160 X hrec29 hrec68 hf hZ hS (lv_sub hl [2, 3, 4, 5, 6] rfl)
  · replace hf := gneg hf h40
    refine lv_iload hx hb (D_21 W_prog_11_method_3_code_128 23 rfl rfl) (lv_at hl 1 rfl) ?_
    refine lv_goto (tgt := 160) hx hb (D_167 W_prog_11_method_3_code_128 25 rfl rfl rfl) (by decide) ?_
    exact b_Study_findMoments_160 X hrec29 hrec68 hf hZ hS (lv_sub hl [2, 3, 4, 5, 6] rfl)

def f_Study_findMoments_135 (rec29 : Int → Int → Int → zF → zB → zO) (rec68 : Int → Int → Int → Int → Int → zF → zB → zO) (K : zK) (l7 : Int) (l5 : Int) (l3 : Int) (l2 : Int) (l0 : Int) (l1 : Int) (F : zF) (B : zB) : zO := f_Study_findMoments_136 rec29 rec68 K l7 l5 l3 l2 l0 l1 0 F B
set_option maxHeartbeats 4000000 in
set_option maxRecDepth 100000 in
theorem b_Study_findMoments_135 {D : va_G} {ca : Nat → ClassId} {ad : Nat → Int → Nat → Nat} {L : List Nat} {aS vS : Nat → Nat} {A : Nat → Prop} {p : Program} {l : Launch} {e : Env} {s : State} {m : MethodId} {args : Array Value} {below : List Frame} {meth : Method} {c : Code} {K : zK} {r : Int} {F9 : zF} {B9 : zB} (X : zX D ca L aS vS A p s m args meth c prog_11_method_3_code 9 (Option.none : Option Jvm.ClassFile.FieldType) "StaveHouse$Study") {rec29 : Int → Int → Int → zF → zB → zO} {rec68 : Int → Int → Int → Int → Int → zF → zB → zO} (hrec29 : ∀ {l2 : Int} {l0 : Int} {l1 : Int} {F : zF} {B : zB} {H : Heap} {locs : List Loc} {ls : Array Slot}, rec29 l2 l0 l1 F B = some (r, F9, B9) → zH D ca ad lnC K.2 L F B A H → va_S A s.heap H locs → lv_has ls 9 [(2, .int (iI l2)), (0, .ref (ad 9 l0 0)), (1, .ref (ad 6 l1 0))] → W p l e ({ frames := 1, cells := 0, slots := 0, locals := 27 } : Room) s m args below meth c H locs 0 0 (MQ below (Q_Study_findMoments K D ca ad L r F9 B9 A) args s 0 0 A) (F0 m 29 ls [])) (hrec68 : ∀ {l5 : Int} {l3 : Int} {l2 : Int} {l0 : Int} {l1 : Int} {F : zF} {B : zB} {H : Heap} {locs : List Loc} {ls : Array Slot}, rec68 l5 l3 l2 l0 l1 F B = some (r, F9, B9) → zH D ca ad lnC K.2 L F B A H → va_S A s.heap H locs → lv_has ls 9 [(5, .int (iI l5)), (3, .long (lI l3)), (2, .int (iI l2)), (0, .ref (ad 9 l0 0)), (1, .ref (ad 6 l1 0))] → W p l e ({ frames := 1, cells := 0, slots := 0, locals := 27 } : Room) s m args below meth c H locs 0 0 (MQ below (Q_Study_findMoments K D ca ad L r F9 B9 A) args s 0 0 A) (F0 m 68 ls [])) {l7 : Int} {l5 : Int} {l3 : Int} {l2 : Int} {l0 : Int} {l1 : Int} {F : zF} {B : zB} {H : Heap} {locs : List Loc} {ls : Array Slot} (hf : f_Study_findMoments_135 rec29 rec68 K l7 l5 l3 l2 l0 l1 F B = some (r, F9, B9)) (hZ : zH D ca ad lnC K.2 L F B A H) (hS : va_S A s.heap H locs) (hl : lv_has ls 9 [(7, .int (iI l7)), (5, .int (iI l5)), (3, .long (lI l3)), (2, .int (iI l2)), (0, .ref (ad 9 l0 0)), (1, .ref (ad 6 l1 0))]) : W p l e ({ frames := 1, cells := 0, slots := 0, locals := 27 } : Room) s m args below meth c H locs 0 0 (MQ below (Q_Study_findMoments K D ca ad L r F9 B9 A) args s 0 0 A) (F0 m 135 ls []) := by
  obtain ⟨hx, hb, hr, hml, hown, hts, hlk, hK, hA, hL, hX⟩ := id X
  replace hf : (f_Study_findMoments_136 rec29 rec68 K l7 l5 l3 l2 l0 l1 0 F B) = some (r, F9, B9) := hf
  refine lv_iconst (v := iI 0) hx hb (D_3 W_prog_11_method_3_code_128 7 rfl rfl) rfl ?_
  exact b_Study_findMoments_136 X hrec29 hrec68 hf hZ hS (lv_sub hl [0, 1, 2, 3, 4, 5] rfl)

def f_Study_findMoments_68 (rec29 : Int → Int → Int → zF → zB → zO) (K : zK) : Nat → Int → Int → Int → Int → Int → zF → zB → zO
  | 0, _, _, _, _, _, _, _ => none
  | n + 1, l5, l3, l2, l0, l1, F, B => if 0 ≤ l1 ∧ l1 < K.2 6 then if r32 l5 then if r32 (F 6 l1 1) then (if (F 6 l1 1) ≤ l5 then if 0 ≤ l0 ∧ l0 < K.2 9 then rec29 (l2 + 1) l0 l1 (zup3 F 9 l0 0 (l2 + 1)) B else none else if 0 ≤ l5 ∧ l5 < 4 then if 0 ≤ l0 ∧ l0 < K.2 9 then if r32 (l2 - 1) then if 0 ≤ (zmax (l2 - 1) 0) ∧ (zmax (l2 - 1) 0) < 800 then if 0 ≤ (B 6 l1 0 l5) ∧ (B 6 l1 0 l5) < K.2 4 then if r32 ((B 9 l0 (280 + l5.toNat) (zmax (l2 - 1) 0)) + 1) then if r32 (F 4 (B 6 l1 0 l5) 6) then (if (F 4 (B 6 l1 0 l5) 6) ≤ ((B 9 l0 (280 + l5.toNat) (zmax (l2 - 1) 0)) + 1) then f_Study_findMoments_135 rec29 (f_Study_findMoments_68 rec29 K n) K ((B 9 l0 (280 + l5.toNat) (zmax (l2 - 1) 0)) + 1) l5 l3 l2 l0 l1 F B else if 0 ≤ ((B 9 l0 (280 + l5.toNat) (zmax (l2 - 1) 0)) + 1) ∧ ((B 9 l0 (280 + l5.toNat) (zmax (l2 - 1) 0)) + 1) < 200 then if 0 ≤ (B 4 (B 6 l1 0 l5) 5 ((B 9 l0 (280 + l5.toNat) (zmax (l2 - 1) 0)) + 1)) ∧ (B 4 (B 6 l1 0 l5) 5 ((B 9 l0 (280 + l5.toNat) (zmax (l2 - 1) 0)) + 1)) < K.2 1 then if r64 (F 1 (B 4 (B 6 l1 0 l5) 5 ((B 9 l0 (280 + l5.toNat) (zmax (l2 - 1) 0)) + 1)) 0) then if r64 l3 then (if (zcmp (F 1 (B 4 (B 6 l1 0 l5) 5 ((B 9 l0 (280 + l5.toNat) (zmax (l2 - 1) 0)) + 1)) 0) l3) = 0 then f_Study_findMoments_136 rec29 (f_Study_findMoments_68 rec29 K n) K ((B 9 l0 (280 + l5.toNat) (zmax (l2 - 1) 0)) + 1) l5 l3 l2 l0 l1 1 F B else f_Study_findMoments_135 rec29 (f_Study_findMoments_68 rec29 K n) K ((B 9 l0 (280 + l5.toNat) (zmax (l2 - 1) 0)) + 1) l5 l3 l2 l0 l1 F B) else none else none else none else none) else none else none else none else none else none else none else none) else none else none else none
set_option maxHeartbeats 4000000 in
set_option maxRecDepth 100000 in
theorem b_Study_findMoments_68 {D : va_G} {ca : Nat → ClassId} {ad : Nat → Int → Nat → Nat} {L : List Nat} {aS vS : Nat → Nat} {A : Nat → Prop} {p : Program} {l : Launch} {e : Env} {s : State} {m : MethodId} {args : Array Value} {below : List Frame} {meth : Method} {c : Code} {K : zK} {r : Int} {F9 : zF} {B9 : zB} (X : zX D ca L aS vS A p s m args meth c prog_11_method_3_code 9 (Option.none : Option Jvm.ClassFile.FieldType) "StaveHouse$Study") {rec29 : Int → Int → Int → zF → zB → zO} (hrec29 : ∀ {l2 : Int} {l0 : Int} {l1 : Int} {F : zF} {B : zB} {H : Heap} {locs : List Loc} {ls : Array Slot}, rec29 l2 l0 l1 F B = some (r, F9, B9) → zH D ca ad lnC K.2 L F B A H → va_S A s.heap H locs → lv_has ls 9 [(2, .int (iI l2)), (0, .ref (ad 9 l0 0)), (1, .ref (ad 6 l1 0))] → W p l e ({ frames := 1, cells := 0, slots := 0, locals := 27 } : Room) s m args below meth c H locs 0 0 (MQ below (Q_Study_findMoments K D ca ad L r F9 B9 A) args s 0 0 A) (F0 m 29 ls [])) : ∀ {n : Nat} {l5 : Int} {l3 : Int} {l2 : Int} {l0 : Int} {l1 : Int} {F : zF} {B : zB} {H : Heap} {locs : List Loc} {ls : Array Slot}, f_Study_findMoments_68 rec29 K n l5 l3 l2 l0 l1 F B = some (r, F9, B9) → zH D ca ad lnC K.2 L F B A H → va_S A s.heap H locs → lv_has ls 9 [(5, .int (iI l5)), (3, .long (lI l3)), (2, .int (iI l2)), (0, .ref (ad 9 l0 0)), (1, .ref (ad 6 l1 0))] → W p l e ({ frames := 1, cells := 0, slots := 0, locals := 27 } : Room) s m args below meth c H locs 0 0 (MQ below (Q_Study_findMoments K D ca ad L r F9 B9 A) args s 0 0 A) (F0 m 68 ls []) := by
  obtain ⟨hx, hb, hr, hml, hown, hts, hlk, hK, hA, hL, hX⟩ := id X
  intro n
  induction n with
  | zero =>
    intros
    rename_i hf _ _ _
    cases hf
  | succ n ih =>
    intro l5 l3 l2 l0 l1 F B H locs ls hf hZ hS hl
    replace hf : (if 0 ≤ l1 ∧ l1 < K.2 6 then if r32 l5 then if r32 (F 6 l1 1) then (if (F 6 l1 1) ≤ l5 then if 0 ≤ l0 ∧ l0 < K.2 9 then rec29 (l2 + 1) l0 l1 (zup3 F 9 l0 0 (l2 + 1)) B else none else if 0 ≤ l5 ∧ l5 < 4 then if 0 ≤ l0 ∧ l0 < K.2 9 then if r32 (l2 - 1) then if 0 ≤ (zmax (l2 - 1) 0) ∧ (zmax (l2 - 1) 0) < 800 then if 0 ≤ (B 6 l1 0 l5) ∧ (B 6 l1 0 l5) < K.2 4 then if r32 ((B 9 l0 (280 + l5.toNat) (zmax (l2 - 1) 0)) + 1) then if r32 (F 4 (B 6 l1 0 l5) 6) then (if (F 4 (B 6 l1 0 l5) 6) ≤ ((B 9 l0 (280 + l5.toNat) (zmax (l2 - 1) 0)) + 1) then f_Study_findMoments_135 rec29 (f_Study_findMoments_68 rec29 K n) K ((B 9 l0 (280 + l5.toNat) (zmax (l2 - 1) 0)) + 1) l5 l3 l2 l0 l1 F B else if 0 ≤ ((B 9 l0 (280 + l5.toNat) (zmax (l2 - 1) 0)) + 1) ∧ ((B 9 l0 (280 + l5.toNat) (zmax (l2 - 1) 0)) + 1) < 200 then if 0 ≤ (B 4 (B 6 l1 0 l5) 5 ((B 9 l0 (280 + l5.toNat) (zmax (l2 - 1) 0)) + 1)) ∧ (B 4 (B 6 l1 0 l5) 5 ((B 9 l0 (280 + l5.toNat) (zmax (l2 - 1) 0)) + 1)) < K.2 1 then if r64 (F 1 (B 4 (B 6 l1 0 l5) 5 ((B 9 l0 (280 + l5.toNat) (zmax (l2 - 1) 0)) + 1)) 0) then if r64 l3 then (if (zcmp (F 1 (B 4 (B 6 l1 0 l5) 5 ((B 9 l0 (280 + l5.toNat) (zmax (l2 - 1) 0)) + 1)) 0) l3) = 0 then f_Study_findMoments_136 rec29 (f_Study_findMoments_68 rec29 K n) K ((B 9 l0 (280 + l5.toNat) (zmax (l2 - 1) 0)) + 1) l5 l3 l2 l0 l1 1 F B else f_Study_findMoments_135 rec29 (f_Study_findMoments_68 rec29 K n) K ((B 9 l0 (280 + l5.toNat) (zmax (l2 - 1) 0)) + 1) l5 l3 l2 l0 l1 F B) else none else none else none else none) else none else none else none else none else none else none else none) else none else none else none) = some (r, F9, B9) := hf
    refine lv_iload hx hb (D_21 W_prog_11_method_3_code_64 4 rfl rfl) (lv_at hl 0 rfl) ?_
    refine lv_aload_n hx hb (D_43 W_prog_11_method_3_code_64 6 rfl rfl) rfl (lv_at hl 4 rfl) ?_
    obtain ⟨g17, hf⟩ := gif hf
    refine zget (ci := 6) (C := RX6) (T := TX6) (v := .int (iI (F 6 l1 1))) (k := 1) hx hb hts inW_6 hown hK hZ g17.1 g17.2 rfl (by decide) k_2_192 rfl (D_180 W_prog_11_method_3_code_64 7 rfl rfl rfl) ?_
    obtain ⟨g18, hf⟩ := gif hf
    obtain ⟨g19, hf⟩ := gif hf
    refine zge (tgt := 167) hx hb g18 g19 (D_162 W_prog_11_method_3_code_64 10 rfl rfl rfl) (by decide) (fun h20 => ?_) (fun h20 => ?_)
    · replace hf := gpos hf h20
      refine lv_aload_n hx hb (D_42 W_prog_11_method_3_code_160 7 rfl rfl) rfl (lv_at hl 3 rfl) ?_
      refine lv_iload_n hx hb (D_28 W_prog_11_method_3_code_160 8 rfl rfl) rfl (lv_at hl 2 rfl) ?_
      refine lv_iconst (v := iI 1) hx hb (D_4 W_prog_11_method_3_code_160 9 rfl rfl) rfl ?_
      refine zadd hx hb (D_96 W_prog_11_method_3_code_160 10 rfl rfl) ?_
      obtain ⟨g21, hf⟩ := gif hf
      refine zput (ci := 9) (C := RX9) (T := TX9) (k := 0) (v := (l2 + 1)) (w := .int (iI (l2 + 1))) hx hb hts inW_9 tyX9 tyX9_ok nmX9 hown hK hZ hS g21.1 g21.2 rfl (by decide) k_5_197 rfl (fun G h => congrArg (fun q => Value.int (iI q)) h) rfl rfl (zno (by decide)) (D_181 W_prog_11_method_3_code_160 11 rfl rfl rfl) (fun H22 locs22 hZ22 hS22 => ?_)
      refine lv_iinc (v := iI (l2 + 1)) (lv' := [(2, .int (iI (l2 + 1))), (5, .int (iI l5)), (3, .long (lI l3)), (0, .ref (ad 9 l0 0)), (1, .ref (ad 6 l1 0))]) hx hb d_11_3_174 hl (k := 2) rfl (iI_add _ 1) (by decide) rfl (fun ls hl => ?_)
      refine lv_goto (tgt := 29) hx hb (D_167 W_prog_11_method_3_code_160 17 rfl rfl rfl) (by decide) ?_
      exact hrec29 hf hZ22 hS22 (lv_sub hl [0, 3, 4] rfl)
    · replace hf := gneg hf h20
      refine lv_aload_n hx hb (D_43 W_prog_11_method_3_code_64 13 rfl rfl) rfl (lv_at hl 4 rfl) ?_
      refine zget (ci := 6) (C := RX6) (T := TX6) (v := .ref (ad 6 l1 (0 + 1))) (k := 0) hx hb hts inW_6 hown hK hZ g17.1 g17.2 rfl (by decide) k_2_187 rfl (D_180 W_prog_11_method_3_code_64 14 rfl rfl rfl) ?_
      refine lv_iload hx hb (D_21 W_prog_11_method_3_code_64 17 rfl rfl) (lv_at hl 0 rfl) ?_
      obtain ⟨g23, hf⟩ := gif hf
      refine zaldR (t := 4) (x := 6) (ci := 6) (k := 0) hx hb hK rfl rfl hZ g17.1 g17.2 rfl (Nat.le_of_ble_eq_true rfl) g23.1 g23.2 (D_50 W_prog_11_method_3_code_64 19 rfl rfl) ?_
      refine zastore (lv' := [(5, .int (iI l5)), (3, .long (lI l3)), (2, .int (iI l2)), (0, .ref (ad 9 l0 0)), (1, .ref (ad 6 l1 0))]) hx hb (D_58 W_prog_11_method_3_code_64 20 rfl rfl) hl (by decide) (fun _ _ => rfl) (fun ls hl => ?_)
      refine lv_aload_n hx hb (D_42 W_prog_11_method_3_code_64 22 rfl rfl) rfl (lv_at hl 4 rfl) ?_
      obtain ⟨g24, hf⟩ := gif hf
      refine zget (ci := 9) (C := RX9) (T := TX9) (v := .ref (ad 9 l0 (4 + 1))) (k := 4) hx hb hts inW_9 hown hK hZ g24.1 g24.2 rfl (by decide) k_5_205 rfl (D_180 W_prog_11_method_3_code_64 23 rfl rfl rfl) ?_
      refine lv_iload hx hb (D_21 W_prog_11_method_3_code_64 26 rfl rfl) (lv_at hl 1 rfl) ?_
      refine zaldQ (t := 0) (ci := 9) (k := 4) hx hb hK rfl hZ g24.1 g24.2 rfl (Nat.le_of_ble_eq_true rfl) g23.1 g23.2 (D_50 W_prog_11_method_3_code_64 28 rfl rfl) ?_
      refine W.eq (g2 := F0 m 93 ls [.ref (ad 9 l0 (280 + l5.toNat + 1))]) rfl ?_
      refine lv_iload_n hx hb (D_28 W_prog_11_method_3_code_64 29 rfl rfl) rfl (lv_at hl 3 rfl) ?_
      refine lv_iconst (v := iI 1) hx hb (D_4 W_prog_11_method_3_code_64 30 rfl rfl) rfl ?_
      refine zsub hx hb (D_100 W_prog_11_method_3_code_64 31 rfl rfl) ?_
      refine lv_iconst (v := iI 0) hx hb (D_3 W_prog_11_method_3_code_96 0 rfl rfl) rfl ?_
      obtain ⟨g25, hf⟩ := gif hf
      refine va_mmax hx hb (by rw [hml]; exact hl.1.symm) hown (hts _ k_6_3) (hts _ k_1_39) (hts _ k_1_3) (hts _ k_1_40) (Nat.le_of_ble_eq_true rfl) (Nat.le_of_ble_eq_true rfl) (Nat.le_of_ble_eq_true rfl) (Nat.le_of_ble_eq_true rfl) (D_184 W_prog_11_method_3_code_96 1 rfl rfl rfl) ?_
      rw [zmax_e g25 (by decide)]
      obtain ⟨g26, hf⟩ := gif hf
      refine zald (ci := 9) (k := (280 + l5.toNat)) hx hb hK rfl hZ g24.1 g24.2 (zkq (c := 9) (b := 280) (n := 4) (t := 0) (by decide) g23.1 g23.2) (lnq_le (c := 9) (b := 280) (n := 4) (m := 800) (by decide) (by decide) (by decide) g23.1 g23.2) g26.1 (lnq_lt (c := 9) (b := 280) (n := 4) (m := 800) (by decide) (by decide) g23.1 g23.2 g26.2) (D_46 W_prog_11_method_3_code_96 4 rfl rfl) ?_
      refine lv_iconst (v := iI 1) hx hb (D_4 W_prog_11_method_3_code_96 5 rfl rfl) rfl ?_
      refine zadd hx hb (D_96 W_prog_11_method_3_code_96 6 rfl rfl) ?_
      refine lv_istore (lv' := [(7, .int (iI ((B 9 l0 (280 + l5.toNat) (zmax (l2 - 1) 0)) + 1))), (6, va_rf (zrf ad 4 (B 6 l1 0 l5))), (5, .int (iI l5)), (3, .long (lI l3)), (2, .int (iI l2)), (0, .ref (ad 9 l0 0)), (1, .ref (ad 6 l1 0))]) hx hb (D_54 W_prog_11_method_3_code_96 7 rfl rfl) hl (by decide) (by cases zrf ad 4 (B 6 l1 0 l5) <;> rfl) (fun ls hl => ?_)
      refine lv_iload hx hb (D_21 W_prog_11_method_3_code_96 9 rfl rfl) (lv_at hl 0 rfl) ?_
      refine zaload hx hb (D_25 W_prog_11_method_3_code_96 11 rfl rfl) (lv_at hl 1 rfl) ?_
      obtain ⟨g27, hf⟩ := gif hf
      refine zunrf g27.1 ?_
      refine zget (ci := 4) (C := RX4) (T := TX4) (v := .int (iI (F 4 (B 6 l1 0 l5) 6))) (k := 6) hx hb hts inW_4 hown hK hZ g27.1 g27.2 rfl (by decide) k_4_137 rfl (D_180 W_prog_11_method_3_code_96 13 rfl rfl rfl) ?_
      obtain ⟨g28, hf⟩ := gif hf
      obtain ⟨g29, hf⟩ := gif hf
      refine zge (tgt := 135) hx hb g28 g29 (D_162 W_prog_11_method_3_code_96 16 rfl rfl rfl) (by decide) (fun h30 => ?_) (fun h30 => ?_)
      · replace hf := gpos hf h30
        exact b_Study_findMoments_135 X hrec29 ih hf hZ hS (lv_sub hl [0, 2, 3, 4, 5, 6] rfl)
      · replace hf := gneg hf h30
        refine zaload hx hb (D_25 W_prog_11_method_3_code_96 19 rfl rfl) (lv_at hl 1 rfl) ?_
        refine zunrf g27.1 ?_
        refine zget (ci := 4) (C := RX4) (T := TX4) (v := .ref (ad 4 (B 6 l1 0 l5) (5 + 1))) (k := 5) hx hb hts inW_4 hown hK hZ g27.1 g27.2 rfl (by decide) k_4_132 rfl (D_180 W_prog_11_method_3_code_96 21 rfl rfl rfl) ?_
        refine lv_iload hx hb (D_21 W_prog_11_method_3_code_96 24 rfl rfl) (lv_at hl 0 rfl) ?_
        obtain ⟨g31, hf⟩ := gif hf
        refine zaldR (t := 1) (x := 7) (ci := 4) (k := 5) hx hb hK rfl rfl hZ g27.1 g27.2 rfl (Nat.le_of_ble_eq_true rfl) g31.1 g31.2 (D_50 W_prog_11_method_3_code_96 26 rfl rfl) ?_
        obtain ⟨g33, hf⟩ := gif hf
        refine zunrf g33.1 ?_
        refine zget (ci := 1) (C := RX1) (T := TX1) (v := .long (lI (F 1 (B 4 (B 6 l1 0 l5) 5 ((B 9 l0 (280 + l5.toNat) (zmax (l2 - 1) 0)) + 1)) 0))) (k := 0) hx hb hts inW_1 hown hK hZ g33.1 g33.2 rfl (by decide) k_2_20 rfl (D_180 W_prog_11_method_3_code_96 27 rfl rfl rfl) ?_
        refine lv_lload_n hx hb (D_33 W_prog_11_method_3_code_96 30 rfl rfl) rfl (lv_at hl 3 rfl) ?_
        obtain ⟨g34, hf⟩ := gif hf
        obtain ⟨g35, hf⟩ := gif hf
        refine zcmp_r hx hb g34 g35 (D_148 W_prog_11_method_3_code_96 31 rfl rfl) ?_
        refine z0ne (tgt := 135) hx hb zcmp_32 (D_154 W_prog_11_method_3_code_128 0 rfl rfl rfl) (by decide) (fun h36 => ?_) (fun h36 => ?_)
        · replace hf := gneg hf h36
          exact b_Study_findMoments_135 X hrec29 ih hf hZ hS (lv_sub hl [0, 2, 3, 4, 5, 6] rfl)
        · replace hf := gpos hf h36
          refine lv_iconst (v := iI 1) hx hb (D_4 W_prog_11_method_3_code_128 3 rfl rfl) rfl ?_
          refine lv_goto (tgt := 136) hx hb (D_167 W_prog_11_method_3_code_128 4 rfl rfl rfl) (by decide) ?_
          exact b_Study_findMoments_136 X hrec29 ih hf hZ hS (lv_sub hl [0, 2, 3, 4, 5, 6] rfl)

def f_Study_findMoments_29 (K : zK) : Nat → Int → Int → Int → zF → zB → zO
  | 0, _, _, _, _, _ => none
  | n + 1, l2, l0, l1, F, B => if 0 ≤ l0 ∧ l0 < K.2 9 then if r32 l2 then (if 800 ≤ l2 then some (0, F, B) else if r32 (l2 - 1) then zbind (f_Study_nextPlace K l0 l1 (zmax (l2 - 1) 0) F B) (fun r12 F12 B12 => if r64 r12 then (if 0 ≤ (zcmp r12 0) then if 0 ≤ l2 ∧ l2 < 800 then f_Study_findMoments_68 (f_Study_findMoments_29 K n) K K.1 0 r12 l2 l0 l1 F12 (zup4 B12 9 l0 1 l2 r12) else none else some (0, F12, B12)) else none) else none) else none else none
set_option maxHeartbeats 4000000 in
set_option maxRecDepth 100000 in
theorem b_Study_findMoments_29 {D : va_G} {ca : Nat → ClassId} {ad : Nat → Int → Nat → Nat} {L : List Nat} {aS vS : Nat → Nat} {A : Nat → Prop} {p : Program} {l : Launch} {e : Env} {s : State} {m : MethodId} {args : Array Value} {below : List Frame} {meth : Method} {c : Code} {K : zK} {r : Int} {F9 : zF} {B9 : zB} (X : zX D ca L aS vS A p s m args meth c prog_11_method_3_code 9 (Option.none : Option Jvm.ClassFile.FieldType) "StaveHouse$Study") : ∀ {n : Nat} {l2 : Int} {l0 : Int} {l1 : Int} {F : zF} {B : zB} {H : Heap} {locs : List Loc} {ls : Array Slot}, f_Study_findMoments_29 K n l2 l0 l1 F B = some (r, F9, B9) → zH D ca ad lnC K.2 L F B A H → va_S A s.heap H locs → lv_has ls 9 [(2, .int (iI l2)), (0, .ref (ad 9 l0 0)), (1, .ref (ad 6 l1 0))] → W p l e ({ frames := 1, cells := 0, slots := 0, locals := 27 } : Room) s m args below meth c H locs 0 0 (MQ below (Q_Study_findMoments K D ca ad L r F9 B9 A) args s 0 0 A) (F0 m 29 ls []) := by
  obtain ⟨hx, hb, hr, hml, hown, hts, hlk, hK, hA, hL, hX⟩ := id X
  intro n
  induction n with
  | zero =>
    intros
    rename_i hf _ _ _
    cases hf
  | succ n ih =>
    intro l2 l0 l1 F B H locs ls hf hZ hS hl
    replace hf : (if 0 ≤ l0 ∧ l0 < K.2 9 then if r32 l2 then (if 800 ≤ l2 then some (0, F, B) else if r32 (l2 - 1) then zbind (f_Study_nextPlace K l0 l1 (zmax (l2 - 1) 0) F B) (fun r12 F12 B12 => if r64 r12 then (if 0 ≤ (zcmp r12 0) then if 0 ≤ l2 ∧ l2 < 800 then f_Study_findMoments_68 (f_Study_findMoments_29 K n) K K.1 0 r12 l2 l0 l1 F12 (zup4 B12 9 l0 1 l2 r12) else none else some (0, F12, B12)) else none) else none) else none else none) = some (r, F9, B9) := hf
    refine lv_iload_n hx hb (D_28 W_prog_11_method_3_code_0 29 rfl rfl) rfl (lv_at hl 0 rfl) ?_
    refine lv_aload_n hx hb (D_42 W_prog_11_method_3_code_0 30 rfl rfl) rfl (lv_at hl 1 rfl) ?_
    obtain ⟨g8, hf⟩ := gif hf
    refine zget (ci := 9) (C := RX9) (T := TX9) (v := .ref (ad 9 l0 (1 + 1))) (k := 1) hx hb hts inW_9 hown hK hZ g8.1 g8.2 rfl (by decide) k_5_199 rfl (D_180 W_prog_11_method_3_code_0 31 rfl rfl rfl) ?_
    refine zlen (t := 1) (x := 1) (ci := 9) (k := 1) hx hb hK rfl (fun _ _ => ⟨_, rfl⟩) hZ g8.1 g8.2 rfl (D_190 W_prog_11_method_3_code_32 2 rfl rfl) ?_
    refine W.eq (g2 := F0 m 35 ls [.int (iI 800), .int (iI l2)]) rfl ?_
    obtain ⟨g9, hf⟩ := gif hf
    refine zge (tgt := 180) hx hb g9 (by decide) (D_162 W_prog_11_method_3_code_32 3 rfl rfl rfl) (by decide) (fun h10 => ?_) (fun h10 => ?_)
    · replace hf := gpos hf h10
      cases hf
      exact W.vret hx hb hr (fun t ht hW => ⟨⟨(), rfl, trivial, by rw [ht]; exact hZ, va_K.moved hW.alike hK⟩, hS.F ht⟩) hS.2.2 (D_177 W_prog_11_method_3_code_160 20 rfl rfl) hlk
    · replace hf := gneg hf h10
      refine lv_aload_n hx hb (D_42 W_prog_11_method_3_code_32 6 rfl rfl) rfl (lv_at hl 1 rfl) ?_
      refine lv_aload_n hx hb (D_43 W_prog_11_method_3_code_32 7 rfl rfl) rfl (lv_at hl 2 rfl) ?_
      refine lv_iload_n hx hb (D_28 W_prog_11_method_3_code_32 8 rfl rfl) rfl (lv_at hl 0 rfl) ?_
      refine lv_iconst (v := iI 1) hx hb (D_4 W_prog_11_method_3_code_32 9 rfl rfl) rfl ?_
      refine zsub hx hb (D_100 W_prog_11_method_3_code_32 10 rfl rfl) ?_
      refine lv_iconst (v := iI 0) hx hb (D_3 W_prog_11_method_3_code_32 11 rfl rfl) rfl ?_
      obtain ⟨g11, hf⟩ := gif hf
      refine va_mmax hx hb (by rw [hml]; exact hl.1.symm) hown (hts _ k_6_3) (hts _ k_1_39) (hts _ k_1_3) (hts _ k_1_40) (Nat.le_of_ble_eq_true rfl) (Nat.le_of_ble_eq_true rfl) (Nat.le_of_ble_eq_true rfl) (Nat.le_of_ble_eq_true rfl) (D_184 W_prog_11_method_3_code_32 12 rfl rfl rfl) ?_
      rw [zmax_e g11 (by decide)]
      obtain ⟨r12, F12, B12, hc12, hf⟩ := gbind hf
      refine va_calll (va_runV (As := [.ref (ad 6 l1 0), .int (iI (zmax (l2 - 1) 0))]) (rest := []) ⟨hx, hb, hml, hown, hts⟩ (c_Study_nextPlace (l := l) hc12) (cwV 2 hts (gdV k_6_4 k_6_6 ks_67 k_1_19 k_6_7) rfl rfl rfl (by decide +kernel) ⟨Nat.le_of_ble_eq_true rfl, Nat.le_of_ble_eq_true rfl⟩) (zPV X hZ hS (ci := 9) g8.1 g8.2 (r := (RX9, TX9, 11)) rfl [.ref (ad 6 l1 0), .int (iI (zmax (l2 - 1) 0))]) rfl rfl hl.1 rfl (lv_room (Nat.le_of_ble_eq_true rfl)) (D_182 W_prog_11_method_3_code_32 15 rfl rfl rfl) ⟨Nat.le_of_ble_eq_true rfl, Nat.le_of_ble_eq_true rfl⟩) hS (fun q _ h => zAin X hS q h) (zAin X hS) (fun p12 u12 t12 H12 locs12 ht12 hv12 hw12 hB12 hz12 hk12 hS12 => ?_)
      have hZ12 := zBack X ht12 hB12
      subst hw12
      refine lv_lstore_n (lv' := [(3, .long (lI r12)), (2, .int (iI l2)), (0, .ref (ad 9 l0 0)), (1, .ref (ad 6 l1 0))]) hx hb (D_66 W_prog_11_method_3_code_32 18 rfl rfl) rfl hl (by decide) rfl (fun ls hl => ?_)
      refine lv_lload_n hx hb (D_33 W_prog_11_method_3_code_32 19 rfl rfl) rfl (lv_at hl 0 rfl) ?_
      refine lv_lconst (v := lI 0) hx hb (D_9 W_prog_11_method_3_code_32 20 rfl rfl) (by decide) ?_
      obtain ⟨g13, hf⟩ := gif hf
      refine zcmp_r hx hb g13 (by decide) (D_148 W_prog_11_method_3_code_32 21 rfl rfl) ?_
      refine z0ge (tgt := 58) hx hb zcmp_32 (D_156 W_prog_11_method_3_code_32 22 rfl rfl rfl) (by decide) (fun h14 => ?_) (fun h14 => ?_)
      · replace hf := gpos hf h14
        refine lv_aload_n hx hb (D_42 W_prog_11_method_3_code_32 26 rfl rfl) rfl (lv_at hl 2 rfl) ?_
        refine zget (ci := 9) (C := RX9) (T := TX9) (v := .ref (ad 9 l0 (1 + 1))) (k := 1) hx hb hts inW_9 hown hK hZ12 g8.1 g8.2 rfl (by decide) k_5_199 rfl (D_180 W_prog_11_method_3_code_32 27 rfl rfl rfl) ?_
        refine lv_iload_n hx hb (D_28 W_prog_11_method_3_code_32 30 rfl rfl) rfl (lv_at hl 1 rfl) ?_
        refine lv_lload_n hx hb (D_33 W_prog_11_method_3_code_32 31 rfl rfl) rfl (lv_at hl 0 rfl) ?_
        obtain ⟨g15, hf⟩ := gif hf
        refine zlast (ci := 9) (k := 1) hx hb hK rfl hZ12 hS12 g8.1 g8.2 rfl (Nat.le_of_ble_eq_true rfl) g15.1 g15.2 (D_80 W_prog_11_method_3_code_64 0 rfl rfl) (fun H16 locs16 hZ16 hS16 => ?_)
        refine lv_iconst (v := iI 0) hx hb (D_3 W_prog_11_method_3_code_64 1 rfl rfl) rfl ?_
        refine lv_istore (lv' := [(5, .int (iI 0)), (3, .long (lI r12)), (2, .int (iI l2)), (0, .ref (ad 9 l0 0)), (1, .ref (ad 6 l1 0))]) hx hb (D_54 W_prog_11_method_3_code_64 2 rfl rfl) hl (by decide) rfl (fun ls hl => ?_)
        exact b_Study_findMoments_68 X ih hf hZ16 hS16 (lv_sub hl [0, 1, 2, 3, 4] rfl)
      · replace hf := gneg hf h14
        cases hf
        exact W.vret hx hb hr (fun t ht hW => ⟨⟨(), rfl, trivial, by rw [ht]; exact hZ12, va_K.moved hW.alike hK⟩, hS12.F ht⟩) hS12.2.2 (D_177 W_prog_11_method_3_code_32 25 rfl rfl) hlk

def f_Study_findMoments_7 (K : zK) : Nat → Int → Int → Int → zF → zB → zO
  | 0, _, _, _, _, _ => none
  | n + 1, l2, l0, l1, F, B => if r32 l2 then (if 4 ≤ l2 then f_Study_findMoments_29 K K.1 0 l0 l1 F B else if 0 ≤ l0 ∧ l0 < K.2 9 then if 0 ≤ l2 ∧ l2 < 4 then f_Study_findMoments_7 K n (l2 + 1) l0 l1 F (zup4 B 9 l0 (280 + l2.toNat) 0 (-1)) else none else none) else none
set_option maxHeartbeats 4000000 in
set_option maxRecDepth 100000 in
theorem b_Study_findMoments_7 {D : va_G} {ca : Nat → ClassId} {ad : Nat → Int → Nat → Nat} {L : List Nat} {aS vS : Nat → Nat} {A : Nat → Prop} {p : Program} {l : Launch} {e : Env} {s : State} {m : MethodId} {args : Array Value} {below : List Frame} {meth : Method} {c : Code} {K : zK} {r : Int} {F9 : zF} {B9 : zB} (X : zX D ca L aS vS A p s m args meth c prog_11_method_3_code 9 (Option.none : Option Jvm.ClassFile.FieldType) "StaveHouse$Study") : ∀ {n : Nat} {l2 : Int} {l0 : Int} {l1 : Int} {F : zF} {B : zB} {H : Heap} {locs : List Loc} {ls : Array Slot}, f_Study_findMoments_7 K n l2 l0 l1 F B = some (r, F9, B9) → zH D ca ad lnC K.2 L F B A H → va_S A s.heap H locs → lv_has ls 9 [(2, .int (iI l2)), (0, .ref (ad 9 l0 0)), (1, .ref (ad 6 l1 0))] → W p l e ({ frames := 1, cells := 0, slots := 0, locals := 27 } : Room) s m args below meth c H locs 0 0 (MQ below (Q_Study_findMoments K D ca ad L r F9 B9 A) args s 0 0 A) (F0 m 7 ls []) := by
  obtain ⟨hx, hb, hr, hml, hown, hts, hlk, hK, hA, hL, hX⟩ := id X
  intro n
  induction n with
  | zero =>
    intros
    rename_i hf _ _ _
    cases hf
  | succ n ih =>
    intro l2 l0 l1 F B H locs ls hf hZ hS hl
    replace hf : (if r32 l2 then (if 4 ≤ l2 then f_Study_findMoments_29 K K.1 0 l0 l1 F B else if 0 ≤ l0 ∧ l0 < K.2 9 then if 0 ≤ l2 ∧ l2 < 4 then f_Study_findMoments_7 K n (l2 + 1) l0 l1 F (zup4 B 9 l0 (280 + l2.toNat) 0 (-1)) else none else none) else none) = some (r, F9, B9) := hf
    refine lv_iload_n hx hb (D_28 W_prog_11_method_3_code_0 7 rfl rfl) rfl (lv_at hl 0 rfl) ?_
    refine lv_iconst (v := iI 4) hx hb (D_7 W_prog_11_method_3_code_0 8 rfl rfl) rfl ?_
    obtain ⟨g3, hf⟩ := gif hf
    refine zge (tgt := 27) hx hb g3 (by decide) (D_162 W_prog_11_method_3_code_0 9 rfl rfl rfl) (by decide) (fun h4 => ?_) (fun h4 => ?_)
    · replace hf := gpos hf h4
      refine lv_iconst (v := iI 0) hx hb (D_3 W_prog_11_method_3_code_0 27 rfl rfl) rfl ?_
      refine lv_istore_n (lv' := [(2, .int (iI 0)), (0, .ref (ad 9 l0 0)), (1, .ref (ad 6 l1 0))]) hx hb (D_61 W_prog_11_method_3_code_0 28 rfl rfl) rfl hl (by decide) rfl (fun ls hl => ?_)
      exact b_Study_findMoments_29 X hf hZ hS (lv_sub hl [0, 1, 2] rfl)
    · replace hf := gneg hf h4
      refine lv_aload_n hx hb (D_42 W_prog_11_method_3_code_0 12 rfl rfl) rfl (lv_at hl 1 rfl) ?_
      obtain ⟨g5, hf⟩ := gif hf
      refine zget (ci := 9) (C := RX9) (T := TX9) (v := .ref (ad 9 l0 (4 + 1))) (k := 4) hx hb hts inW_9 hown hK hZ g5.1 g5.2 rfl (by decide) k_5_205 rfl (D_180 W_prog_11_method_3_code_0 13 rfl rfl rfl) ?_
      refine lv_iload_n hx hb (D_28 W_prog_11_method_3_code_0 16 rfl rfl) rfl (lv_at hl 0 rfl) ?_
      obtain ⟨g6, hf⟩ := gif hf
      refine zaldQ (t := 0) (ci := 9) (k := 4) hx hb hK rfl hZ g5.1 g5.2 rfl (Nat.le_of_ble_eq_true rfl) g6.1 g6.2 (D_50 W_prog_11_method_3_code_0 17 rfl rfl) ?_
      refine W.eq (g2 := F0 m 18 ls [.ref (ad 9 l0 (280 + l2.toNat + 1))]) rfl ?_
      refine lv_iconst (v := iI 0) hx hb (D_3 W_prog_11_method_3_code_0 18 rfl rfl) rfl ?_
      refine lv_iconst (v := iI (-1)) hx hb (D_2 W_prog_11_method_3_code_0 19 rfl rfl) rfl ?_
      refine zast (ci := 9) (k := (280 + l2.toNat)) hx hb hK rfl hZ hS g5.1 g5.2 (zkq (c := 9) (b := 280) (n := 4) (t := 0) (by decide) g6.1 g6.2) (lnq_le (c := 9) (b := 280) (n := 4) (m := 800) (by decide) (by decide) (by decide) g6.1 g6.2) (by decide) (lnq_lt (c := 9) (b := 280) (n := 4) (m := 800) (by decide) (by decide) g6.1 g6.2 (show (0 : Int) < 800 by decide)) (D_79 W_prog_11_method_3_code_0 20 rfl rfl) (fun H7 locs7 hZ7 hS7 => ?_)
      refine lv_iinc (v := iI (l2 + 1)) (lv' := [(2, .int (iI (l2 + 1))), (0, .ref (ad 9 l0 0)), (1, .ref (ad 6 l1 0))]) hx hb d_11_3_21 hl (k := 0) rfl (iI_add _ 1) (by decide) rfl (fun ls hl => ?_)
      refine lv_goto (tgt := 7) hx hb (D_167 W_prog_11_method_3_code_0 24 rfl rfl rfl) (by decide) ?_
      exact ih hf hZ7 hS7 (lv_sub hl [0, 1, 2] rfl)

def f_Study_findMoments (K : zK) (l0 : Int) (l1 : Int) (F : zF) (B : zB) : zO := if 0 ≤ l0 ∧ l0 < K.2 9 then f_Study_findMoments_7 K K.1 0 l0 l1 (zup3 F 9 l0 0 0) B else none
set_option maxHeartbeats 4000000 in
set_option maxRecDepth 100000 in
theorem c_Study_findMoments {l : Launch} {D : va_G} {ca : Nat → ClassId} {ad : Nat → Int → Nat → Nat} {L : List Nat} {aS vS : Nat → Nat} {sz : Nat} {K : zK}  {l0 : Int} {l1 : Int} {F F9 : zF} {B B9 : zB} {r : Int} (hf : f_Study_findMoments K l0 l1 F B = some (r, F9, B9)) : Met l ({ cls := "StaveHouse$Study", name := "findMoments", desc := "(LStaveHouse$Piece;)V" } : Jvm.MethodName) (Cond.code ({ cls := "StaveHouse$Study", name := "findMoments", desc := "(LStaveHouse$Piece;)V" } : Jvm.MethodName) prog_11_method_3_code 9 (Option.none : Option Jvm.ClassFile.FieldType) :: wAll) ({ frames := 1, cells := 0, slots := 0, locals := 27 } : Room) (va_Pc [.ref (ad 9 l0 0), .ref (ad 6 l1 0)] (zPre D ca ad lnC K.2 L aS vS F B sz)) (Q_Study_findMoments K D ca ad L r F9 B9 (zA L sz)) 0 0 (zA L sz) := by
  refine zMet (Qc := Q_Study_findMoments K D ca ad L r F9 B9) (lv := [(0, .ref (ad 9 l0 0)), (1, .ref (ad 6 l1 0))]) (by decide) (Nat.le_of_ble_eq_true rfl) rfl (fun A p e s m below meth c ls X hZ hS hl => ?_)
  obtain ⟨hx, hb, hr, hml, hown, hts, hlk, hK, hA, hL, hX⟩ := id X
  replace hf : (if 0 ≤ l0 ∧ l0 < K.2 9 then f_Study_findMoments_7 K K.1 0 l0 l1 (zup3 F 9 l0 0 0) B else none) = some (r, F9, B9) := hf
  refine lv_aload_n hx hb (D_42 W_prog_11_method_3_code_0 0 rfl rfl) rfl (lv_at hl 0 rfl) ?_
  refine lv_iconst (v := iI 0) hx hb (D_3 W_prog_11_method_3_code_0 1 rfl rfl) rfl ?_
  obtain ⟨g1, hf⟩ := gif hf
  refine zput (ci := 9) (C := RX9) (T := TX9) (k := 0) (v := 0) (w := .int (iI 0)) hx hb hts inW_9 tyX9 tyX9_ok nmX9 hown hK hZ hS g1.1 g1.2 rfl (by decide) k_5_197 rfl (fun G h => congrArg (fun q => Value.int (iI q)) h) rfl rfl (zno (by decide)) (D_181 W_prog_11_method_3_code_0 2 rfl rfl rfl) (fun H2 locs2 hZ2 hS2 => ?_)
  refine lv_iconst (v := iI 0) hx hb (D_3 W_prog_11_method_3_code_0 5 rfl rfl) rfl ?_
  refine lv_istore_n (lv' := [(2, .int (iI 0)), (0, .ref (ad 9 l0 0)), (1, .ref (ad 6 l1 0))]) hx hb (D_61 W_prog_11_method_3_code_0 6 rfl rfl) rfl hl (by decide) rfl (fun ls hl => ?_)
  exact b_Study_findMoments_7 X hf hZ2 hS2 (lv_sub hl [0, 1, 2] rfl)

