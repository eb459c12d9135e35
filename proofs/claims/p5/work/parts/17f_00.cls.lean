theorem k_1_190 : (Jvm.Cond.fieldLink "StaveHouse$Walker" (24 : Nat) "StaveHouse$Walker" "tree" "LStaveHouse$Parser;") ∈ wAll := wA_1 (j := 190) rfl rfl
theorem k_1_193 : (Jvm.Cond.fieldLink "StaveHouse$Walker" (36 : Nat) "StaveHouse$Walker" "gone" "I") ∈ wAll := wA_1 (j := 193) rfl rfl
theorem k_1_123 : (Jvm.Cond.fieldLink "StaveHouse$Walker" (188 : Nat) "StaveHouse$Parser" "pitchSteps" "[I") ∈ wAll := wA_1 (j := 123) rfl rfl
theorem k_1_208 : (Jvm.Cond.fieldLink "StaveHouse$Walker" (78 : Nat) "StaveHouse$Walker" "carries" "I") ∈ wAll := wA_1 (j := 208) rfl rfl
theorem k_1_205 : (Jvm.Cond.fieldLink "StaveHouse$Walker" (15 : Nat) "StaveHouse$Walker" "carrySigns" "[I") ∈ wAll := wA_1 (j := 205) rfl rfl
theorem k_1_206 : (Jvm.Cond.fieldLink "StaveHouse$Walker" (18 : Nat) "StaveHouse$Walker" "carrySteps" "[I") ∈ wAll := wA_1 (j := 206) rfl rfl
theorem k_1_207 : (Jvm.Cond.fieldLink "StaveHouse$Walker" (21 : Nat) "StaveHouse$Walker" "carryTones" "[I") ∈ wAll := wA_1 (j := 207) rfl rfl
theorem k_2_39 : (Jvm.Cond.fieldLink "StaveHouse$Part" (42 : Nat) "StaveHouse$Event" "marks" "I") ∈ wAll := wA_2 (j := 39) rfl rfl
theorem k_5_89 : (Jvm.Cond.methodLink "StaveHouse" (361 : Nat) ({ cls := "java/lang/Math", name := "max", desc := "(II)I" } : Jvm.MethodName)) ∈ wAll := wA_5 (j := 89) rfl rfl
theorem k_4_152 : (Jvm.Cond.fieldLink "StaveHouse$Part" (26 : Nat) "StaveHouse$Part" "known" "[I") ∈ wAll := wA_4 (j := 152) rfl rfl
theorem k_5_197 : (Jvm.Cond.fieldLink "StaveHouse$Study" (51 : Nat) "StaveHouse$Study" "moments" "I") ∈ wAll := wA_5 (j := 197) rfl rfl
theorem k_5_199 : (Jvm.Cond.fieldLink "StaveHouse$Study" (9 : Nat) "StaveHouse$Study" "places" "[J") ∈ wAll := wA_5 (j := 199) rfl rfl
theorem k_6_3 : (Jvm.Cond.methodLink "StaveHouse$Study" (67 : Nat) ({ cls := "java/lang/Math", name := "max", desc := "(II)I" } : Jvm.MethodName)) ∈ wAll := wA_6 (j := 3) rfl rfl
theorem k_5_126 : (Jvm.Cond.instanceMethod ({ cls := "StaveHouse$Part", name := "isTiedFrom", desc := "(II)Z" } : Jvm.MethodName)) ∈ wAll := wA_5 (j := 126) rfl rfl
theorem k_5_127 : (Jvm.Cond.selects "StaveHouse$Part" ({ cls := "StaveHouse$Part", name := "isTiedFrom", desc := "(II)Z" } : Jvm.MethodName) ({ cls := "StaveHouse$Part", name := "isTiedFrom", desc := "(II)Z" } : Jvm.MethodName)) ∈ wAll := wA_5 (j := 127) rfl rfl
theorem k_5_128 : (Jvm.Cond.code ({ cls := "StaveHouse$Part", name := "isTiedFrom", desc := "(II)Z" } : Jvm.MethodName) prog_6_method_8_code (4 : Nat) (Option.some Jvm.ClassFile.FieldType.boolean)) ∈ wAll := wA_5 (j := 128) rfl rfl
theorem k_3_181 : (Jvm.Cond.methodLink "StaveHouse$Parser" (170 : Nat) ({ cls := "StaveHouse$Parser", name := "isName", desc := "()Z" } : Jvm.MethodName)) ∈ wAll := wA_3 (j := 181) rfl rfl
theorem k_3_183 : (Jvm.Cond.instanceMethod ({ cls := "StaveHouse$Parser", name := "isName", desc := "()Z" } : Jvm.MethodName)) ∈ wAll := wA_3 (j := 183) rfl rfl
theorem ks_6 : (Jvm.Cond.selects "StaveHouse$Parser" ({ cls := "StaveHouse$Parser", name := "isName", desc := "()Z" } : Jvm.MethodName) ({ cls := "StaveHouse$Parser", name := "isName", desc := "()Z" } : Jvm.MethodName)) ∈ wAll := wA_s (j := 6) rfl rfl
theorem k_3_184 : (Jvm.Cond.code ({ cls := "StaveHouse$Parser", name := "isName", desc := "()Z" } : Jvm.MethodName) prog_5_method_12_code (3 : Nat) (Option.some Jvm.ClassFile.FieldType.boolean)) ∈ wAll := wA_3 (j := 184) rfl rfl
theorem k_3_200 : (Jvm.Cond.methodLink "StaveHouse$Parser" (177 : Nat) ({ cls := "StaveHouse$Parser", name := "letNamed", desc := "(J)I" } : Jvm.MethodName)) ∈ wAll := wA_3 (j := 200) rfl rfl
theorem k_3_202 : (Jvm.Cond.instanceMethod ({ cls := "StaveHouse$Parser", name := "letNamed", desc := "(J)I" } : Jvm.MethodName)) ∈ wAll := wA_3 (j := 202) rfl rfl
theorem ks_8 : (Jvm.Cond.selects "StaveHouse$Parser" ({ cls := "StaveHouse$Parser", name := "letNamed", desc := "(J)I" } : Jvm.MethodName) ({ cls := "StaveHouse$Parser", name := "letNamed", desc := "(J)I" } : Jvm.MethodName)) ∈ wAll := wA_s (j := 8) rfl rfl
theorem k_3_203 : (Jvm.Cond.code ({ cls := "StaveHouse$Parser", name := "letNamed", desc := "(J)I" } : Jvm.MethodName) prog_5_method_10_code (4 : Nat) (Option.some Jvm.ClassFile.FieldType.int)) ∈ wAll := wA_3 (j := 203) rfl rfl
theorem k_4_65 : (Jvm.Cond.methodLink "StaveHouse" (341 : Nat) ({ cls := "java/lang/Math", name := "floorDiv", desc := "(II)I" } : Jvm.MethodName)) ∈ wAll := wA_4 (j := 65) rfl rfl
theorem k_4_68 : (Jvm.Cond.fieldLink "StaveHouse" (346 : Nat) "StaveHouse" "NATURAL_TONES" "[I") ∈ wAll := wA_4 (j := 68) rfl rfl
theorem k_4_64 : (Jvm.Cond.code ({ cls := "StaveHouse", name := "naturalTone", desc := "(I)I" } : Jvm.MethodName) prog_1_method_37_code (1 : Nat) (Option.some Jvm.ClassFile.FieldType.int)) ∈ wAll := wA_4 (j := 64) rfl rfl
theorem k_4_63 : (Jvm.Cond.static ({ cls := "StaveHouse", name := "naturalTone", desc := "(I)I" } : Jvm.MethodName)) ∈ wAll := wA_4 (j := 63) rfl rfl
theorem k_2_197 : (Jvm.Cond.fieldLink "StaveHouse$Parser" (156 : Nat) "StaveHouse$Piece" "fifths" "I") ∈ wAll := wA_2 (j := 197) rfl rfl
theorem k_4_85 : (Jvm.Cond.constantLong "StaveHouse$Parser" (159 : Nat) (469920280434 : Int64)) ∈ wAll := wA_4 (j := 85) rfl rfl
theorem k_2_203 : (Jvm.Cond.fieldLink "StaveHouse$Parser" (161 : Nat) "StaveHouse$Piece" "minor" "I") ∈ wAll := wA_2 (j := 203) rfl rfl
theorem k_4_86 : (Jvm.Cond.constantLong "StaveHouse$Parser" (164 : Nat) (469785800562 : Int64)) ∈ wAll := wA_4 (j := 86) rfl rfl
theorem k_2_208 : (Jvm.Cond.fieldLink "StaveHouse$Parser" (143 : Nat) "StaveHouse$Piece" "above" "I") ∈ wAll := wA_2 (j := 208) rfl rfl
theorem k_2_213 : (Jvm.Cond.fieldLink "StaveHouse$Parser" (150 : Nat) "StaveHouse$Piece" "below" "I") ∈ wAll := wA_2 (j := 213) rfl rfl
theorem k_4_204 : (Jvm.Cond.methodLink "StaveHouse$Walker" (108 : Nat) ({ cls := "StaveHouse$Walker", name := "refuse", desc := "(II)V" } : Jvm.MethodName)) ∈ wAll := wA_4 (j := 204) rfl rfl
theorem k_4_206 : (Jvm.Cond.instanceMethod ({ cls := "StaveHouse$Walker", name := "refuse", desc := "(II)V" } : Jvm.MethodName)) ∈ wAll := wA_4 (j := 206) rfl rfl
theorem ks_36 : (Jvm.Cond.selects "StaveHouse$Walker" ({ cls := "StaveHouse$Walker", name := "refuse", desc := "(II)V" } : Jvm.MethodName) ({ cls := "StaveHouse$Walker", name := "refuse", desc := "(II)V" } : Jvm.MethodName)) ∈ wAll := wA_s (j := 36) rfl rfl
theorem k_1_6 : (Jvm.Cond.initialized "StaveHouse$Walker") ∈ wAll := wA_1 (j := 6) rfl rfl
theorem k_4_207 : (Jvm.Cond.code ({ cls := "StaveHouse$Walker", name := "refuse", desc := "(II)V" } : Jvm.MethodName) prog_13_method_3_code (3 : Nat) (Option.none : Option Jvm.ClassFile.FieldType)) ∈ wAll := wA_4 (j := 207) rfl rfl
theorem k_1_125 : (Jvm.Cond.fieldLink "StaveHouse$Walker" (194 : Nat) "StaveHouse$Parser" "pitchAlterations" "[I") ∈ wAll := wA_1 (j := 125) rfl rfl
theorem k_4_228 : (Jvm.Cond.methodLink "StaveHouse$Walker" (197 : Nat) ({ cls := "java/lang/Math", name := "abs", desc := "(I)I" } : Jvm.MethodName)) ∈ wAll := wA_4 (j := 228) rfl rfl
theorem k_4_231 : (Jvm.Cond.methodLink "StaveHouse$Walker" (202 : Nat) ({ cls := "StaveHouse$Event", name := "insert", desc := "(II)Z" } : Jvm.MethodName)) ∈ wAll := wA_4 (j := 231) rfl rfl
theorem k_1_127 : (Jvm.Cond.fieldLink "StaveHouse$Walker" (206 : Nat) "StaveHouse$Parser" "pitchPlaces" "[I") ∈ wAll := wA_1 (j := 127) rfl rfl
theorem k_5_45 : (Jvm.Cond.methodLink "StaveHouse$Event" (29 : Nat) ({ cls := "StaveHouse$Event", name := "hasPitch", desc := "(II)Z" } : Jvm.MethodName)) ∈ wAll := wA_5 (j := 45) rfl rfl
theorem k_5_67 : (Jvm.Cond.methodLink "StaveHouse" (358 : Nat) ({ cls := "StaveHouse", name := "fineValue", desc := "(I)I" } : Jvm.MethodName)) ∈ wAll := wA_5 (j := 67) rfl rfl
theorem k_5_68 : (Jvm.Cond.static ({ cls := "StaveHouse", name := "fineValue", desc := "(I)I" } : Jvm.MethodName)) ∈ wAll := wA_5 (j := 68) rfl rfl
theorem k_5_69 : (Jvm.Cond.code ({ cls := "StaveHouse", name := "fineValue", desc := "(I)I" } : Jvm.MethodName) prog_1_method_40_code (1 : Nat) (Option.some Jvm.ClassFile.FieldType.int)) ∈ wAll := wA_5 (j := 69) rfl rfl
theorem k_5_90 : (Jvm.Cond.methodLink "StaveHouse" (364 : Nat) ({ cls := "StaveHouse", name := "beatCount", desc := "(II)I" } : Jvm.MethodName)) ∈ wAll := wA_5 (j := 90) rfl rfl
theorem k_5_93 : (Jvm.Cond.methodLink "StaveHouse" (367 : Nat) ({ cls := "StaveHouse", name := "strength", desc := "(IIII)I" } : Jvm.MethodName)) ∈ wAll := wA_5 (j := 93) rfl rfl
theorem k_5_94 : (Jvm.Cond.static ({ cls := "StaveHouse", name := "strength", desc := "(IIII)I" } : Jvm.MethodName)) ∈ wAll := wA_5 (j := 94) rfl rfl
theorem k_5_95 : (Jvm.Cond.code ({ cls := "StaveHouse", name := "strength", desc := "(IIII)I" } : Jvm.MethodName) prog_1_method_43_code (5 : Nat) (Option.some Jvm.ClassFile.FieldType.int)) ∈ wAll := wA_5 (j := 95) rfl rfl
theorem k_5_99 : (Jvm.Cond.methodLink "StaveHouse" (375 : Nat) ({ cls := "StaveHouse", name := "greatestValue", desc := "(I)I" } : Jvm.MethodName)) ∈ wAll := wA_5 (j := 99) rfl rfl
theorem k_5_65 : (Jvm.Cond.static ({ cls := "StaveHouse", name := "greatestValue", desc := "(I)I" } : Jvm.MethodName)) ∈ wAll := wA_5 (j := 65) rfl rfl
theorem k_5_66 : (Jvm.Cond.code ({ cls := "StaveHouse", name := "greatestValue", desc := "(I)I" } : Jvm.MethodName) prog_1_method_41_code (2 : Nat) (Option.some Jvm.ClassFile.FieldType.int)) ∈ wAll := wA_5 (j := 66) rfl rfl
theorem k_5_96 : (Jvm.Cond.methodLink "StaveHouse" (371 : Nat) ({ cls := "StaveHouse", name := "strengthBetween", desc := "(IIIII)I" } : Jvm.MethodName)) ∈ wAll := wA_5 (j := 96) rfl rfl
theorem k_5_97 : (Jvm.Cond.static ({ cls := "StaveHouse", name := "strengthBetween", desc := "(IIIII)I" } : Jvm.MethodName)) ∈ wAll := wA_5 (j := 97) rfl rfl
theorem k_5_98 : (Jvm.Cond.code ({ cls := "StaveHouse", name := "strengthBetween", desc := "(IIIII)I" } : Jvm.MethodName) prog_1_method_44_code (7 : Nat) (Option.some Jvm.ClassFile.FieldType.int)) ∈ wAll := wA_5 (j := 98) rfl rfl
theorem k_5_125 : (Jvm.Cond.methodLink "StaveHouse$Part" (203 : Nat) ({ cls := "StaveHouse$Part", name := "isTiedFrom", desc := "(II)Z" } : Jvm.MethodName)) ∈ wAll := wA_5 (j := 125) rfl rfl
theorem k_5_157 : (Jvm.Cond.methodLink "StaveHouse$Part" (221 : Nat) ({ cls := "StaveHouse$Part", name := "beamsWith", desc := "(IIJ)Z" } : Jvm.MethodName)) ∈ wAll := wA_5 (j := 157) rfl rfl
theorem k_5_159 : (Jvm.Cond.instanceMethod ({ cls := "StaveHouse$Part", name := "beamsWith", desc := "(IIJ)Z" } : Jvm.MethodName)) ∈ wAll := wA_5 (j := 159) rfl rfl
theorem ks_63 : (Jvm.Cond.selects "StaveHouse$Part" ({ cls := "StaveHouse$Part", name := "beamsWith", desc := "(IIJ)Z" } : Jvm.MethodName) ({ cls := "StaveHouse$Part", name := "beamsWith", desc := "(IIJ)Z" } : Jvm.MethodName)) ∈ wAll := wA_s (j := 63) rfl rfl
theorem k_5_160 : (Jvm.Cond.code ({ cls := "StaveHouse$Part", name := "beamsWith", desc := "(IIJ)Z" } : Jvm.MethodName) prog_6_method_23_code (5 : Nat) (Option.some Jvm.ClassFile.FieldType.boolean)) ∈ wAll := wA_5 (j := 160) rfl rfl
theorem k_5_161 : (Jvm.Cond.methodLink "StaveHouse$Part" (225 : Nat) ({ cls := "java/lang/Math", name := "min", desc := "(II)I" } : Jvm.MethodName)) ∈ wAll := wA_5 (j := 161) rfl rfl
theorem k_6_4 : (Jvm.Cond.methodLink "StaveHouse$Study" (73 : Nat) ({ cls := "StaveHouse$Study", name := "nextPlace", desc := "(LStaveHouse$Piece;I)J" } : Jvm.MethodName)) ∈ wAll := wA_6 (j := 4) rfl rfl
theorem k_6_6 : (Jvm.Cond.instanceMethod ({ cls := "StaveHouse$Study", name := "nextPlace", desc := "(LStaveHouse$Piece;I)J" } : Jvm.MethodName)) ∈ wAll := wA_6 (j := 6) rfl rfl
theorem ks_67 : (Jvm.Cond.selects "StaveHouse$Study" ({ cls := "StaveHouse$Study", name := "nextPlace", desc := "(LStaveHouse$Piece;I)J" } : Jvm.MethodName) ({ cls := "StaveHouse$Study", name := "nextPlace", desc := "(LStaveHouse$Piece;I)J" } : Jvm.MethodName)) ∈ wAll := wA_s (j := 67) rfl rfl
theorem k_6_7 : (Jvm.Cond.code ({ cls := "StaveHouse$Study", name := "nextPlace", desc := "(LStaveHouse$Piece;I)J" } : Jvm.MethodName) prog_11_method_4_code (8 : Nat) (Option.some Jvm.ClassFile.FieldType.long)) ∈ wAll := wA_6 (j := 7) rfl rfl
theorem W_prog_5_method_18_code_0 : chW prog_5_method_18_code 0 [42, 89, 180, 0, 72, 4, 100, 181, 0, 72, 42, 27, 182, 0, 146, 172] := chW_of (by decide +kernel)
theorem d_5_18_0 : decode prog_5_method_18_code 0 = .ok (.aload_n 0, 1) := D_42 W_prog_5_method_18_code_0 0 rfl rfl
theorem d_5_18_1 : decode prog_5_method_18_code 1 = .ok (.dup, 1) := D_89 W_prog_5_method_18_code_0 1 rfl rfl
theorem d_5_18_2 : decode prog_5_method_18_code 2 = .ok (.getfield 72, 3) := D_180 W_prog_5_method_18_code_0 2 rfl rfl rfl
theorem d_5_18_5 : decode prog_5_method_18_code 5 = .ok (.iconst 1, 1) := D_4 W_prog_5_method_18_code_0 5 rfl rfl
theorem d_5_18_6 : decode prog_5_method_18_code 6 = .ok (.isub, 1) := D_100 W_prog_5_method_18_code_0 6 rfl rfl
theorem d_5_18_7 : decode prog_5_method_18_code 7 = .ok (.putfield 72, 3) := D_181 W_prog_5_method_18_code_0 7 rfl rfl rfl
theorem d_5_18_10 : decode prog_5_method_18_code 10 = .ok (.aload_n 0, 1) := D_42 W_prog_5_method_18_code_0 10 rfl rfl
theorem d_5_18_11 : decode prog_5_method_18_code 11 = .ok (.iload_n 1, 1) := D_27 W_prog_5_method_18_code_0 11 rfl rfl
theorem d_5_18_12 : decode prog_5_method_18_code 12 = .ok (.invokevirtual 146, 3) := D_182 W_prog_5_method_18_code_0 12 rfl rfl rfl
theorem W_prog_5_method_33_code_0 : chW prog_5_method_33_code 0 [42, 182, 0, 170, 154, 0, 9, 42, 5, 182, 0, 101, 172, 42, 42, 180, 0, 48, 180, 0, 173, 182, 0, 177, 61, 28, 2, 160, 0, 9, 42, 7, 182, 0, 101, 172] := chW_of (by decide +kernel)
theorem d_5_33_0 : decode prog_5_method_33_code 0 = .ok (.aload_n 0, 1) := D_42 W_prog_5_method_33_code_0 0 rfl rfl
theorem d_5_33_1 : decode prog_5_method_33_code 1 = .ok (.invokevirtual 170, 3) := D_182 W_prog_5_method_33_code_0 1 rfl rfl rfl
theorem W_prog_1_method_37_code_0 : chW prog_1_method_37_code 0 [16, 12, 26, 16, 7, 184, 1, 85, 4, 96, 104, 178, 1, 90, 26, 16, 7, 184, 1, 93, 46, 96, 172] := chW_of (by decide +kernel)
theorem d_1_37_0 : decode prog_1_method_37_code 0 = .ok (.bipush 12, 2) := D_16 W_prog_1_method_37_code_0 0 rfl rfl rfl
theorem d_1_37_2 : decode prog_1_method_37_code 2 = .ok (.iload_n 0, 1) := D_26 W_prog_1_method_37_code_0 2 rfl rfl
theorem d_1_37_3 : decode prog_1_method_37_code 3 = .ok (.bipush 7, 2) := D_16 W_prog_1_method_37_code_0 3 rfl rfl rfl
theorem d_1_37_5 : decode prog_1_method_37_code 5 = .ok (.invokestatic 341, 3) := D_184 W_prog_1_method_37_code_0 5 rfl rfl rfl
theorem W_prog_5_method_8_code_0 : chW prog_5_method_8_code 0 [42, 180, 0, 48, 16, 45, 182, 0, 153, 61, 28, 153, 0, 10, 42, 180, 0, 48, 182, 0, 122, 42, 3, 16, 7, 3, 182, 0, 131, 154, 0, 5, 3, 172, 43, 28] := chW_of (by decide +kernel)
theorem d_5_8_0 : decode prog_5_method_8_code 0 = .ok (.aload_n 0, 1) := D_42 W_prog_5_method_8_code_0 0 rfl rfl
theorem d_5_8_1 : decode prog_5_method_8_code 1 = .ok (.getfield 48, 3) := D_180 W_prog_5_method_8_code_0 1 rfl rfl rfl
theorem d_5_8_4 : decode prog_5_method_8_code 4 = .ok (.bipush 45, 2) := D_16 W_prog_5_method_8_code_0 4 rfl rfl rfl
theorem d_5_8_6 : decode prog_5_method_8_code 6 = .ok (.invokevirtual 153, 3) := D_182 W_prog_5_method_8_code_0 6 rfl rfl rfl
theorem d_5_8_9 : decode prog_5_method_8_code 9 = .ok (.istore_n 2, 1) := D_61 W_prog_5_method_8_code_0 9 rfl rfl
theorem d_5_8_10 : decode prog_5_method_8_code 10 = .ok (.iload_n 2, 1) := D_28 W_prog_5_method_8_code_0 10 rfl rfl
theorem d_5_8_11 : decode prog_5_method_8_code 11 = .ok (.ifCond .eq 10, 3) := D_153 W_prog_5_method_8_code_0 11 rfl rfl rfl
theorem d_5_8_14 : decode prog_5_method_8_code 14 = .ok (.aload_n 0, 1) := D_42 W_prog_5_method_8_code_0 14 rfl rfl
theorem d_5_8_15 : decode prog_5_method_8_code 15 = .ok (.getfield 48, 3) := D_180 W_prog_5_method_8_code_0 15 rfl rfl rfl
theorem d_5_8_18 : decode prog_5_method_8_code 18 = .ok (.invokevirtual 122, 3) := D_182 W_prog_5_method_8_code_0 18 rfl rfl rfl
theorem d_5_8_21 : decode prog_5_method_8_code 21 = .ok (.aload_n 0, 1) := D_42 W_prog_5_method_8_code_0 21 rfl rfl
theorem d_5_8_22 : decode prog_5_method_8_code 22 = .ok (.iconst 0, 1) := D_3 W_prog_5_method_8_code_0 22 rfl rfl
theorem d_5_8_23 : decode prog_5_method_8_code 23 = .ok (.bipush 7, 2) := D_16 W_prog_5_method_8_code_0 23 rfl rfl rfl
theorem d_5_8_25 : decode prog_5_method_8_code 25 = .ok (.iconst 0, 1) := D_3 W_prog_5_method_8_code_0 25 rfl rfl
theorem d_5_8_26 : decode prog_5_method_8_code 26 = .ok (.invokevirtual 131, 3) := D_182 W_prog_5_method_8_code_0 26 rfl rfl rfl
theorem W_prog_5_method_7_code_0 : chW prog_5_method_7_code 0 [42, 4, 16, 12, 3, 182, 0, 131, 154, 0, 5, 3, 172, 43, 42, 180, 0, 135, 181, 0, 143, 42, 16, 47, 182, 0, 146, 153, 0, 14, 42, 5, 16, 16, 4, 182] := chW_of (by decide +kernel)
theorem d_5_7_0 : decode prog_5_method_7_code 0 = .ok (.aload_n 0, 1) := D_42 W_prog_5_method_7_code_0 0 rfl rfl
theorem d_5_7_1 : decode prog_5_method_7_code 1 = .ok (.iconst 1, 1) := D_4 W_prog_5_method_7_code_0 1 rfl rfl
theorem d_5_7_2 : decode prog_5_method_7_code 2 = .ok (.bipush 12, 2) := D_16 W_prog_5_method_7_code_0 2 rfl rfl rfl
theorem d_5_7_4 : decode prog_5_method_7_code 4 = .ok (.iconst 0, 1) := D_3 W_prog_5_method_7_code_0 4 rfl rfl
theorem d_5_7_5 : decode prog_5_method_7_code 5 = .ok (.invokevirtual 131, 3) := D_182 W_prog_5_method_7_code_0 5 rfl rfl rfl
theorem W_prog_13_method_5_code_0 : chW prog_13_method_5_code 0 [42, 89, 180, 0, 36, 4, 96, 181, 0, 36, 42, 180, 0, 36, 17, 19, 136, 164, 0, 10, 42, 16, 8, 27, 182, 0, 108, 177] := chW_of (by decide +kernel)
theorem d_13_5_0 : decode prog_13_method_5_code 0 = .ok (.aload_n 0, 1) := D_42 W_prog_13_method_5_code_0 0 rfl rfl
theorem d_13_5_1 : decode prog_13_method_5_code 1 = .ok (.dup, 1) := D_89 W_prog_13_method_5_code_0 1 rfl rfl
theorem d_13_5_2 : decode prog_13_method_5_code 2 = .ok (.getfield 36, 3) := D_180 W_prog_13_method_5_code_0 2 rfl rfl rfl
theorem d_13_5_5 : decode prog_13_method_5_code 5 = .ok (.iconst 1, 1) := D_4 W_prog_13_method_5_code_0 5 rfl rfl
theorem d_13_5_6 : decode prog_13_method_5_code 6 = .ok (.iadd, 1) := D_96 W_prog_13_method_5_code_0 6 rfl rfl
theorem d_13_5_7 : decode prog_13_method_5_code 7 = .ok (.putfield 36, 3) := D_181 W_prog_13_method_5_code_0 7 rfl rfl rfl
theorem d_13_5_10 : decode prog_13_method_5_code 10 = .ok (.aload_n 0, 1) := D_42 W_prog_13_method_5_code_0 10 rfl rfl
theorem d_13_5_11 : decode prog_13_method_5_code 11 = .ok (.getfield 36, 3) := D_180 W_prog_13_method_5_code_0 11 rfl rfl rfl
theorem d_13_5_14 : decode prog_13_method_5_code 14 = .ok (.sipush 5000, 3) := D_17 W_prog_13_method_5_code_0 14 rfl rfl rfl
theorem d_13_5_17 : decode prog_13_method_5_code 17 = .ok (.if_icmp .le 10, 3) := D_164 W_prog_13_method_5_code_0 17 rfl rfl rfl
theorem d_13_5_20 : decode prog_13_method_5_code 20 = .ok (.aload_n 0, 1) := D_42 W_prog_13_method_5_code_0 20 rfl rfl
theorem d_13_5_21 : decode prog_13_method_5_code 21 = .ok (.bipush 8, 2) := D_16 W_prog_13_method_5_code_0 21 rfl rfl rfl
theorem d_13_5_23 : decode prog_13_method_5_code 23 = .ok (.iload_n 1, 1) := D_27 W_prog_13_method_5_code_0 23 rfl rfl
theorem d_13_5_24 : decode prog_13_method_5_code 24 = .ok (.invokevirtual 108, 3) := D_182 W_prog_13_method_5_code_0 24 rfl rfl rfl
theorem W_prog_13_method_14_code_0 : chW prog_13_method_14_code 0 [42, 180, 0, 24, 180, 0, 188, 28, 46, 62, 29, 184, 0, 191, 42, 180, 0, 24, 180, 0, 194, 28, 46, 96, 54, 4, 4, 54, 5, 42, 180, 0, 78, 4, 100, 54] := chW_of (by decide +kernel)
theorem d_13_14_0 : decode prog_13_method_14_code 0 = .ok (.aload_n 0, 1) := D_42 W_prog_13_method_14_code_0 0 rfl rfl
theorem d_13_14_1 : decode prog_13_method_14_code 1 = .ok (.getfield 24, 3) := D_180 W_prog_13_method_14_code_0 1 rfl rfl rfl
theorem d_13_14_4 : decode prog_13_method_14_code 4 = .ok (.getfield 188, 3) := D_180 W_prog_13_method_14_code_0 4 rfl rfl rfl
theorem d_13_14_7 : decode prog_13_method_14_code 7 = .ok (.iload_n 2, 1) := D_28 W_prog_13_method_14_code_0 7 rfl rfl
theorem d_13_14_8 : decode prog_13_method_14_code 8 = .ok (.iaload, 1) := D_46 W_prog_13_method_14_code_0 8 rfl rfl
theorem d_13_14_9 : decode prog_13_method_14_code 9 = .ok (.istore_n 3, 1) := D_62 W_prog_13_method_14_code_0 9 rfl rfl
theorem d_13_14_10 : decode prog_13_method_14_code 10 = .ok (.iload_n 3, 1) := D_29 W_prog_13_method_14_code_0 10 rfl rfl
theorem d_13_14_11 : decode prog_13_method_14_code 11 = .ok (.invokestatic 191, 3) := D_184 W_prog_13_method_14_code_0 11 rfl rfl rfl
theorem W_prog_6_method_3_code_0 : chW prog_6_method_3_code 0 [27, 61, 42, 180, 0, 31, 4, 100, 62, 28, 29, 162, 0, 40, 42, 180, 0, 11, 28, 50, 58, 4, 42, 180, 0, 11, 28, 42, 180, 0, 11, 29, 50, 83, 42, 180] := chW_of (by decide +kernel)
theorem d_6_3_0 : decode prog_6_method_3_code 0 = .ok (.iload_n 1, 1) := D_27 W_prog_6_method_3_code_0 0 rfl rfl
theorem d_6_3_1 : decode prog_6_method_3_code 1 = .ok (.istore_n 2, 1) := D_61 W_prog_6_method_3_code_0 1 rfl rfl
theorem d_6_3_2 : decode prog_6_method_3_code 2 = .ok (.aload_n 0, 1) := D_42 W_prog_6_method_3_code_0 2 rfl rfl
theorem d_6_3_3 : decode prog_6_method_3_code 3 = .ok (.getfield 31, 3) := D_180 W_prog_6_method_3_code_0 3 rfl rfl rfl
theorem d_6_3_6 : decode prog_6_method_3_code 6 = .ok (.iconst 1, 1) := D_4 W_prog_6_method_3_code_0 6 rfl rfl
theorem d_6_3_7 : decode prog_6_method_3_code 7 = .ok (.isub, 1) := D_100 W_prog_6_method_3_code_0 7 rfl rfl
theorem d_6_3_8 : decode prog_6_method_3_code 8 = .ok (.istore_n 3, 1) := D_62 W_prog_6_method_3_code_0 8 rfl rfl
theorem d_6_3_9 : decode prog_6_method_3_code 9 = .ok (.iload_n 2, 1) := D_28 W_prog_6_method_3_code_0 9 rfl rfl
theorem d_6_3_10 : decode prog_6_method_3_code 10 = .ok (.iload_n 3, 1) := D_29 W_prog_6_method_3_code_0 10 rfl rfl
theorem d_6_3_11 : decode prog_6_method_3_code 11 = .ok (.if_icmp .ge 40, 3) := D_162 W_prog_6_method_3_code_0 11 rfl rfl rfl
theorem W_prog_6_method_3_code_32 : chW prog_6_method_3_code 32 [50, 83, 42, 180, 0, 11, 29, 25, 4, 83, 132, 2, 1, 132, 3, 255, 167, 255, 217, 27, 62, 29, 42, 180, 0, 31, 162, 0, 107, 42, 180, 0, 11, 29, 50, 58] := chW_of (by decide +kernel)
theorem d_6_3_51 : decode prog_6_method_3_code 51 = .ok (.iload_n 1, 1) := D_27 W_prog_6_method_3_code_32 19 rfl rfl
theorem d_6_3_52 : decode prog_6_method_3_code 52 = .ok (.istore_n 3, 1) := D_62 W_prog_6_method_3_code_32 20 rfl rfl
theorem d_6_3_14 : decode prog_6_method_3_code 14 = .ok (.aload_n 0, 1) := D_42 W_prog_6_method_3_code_0 14 rfl rfl
theorem d_6_3_15 : decode prog_6_method_3_code 15 = .ok (.getfield 11, 3) := D_180 W_prog_6_method_3_code_0 15 rfl rfl rfl
theorem d_6_3_18 : decode prog_6_method_3_code 18 = .ok (.iload_n 2, 1) := D_28 W_prog_6_method_3_code_0 18 rfl rfl
theorem d_6_3_19 : decode prog_6_method_3_code 19 = .ok (.aaload, 1) := D_50 W_prog_6_method_3_code_0 19 rfl rfl
theorem d_6_3_20 : decode prog_6_method_3_code 20 = .ok (.astore 4, 2) := D_58 W_prog_6_method_3_code_0 20 rfl rfl
theorem d_6_3_22 : decode prog_6_method_3_code 22 = .ok (.aload_n 0, 1) := D_42 W_prog_6_method_3_code_0 22 rfl rfl
theorem d_6_3_23 : decode prog_6_method_3_code 23 = .ok (.getfield 11, 3) := D_180 W_prog_6_method_3_code_0 23 rfl rfl rfl
theorem d_6_3_26 : decode prog_6_method_3_code 26 = .ok (.iload_n 2, 1) := D_28 W_prog_6_method_3_code_0 26 rfl rfl
theorem d_6_3_27 : decode prog_6_method_3_code 27 = .ok (.aload_n 0, 1) := D_42 W_prog_6_method_3_code_0 27 rfl rfl
theorem d_6_3_28 : decode prog_6_method_3_code 28 = .ok (.getfield 11, 3) := D_180 W_prog_6_method_3_code_0 28 rfl rfl rfl
theorem d_6_3_31 : decode prog_6_method_3_code 31 = .ok (.iload_n 3, 1) := D_29 W_prog_6_method_3_code_0 31 rfl rfl
theorem d_6_3_32 : decode prog_6_method_3_code 32 = .ok (.aaload, 1) := D_50 W_prog_6_method_3_code_32 0 rfl rfl
theorem d_6_3_33 : decode prog_6_method_3_code 33 = .ok (.aastore, 1) := D_83 W_prog_6_method_3_code_32 1 rfl rfl
theorem d_6_3_34 : decode prog_6_method_3_code 34 = .ok (.aload_n 0, 1) := D_42 W_prog_6_method_3_code_32 2 rfl rfl
theorem d_6_3_35 : decode prog_6_method_3_code 35 = .ok (.getfield 11, 3) := D_180 W_prog_6_method_3_code_32 3 rfl rfl rfl
theorem d_6_3_38 : decode prog_6_method_3_code 38 = .ok (.iload_n 3, 1) := D_29 W_prog_6_method_3_code_32 6 rfl rfl
theorem d_6_3_39 : decode prog_6_method_3_code 39 = .ok (.aload 4, 2) := D_25 W_prog_6_method_3_code_32 7 rfl rfl
theorem d_6_3_41 : decode prog_6_method_3_code 41 = .ok (.aastore, 1) := D_83 W_prog_6_method_3_code_32 9 rfl rfl
theorem d_6_3_42 : decode prog_6_method_3_code 42 = .ok (.iinc 2 1, 3) := D_132 W_prog_6_method_3_code_32 10 rfl rfl rfl
theorem d_6_3_45 : decode prog_6_method_3_code 45 = .ok (.iinc 3 (-1), 3) := D_132 W_prog_6_method_3_code_32 13 rfl rfl rfl
theorem d_6_3_48 : decode prog_6_method_3_code 48 = .ok (.goto (-39), 3) := D_167 W_prog_6_method_3_code_32 16 rfl rfl rfl
theorem d_6_3_53 : decode prog_6_method_3_code 53 = .ok (.iload_n 3, 1) := D_29 W_prog_6_method_3_code_32 21 rfl rfl
theorem d_6_3_54 : decode prog_6_method_3_code 54 = .ok (.aload_n 0, 1) := D_42 W_prog_6_method_3_code_32 22 rfl rfl
theorem d_6_3_55 : decode prog_6_method_3_code 55 = .ok (.getfield 31, 3) := D_180 W_prog_6_method_3_code_32 23 rfl rfl rfl
theorem d_6_3_58 : decode prog_6_method_3_code 58 = .ok (.if_icmp .ge 107, 3) := D_162 W_prog_6_method_3_code_32 26 rfl rfl rfl
theorem W_prog_6_method_3_code_160 : chW prog_6_method_3_code 160 [3, 1, 167, 255, 147, 177] := chW_of (by decide +kernel)
theorem d_6_3_165 : decode prog_6_method_3_code 165 = .ok (.return_, 1) := D_177 W_prog_6_method_3_code_160 5 rfl rfl
theorem d_6_3_61 : decode prog_6_method_3_code 61 = .ok (.aload_n 0, 1) := D_42 W_prog_6_method_3_code_32 29 rfl rfl
theorem d_6_3_62 : decode prog_6_method_3_code 62 = .ok (.getfield 11, 3) := D_180 W_prog_6_method_3_code_32 30 rfl rfl rfl
theorem W_prog_6_method_3_code_64 : chW prog_6_method_3_code 64 [11, 29, 50, 58, 4, 25, 4, 180, 0, 42, 16, 248, 126, 54, 5, 21, 5, 25, 4, 5, 182, 0, 45, 153, 0, 7, 7, 167, 0, 4, 3, 128, 54, 5, 21, 5] := chW_of (by decide +kernel)
theorem d_6_3_65 : decode prog_6_method_3_code 65 = .ok (.iload_n 3, 1) := D_29 W_prog_6_method_3_code_64 1 rfl rfl
theorem d_6_3_66 : decode prog_6_method_3_code 66 = .ok (.aaload, 1) := D_50 W_prog_6_method_3_code_64 2 rfl rfl
theorem d_6_3_67 : decode prog_6_method_3_code 67 = .ok (.astore 4, 2) := D_58 W_prog_6_method_3_code_64 3 rfl rfl
theorem d_6_3_69 : decode prog_6_method_3_code 69 = .ok (.aload 4, 2) := D_25 W_prog_6_method_3_code_64 5 rfl rfl
theorem d_6_3_71 : decode prog_6_method_3_code 71 = .ok (.getfield 42, 3) := D_180 W_prog_6_method_3_code_64 7 rfl rfl rfl
theorem d_6_3_74 : decode prog_6_method_3_code 74 = .ok (.bipush (-8), 2) := D_16 W_prog_6_method_3_code_64 10 rfl rfl rfl
theorem d_6_3_76 : decode prog_6_method_3_code 76 = .ok (.iand, 1) := D_126 W_prog_6_method_3_code_64 12 rfl rfl
theorem d_6_3_77 : decode prog_6_method_3_code 77 = .ok (.istore 5, 2) := D_54 W_prog_6_method_3_code_64 13 rfl rfl
theorem d_6_3_79 : decode prog_6_method_3_code 79 = .ok (.iload 5, 2) := D_21 W_prog_6_method_3_code_64 15 rfl rfl
theorem d_6_3_81 : decode prog_6_method_3_code 81 = .ok (.aload 4, 2) := D_25 W_prog_6_method_3_code_64 17 rfl rfl
theorem d_6_3_83 : decode prog_6_method_3_code 83 = .ok (.iconst 2, 1) := D_5 W_prog_6_method_3_code_64 19 rfl rfl
theorem d_6_3_84 : decode prog_6_method_3_code 84 = .ok (.invokevirtual 45, 3) := D_182 W_prog_6_method_3_code_64 20 rfl rfl rfl
theorem W_prog_3_method_7_code_0 : chW prog_3_method_7_code 0 [3, 61, 3, 62, 29, 42, 180, 0, 18, 162, 0, 38, 28, 43, 42, 180, 0, 9, 29, 46, 42, 180, 0, 15, 29, 46, 182, 0, 29, 153, 0, 9, 4, 29, 120, 167] := chW_of (by decide +kernel)
theorem d_3_7_0 : decode prog_3_method_7_code 0 = .ok (.iconst 0, 1) := D_3 W_prog_3_method_7_code_0 0 rfl rfl
theorem d_3_7_1 : decode prog_3_method_7_code 1 = .ok (.istore_n 2, 1) := D_61 W_prog_3_method_7_code_0 1 rfl rfl
theorem d_3_7_2 : decode prog_3_method_7_code 2 = .ok (.iconst 0, 1) := D_3 W_prog_3_method_7_code_0 2 rfl rfl
theorem d_3_7_3 : decode prog_3_method_7_code 3 = .ok (.istore_n 3, 1) := D_62 W_prog_3_method_7_code_0 3 rfl rfl
theorem d_3_7_4 : decode prog_3_method_7_code 4 = .ok (.iload_n 3, 1) := D_29 W_prog_3_method_7_code_0 4 rfl rfl
theorem d_3_7_5 : decode prog_3_method_7_code 5 = .ok (.aload_n 0, 1) := D_42 W_prog_3_method_7_code_0 5 rfl rfl
theorem d_3_7_6 : decode prog_3_method_7_code 6 = .ok (.getfield 18, 3) := D_180 W_prog_3_method_7_code_0 6 rfl rfl rfl
theorem d_3_7_9 : decode prog_3_method_7_code 9 = .ok (.if_icmp .ge 38, 3) := D_162 W_prog_3_method_7_code_0 9 rfl rfl rfl
theorem W_prog_3_method_7_code_32 : chW prog_3_method_7_code 32 [4, 29, 120, 167, 0, 4, 3, 128, 61, 132, 3, 1, 167, 255, 216, 28, 172] := chW_of (by decide +kernel)
theorem d_3_7_47 : decode prog_3_method_7_code 47 = .ok (.iload_n 2, 1) := D_28 W_prog_3_method_7_code_32 15 rfl rfl
theorem d_3_7_48 : decode prog_3_method_7_code 48 = .ok (.ireturn, 1) := D_172 W_prog_3_method_7_code_32 16 rfl rfl
theorem d_3_7_12 : decode prog_3_method_7_code 12 = .ok (.iload_n 2, 1) := D_28 W_prog_3_method_7_code_0 12 rfl rfl
theorem d_3_7_13 : decode prog_3_method_7_code 13 = .ok (.aload_n 1, 1) := D_43 W_prog_3_method_7_code_0 13 rfl rfl
theorem d_3_7_14 : decode prog_3_method_7_code 14 = .ok (.aload_n 0, 1) := D_42 W_prog_3_method_7_code_0 14 rfl rfl
theorem d_3_7_15 : decode prog_3_method_7_code 15 = .ok (.getfield 9, 3) := D_180 W_prog_3_method_7_code_0 15 rfl rfl rfl
theorem d_3_7_18 : decode prog_3_method_7_code 18 = .ok (.iload_n 3, 1) := D_29 W_prog_3_method_7_code_0 18 rfl rfl
theorem d_3_7_19 : decode prog_3_method_7_code 19 = .ok (.iaload, 1) := D_46 W_prog_3_method_7_code_0 19 rfl rfl
theorem d_3_7_20 : decode prog_3_method_7_code 20 = .ok (.aload_n 0, 1) := D_42 W_prog_3_method_7_code_0 20 rfl rfl
theorem d_3_7_21 : decode prog_3_method_7_code 21 = .ok (.getfield 15, 3) := D_180 W_prog_3_method_7_code_0 21 rfl rfl rfl
theorem d_3_7_24 : decode prog_3_method_7_code 24 = .ok (.iload_n 3, 1) := D_29 W_prog_3_method_7_code_0 24 rfl rfl
theorem d_3_7_25 : decode prog_3_method_7_code 25 = .ok (.iaload, 1) := D_46 W_prog_3_method_7_code_0 25 rfl rfl
theorem d_3_7_26 : decode prog_3_method_7_code 26 = .ok (.invokevirtual 29, 3) := D_182 W_prog_3_method_7_code_0 26 rfl rfl rfl
theorem W_prog_1_method_41_code_0 : chW prog_1_method_41_code 0 [3, 60, 27, 16, 24, 162, 0, 19, 27, 184, 1, 102, 26, 163, 0, 5, 27, 172, 132, 1, 1, 167, 255, 237, 16, 23, 172] := chW_of (by decide +kernel)
theorem d_1_41_0 : decode prog_1_method_41_code 0 = .ok (.iconst 0, 1) := D_3 W_prog_1_method_41_code_0 0 rfl rfl
theorem d_1_41_1 : decode prog_1_method_41_code 1 = .ok (.istore_n 1, 1) := D_60 W_prog_1_method_41_code_0 1 rfl rfl
theorem d_1_41_2 : decode prog_1_method_41_code 2 = .ok (.iload_n 1, 1) := D_27 W_prog_1_method_41_code_0 2 rfl rfl
theorem d_1_41_3 : decode prog_1_method_41_code 3 = .ok (.bipush 24, 2) := D_16 W_prog_1_method_41_code_0 3 rfl rfl rfl
theorem d_1_41_5 : decode prog_1_method_41_code 5 = .ok (.if_icmp .ge 19, 3) := D_162 W_prog_1_method_41_code_0 5 rfl rfl rfl
theorem d_1_41_24 : decode prog_1_method_41_code 24 = .ok (.bipush 23, 2) := D_16 W_prog_1_method_41_code_0 24 rfl rfl rfl
theorem d_1_41_26 : decode prog_1_method_41_code 26 = .ok (.ireturn, 1) := D_172 W_prog_1_method_41_code_0 26 rfl rfl
theorem d_1_41_8 : decode prog_1_method_41_code 8 = .ok (.iload_n 1, 1) := D_27 W_prog_1_method_41_code_0 8 rfl rfl
theorem d_1_41_9 : decode prog_1_method_41_code 9 = .ok (.invokestatic 358, 3) := D_184 W_prog_1_method_41_code_0 9 rfl rfl rfl
theorem W_prog_1_method_42_code_0 : chW prog_1_method_42_code 0 [17, 2, 0, 27, 4, 184, 1, 105, 108, 54, 4, 21, 4, 26, 104, 54, 5, 21, 4, 26, 27, 184, 1, 108, 104, 54, 6, 21, 5, 21, 6, 21, 4, 28, 184, 1] := chW_of (by decide +kernel)
theorem d_1_42_0 : decode prog_1_method_42_code 0 = .ok (.sipush 512, 3) := D_17 W_prog_1_method_42_code_0 0 rfl rfl rfl
theorem d_1_42_3 : decode prog_1_method_42_code 3 = .ok (.iload_n 1, 1) := D_27 W_prog_1_method_42_code_0 3 rfl rfl
theorem d_1_42_4 : decode prog_1_method_42_code 4 = .ok (.iconst 1, 1) := D_4 W_prog_1_method_42_code_0 4 rfl rfl
theorem d_1_42_5 : decode prog_1_method_42_code 5 = .ok (.invokestatic 361, 3) := D_184 W_prog_1_method_42_code_0 5 rfl rfl rfl
theorem d_1_42_8 : decode prog_1_method_42_code 8 = .ok (.idiv, 1) := D_108 W_prog_1_method_42_code_0 8 rfl rfl
theorem d_1_42_9 : decode prog_1_method_42_code 9 = .ok (.istore 4, 2) := D_54 W_prog_1_method_42_code_0 9 rfl rfl
theorem d_1_42_11 : decode prog_1_method_42_code 11 = .ok (.iload 4, 2) := D_21 W_prog_1_method_42_code_0 11 rfl rfl
theorem d_1_42_13 : decode prog_1_method_42_code 13 = .ok (.iload_n 0, 1) := D_26 W_prog_1_method_42_code_0 13 rfl rfl
theorem d_1_42_14 : decode prog_1_method_42_code 14 = .ok (.imul, 1) := D_104 W_prog_1_method_42_code_0 14 rfl rfl
theorem d_1_42_15 : decode prog_1_method_42_code 15 = .ok (.istore 5, 2) := D_54 W_prog_1_method_42_code_0 15 rfl rfl
theorem d_1_42_17 : decode prog_1_method_42_code 17 = .ok (.iload 4, 2) := D_21 W_prog_1_method_42_code_0 17 rfl rfl
theorem d_1_42_19 : decode prog_1_method_42_code 19 = .ok (.iload_n 0, 1) := D_26 W_prog_1_method_42_code_0 19 rfl rfl
theorem d_1_42_20 : decode prog_1_method_42_code 20 = .ok (.iload_n 1, 1) := D_27 W_prog_1_method_42_code_0 20 rfl rfl
theorem d_1_42_21 : decode prog_1_method_42_code 21 = .ok (.invokestatic 364, 3) := D_184 W_prog_1_method_42_code_0 21 rfl rfl rfl
theorem W_prog_6_method_18_code_0 : chW prog_6_method_18_code 0 [42, 180, 0, 11, 27, 50, 77, 3, 62, 3, 54, 4, 21, 4, 44, 180, 0, 188, 162, 0, 66, 44, 180, 0, 99, 21, 4, 46, 54, 5, 42, 27, 21, 4, 182, 0] := chW_of (by decide +kernel)
theorem d_6_18_0 : decode prog_6_method_18_code 0 = .ok (.aload_n 0, 1) := D_42 W_prog_6_method_18_code_0 0 rfl rfl
theorem d_6_18_1 : decode prog_6_method_18_code 1 = .ok (.getfield 11, 3) := D_180 W_prog_6_method_18_code_0 1 rfl rfl rfl
theorem d_6_18_4 : decode prog_6_method_18_code 4 = .ok (.iload_n 1, 1) := D_27 W_prog_6_method_18_code_0 4 rfl rfl
theorem d_6_18_5 : decode prog_6_method_18_code 5 = .ok (.aaload, 1) := D_50 W_prog_6_method_18_code_0 5 rfl rfl
theorem d_6_18_6 : decode prog_6_method_18_code 6 = .ok (.astore_n 2, 1) := D_77 W_prog_6_method_18_code_0 6 rfl rfl
theorem d_6_18_7 : decode prog_6_method_18_code 7 = .ok (.iconst 0, 1) := D_3 W_prog_6_method_18_code_0 7 rfl rfl
theorem d_6_18_8 : decode prog_6_method_18_code 8 = .ok (.istore_n 3, 1) := D_62 W_prog_6_method_18_code_0 8 rfl rfl
theorem d_6_18_9 : decode prog_6_method_18_code 9 = .ok (.iconst 0, 1) := D_3 W_prog_6_method_18_code_0 9 rfl rfl
theorem d_6_18_10 : decode prog_6_method_18_code 10 = .ok (.istore 4, 2) := D_54 W_prog_6_method_18_code_0 10 rfl rfl
theorem d_6_18_12 : decode prog_6_method_18_code 12 = .ok (.iload 4, 2) := D_21 W_prog_6_method_18_code_0 12 rfl rfl
theorem d_6_18_14 : decode prog_6_method_18_code 14 = .ok (.aload_n 2, 1) := D_44 W_prog_6_method_18_code_0 14 rfl rfl
theorem d_6_18_15 : decode prog_6_method_18_code 15 = .ok (.getfield 188, 3) := D_180 W_prog_6_method_18_code_0 15 rfl rfl rfl
theorem d_6_18_18 : decode prog_6_method_18_code 18 = .ok (.if_icmp .ge 66, 3) := D_162 W_prog_6_method_18_code_0 18 rfl rfl rfl
theorem W_prog_6_method_18_code_64 : chW prog_6_method_18_code 64 [42, 180, 0, 26, 21, 5, 44, 180, 0, 102, 21, 4, 46, 79, 132, 4, 1, 167, 255, 187, 29, 172] := chW_of (by decide +kernel)
theorem d_6_18_84 : decode prog_6_method_18_code 84 = .ok (.iload_n 3, 1) := D_29 W_prog_6_method_18_code_64 20 rfl rfl
theorem d_6_18_85 : decode prog_6_method_18_code 85 = .ok (.ireturn, 1) := D_172 W_prog_6_method_18_code_64 21 rfl rfl
theorem d_6_18_21 : decode prog_6_method_18_code 21 = .ok (.aload_n 2, 1) := D_44 W_prog_6_method_18_code_0 21 rfl rfl
theorem d_6_18_22 : decode prog_6_method_18_code 22 = .ok (.getfield 99, 3) := D_180 W_prog_6_method_18_code_0 22 rfl rfl rfl
theorem d_6_18_25 : decode prog_6_method_18_code 25 = .ok (.iload 4, 2) := D_21 W_prog_6_method_18_code_0 25 rfl rfl
theorem d_6_18_27 : decode prog_6_method_18_code 27 = .ok (.iaload, 1) := D_46 W_prog_6_method_18_code_0 27 rfl rfl
theorem d_6_18_28 : decode prog_6_method_18_code 28 = .ok (.istore 5, 2) := D_54 W_prog_6_method_18_code_0 28 rfl rfl
theorem d_6_18_30 : decode prog_6_method_18_code 30 = .ok (.aload_n 0, 1) := D_42 W_prog_6_method_18_code_0 30 rfl rfl
theorem d_6_18_31 : decode prog_6_method_18_code 31 = .ok (.iload_n 1, 1) := D_27 W_prog_6_method_18_code_0 31 rfl rfl
theorem W_prog_6_method_18_code_32 : chW prog_6_method_18_code 32 [21, 4, 182, 0, 203, 154, 0, 41, 42, 180, 0, 26, 21, 5, 46, 44, 180, 0, 102, 21, 4, 46, 159, 0, 24, 29, 4, 21, 4, 120, 128, 62, 42, 180, 0, 26] := chW_of (by decide +kernel)
theorem d_6_18_32 : decode prog_6_method_18_code 32 = .ok (.iload 4, 2) := D_21 W_prog_6_method_18_code_32 0 rfl rfl
theorem d_6_18_34 : decode prog_6_method_18_code 34 = .ok (.invokevirtual 203, 3) := D_182 W_prog_6_method_18_code_32 2 rfl rfl rfl
theorem W_prog_6_method_21_code_0 : chW prog_6_method_21_code 0 [3, 60, 27, 42, 180, 0, 35, 162, 0, 61, 3, 61, 42, 27, 182, 0, 191, 154, 0, 35, 28, 42, 27, 182, 0, 212, 16, 8, 100, 3, 184, 0, 181, 5, 108, 96] := chW_of (by decide +kernel)
theorem d_6_21_0 : decode prog_6_method_21_code 0 = .ok (.iconst 0, 1) := D_3 W_prog_6_method_21_code_0 0 rfl rfl
theorem d_6_21_1 : decode prog_6_method_21_code 1 = .ok (.istore_n 1, 1) := D_60 W_prog_6_method_21_code_0 1 rfl rfl
theorem d_6_21_2 : decode prog_6_method_21_code 2 = .ok (.iload_n 1, 1) := D_27 W_prog_6_method_21_code_0 2 rfl rfl
theorem d_6_21_3 : decode prog_6_method_21_code 3 = .ok (.aload_n 0, 1) := D_42 W_prog_6_method_21_code_0 3 rfl rfl
theorem d_6_21_4 : decode prog_6_method_21_code 4 = .ok (.getfield 35, 3) := D_180 W_prog_6_method_21_code_0 4 rfl rfl rfl
theorem d_6_21_7 : decode prog_6_method_21_code 7 = .ok (.if_icmp .ge 61, 3) := D_162 W_prog_6_method_21_code_0 7 rfl rfl rfl
theorem W_prog_6_method_21_code_64 : chW prog_6_method_21_code 64 [1, 167, 255, 193, 177] := chW_of (by decide +kernel)
theorem d_6_21_68 : decode prog_6_method_21_code 68 = .ok (.return_, 1) := D_177 W_prog_6_method_21_code_64 4 rfl rfl
theorem d_6_21_10 : decode prog_6_method_21_code 10 = .ok (.iconst 0, 1) := D_3 W_prog_6_method_21_code_0 10 rfl rfl
theorem d_6_21_11 : decode prog_6_method_21_code 11 = .ok (.istore_n 2, 1) := D_61 W_prog_6_method_21_code_0 11 rfl rfl
theorem d_6_21_12 : decode prog_6_method_21_code 12 = .ok (.aload_n 0, 1) := D_42 W_prog_6_method_21_code_0 12 rfl rfl
theorem d_6_21_13 : decode prog_6_method_21_code 13 = .ok (.iload_n 1, 1) := D_27 W_prog_6_method_21_code_0 13 rfl rfl
theorem d_6_21_14 : decode prog_6_method_21_code 14 = .ok (.invokevirtual 191, 3) := D_182 W_prog_6_method_21_code_0 14 rfl rfl rfl
theorem d_6_21_17 : decode prog_6_method_21_code 17 = .ok (.ifCond .ne 35, 3) := D_154 W_prog_6_method_21_code_0 17 rfl rfl rfl
theorem d_6_21_20 : decode prog_6_method_21_code 20 = .ok (.iload_n 2, 1) := D_28 W_prog_6_method_21_code_0 20 rfl rfl
theorem d_6_21_21 : decode prog_6_method_21_code 21 = .ok (.aload_n 0, 1) := D_42 W_prog_6_method_21_code_0 21 rfl rfl
theorem d_6_21_22 : decode prog_6_method_21_code 22 = .ok (.iload_n 1, 1) := D_27 W_prog_6_method_21_code_0 22 rfl rfl
theorem d_6_21_23 : decode prog_6_method_21_code 23 = .ok (.invokevirtual 212, 3) := D_182 W_prog_6_method_21_code_0 23 rfl rfl rfl
theorem W_prog_6_method_24_code_0 : chW prog_6_method_24_code 0 [3, 62, 3, 54, 4, 3, 54, 5, 21, 5, 17, 3, 32, 162, 0, 194, 21, 4, 42, 180, 0, 35, 162, 0, 185, 31, 9, 148, 158, 0, 179, 4, 54, 6, 42, 21] := chW_of (by decide +kernel)
theorem d_6_24_0 : decode prog_6_method_24_code 0 = .ok (.iconst 0, 1) := D_3 W_prog_6_method_24_code_0 0 rfl rfl
theorem d_6_24_1 : decode prog_6_method_24_code 1 = .ok (.istore_n 3, 1) := D_62 W_prog_6_method_24_code_0 1 rfl rfl
theorem d_6_24_2 : decode prog_6_method_24_code 2 = .ok (.iconst 0, 1) := D_3 W_prog_6_method_24_code_0 2 rfl rfl
theorem d_6_24_3 : decode prog_6_method_24_code 3 = .ok (.istore 4, 2) := D_54 W_prog_6_method_24_code_0 3 rfl rfl
theorem d_6_24_5 : decode prog_6_method_24_code 5 = .ok (.iconst 0, 1) := D_3 W_prog_6_method_24_code_0 5 rfl rfl
theorem d_6_24_6 : decode prog_6_method_24_code 6 = .ok (.istore 5, 2) := D_54 W_prog_6_method_24_code_0 6 rfl rfl
theorem d_6_24_8 : decode prog_6_method_24_code 8 = .ok (.iload 5, 2) := D_21 W_prog_6_method_24_code_0 8 rfl rfl
theorem d_6_24_10 : decode prog_6_method_24_code 10 = .ok (.sipush 800, 3) := D_17 W_prog_6_method_24_code_0 10 rfl rfl rfl
theorem d_6_24_13 : decode prog_6_method_24_code 13 = .ok (.if_icmp .ge 194, 3) := D_162 W_prog_6_method_24_code_0 13 rfl rfl rfl
theorem d_6_24_16 : decode prog_6_method_24_code 16 = .ok (.iload 4, 2) := D_21 W_prog_6_method_24_code_0 16 rfl rfl
theorem d_6_24_18 : decode prog_6_method_24_code 18 = .ok (.aload_n 0, 1) := D_42 W_prog_6_method_24_code_0 18 rfl rfl
theorem d_6_24_19 : decode prog_6_method_24_code 19 = .ok (.getfield 35, 3) := D_180 W_prog_6_method_24_code_0 19 rfl rfl rfl
theorem d_6_24_22 : decode prog_6_method_24_code 22 = .ok (.if_icmp .ge 185, 3) := D_162 W_prog_6_method_24_code_0 22 rfl rfl rfl
theorem d_6_24_25 : decode prog_6_method_24_code 25 = .ok (.lload_n 1, 1) := D_31 W_prog_6_method_24_code_0 25 rfl rfl
theorem d_6_24_26 : decode prog_6_method_24_code 26 = .ok (.lconst 0, 1) := D_9 W_prog_6_method_24_code_0 26 rfl rfl
theorem d_6_24_27 : decode prog_6_method_24_code 27 = .ok (.lcmp, 1) := D_148 W_prog_6_method_24_code_0 27 rfl rfl
theorem d_6_24_28 : decode prog_6_method_24_code 28 = .ok (.ifCond .le 179, 3) := D_158 W_prog_6_method_24_code_0 28 rfl rfl rfl
theorem d_6_24_31 : decode prog_6_method_24_code 31 = .ok (.iconst 1, 1) := D_4 W_prog_6_method_24_code_0 31 rfl rfl
theorem W_prog_6_method_24_code_32 : chW prog_6_method_24_code 32 [54, 6, 42, 21, 4, 182, 0, 218, 153, 0, 36, 21, 4, 21, 6, 96, 42, 180, 0, 35, 162, 0, 24, 42, 21, 4, 21, 4, 21, 6, 96, 31, 182, 0, 221, 153] := chW_of (by decide +kernel)
theorem d_6_24_32 : decode prog_6_method_24_code 32 = .ok (.istore 6, 2) := D_54 W_prog_6_method_24_code_32 0 rfl rfl
theorem d_6_24_34 : decode prog_6_method_24_code 34 = .ok (.aload_n 0, 1) := D_42 W_prog_6_method_24_code_32 2 rfl rfl
theorem d_6_24_35 : decode prog_6_method_24_code 35 = .ok (.iload 4, 2) := D_21 W_prog_6_method_24_code_32 3 rfl rfl
theorem d_6_24_37 : decode prog_6_method_24_code 37 = .ok (.invokevirtual 218, 3) := D_182 W_prog_6_method_24_code_32 5 rfl rfl rfl
theorem W_prog_11_method_3_code_0 : chW prog_11_method_3_code 0 [42, 3, 181, 0, 51, 3, 61, 28, 7, 162, 0, 18, 42, 180, 0, 20, 28, 50, 3, 2, 79, 132, 2, 1, 167, 255, 239, 3, 61, 28, 42, 180, 0, 9, 190, 162] := chW_of (by decide +kernel)
theorem d_11_3_0 : decode prog_11_method_3_code 0 = .ok (.aload_n 0, 1) := D_42 W_prog_11_method_3_code_0 0 rfl rfl
theorem d_11_3_1 : decode prog_11_method_3_code 1 = .ok (.iconst 0, 1) := D_3 W_prog_11_method_3_code_0 1 rfl rfl
theorem d_11_3_2 : decode prog_11_method_3_code 2 = .ok (.putfield 51, 3) := D_181 W_prog_11_method_3_code_0 2 rfl rfl rfl
theorem d_11_3_5 : decode prog_11_method_3_code 5 = .ok (.iconst 0, 1) := D_3 W_prog_11_method_3_code_0 5 rfl rfl
theorem d_11_3_6 : decode prog_11_method_3_code 6 = .ok (.istore_n 2, 1) := D_61 W_prog_11_method_3_code_0 6 rfl rfl
theorem d_11_3_7 : decode prog_11_method_3_code 7 = .ok (.iload_n 2, 1) := D_28 W_prog_11_method_3_code_0 7 rfl rfl
theorem d_11_3_8 : decode prog_11_method_3_code 8 = .ok (.iconst 4, 1) := D_7 W_prog_11_method_3_code_0 8 rfl rfl
theorem d_11_3_9 : decode prog_11_method_3_code 9 = .ok (.if_icmp .ge 18, 3) := D_162 W_prog_11_method_3_code_0 9 rfl rfl rfl
theorem d_11_3_27 : decode prog_11_method_3_code 27 = .ok (.iconst 0, 1) := D_3 W_prog_11_method_3_code_0 27 rfl rfl
theorem d_11_3_28 : decode prog_11_method_3_code 28 = .ok (.istore_n 2, 1) := D_61 W_prog_11_method_3_code_0 28 rfl rfl
theorem d_11_3_12 : decode prog_11_method_3_code 12 = .ok (.aload_n 0, 1) := D_42 W_prog_11_method_3_code_0 12 rfl rfl
theorem d_11_3_13 : decode prog_11_method_3_code 13 = .ok (.getfield 20, 3) := D_180 W_prog_11_method_3_code_0 13 rfl rfl rfl
theorem d_11_3_16 : decode prog_11_method_3_code 16 = .ok (.iload_n 2, 1) := D_28 W_prog_11_method_3_code_0 16 rfl rfl
theorem d_11_3_17 : decode prog_11_method_3_code 17 = .ok (.aaload, 1) := D_50 W_prog_11_method_3_code_0 17 rfl rfl
theorem d_11_3_18 : decode prog_11_method_3_code 18 = .ok (.iconst 0, 1) := D_3 W_prog_11_method_3_code_0 18 rfl rfl
theorem d_11_3_19 : decode prog_11_method_3_code 19 = .ok (.iconst (-1), 1) := D_2 W_prog_11_method_3_code_0 19 rfl rfl
theorem d_11_3_20 : decode prog_11_method_3_code 20 = .ok (.iastore, 1) := D_79 W_prog_11_method_3_code_0 20 rfl rfl
theorem d_11_3_21 : decode prog_11_method_3_code 21 = .ok (.iinc 2 1, 3) := D_132 W_prog_11_method_3_code_0 21 rfl rfl rfl
theorem d_11_3_24 : decode prog_11_method_3_code 24 = .ok (.goto (-17), 3) := D_167 W_prog_11_method_3_code_0 24 rfl rfl rfl
theorem d_11_3_29 : decode prog_11_method_3_code 29 = .ok (.iload_n 2, 1) := D_28 W_prog_11_method_3_code_0 29 rfl rfl
theorem d_11_3_30 : decode prog_11_method_3_code 30 = .ok (.aload_n 0, 1) := D_42 W_prog_11_method_3_code_0 30 rfl rfl
theorem d_11_3_31 : decode prog_11_method_3_code 31 = .ok (.getfield 9, 3) := D_180 W_prog_11_method_3_code_0 31 rfl rfl rfl
theorem W_prog_11_method_3_code_32 : chW prog_11_method_3_code 32 [0, 9, 190, 162, 0, 145, 42, 43, 28, 4, 100, 3, 184, 0, 67, 182, 0, 73, 66, 33, 9, 148, 156, 0, 4, 177, 42, 180, 0, 9, 28, 33, 80, 3, 54, 5] := chW_of (by decide +kernel)
theorem d_11_3_34 : decode prog_11_method_3_code 34 = .ok (.arraylength, 1) := D_190 W_prog_11_method_3_code_32 2 rfl rfl
theorem d_11_3_35 : decode prog_11_method_3_code 35 = .ok (.if_icmp .ge 145, 3) := D_162 W_prog_11_method_3_code_32 3 rfl rfl rfl
theorem W_prog_11_method_3_code_160 : chW prog_11_method_3_code 160 [79, 132, 5, 1, 167, 255, 160, 42, 28, 4, 96, 181, 0, 51, 132, 2, 1, 167, 255, 108, 177] := chW_of (by decide +kernel)
theorem d_11_3_180 : decode prog_11_method_3_code 180 = .ok (.return_, 1) := D_177 W_prog_11_method_3_code_160 20 rfl rfl
theorem d_11_3_38 : decode prog_11_method_3_code 38 = .ok (.aload_n 0, 1) := D_42 W_prog_11_method_3_code_32 6 rfl rfl
theorem d_11_3_39 : decode prog_11_method_3_code 39 = .ok (.aload_n 1, 1) := D_43 W_prog_11_method_3_code_32 7 rfl rfl
theorem d_11_3_40 : decode prog_11_method_3_code 40 = .ok (.iload_n 2, 1) := D_28 W_prog_11_method_3_code_32 8 rfl rfl
theorem d_11_3_41 : decode prog_11_method_3_code 41 = .ok (.iconst 1, 1) := D_4 W_prog_11_method_3_code_32 9 rfl rfl
theorem d_11_3_42 : decode prog_11_method_3_code 42 = .ok (.isub, 1) := D_100 W_prog_11_method_3_code_32 10 rfl rfl
theorem d_11_3_43 : decode prog_11_method_3_code 43 = .ok (.iconst 0, 1) := D_3 W_prog_11_method_3_code_32 11 rfl rfl
theorem d_11_3_44 : decode prog_11_method_3_code 44 = .ok (.invokestatic 67, 3) := D_184 W_prog_11_method_3_code_32 12 rfl rfl rfl
theorem d_11_3_47 : decode prog_11_method_3_code 47 = .ok (.invokevirtual 73, 3) := D_182 W_prog_11_method_3_code_32 15 rfl rfl rfl
theorem d_5_18_15 : decode prog_5_method_18_code 15 = .ok (.ireturn, 1) := D_172 W_prog_5_method_18_code_0 15 rfl rfl
theorem d_5_33_4 : decode prog_5_method_33_code 4 = .ok (.ifCond .ne 9, 3) := D_154 W_prog_5_method_33_code_0 4 rfl rfl rfl
theorem d_5_33_13 : decode prog_5_method_33_code 13 = .ok (.aload_n 0, 1) := D_42 W_prog_5_method_33_code_0 13 rfl rfl
theorem d_5_33_14 : decode prog_5_method_33_code 14 = .ok (.aload_n 0, 1) := D_42 W_prog_5_method_33_code_0 14 rfl rfl
theorem d_5_33_15 : decode prog_5_method_33_code 15 = .ok (.getfield 48, 3) := D_180 W_prog_5_method_33_code_0 15 rfl rfl rfl
theorem d_5_33_18 : decode prog_5_method_33_code 18 = .ok (.getfield 173, 3) := D_180 W_prog_5_method_33_code_0 18 rfl rfl rfl
theorem d_5_33_21 : decode prog_5_method_33_code 21 = .ok (.invokevirtual 177, 3) := D_182 W_prog_5_method_33_code_0 21 rfl rfl rfl
theorem d_5_33_24 : decode prog_5_method_33_code 24 = .ok (.istore_n 2, 1) := D_61 W_prog_5_method_33_code_0 24 rfl rfl
theorem d_5_33_25 : decode prog_5_method_33_code 25 = .ok (.iload_n 2, 1) := D_28 W_prog_5_method_33_code_0 25 rfl rfl
theorem d_5_33_26 : decode prog_5_method_33_code 26 = .ok (.iconst (-1), 1) := D_2 W_prog_5_method_33_code_0 26 rfl rfl
theorem d_5_33_27 : decode prog_5_method_33_code 27 = .ok (.if_icmp .ne 9, 3) := D_160 W_prog_5_method_33_code_0 27 rfl rfl rfl
theorem W_prog_5_method_33_code_32 : chW prog_5_method_33_code 32 [182, 0, 101, 172, 42, 180, 0, 18, 27, 28, 79, 42, 180, 0, 48, 182, 0, 122, 4, 172] := chW_of (by decide +kernel)
theorem d_5_33_36 : decode prog_5_method_33_code 36 = .ok (.aload_n 0, 1) := D_42 W_prog_5_method_33_code_32 4 rfl rfl
theorem d_5_33_37 : decode prog_5_method_33_code 37 = .ok (.getfield 18, 3) := D_180 W_prog_5_method_33_code_32 5 rfl rfl rfl
theorem d_5_33_40 : decode prog_5_method_33_code 40 = .ok (.iload_n 1, 1) := D_27 W_prog_5_method_33_code_32 8 rfl rfl
theorem d_5_33_41 : decode prog_5_method_33_code 41 = .ok (.iload_n 2, 1) := D_28 W_prog_5_method_33_code_32 9 rfl rfl
theorem d_5_33_42 : decode prog_5_method_33_code 42 = .ok (.iastore, 1) := D_79 W_prog_5_method_33_code_32 10 rfl rfl
theorem d_5_33_43 : decode prog_5_method_33_code 43 = .ok (.aload_n 0, 1) := D_42 W_prog_5_method_33_code_32 11 rfl rfl
theorem d_5_33_44 : decode prog_5_method_33_code 44 = .ok (.getfield 48, 3) := D_180 W_prog_5_method_33_code_32 12 rfl rfl rfl
theorem d_5_33_47 : decode prog_5_method_33_code 47 = .ok (.invokevirtual 122, 3) := D_182 W_prog_5_method_33_code_32 15 rfl rfl rfl
theorem d_5_33_50 : decode prog_5_method_33_code 50 = .ok (.iconst 1, 1) := D_4 W_prog_5_method_33_code_32 18 rfl rfl
theorem d_5_33_51 : decode prog_5_method_33_code 51 = .ok (.ireturn, 1) := D_172 W_prog_5_method_33_code_32 19 rfl rfl
theorem d_5_33_30 : decode prog_5_method_33_code 30 = .ok (.aload_n 0, 1) := D_42 W_prog_5_method_33_code_0 30 rfl rfl
theorem d_5_33_31 : decode prog_5_method_33_code 31 = .ok (.iconst 4, 1) := D_7 W_prog_5_method_33_code_0 31 rfl rfl
theorem d_5_33_32 : decode prog_5_method_33_code 32 = .ok (.invokevirtual 101, 3) := D_182 W_prog_5_method_33_code_32 0 rfl rfl rfl
theorem d_5_33_35 : decode prog_5_method_33_code 35 = .ok (.ireturn, 1) := D_172 W_prog_5_method_33_code_32 3 rfl rfl
theorem d_5_33_7 : decode prog_5_method_33_code 7 = .ok (.aload_n 0, 1) := D_42 W_prog_5_method_33_code_0 7 rfl rfl
theorem d_5_33_8 : decode prog_5_method_33_code 8 = .ok (.iconst 2, 1) := D_5 W_prog_5_method_33_code_0 8 rfl rfl
theorem d_5_33_9 : decode prog_5_method_33_code 9 = .ok (.invokevirtual 101, 3) := D_182 W_prog_5_method_33_code_0 9 rfl rfl rfl
theorem d_5_33_12 : decode prog_5_method_33_code 12 = .ok (.ireturn, 1) := D_172 W_prog_5_method_33_code_0 12 rfl rfl
theorem d_1_37_8 : decode prog_1_method_37_code 8 = .ok (.iconst 1, 1) := D_4 W_prog_1_method_37_code_0 8 rfl rfl
theorem d_1_37_9 : decode prog_1_method_37_code 9 = .ok (.iadd, 1) := D_96 W_prog_1_method_37_code_0 9 rfl rfl
theorem d_1_37_10 : decode prog_1_method_37_code 10 = .ok (.imul, 1) := D_104 W_prog_1_method_37_code_0 10 rfl rfl
theorem d_1_37_11 : decode prog_1_method_37_code 11 = .ok (.getstatic 346, 3) := D_178 W_prog_1_method_37_code_0 11 rfl rfl rfl
theorem d_1_37_14 : decode prog_1_method_37_code 14 = .ok (.iload_n 0, 1) := D_26 W_prog_1_method_37_code_0 14 rfl rfl
theorem d_1_37_15 : decode prog_1_method_37_code 15 = .ok (.bipush 7, 2) := D_16 W_prog_1_method_37_code_0 15 rfl rfl rfl
theorem d_1_37_17 : decode prog_1_method_37_code 17 = .ok (.invokestatic 349, 3) := D_184 W_prog_1_method_37_code_0 17 rfl rfl rfl
theorem d_1_37_20 : decode prog_1_method_37_code 20 = .ok (.iaload, 1) := D_46 W_prog_1_method_37_code_0 20 rfl rfl
theorem d_1_37_21 : decode prog_1_method_37_code 21 = .ok (.iadd, 1) := D_96 W_prog_1_method_37_code_0 21 rfl rfl
theorem d_1_37_22 : decode prog_1_method_37_code 22 = .ok (.ireturn, 1) := D_172 W_prog_1_method_37_code_0 22 rfl rfl
theorem d_5_8_29 : decode prog_5_method_8_code 29 = .ok (.ifCond .ne 5, 3) := D_154 W_prog_5_method_8_code_0 29 rfl rfl rfl
theorem W_prog_5_method_8_code_32 : chW prog_5_method_8_code 32 [3, 172, 43, 28, 153, 0, 11, 42, 180, 0, 135, 116, 167, 0, 7, 42, 180, 0, 135, 181, 0, 156, 43, 42, 180, 0, 48, 20, 0, 159, 182, 0, 88, 153, 0, 7] := chW_of (by decide +kernel)
theorem d_5_8_34 : decode prog_5_method_8_code 34 = .ok (.aload_n 1, 1) := D_43 W_prog_5_method_8_code_32 2 rfl rfl
theorem d_5_8_35 : decode prog_5_method_8_code 35 = .ok (.iload_n 2, 1) := D_28 W_prog_5_method_8_code_32 3 rfl rfl
theorem d_5_8_36 : decode prog_5_method_8_code 36 = .ok (.ifCond .eq 11, 3) := D_153 W_prog_5_method_8_code_32 4 rfl rfl rfl
theorem d_5_8_47 : decode prog_5_method_8_code 47 = .ok (.aload_n 0, 1) := D_42 W_prog_5_method_8_code_32 15 rfl rfl
theorem d_5_8_48 : decode prog_5_method_8_code 48 = .ok (.getfield 135, 3) := D_180 W_prog_5_method_8_code_32 16 rfl rfl rfl
theorem d_5_8_39 : decode prog_5_method_8_code 39 = .ok (.aload_n 0, 1) := D_42 W_prog_5_method_8_code_32 7 rfl rfl
theorem d_5_8_40 : decode prog_5_method_8_code 40 = .ok (.getfield 135, 3) := D_180 W_prog_5_method_8_code_32 8 rfl rfl rfl
theorem d_5_8_43 : decode prog_5_method_8_code 43 = .ok (.ineg, 1) := D_116 W_prog_5_method_8_code_32 11 rfl rfl
theorem d_5_8_44 : decode prog_5_method_8_code 44 = .ok (.goto 7, 3) := D_167 W_prog_5_method_8_code_32 12 rfl rfl rfl
theorem d_5_8_32 : decode prog_5_method_8_code 32 = .ok (.iconst 0, 1) := D_3 W_prog_5_method_8_code_32 0 rfl rfl
theorem d_5_8_33 : decode prog_5_method_8_code 33 = .ok (.ireturn, 1) := D_172 W_prog_5_method_8_code_32 1 rfl rfl
theorem d_5_8_51 : decode prog_5_method_8_code 51 = .ok (.putfield 156, 3) := D_181 W_prog_5_method_8_code_32 19 rfl rfl rfl
theorem d_5_8_54 : decode prog_5_method_8_code 54 = .ok (.aload_n 1, 1) := D_43 W_prog_5_method_8_code_32 22 rfl rfl
theorem d_5_8_55 : decode prog_5_method_8_code 55 = .ok (.aload_n 0, 1) := D_42 W_prog_5_method_8_code_32 23 rfl rfl
theorem d_5_8_56 : decode prog_5_method_8_code 56 = .ok (.getfield 48, 3) := D_180 W_prog_5_method_8_code_32 24 rfl rfl rfl
theorem d_5_8_59 : decode prog_5_method_8_code 59 = .ok (.ldc2_w 159, 3) := D_20 W_prog_5_method_8_code_32 27 rfl rfl rfl
theorem d_5_8_62 : decode prog_5_method_8_code 62 = .ok (.invokevirtual 88, 3) := D_182 W_prog_5_method_8_code_32 30 rfl rfl rfl
theorem W_prog_5_method_8_code_64 : chW prog_5_method_8_code 64 [88, 153, 0, 7, 4, 167, 0, 4, 3, 181, 0, 161, 42, 180, 0, 48, 20, 0, 159, 182, 0, 88, 154, 0, 22, 42, 180, 0, 48, 20, 0, 164, 182, 0, 88, 154] := chW_of (by decide +kernel)
theorem d_5_8_65 : decode prog_5_method_8_code 65 = .ok (.ifCond .eq 7, 3) := D_153 W_prog_5_method_8_code_64 1 rfl rfl rfl
theorem d_5_8_72 : decode prog_5_method_8_code 72 = .ok (.iconst 0, 1) := D_3 W_prog_5_method_8_code_64 8 rfl rfl
theorem d_5_8_68 : decode prog_5_method_8_code 68 = .ok (.iconst 1, 1) := D_4 W_prog_5_method_8_code_64 4 rfl rfl
theorem d_5_8_69 : decode prog_5_method_8_code 69 = .ok (.goto 4, 3) := D_167 W_prog_5_method_8_code_64 5 rfl rfl rfl
theorem d_5_8_73 : decode prog_5_method_8_code 73 = .ok (.putfield 161, 3) := D_181 W_prog_5_method_8_code_64 9 rfl rfl rfl
theorem d_5_8_76 : decode prog_5_method_8_code 76 = .ok (.aload_n 0, 1) := D_42 W_prog_5_method_8_code_64 12 rfl rfl
theorem d_5_8_77 : decode prog_5_method_8_code 77 = .ok (.getfield 48, 3) := D_180 W_prog_5_method_8_code_64 13 rfl rfl rfl
theorem d_5_8_80 : decode prog_5_method_8_code 80 = .ok (.ldc2_w 159, 3) := D_20 W_prog_5_method_8_code_64 16 rfl rfl rfl
theorem d_5_8_83 : decode prog_5_method_8_code 83 = .ok (.invokevirtual 88, 3) := D_182 W_prog_5_method_8_code_64 19 rfl rfl rfl
theorem d_5_8_86 : decode prog_5_method_8_code 86 = .ok (.ifCond .ne 22, 3) := D_154 W_prog_5_method_8_code_64 22 rfl rfl rfl
theorem d_5_8_89 : decode prog_5_method_8_code 89 = .ok (.aload_n 0, 1) := D_42 W_prog_5_method_8_code_64 25 rfl rfl
theorem d_5_8_90 : decode prog_5_method_8_code 90 = .ok (.getfield 48, 3) := D_180 W_prog_5_method_8_code_64 26 rfl rfl rfl
theorem d_5_8_93 : decode prog_5_method_8_code 93 = .ok (.ldc2_w 164, 3) := D_20 W_prog_5_method_8_code_64 29 rfl rfl rfl
theorem W_prog_5_method_8_code_96 : chW prog_5_method_8_code 96 [182, 0, 88, 154, 0, 9, 42, 5, 182, 0, 101, 172, 42, 180, 0, 48, 182, 0, 122, 4, 172] := chW_of (by decide +kernel)
theorem d_5_8_96 : decode prog_5_method_8_code 96 = .ok (.invokevirtual 88, 3) := D_182 W_prog_5_method_8_code_96 0 rfl rfl rfl
theorem d_5_8_99 : decode prog_5_method_8_code 99 = .ok (.ifCond .ne 9, 3) := D_154 W_prog_5_method_8_code_96 3 rfl rfl rfl
theorem d_5_8_102 : decode prog_5_method_8_code 102 = .ok (.aload_n 0, 1) := D_42 W_prog_5_method_8_code_96 6 rfl rfl
theorem d_5_8_103 : decode prog_5_method_8_code 103 = .ok (.iconst 2, 1) := D_5 W_prog_5_method_8_code_96 7 rfl rfl
theorem d_5_8_104 : decode prog_5_method_8_code 104 = .ok (.invokevirtual 101, 3) := D_182 W_prog_5_method_8_code_96 8 rfl rfl rfl
theorem d_5_8_107 : decode prog_5_method_8_code 107 = .ok (.ireturn, 1) := D_172 W_prog_5_method_8_code_96 11 rfl rfl
theorem d_5_8_108 : decode prog_5_method_8_code 108 = .ok (.aload_n 0, 1) := D_42 W_prog_5_method_8_code_96 12 rfl rfl
theorem d_5_8_109 : decode prog_5_method_8_code 109 = .ok (.getfield 48, 3) := D_180 W_prog_5_method_8_code_96 13 rfl rfl rfl
theorem d_5_8_112 : decode prog_5_method_8_code 112 = .ok (.invokevirtual 122, 3) := D_182 W_prog_5_method_8_code_96 16 rfl rfl rfl
theorem d_5_8_115 : decode prog_5_method_8_code 115 = .ok (.iconst 1, 1) := D_4 W_prog_5_method_8_code_96 19 rfl rfl
theorem d_5_8_116 : decode prog_5_method_8_code 116 = .ok (.ireturn, 1) := D_172 W_prog_5_method_8_code_96 20 rfl rfl
theorem d_5_7_8 : decode prog_5_method_7_code 8 = .ok (.ifCond .ne 5, 3) := D_154 W_prog_5_method_7_code_0 8 rfl rfl rfl
theorem d_5_7_13 : decode prog_5_method_7_code 13 = .ok (.aload_n 1, 1) := D_43 W_prog_5_method_7_code_0 13 rfl rfl
theorem d_5_7_14 : decode prog_5_method_7_code 14 = .ok (.aload_n 0, 1) := D_42 W_prog_5_method_7_code_0 14 rfl rfl
theorem d_5_7_15 : decode prog_5_method_7_code 15 = .ok (.getfield 135, 3) := D_180 W_prog_5_method_7_code_0 15 rfl rfl rfl
theorem d_5_7_18 : decode prog_5_method_7_code 18 = .ok (.putfield 143, 3) := D_181 W_prog_5_method_7_code_0 18 rfl rfl rfl
theorem d_5_7_21 : decode prog_5_method_7_code 21 = .ok (.aload_n 0, 1) := D_42 W_prog_5_method_7_code_0 21 rfl rfl
theorem d_5_7_22 : decode prog_5_method_7_code 22 = .ok (.bipush 47, 2) := D_16 W_prog_5_method_7_code_0 22 rfl rfl rfl
theorem d_5_7_24 : decode prog_5_method_7_code 24 = .ok (.invokevirtual 146, 3) := D_182 W_prog_5_method_7_code_0 24 rfl rfl rfl
theorem d_5_7_27 : decode prog_5_method_7_code 27 = .ok (.ifCond .eq 14, 3) := D_153 W_prog_5_method_7_code_0 27 rfl rfl rfl
theorem d_5_7_30 : decode prog_5_method_7_code 30 = .ok (.aload_n 0, 1) := D_42 W_prog_5_method_7_code_0 30 rfl rfl
theorem d_5_7_31 : decode prog_5_method_7_code 31 = .ok (.iconst 2, 1) := D_5 W_prog_5_method_7_code_0 31 rfl rfl
theorem W_prog_5_method_7_code_32 : chW prog_5_method_7_code 32 [16, 16, 4, 182, 0, 131, 154, 0, 5, 3, 172, 43, 42, 180, 0, 135, 181, 0, 150, 4, 172] := chW_of (by decide +kernel)
theorem d_5_7_32 : decode prog_5_method_7_code 32 = .ok (.bipush 16, 2) := D_16 W_prog_5_method_7_code_32 0 rfl rfl rfl
theorem d_5_7_34 : decode prog_5_method_7_code 34 = .ok (.iconst 1, 1) := D_4 W_prog_5_method_7_code_32 2 rfl rfl
theorem d_5_7_35 : decode prog_5_method_7_code 35 = .ok (.invokevirtual 131, 3) := D_182 W_prog_5_method_7_code_32 3 rfl rfl rfl
theorem d_5_7_38 : decode prog_5_method_7_code 38 = .ok (.ifCond .ne 5, 3) := D_154 W_prog_5_method_7_code_32 6 rfl rfl rfl
theorem d_5_7_43 : decode prog_5_method_7_code 43 = .ok (.aload_n 1, 1) := D_43 W_prog_5_method_7_code_32 11 rfl rfl
theorem d_5_7_44 : decode prog_5_method_7_code 44 = .ok (.aload_n 0, 1) := D_42 W_prog_5_method_7_code_32 12 rfl rfl
