theorem k_1_44 : (Jvm.Cond.fieldLink "StaveHouse$Tokens" (22 : Nat) "StaveHouse$ByteRow" "size" "I") ∈ wAll := wA_1 (j := 44) rfl rfl
theorem k_3_159 : (Jvm.Cond.constantLong "StaveHouse$Parser" (86 : Nat) (7103860 : Int64)) ∈ wAll := wA_3 (j := 159) rfl rfl
theorem k_3_185 : (Jvm.Cond.fieldLink "StaveHouse$Parser" (190 : Nat) "StaveHouse$Parser" "CLEFS" "[J") ∈ wAll := wA_3 (j := 185) rfl rfl
theorem k_3_237 : (Jvm.Cond.methodLink "StaveHouse$Parser" (277 : Nat) ({ cls := "StaveHouse$Parser", name := "takePitch", desc := "(I)V" } : Jvm.MethodName)) ∈ wAll := wA_3 (j := 237) rfl rfl
theorem k_3_239 : (Jvm.Cond.instanceMethod ({ cls := "StaveHouse$Parser", name := "takePitch", desc := "(I)V" } : Jvm.MethodName)) ∈ wAll := wA_3 (j := 239) rfl rfl
theorem ks_16 : (Jvm.Cond.selects "StaveHouse$Parser" ({ cls := "StaveHouse$Parser", name := "takePitch", desc := "(I)V" } : Jvm.MethodName) ({ cls := "StaveHouse$Parser", name := "takePitch", desc := "(I)V" } : Jvm.MethodName)) ∈ wAll := wA_s (j := 16) rfl rfl
theorem k_4_0 : (Jvm.Cond.code ({ cls := "StaveHouse$Parser", name := "takePitch", desc := "(I)V" } : Jvm.MethodName) prog_5_method_24_code (2 : Nat) (Option.none : Option Jvm.ClassFile.FieldType)) ∈ wAll := wA_4 (j := 0) rfl rfl
theorem k_3_164 : (Jvm.Cond.methodLink "StaveHouse$Parser" (112 : Nat) ({ cls := "StaveHouse$Parser", name := "headSort", desc := "()I" } : Jvm.MethodName)) ∈ wAll := wA_3 (j := 164) rfl rfl
theorem k_3_166 : (Jvm.Cond.instanceMethod ({ cls := "StaveHouse$Parser", name := "headSort", desc := "()I" } : Jvm.MethodName)) ∈ wAll := wA_3 (j := 166) rfl rfl
theorem ks_3 : (Jvm.Cond.selects "StaveHouse$Parser" ({ cls := "StaveHouse$Parser", name := "headSort", desc := "()I" } : Jvm.MethodName) ({ cls := "StaveHouse$Parser", name := "headSort", desc := "()I" } : Jvm.MethodName)) ∈ wAll := wA_s (j := 3) rfl rfl
theorem k_3_167 : (Jvm.Cond.code ({ cls := "StaveHouse$Parser", name := "headSort", desc := "()I" } : Jvm.MethodName) prog_5_method_5_code (1 : Nat) (Option.some Jvm.ClassFile.FieldType.int)) ∈ wAll := wA_3 (j := 167) rfl rfl
theorem k_1_134 : (Jvm.Cond.fieldLink "StaveHouse$Parser" (69 : Nat) "StaveHouse$Parser" "headsTold" "I") ∈ wAll := wA_1 (j := 134) rfl rfl
theorem k_6_80 : (Jvm.Cond.fieldLink "StaveHouse$Performance" (162 : Nat) "StaveHouse$Performance" "heard" "I") ∈ wAll := wA_6 (j := 80) rfl rfl
theorem k_6_81 : (Jvm.Cond.fieldLink "StaveHouse$Performance" (165 : Nat) "StaveHouse$Performance" "predicted" "I") ∈ wAll := wA_6 (j := 81) rfl rfl
theorem k_6_82 : (Jvm.Cond.fieldLink "StaveHouse$Performance" (168 : Nat) "StaveHouse$Performance" "index" "I") ∈ wAll := wA_6 (j := 82) rfl rfl
theorem k_7_108 : (Jvm.Cond.methodLink "StaveHouse" (256 : Nat) ({ cls := "StaveHouse", name := "performanceOf", desc := "(I)LStaveHouse$Performance;" } : Jvm.MethodName)) ∈ wAll := wA_7 (j := 108) rfl rfl
theorem k_7_110 : (Jvm.Cond.instanceMethod ({ cls := "StaveHouse", name := "performanceOf", desc := "(I)LStaveHouse$Performance;" } : Jvm.MethodName)) ∈ wAll := wA_7 (j := 110) rfl rfl
theorem ks_89 : (Jvm.Cond.selects "StaveHouse" ({ cls := "StaveHouse", name := "performanceOf", desc := "(I)LStaveHouse$Performance;" } : Jvm.MethodName) ({ cls := "StaveHouse", name := "performanceOf", desc := "(I)LStaveHouse$Performance;" } : Jvm.MethodName)) ∈ wAll := wA_s (j := 89) rfl rfl
theorem k_7_111 : (Jvm.Cond.code ({ cls := "StaveHouse", name := "performanceOf", desc := "(I)LStaveHouse$Performance;" } : Jvm.MethodName) prog_1_method_9_code (3 : Nat) (Option.some (Jvm.ClassFile.FieldType.object "StaveHouse$Performance"))) ∈ wAll := wA_7 (j := 111) rfl rfl
theorem k_5_79 : (Jvm.Cond.instanceMethod ({ cls := "StaveHouse$Event", name := "isRest", desc := "()Z" } : Jvm.MethodName)) ∈ wAll := wA_5 (j := 79) rfl rfl
theorem k_5_80 : (Jvm.Cond.selects "StaveHouse$Event" ({ cls := "StaveHouse$Event", name := "isRest", desc := "()Z" } : Jvm.MethodName) ({ cls := "StaveHouse$Event", name := "isRest", desc := "()Z" } : Jvm.MethodName)) ∈ wAll := wA_5 (j := 80) rfl rfl
theorem k_5_81 : (Jvm.Cond.code ({ cls := "StaveHouse$Event", name := "isRest", desc := "()Z" } : Jvm.MethodName) prog_3_method_2_code (1 : Nat) (Option.some Jvm.ClassFile.FieldType.boolean)) ∈ wAll := wA_5 (j := 81) rfl rfl
theorem k_9_10 : (Jvm.Cond.fieldLink "StaveHouse$Performance" (298 : Nat) "StaveHouse$Performance" "TURNS" "[J") ∈ wAll := wA_9 (j := 10) rfl rfl
theorem k_9_15 : (Jvm.Cond.methodLink "StaveHouse$Performance" (301 : Nat) ({ cls := "java/lang/Math", name := "abs", desc := "(I)I" } : Jvm.MethodName)) ∈ wAll := wA_9 (j := 15) rfl rfl
theorem k_9_26 : (Jvm.Cond.fieldLink "StaveHouse$Performance" (307 : Nat) "StaveHouse$Performance" "CODE_STEPS" "[I") ∈ wAll := wA_9 (j := 26) rfl rfl
theorem k_9_28 : (Jvm.Cond.fieldLink "StaveHouse$Performance" (310 : Nat) "StaveHouse$Performance" "INDEX_MOVES" "[I") ∈ wAll := wA_9 (j := 28) rfl rfl
theorem k_6_70 : (Jvm.Cond.fieldLink "StaveHouse" (300 : Nat) "StaveHouse$Performance" "latest" "I") ∈ wAll := wA_6 (j := 70) rfl rfl
theorem k_6_72 : (Jvm.Cond.fieldLink "StaveHouse" (303 : Nat) "StaveHouse$Performance" "heardRow" "[I") ∈ wAll := wA_6 (j := 72) rfl rfl
theorem k_6_74 : (Jvm.Cond.fieldLink "StaveHouse" (306 : Nat) "StaveHouse$Performance" "codeRow" "[I") ∈ wAll := wA_6 (j := 74) rfl rfl
theorem k_5_211 : (Jvm.Cond.fieldLink "StaveHouse$Study" (40 : Nat) "StaveHouse$Study" "letters" "[I") ∈ wAll := wA_5 (j := 211) rfl rfl
theorem k_6_13 : (Jvm.Cond.methodLink "StaveHouse$Study" (98 : Nat) ({ cls := "StaveHouse$Study", name := "eventOf", desc := "(LStaveHouse$Piece;II)LStaveHouse$Event;" } : Jvm.MethodName)) ∈ wAll := wA_6 (j := 13) rfl rfl
theorem k_6_15 : (Jvm.Cond.instanceMethod ({ cls := "StaveHouse$Study", name := "eventOf", desc := "(LStaveHouse$Piece;II)LStaveHouse$Event;" } : Jvm.MethodName)) ∈ wAll := wA_6 (j := 15) rfl rfl
theorem ks_69 : (Jvm.Cond.selects "StaveHouse$Study" ({ cls := "StaveHouse$Study", name := "eventOf", desc := "(LStaveHouse$Piece;II)LStaveHouse$Event;" } : Jvm.MethodName) ({ cls := "StaveHouse$Study", name := "eventOf", desc := "(LStaveHouse$Piece;II)LStaveHouse$Event;" } : Jvm.MethodName)) ∈ wAll := wA_s (j := 69) rfl rfl
theorem k_1_19 : (Jvm.Cond.initialized "StaveHouse$Study") ∈ wAll := wA_1 (j := 19) rfl rfl
theorem k_6_16 : (Jvm.Cond.code ({ cls := "StaveHouse$Study", name := "eventOf", desc := "(LStaveHouse$Piece;II)LStaveHouse$Event;" } : Jvm.MethodName) prog_11_method_5_code (5 : Nat) (Option.some (Jvm.ClassFile.FieldType.object "StaveHouse$Event"))) ∈ wAll := wA_6 (j := 16) rfl rfl
theorem k_2_51 : (Jvm.Cond.fieldLink "StaveHouse$Study" (165 : Nat) "StaveHouse$Event" "count" "I") ∈ wAll := wA_2 (j := 51) rfl rfl
theorem k_2_58 : (Jvm.Cond.fieldLink "StaveHouse$Study" (106 : Nat) "StaveHouse$Event" "steps" "[I") ∈ wAll := wA_2 (j := 58) rfl rfl
theorem k_2_66 : (Jvm.Cond.fieldLink "StaveHouse$Study" (168 : Nat) "StaveHouse$Event" "alterations" "[I") ∈ wAll := wA_2 (j := 66) rfl rfl
theorem k_9_47 : (Jvm.Cond.methodLink "StaveHouse$Study" (142 : Nat) ({ cls := "java/lang/Integer", name := "bitCount", desc := "(I)I" } : Jvm.MethodName)) ∈ wAll := wA_9 (j := 47) rfl rfl
theorem k_7_170 : (Jvm.Cond.static ({ cls := "java/lang/Integer", name := "bitCount", desc := "(I)I" } : Jvm.MethodName)) ∈ wAll := wA_7 (j := 170) rfl rfl
theorem k_1_22 : (Jvm.Cond.initialized "java/lang/Integer") ∈ wAll := wA_1 (j := 22) rfl rfl
theorem k_7_171 : (Jvm.Cond.code ({ cls := "java/lang/Integer", name := "bitCount", desc := "(I)I" } : Jvm.MethodName) prog_18_method_49_code (1 : Nat) (Option.some Jvm.ClassFile.FieldType.int)) ∈ wAll := wA_7 (j := 171) rfl rfl
theorem k_2_201 : (Jvm.Cond.fieldLink "StaveHouse$Study" (183 : Nat) "StaveHouse$Piece" "fifths" "I") ∈ wAll := wA_2 (j := 201) rfl rfl
theorem k_2_205 : (Jvm.Cond.fieldLink "StaveHouse$Study" (186 : Nat) "StaveHouse$Piece" "minor" "I") ∈ wAll := wA_2 (j := 205) rfl rfl
theorem k_5_118 : (Jvm.Cond.code ({ cls := "StaveHouse", name := "keyAlteration", desc := "(II)I" } : Jvm.MethodName) prog_1_method_38_code (3 : Nat) (Option.some Jvm.ClassFile.FieldType.int)) ∈ wAll := wA_5 (j := 118) rfl rfl
theorem k_5_117 : (Jvm.Cond.static ({ cls := "StaveHouse", name := "keyAlteration", desc := "(II)I" } : Jvm.MethodName)) ∈ wAll := wA_5 (j := 117) rfl rfl
theorem k_5_78 : (Jvm.Cond.methodLink "StaveHouse$Part" (146 : Nat) ({ cls := "StaveHouse$Event", name := "isRest", desc := "()Z" } : Jvm.MethodName)) ∈ wAll := wA_5 (j := 78) rfl rfl
theorem k_9_111 : (Jvm.Cond.methodLink "StaveHouse$Part" (238 : Nat) ({ cls := "java/lang/Math", name := "max", desc := "(JJ)J" } : Jvm.MethodName)) ∈ wAll := wA_9 (j := 111) rfl rfl
theorem k_2_162 : (Jvm.Cond.methodLink "StaveHouse" (52 : Nat) ({ cls := "StaveHouse", name := "waitWord", desc := "(II)V" } : Jvm.MethodName)) ∈ wAll := wA_2 (j := 162) rfl rfl
theorem k_2_164 : (Jvm.Cond.instanceMethod ({ cls := "StaveHouse", name := "waitWord", desc := "(II)V" } : Jvm.MethodName)) ∈ wAll := wA_2 (j := 164) rfl rfl
theorem ks_0 : (Jvm.Cond.selects "StaveHouse" ({ cls := "StaveHouse", name := "waitWord", desc := "(II)V" } : Jvm.MethodName) ({ cls := "StaveHouse", name := "waitWord", desc := "(II)V" } : Jvm.MethodName)) ∈ wAll := wA_s (j := 0) rfl rfl
theorem k_2_165 : (Jvm.Cond.code ({ cls := "StaveHouse", name := "waitWord", desc := "(II)V" } : Jvm.MethodName) prog_1_method_3_code (4 : Nat) (Option.none : Option Jvm.ClassFile.FieldType)) ∈ wAll := wA_2 (j := 165) rfl rfl
theorem k_3_44 : (Jvm.Cond.methodLink "StaveHouse$Tokens" (76 : Nat) ({ cls := "StaveHouse$Tokens", name := "isLetter", desc := "(I)Z" } : Jvm.MethodName)) ∈ wAll := wA_3 (j := 44) rfl rfl
theorem k_3_45 : (Jvm.Cond.static ({ cls := "StaveHouse$Tokens", name := "isLetter", desc := "(I)Z" } : Jvm.MethodName)) ∈ wAll := wA_3 (j := 45) rfl rfl
theorem k_3_46 : (Jvm.Cond.code ({ cls := "StaveHouse$Tokens", name := "isLetter", desc := "(I)Z" } : Jvm.MethodName) prog_12_method_12_code (1 : Nat) (Option.some Jvm.ClassFile.FieldType.boolean)) ∈ wAll := wA_3 (j := 46) rfl rfl
theorem k_3_47 : (Jvm.Cond.methodLink "StaveHouse$Tokens" (79 : Nat) ({ cls := "StaveHouse$Tokens", name := "isDigit", desc := "(I)Z" } : Jvm.MethodName)) ∈ wAll := wA_3 (j := 47) rfl rfl
theorem k_3_48 : (Jvm.Cond.static ({ cls := "StaveHouse$Tokens", name := "isDigit", desc := "(I)Z" } : Jvm.MethodName)) ∈ wAll := wA_3 (j := 48) rfl rfl
theorem k_3_49 : (Jvm.Cond.code ({ cls := "StaveHouse$Tokens", name := "isDigit", desc := "(I)Z" } : Jvm.MethodName) prog_12_method_13_code (1 : Nat) (Option.some Jvm.ClassFile.FieldType.boolean)) ∈ wAll := wA_3 (j := 49) rfl rfl
theorem k_3_41 : (Jvm.Cond.methodLink "StaveHouse$Tokens" (36 : Nat) ({ cls := "StaveHouse$Tokens", name := "isRunByte", desc := "(I)Z" } : Jvm.MethodName)) ∈ wAll := wA_3 (j := 41) rfl rfl
theorem k_3_42 : (Jvm.Cond.static ({ cls := "StaveHouse$Tokens", name := "isRunByte", desc := "(I)Z" } : Jvm.MethodName)) ∈ wAll := wA_3 (j := 42) rfl rfl
theorem k_3_43 : (Jvm.Cond.code ({ cls := "StaveHouse$Tokens", name := "isRunByte", desc := "(I)Z" } : Jvm.MethodName) prog_12_method_14_code (1 : Nat) (Option.some Jvm.ClassFile.FieldType.boolean)) ∈ wAll := wA_3 (j := 43) rfl rfl
theorem k_3_57 : (Jvm.Cond.methodLink "StaveHouse$Tokens" (82 : Nat) ({ cls := "StaveHouse$Tokens", name := "isPitch", desc := "(LStaveHouse$ByteRow;II)Z" } : Jvm.MethodName)) ∈ wAll := wA_3 (j := 57) rfl rfl
theorem k_3_58 : (Jvm.Cond.static ({ cls := "StaveHouse$Tokens", name := "isPitch", desc := "(LStaveHouse$ByteRow;II)Z" } : Jvm.MethodName)) ∈ wAll := wA_3 (j := 58) rfl rfl
theorem k_3_59 : (Jvm.Cond.code ({ cls := "StaveHouse$Tokens", name := "isPitch", desc := "(LStaveHouse$ByteRow;II)Z" } : Jvm.MethodName) prog_12_method_9_code (8 : Nat) (Option.some Jvm.ClassFile.FieldType.boolean)) ∈ wAll := wA_3 (j := 59) rfl rfl
theorem k_3_63 : (Jvm.Cond.methodLink "StaveHouse$Tokens" (90 : Nat) ({ cls := "StaveHouse$Tokens", name := "joined", desc := "(LStaveHouse$ByteRow;IIII)J" } : Jvm.MethodName)) ∈ wAll := wA_3 (j := 63) rfl rfl
theorem k_3_64 : (Jvm.Cond.static ({ cls := "StaveHouse$Tokens", name := "joined", desc := "(LStaveHouse$ByteRow;IIII)J" } : Jvm.MethodName)) ∈ wAll := wA_3 (j := 64) rfl rfl
theorem k_3_65 : (Jvm.Cond.code ({ cls := "StaveHouse$Tokens", name := "joined", desc := "(LStaveHouse$ByteRow;IIII)J" } : Jvm.MethodName) prog_12_method_8_code (8 : Nat) (Option.some Jvm.ClassFile.FieldType.long)) ∈ wAll := wA_3 (j := 65) rfl rfl
theorem k_3_60 : (Jvm.Cond.methodLink "StaveHouse$Tokens" (86 : Nat) ({ cls := "StaveHouse$Tokens", name := "pitchValue", desc := "(LStaveHouse$ByteRow;II)J" } : Jvm.MethodName)) ∈ wAll := wA_3 (j := 60) rfl rfl
theorem k_3_61 : (Jvm.Cond.static ({ cls := "StaveHouse$Tokens", name := "pitchValue", desc := "(LStaveHouse$ByteRow;II)J" } : Jvm.MethodName)) ∈ wAll := wA_3 (j := 61) rfl rfl
theorem k_3_62 : (Jvm.Cond.code ({ cls := "StaveHouse$Tokens", name := "pitchValue", desc := "(LStaveHouse$ByteRow;II)J" } : Jvm.MethodName) prog_12_method_10_code (6 : Nat) (Option.some Jvm.ClassFile.FieldType.long)) ∈ wAll := wA_3 (j := 62) rfl rfl
theorem k_3_92 : (Jvm.Cond.methodLink "java/lang/StringLatin1" (88 : Nat) ({ cls := "java/lang/StringLatin1", name := "canEncode", desc := "(I)Z" } : Jvm.MethodName)) ∈ wAll := wA_3 (j := 92) rfl rfl
theorem k_3_93 : (Jvm.Cond.static ({ cls := "java/lang/StringLatin1", name := "canEncode", desc := "(I)Z" } : Jvm.MethodName)) ∈ wAll := wA_3 (j := 93) rfl rfl
theorem k_3_94 : (Jvm.Cond.code ({ cls := "java/lang/StringLatin1", name := "canEncode", desc := "(I)Z" } : Jvm.MethodName) prog_22_method_4_code (1 : Nat) (Option.some Jvm.ClassFile.FieldType.boolean)) ∈ wAll := wA_3 (j := 94) rfl rfl
theorem k_3_95 : (Jvm.Cond.methodLink "java/lang/StringLatin1" (92 : Nat) ({ cls := "java/lang/Math", name := "max", desc := "(II)I" } : Jvm.MethodName)) ∈ wAll := wA_3 (j := 95) rfl rfl
theorem k_3_96 : (Jvm.Cond.methodLink "java/lang/StringLatin1" (38 : Nat) ({ cls := "java/lang/Math", name := "min", desc := "(II)I" } : Jvm.MethodName)) ∈ wAll := wA_3 (j := 96) rfl rfl
theorem k_3_99 : (Jvm.Cond.methodLink "java/lang/StringLatin1" (95 : Nat) ({ cls := "java/lang/StringLatin1", name := "indexOfChar", desc := "([BIII)I" } : Jvm.MethodName)) ∈ wAll := wA_3 (j := 99) rfl rfl
theorem k_3_100 : (Jvm.Cond.static ({ cls := "java/lang/StringLatin1", name := "indexOfChar", desc := "([BIII)I" } : Jvm.MethodName)) ∈ wAll := wA_3 (j := 100) rfl rfl
theorem k_3_101 : (Jvm.Cond.code ({ cls := "java/lang/StringLatin1", name := "indexOfChar", desc := "([BIII)I" } : Jvm.MethodName) prog_22_method_23_code (6 : Nat) (Option.some Jvm.ClassFile.FieldType.int)) ∈ wAll := wA_3 (j := 101) rfl rfl
theorem k_3_194 : (Jvm.Cond.fieldLink "StaveHouse$Parser" (221 : Nat) "StaveHouse$Parser" "OTHER_WORDS" "[J") ∈ wAll := wA_3 (j := 194) rfl rfl
theorem k_3_204 : (Jvm.Cond.methodLink "StaveHouse$Parser" (146 : Nat) ({ cls := "StaveHouse$Parser", name := "takeSign", desc := "(C)Z" } : Jvm.MethodName)) ∈ wAll := wA_3 (j := 204) rfl rfl
theorem k_3_206 : (Jvm.Cond.instanceMethod ({ cls := "StaveHouse$Parser", name := "takeSign", desc := "(C)Z" } : Jvm.MethodName)) ∈ wAll := wA_3 (j := 206) rfl rfl
theorem ks_9 : (Jvm.Cond.selects "StaveHouse$Parser" ({ cls := "StaveHouse$Parser", name := "takeSign", desc := "(C)Z" } : Jvm.MethodName) ({ cls := "StaveHouse$Parser", name := "takeSign", desc := "(C)Z" } : Jvm.MethodName)) ∈ wAll := wA_s (j := 9) rfl rfl
theorem k_3_207 : (Jvm.Cond.code ({ cls := "StaveHouse$Parser", name := "takeSign", desc := "(C)Z" } : Jvm.MethodName) prog_5_method_14_code (2 : Nat) (Option.some Jvm.ClassFile.FieldType.boolean)) ∈ wAll := wA_3 (j := 207) rfl rfl
theorem k_4_13 : (Jvm.Cond.methodLink "StaveHouse$Parser" (224 : Nat) ({ cls := "java/lang/Long", name := "bitCount", desc := "(J)I" } : Jvm.MethodName)) ∈ wAll := wA_4 (j := 13) rfl rfl
theorem k_4_14 : (Jvm.Cond.static ({ cls := "java/lang/Long", name := "bitCount", desc := "(J)I" } : Jvm.MethodName)) ∈ wAll := wA_4 (j := 14) rfl rfl
theorem k_1_17 : (Jvm.Cond.initialized "java/lang/Long") ∈ wAll := wA_1 (j := 17) rfl rfl
theorem k_4_15 : (Jvm.Cond.code ({ cls := "java/lang/Long", name := "bitCount", desc := "(J)I" } : Jvm.MethodName) prog_19_method_50_code (2 : Nat) (Option.some Jvm.ClassFile.FieldType.int)) ∈ wAll := wA_4 (j := 15) rfl rfl
theorem k_1_136 : (Jvm.Cond.fieldLink "StaveHouse$Parser" (135 : Nat) "StaveHouse$Parser" "number" "I") ∈ wAll := wA_1 (j := 136) rfl rfl
theorem k_4_9 : (Jvm.Cond.methodLink "StaveHouse$Parser" (131 : Nat) ({ cls := "StaveHouse$Parser", name := "takeNumber", desc := "(IIZ)Z" } : Jvm.MethodName)) ∈ wAll := wA_4 (j := 9) rfl rfl
theorem k_4_11 : (Jvm.Cond.instanceMethod ({ cls := "StaveHouse$Parser", name := "takeNumber", desc := "(IIZ)Z" } : Jvm.MethodName)) ∈ wAll := wA_4 (j := 11) rfl rfl
theorem ks_19 : (Jvm.Cond.selects "StaveHouse$Parser" ({ cls := "StaveHouse$Parser", name := "takeNumber", desc := "(IIZ)Z" } : Jvm.MethodName) ({ cls := "StaveHouse$Parser", name := "takeNumber", desc := "(IIZ)Z" } : Jvm.MethodName)) ∈ wAll := wA_s (j := 19) rfl rfl
theorem k_4_12 : (Jvm.Cond.code ({ cls := "StaveHouse$Parser", name := "takeNumber", desc := "(IIZ)Z" } : Jvm.MethodName) prog_5_method_15_code (5 : Nat) (Option.some Jvm.ClassFile.FieldType.boolean)) ∈ wAll := wA_4 (j := 12) rfl rfl
theorem W_prog_1_method_2_code_0 : chW prog_1_method_2_code 0 [42, 3, 27, 182, 0, 52, 42, 7, 28, 182, 0, 52, 42, 16, 8, 29, 182, 0, 52, 42, 16, 12, 21, 4, 182, 0, 52, 42, 16, 16, 21, 5, 182, 0, 52, 177] := chW_of (by decide +kernel)
theorem W_prog_1_method_4_code_0 : chW prog_1_method_4_code 0 [27, 155, 0, 24, 27, 16, 20, 163, 0, 18, 42, 180, 0, 14, 180, 0, 56, 27, 96, 17, 11, 184, 164, 0, 5, 2, 172, 3, 61, 28, 27, 162, 0, 22, 42, 180] := chW_of (by decide +kernel)
theorem W_prog_1_method_4_code_32 : chW prog_1_method_4_code 32 [0, 22, 42, 180, 0, 14, 42, 180, 0, 18, 28, 46, 182, 0, 60, 132, 2, 1, 167, 255, 235, 42, 180, 0, 14, 180, 0, 56, 172] := chW_of (by decide +kernel)
theorem W_prog_12_method_14_code_0 : chW prog_12_method_14_code 0 [26, 184, 0, 76, 154, 0, 16, 26, 184, 0, 79, 154, 0, 9, 26, 16, 35, 160, 0, 7, 4, 167, 0, 4, 3, 172] := chW_of (by decide +kernel)
theorem W_prog_12_method_6_code_0 : chW prog_12_method_6_code 0 [27, 61, 28, 42, 180, 0, 22, 162, 0, 20, 42, 28, 182, 0, 28, 184, 0, 36, 153, 0, 9, 132, 2, 1, 167, 255, 234, 28, 172] := chW_of (by decide +kernel)
theorem W_prog_12_method_7_code_0 : chW prog_12_method_7_code 0 [3, 54, 5, 3, 54, 6, 29, 54, 7, 21, 7, 21, 4, 162, 0, 53, 21, 5, 43, 21, 7, 182, 0, 28, 184, 0, 76, 153, 0, 7, 4, 167, 0, 4, 3, 96] := chW_of (by decide +kernel)
theorem W_prog_12_method_7_code_64 : chW prog_12_method_7_code 64 [255, 202, 21, 4, 29, 100, 54, 7, 42, 180, 0, 9, 28, 4, 79, 42, 180, 0, 18, 28, 9, 80, 43, 29, 21, 7, 184, 0, 82, 153, 0, 26, 42, 180, 0, 9] := chW_of (by decide +kernel)
theorem W_prog_22_method_22_code_0 : chW prog_22_method_22_code 0 [27, 184, 0, 88, 154, 0, 5, 2, 172, 28, 3, 184, 0, 92, 61, 29, 42, 190, 184, 0, 38, 62, 28, 29, 161, 0, 5, 2, 172, 42, 27, 28, 29, 184, 0, 95] := chW_of (by decide +kernel)
theorem W_prog_5_method_4_code_0 : chW prog_5_method_4_code 0 [42, 180, 0, 48, 20, 0, 86, 182, 0, 88, 153, 0, 18, 42, 180, 0, 66, 16, 6, 162, 0, 7, 4, 167, 0, 4, 3, 172, 42, 182, 0, 112, 153, 0, 19, 42] := chW_of (by decide +kernel)
theorem W_prog_5_method_12_code_0 : chW prog_5_method_12_code 0 [42, 180, 0, 48, 180, 0, 173, 64, 42, 180, 0, 48, 180, 0, 108, 7, 160, 0, 51, 178, 0, 190, 31, 184, 0, 193, 2, 160, 0, 40, 178, 0, 215, 31, 184, 0] := chW_of (by decide +kernel)
theorem W_prog_5_method_14_code_0 : chW prog_5_method_14_code 0 [42, 180, 0, 48, 27, 182, 0, 153, 154, 0, 9, 42, 5, 182, 0, 101, 172, 42, 180, 0, 48, 182, 0, 122, 4, 172] := chW_of (by decide +kernel)
theorem W_prog_5_method_25_code_0 : chW prog_5_method_25_code 0 [42, 180, 0, 48, 182, 0, 122, 3, 61, 28, 16, 6, 162, 0, 25, 42, 180, 0, 48, 180, 0, 108, 5, 160, 0, 14, 42, 27, 182, 1, 21, 132, 2, 1, 167, 255] := chW_of (by decide +kernel)
theorem d_5_25_31 : decode prog_5_method_25_code 31 = .ok (.iinc 2 1, 3) := D_132 W_prog_5_method_25_code_0 31 rfl rfl rfl
theorem W_prog_5_method_25_code_32 : chW prog_5_method_25_code 32 [2, 1, 167, 255, 231, 42, 180, 0, 30, 27, 46, 5, 162, 0, 11, 42, 5, 182, 0, 101, 167, 0, 9, 42, 16, 62, 182, 0, 146, 172] := chW_of (by decide +kernel)
theorem W_prog_5_method_15_code_0 : chW prog_5_method_15_code 0 [42, 180, 0, 48, 180, 0, 108, 6, 159, 0, 9, 42, 5, 182, 0, 101, 172, 42, 180, 0, 48, 180, 0, 173, 27, 133, 148, 155, 0, 20, 42, 180, 0, 48, 180, 0] := chW_of (by decide +kernel)
theorem W_prog_5_method_15_code_32 : chW prog_5_method_15_code 32 [0, 48, 180, 0, 173, 28, 133, 148, 157, 0, 7, 4, 167, 0, 4, 3, 54, 4, 21, 4, 153, 0, 21, 29, 153, 0, 23, 42, 180, 0, 48, 180, 0, 173, 184, 0] := chW_of (by decide +kernel)
theorem W_prog_5_method_15_code_64 : chW prog_5_method_15_code 64 [0, 173, 184, 0, 224, 4, 159, 0, 9, 42, 8, 182, 0, 101, 172, 42, 42, 180, 0, 48, 180, 0, 173, 136, 181, 0, 135, 42, 180, 0, 48, 182, 0, 122, 4, 172] := chW_of (by decide +kernel)
theorem W_prog_5_method_29_code_0 : chW prog_5_method_29_code 0 [42, 28, 29, 3, 182, 0, 131, 154, 0, 5, 3, 172, 42, 180, 0, 18, 27, 42, 180, 0, 135, 79, 42, 16, 47, 182, 0, 146, 153, 0, 13, 42, 4, 29, 3, 182] := chW_of (by decide +kernel)
theorem W_prog_7_method_26_code_0 : chW prog_7_method_26_code 0 [26, 16, 12, 108, 60, 178, 1, 42, 26, 16, 12, 112, 47, 65, 27, 16, 9, 163, 0, 12, 32, 16, 9, 27, 100, 123, 167, 0, 9, 32, 27, 16, 9, 100, 121, 173] := chW_of (by decide +kernel)
theorem W_prog_7_method_26_code_32 : chW prog_7_method_26_code 32 [9, 100, 121, 173] := chW_of (by decide +kernel)
theorem W_prog_7_method_27_code_0 : chW prog_7_method_27_code 0 [27, 17, 0, 128, 162, 0, 13, 5, 27, 104, 17, 0, 128, 100, 167, 0, 10, 17, 1, 127, 5, 27, 104, 100, 61, 26, 170, 0, 0, 0, 0, 49, 0, 0, 0, 0] := chW_of (by decide +kernel)
theorem d_7_27_26 : decode prog_7_method_27_code 26 = .ok (.tableswitch 49 0 2 #[26, 41, 47], 26) := by decide +kernel
theorem W_prog_7_method_27_code_32 : chW prog_7_method_27_code 32 [0, 0, 0, 0, 0, 0, 0, 2, 0, 0, 0, 26, 0, 0, 0, 41, 0, 0, 0, 47, 27, 17, 0, 128, 162, 0, 8, 16, 96, 167, 0, 5, 16, 160, 172, 27] := chW_of (by decide +kernel)
theorem W_prog_7_method_27_code_64 : chW prog_7_method_27_code 64 [16, 160, 172, 27, 17, 0, 128, 100, 172, 28, 172, 28, 17, 0, 128, 28, 184, 1, 45, 100, 104, 16, 32, 108, 172] := chW_of (by decide +kernel)
theorem W_prog_7_method_28_code_0 : chW prog_7_method_28_code 0 [26, 16, 40, 162, 0, 14, 17, 1, 0, 26, 104, 16, 40, 108, 167, 0, 20, 17, 1, 0, 26, 16, 40, 100, 16, 16, 108, 100, 17, 0, 128, 184, 0, 144, 172] := chW_of (by decide +kernel)
theorem W_prog_7_method_28_code_32 : chW prog_7_method_28_code 32 [0, 144, 172] := chW_of (by decide +kernel)
theorem W_prog_7_method_30_code_0 : chW prog_7_method_30_code 0 [178, 1, 51, 42, 180, 0, 168, 46, 60, 42, 180, 0, 162, 42, 180, 0, 165, 100, 61, 28, 156, 0, 8, 16, 8, 167, 0, 4, 3, 62, 28, 184, 1, 45, 61, 27] := chW_of (by decide +kernel)
theorem W_prog_7_method_30_code_32 : chW prog_7_method_30_code 32 [1, 45, 61, 27, 16, 8, 108, 54, 4, 27, 54, 5, 7, 54, 6, 21, 6, 158, 0, 52, 28, 21, 5, 161, 0, 20, 29, 21, 6, 128, 62, 28, 21, 5, 100, 61] := chW_of (by decide +kernel)
theorem W_prog_7_method_30_code_96 : chW prog_7_method_30_code 96 [54, 6, 167, 255, 205, 29, 16, 8, 161, 0, 13, 42, 180, 0, 165, 21, 4, 100, 167, 0, 10, 42, 180, 0, 165, 21, 4, 96, 54, 6, 42, 17, 128, 0, 17, 127] := chW_of (by decide +kernel)
theorem W_prog_7_method_30_code_64 : chW prog_7_method_30_code 64 [21, 5, 100, 61, 21, 4, 21, 5, 96, 54, 4, 21, 6, 7, 160, 0, 9, 27, 5, 108, 167, 0, 6, 27, 7, 108, 54, 5, 21, 6, 5, 108, 54, 6, 167, 255] := chW_of (by decide +kernel)
theorem W_prog_7_method_30_code_128 : chW prog_7_method_30_code 128 [128, 0, 17, 127, 255, 21, 6, 184, 0, 99, 184, 0, 144, 181, 0, 165, 42, 3, 16, 88, 42, 180, 0, 168, 178, 1, 54, 29, 16, 7, 126, 46, 96, 184, 0, 99] := chW_of (by decide +kernel)
theorem W_prog_7_method_30_code_160 : chW prog_7_method_30_code 160 [96, 184, 0, 99, 184, 0, 144, 181, 0, 168, 29, 172] := chW_of (by decide +kernel)
theorem W_prog_1_method_29_code_0 : chW prog_1_method_29_code 0 [42, 27, 182, 1, 0, 58, 4, 25, 4, 198, 0, 16, 28, 155, 0, 12, 28, 25, 4, 180, 1, 44, 161, 0, 6, 18, 218, 172, 29, 171, 0, 0, 0, 0, 0, 43] := chW_of (by decide +kernel)
theorem d_1_29_29 : decode prog_1_method_29_code 29 = .ok (.lookupswitch 43 #[(0, 27), (1, 35)], 27) := by decide +kernel
theorem W_prog_1_method_29_code_32 : chW prog_1_method_29_code 32 [0, 0, 0, 43, 0, 0, 0, 2, 0, 0, 0, 0, 0, 0, 0, 27, 0, 0, 0, 1, 0, 0, 0, 35, 25, 4, 180, 1, 47, 28, 46, 172, 25, 4, 180, 1] := chW_of (by decide +kernel)
theorem W_prog_1_method_29_code_64 : chW prog_1_method_29_code 64 [25, 4, 180, 1, 50, 28, 46, 172, 18, 218, 172] := chW_of (by decide +kernel)
theorem W_prog_11_method_13_code_0 : chW prog_11_method_13_code 0 [3, 62, 29, 16, 7, 162, 0, 16, 42, 180, 0, 40, 29, 3, 79, 132, 3, 1, 167, 255, 240, 3, 62, 29, 43, 180, 0, 58, 162, 0, 73, 42, 43, 29, 28, 182] := chW_of (by decide +kernel)
theorem d_11_13_15 : decode prog_11_method_13_code 15 = .ok (.iinc 3 1, 3) := D_132 W_prog_11_method_13_code_0 15 rfl rfl rfl
theorem W_prog_11_method_13_code_96 : chW prog_11_method_13_code 96 [3, 1, 167, 255, 181, 177] := chW_of (by decide +kernel)
theorem W_prog_11_method_13_code_32 : chW prog_11_method_13_code 32 [43, 29, 28, 182, 0, 98, 58, 4, 3, 54, 5, 25, 4, 198, 0, 50, 21, 5, 25, 4, 180, 0, 165, 162, 0, 40, 42, 180, 0, 40, 25, 4, 180, 0, 106, 21] := chW_of (by decide +kernel)
theorem W_prog_11_method_13_code_64 : chW prog_11_method_13_code 64 [180, 0, 106, 21, 5, 46, 16, 7, 112, 92, 46, 4, 25, 4, 180, 0, 168, 21, 5, 46, 5, 96, 120, 128, 79, 132, 5, 1, 167, 255, 207, 132, 3, 1, 167, 255] := chW_of (by decide +kernel)
theorem d_11_13_89 : decode prog_11_method_13_code 89 = .ok (.iinc 5 1, 3) := D_132 W_prog_11_method_13_code_64 25 rfl rfl rfl
theorem d_11_13_95 : decode prog_11_method_13_code 95 = .ok (.iinc 3 1, 3) := D_132 W_prog_11_method_13_code_64 31 rfl rfl rfl
theorem W_prog_11_method_14_code_0 : chW prog_11_method_14_code 0 [42, 180, 0, 40, 27, 46, 4, 100, 184, 0, 142, 5, 100, 172] := chW_of (by decide +kernel)
theorem W_prog_11_method_18_code_0 : chW prog_11_method_18_code 0 [7, 42, 180, 0, 183, 104, 42, 180, 0, 186, 4, 160, 0, 7, 8, 167, 0, 4, 3, 96, 16, 7, 184, 0, 130, 172] := chW_of (by decide +kernel)
theorem W_prog_11_method_19_code_0 : chW prog_11_method_19_code 0 [3, 61, 28, 16, 7, 162, 0, 37, 4, 43, 180, 0, 183, 28, 184, 0, 189, 5, 96, 120, 62, 42, 180, 0, 40, 28, 46, 29, 2, 130, 126, 153, 0, 5, 4, 172] := chW_of (by decide +kernel)
theorem W_prog_11_method_19_code_32 : chW prog_11_method_19_code 32 [0, 5, 4, 172, 132, 2, 1, 167, 255, 219, 3, 172] := chW_of (by decide +kernel)
theorem d_11_19_36 : decode prog_11_method_19_code 36 = .ok (.iinc 2 1, 3) := D_132 W_prog_11_method_19_code_32 4 rfl rfl rfl
theorem W_prog_6_method_26_code_0 : chW prog_6_method_26_code 0 [3, 60, 27, 42, 180, 0, 31, 162, 0, 23, 42, 180, 0, 11, 27, 50, 182, 0, 146, 154, 0, 5, 27, 172, 132, 1, 1, 167, 255, 231, 2, 172] := chW_of (by decide +kernel)
theorem d_6_26_24 : decode prog_6_method_26_code 24 = .ok (.iinc 1 1, 3) := D_132 W_prog_6_method_26_code_0 24 rfl rfl rfl
theorem W_prog_6_method_29_code_0 : chW prog_6_method_29_code 0 [42, 180, 0, 87, 43, 180, 0, 87, 184, 0, 235, 10, 184, 0, 238, 55, 4, 44, 180, 0, 87, 45, 180, 0, 87, 184, 0, 235, 10, 184, 0, 238, 55, 6, 42, 180] := chW_of (by decide +kernel)
theorem W_prog_6_method_29_code_32 : chW prog_6_method_29_code 32 [55, 6, 42, 180, 0, 87, 22, 4, 109, 44, 180, 0, 87, 22, 6, 109, 148, 154, 0, 25, 43, 180, 0, 87, 22, 4, 109, 45, 180, 0, 87, 22, 6, 109, 148, 154] := chW_of (by decide +kernel)
theorem W_prog_6_method_29_code_64 : chW prog_6_method_29_code 64 [6, 109, 148, 154, 0, 7, 4, 167, 0, 4, 3, 172] := chW_of (by decide +kernel)
theorem W_prog_1_method_2_code_32 : chW prog_1_method_2_code 32 [182, 0, 52, 177] := chW_of (by decide +kernel)
theorem d_1_4_47 : decode prog_1_method_4_code 47 = .ok (.iinc 2 1, 3) := D_132 W_prog_1_method_4_code_32 15 rfl rfl rfl
theorem d_12_6_21 : decode prog_12_method_6_code 21 = .ok (.iinc 2 1, 3) := D_132 W_prog_12_method_6_code_0 21 rfl rfl rfl
theorem W_prog_12_method_7_code_96 : chW prog_12_method_7_code 96 [42, 180, 0, 9, 28, 5, 79, 42, 180, 0, 18, 28, 43, 29, 21, 7, 184, 0, 86, 80, 167, 0, 81, 21, 6, 21, 7, 160, 0, 36, 21, 7, 7, 163, 0, 30] := chW_of (by decide +kernel)
theorem W_prog_12_method_7_code_128 : chW prog_12_method_7_code 128 [7, 163, 0, 30, 42, 180, 0, 9, 28, 6, 79, 42, 180, 0, 18, 28, 43, 29, 21, 7, 16, 10, 16, 48, 184, 0, 90, 80, 167, 0, 41, 21, 5, 21, 7, 160] := chW_of (by decide +kernel)
theorem W_prog_12_method_7_code_32 : chW prog_12_method_7_code 32 [0, 4, 3, 96, 54, 5, 21, 6, 43, 21, 7, 182, 0, 28, 184, 0, 79, 153, 0, 7, 4, 167, 0, 4, 3, 96, 54, 6, 132, 7, 1, 167, 255, 202, 21, 4] := chW_of (by decide +kernel)
theorem d_12_7_60 : decode prog_12_method_7_code 60 = .ok (.iinc 7 1, 3) := D_132 W_prog_12_method_7_code_32 28 rfl rfl rfl
theorem W_prog_12_method_7_code_192 : chW prog_12_method_7_code 192 [3, 184, 0, 90, 80, 177] := chW_of (by decide +kernel)
theorem W_prog_12_method_7_code_160 : chW prog_12_method_7_code 160 [5, 21, 7, 160, 0, 34, 21, 7, 16, 8, 163, 0, 27, 42, 180, 0, 9, 28, 7, 79, 42, 180, 0, 18, 28, 43, 29, 21, 7, 17, 1, 0, 3, 184, 0, 90] := chW_of (by decide +kernel)
theorem W_prog_22_method_22_code_32 : chW prog_22_method_22_code 32 [29, 184, 0, 95, 172] := chW_of (by decide +kernel)
theorem W_prog_5_method_4_code_32 : chW prog_5_method_4_code 32 [153, 0, 19, 42, 180, 0, 69, 42, 182, 0, 112, 126, 154, 0, 7, 4, 167, 0, 4, 3, 172] := chW_of (by decide +kernel)
theorem W_prog_5_method_12_code_32 : chW prog_5_method_12_code 32 [215, 31, 184, 0, 193, 2, 160, 0, 29, 178, 0, 218, 31, 184, 0, 193, 2, 160, 0, 18, 178, 0, 221, 31, 184, 0, 193, 2, 160, 0, 7, 4, 167, 0, 4, 3] := chW_of (by decide +kernel)
theorem W_prog_5_method_12_code_64 : chW prog_5_method_12_code 64 [167, 0, 4, 3, 172] := chW_of (by decide +kernel)
theorem W_prog_5_method_15_code_96 : chW prog_5_method_15_code 96 [0, 122, 4, 172] := chW_of (by decide +kernel)
theorem W_prog_5_method_29_code_32 : chW prog_5_method_29_code 32 [4, 29, 3, 182, 0, 131, 154, 0, 5, 3, 172, 42, 180, 0, 21, 27, 42, 180, 0, 135, 79, 4, 172] := chW_of (by decide +kernel)
abbrev Q_Performance_turn (K : zK) (D : va_G) (ca : Nat → ClassId) (ad : Nat → Int → Nat → Nat) (L : List Nat) (r : Int) (F : zF) (B : zB) (A : Nat → Prop) : Array Value → State → Outcome → State → Prop := va_Ql (S := Unit) (fun p _ => p = lI r) (fun _ => zPo D ca ad lnC K.2 L F B A) A
def f_Performance_turn_35 (K : zK) (s0 : Int) (F : zF) (B : zB) : zO := some (s0, F, B)
set_option maxHeartbeats 4000000 in
set_option maxRecDepth 100000 in
theorem b_Performance_turn_35 {D : va_G} {ca : Nat → ClassId} {ad : Nat → Int → Nat → Nat} {L : List Nat} {aS vS : Nat → Nat} {A : Nat → Prop} {p : Program} {l : Launch} {e : Env} {s : State} {m : MethodId} {args : Array Value} {below : List Frame} {meth : Method} {c : Code} {K : zK} {r : Int} {F9 : zF} {B9 : zB} (X : zX D ca L aS vS A p s m args meth c prog_7_method_26_code 4 (Option.some Jvm.ClassFile.FieldType.long) "StaveHouse$Performance") {s0 : Int} {F : zF} {B : zB} {H : Heap} {locs : List Loc} {ls : Array Slot} (hf : f_Performance_turn_35 K s0 F B = some (r, F9, B9)) (hZ : zH D ca ad lnC K.2 L F B A H) (hS : va_S A s.heap H locs) (hl : lv_has ls 4 []) : W p l e ({ frames := 0, cells := 0, slots := 0, locals := 0 } : Room) s m args below meth c H locs 0 0 (MQ below (Q_Performance_turn K D ca ad L r F9 B9 A) args s 0 0 A) (F0 m 35 ls [.long (lI s0)]) := by
  obtain ⟨hx, hb, hr, hml, hown, hts, hlk, hK, hA, hL, hX⟩ := id X
  replace hf : (some (s0, F, B)) = some (r, F9, B9) := hf
  cases hf
  exact W.lret hx hb hr (fun t ht hW => ⟨⟨_, (), rfl, rfl, by rw [ht]; exact hZ, va_K.moved hW.alike hK⟩, hS.F ht⟩) hS.2.2 (D_173 W_prog_7_method_26_code_32 3 rfl rfl) hlk

def f_Performance_turn (K : zK) (l0 : Int) (F : zF) (B : zB) : zO := if 0 ≤ (zrm l0 12) ∧ (zrm l0 12) < ztl 13 then if r32 (zdv l0 12) then (if 9 < (zdv l0 12) then f_Performance_turn_35 K (zlshl (ztv 13 (zrm l0 12)) ((zdv l0 12) - 9)) F B else f_Performance_turn_35 K (zlshr (ztv 13 (zrm l0 12)) (9 - (zdv l0 12))) F B) else none else none
set_option maxHeartbeats 4000000 in
set_option maxRecDepth 100000 in
theorem c_Performance_turn {l : Launch} {D : va_G} {ca : Nat → ClassId} {ad : Nat → Int → Nat → Nat} {L : List Nat} {aS vS : Nat → Nat} {sz : Nat} {K : zK}  {l0 : Int} {F F9 : zF} {B B9 : zB} {r : Int} (hf : f_Performance_turn K l0 F B = some (r, F9, B9)) : Met l ({ cls := "StaveHouse$Performance", name := "turn", desc := "(I)J" } : Jvm.MethodName) (Cond.code ({ cls := "StaveHouse$Performance", name := "turn", desc := "(I)J" } : Jvm.MethodName) prog_7_method_26_code 4 (Option.some Jvm.ClassFile.FieldType.long) :: wAll) ({ frames := 0, cells := 0, slots := 0, locals := 0 } : Room) (va_Pc [.int (iI l0)] (zPre D ca ad lnC K.2 L aS vS F B sz)) (Q_Performance_turn K D ca ad L r F9 B9 (zA L sz)) 0 0 (zA L sz) := by
  refine zMet (Qc := Q_Performance_turn K D ca ad L r F9 B9) (lv := [(0, .int (iI l0))]) (by decide) (Nat.le_of_ble_eq_true rfl) rfl (fun A p e s m below meth c ls X hZ hS hl => ?_)
  obtain ⟨hx, hb, hr, hml, hown, hts, hlk, hK, hA, hL, hX⟩ := id X
  replace hf : (if 0 ≤ (zrm l0 12) ∧ (zrm l0 12) < ztl 13 then if r32 (zdv l0 12) then (if 9 < (zdv l0 12) then f_Performance_turn_35 K (zlshl (ztv 13 (zrm l0 12)) ((zdv l0 12) - 9)) F B else f_Performance_turn_35 K (zlshr (ztv 13 (zrm l0 12)) (9 - (zdv l0 12))) F B) else none else none) = some (r, F9, B9) := hf
  refine lv_iload_n hx hb (D_26 W_prog_7_method_26_code_0 0 rfl rfl) rfl (lv_at hl 0 rfl) ?_
  refine lv_bipush (v := iI 12) hx hb (D_16 W_prog_7_method_26_code_0 1 rfl rfl rfl) (by decide) ?_
  refine zdv_r hx hb (by decide) (D_108 W_prog_7_method_26_code_0 3 rfl rfl) ?_
  refine lv_istore_n (lv' := [(1, .int (iI (zdv l0 12))), (0, .int (iI l0))]) hx hb (D_60 W_prog_7_method_26_code_0 4 rfl rfl) rfl hl (by decide) rfl (fun ls hl => ?_)
  refine va_gets hx hb (hX.2.2.2.2.2.2 13 _ rfl).1 hS hown (hts _ k_9_10) (fun _ h => h) (D_178 W_prog_7_method_26_code_0 5 rfl rfl rfl) ?_
  refine W.eq (g2 := F0 m 8 ls [.ref (vS (1000 + 13))]) rfl ?_
  refine lv_iload_n hx hb (D_26 W_prog_7_method_26_code_0 8 rfl rfl) rfl (lv_at hl 1 rfl) ?_
  refine lv_bipush (v := iI 12) hx hb (D_16 W_prog_7_method_26_code_0 9 rfl rfl rfl) (by decide) ?_
  refine zrm_r hx hb (by decide) (D_112 W_prog_7_method_26_code_0 11 rfl rfl) ?_
  obtain ⟨g1, hf⟩ := gif hf
  refine va_tl (v := .long (lI (ztv 13 (zrm l0 12)))) hx hb (ztL hX (by decide) (by decide)) hS (zt_in (by decide) g1) (ztL_v (by decide) g1) (D_47 W_prog_7_method_26_code_0 12 rfl rfl) ?_
  refine lv_lstore_n (lv' := [(2, .long (lI (ztv 13 (zrm l0 12)))), (1, .int (iI (zdv l0 12))), (0, .int (iI l0))]) hx hb (D_65 W_prog_7_method_26_code_0 13 rfl rfl) rfl hl (by decide) rfl (fun ls hl => ?_)
  refine lv_iload_n hx hb (D_27 W_prog_7_method_26_code_0 14 rfl rfl) rfl (lv_at hl 1 rfl) ?_
  refine lv_bipush (v := iI 9) hx hb (D_16 W_prog_7_method_26_code_0 15 rfl rfl rfl) (by decide) ?_
  obtain ⟨g2, hf⟩ := gif hf
  refine zgt (tgt := 29) hx hb g2 (by decide) (D_163 W_prog_7_method_26_code_0 17 rfl rfl rfl) (by decide) (fun h3 => ?_) (fun h3 => ?_)
  · replace hf := gpos hf h3
    refine lv_lload_n hx hb (D_32 W_prog_7_method_26_code_0 29 rfl rfl) rfl (lv_at hl 0 rfl) ?_
    refine lv_iload_n hx hb (D_27 W_prog_7_method_26_code_0 30 rfl rfl) rfl (lv_at hl 1 rfl) ?_
    refine lv_bipush (v := iI 9) hx hb (D_16 W_prog_7_method_26_code_0 31 rfl rfl rfl) (by decide) ?_
    refine zsub hx hb (D_100 W_prog_7_method_26_code_32 1 rfl rfl) ?_
    refine zlshl_r hx hb (D_121 W_prog_7_method_26_code_32 2 rfl rfl) ?_
    exact b_Performance_turn_35 X hf hZ hS (lv_sub hl [] rfl)
  · replace hf := gneg hf h3
    refine lv_lload_n hx hb (D_32 W_prog_7_method_26_code_0 20 rfl rfl) rfl (lv_at hl 0 rfl) ?_
    refine lv_bipush (v := iI 9) hx hb (D_16 W_prog_7_method_26_code_0 21 rfl rfl rfl) (by decide) ?_
    refine lv_iload_n hx hb (D_27 W_prog_7_method_26_code_0 23 rfl rfl) rfl (lv_at hl 1 rfl) ?_
    refine zsub hx hb (D_100 W_prog_7_method_26_code_0 24 rfl rfl) ?_
    refine zlshr_r hx hb (D_123 W_prog_7_method_26_code_0 25 rfl rfl) ?_
    refine lv_goto (tgt := 35) hx hb (D_167 W_prog_7_method_26_code_0 26 rfl rfl rfl) (by decide) ?_
    exact b_Performance_turn_35 X hf hZ hS (lv_sub hl [] rfl)

abbrev Q_Performance_wave (K : zK) (D : va_G) (ca : Nat → ClassId) (ad : Nat → Int → Nat → Nat) (L : List Nat) (r : Int) (F : zF) (B : zB) (A : Nat → Prop) : Array Value → State → Outcome → State → Prop := va_Qi (S := Unit) (fun p _ => p = iI r) (fun _ => zPo D ca ad lnC K.2 L F B A) A
def f_Performance_wave_66 (K : zK) (s0 : Int) (F : zF) (B : zB) : zO := some (s0, F, B)
set_option maxHeartbeats 4000000 in
set_option maxRecDepth 100000 in
theorem b_Performance_wave_66 {D : va_G} {ca : Nat → ClassId} {ad : Nat → Int → Nat → Nat} {L : List Nat} {aS vS : Nat → Nat} {A : Nat → Prop} {p : Program} {l : Launch} {e : Env} {s : State} {m : MethodId} {args : Array Value} {below : List Frame} {meth : Method} {c : Code} {K : zK} {r : Int} {F9 : zF} {B9 : zB} (X : zX D ca L aS vS A p s m args meth c prog_7_method_27_code 3 (Option.some Jvm.ClassFile.FieldType.int) "StaveHouse$Performance") {s0 : Int} {F : zF} {B : zB} {H : Heap} {locs : List Loc} {ls : Array Slot} (hf : f_Performance_wave_66 K s0 F B = some (r, F9, B9)) (hZ : zH D ca ad lnC K.2 L F B A H) (hS : va_S A s.heap H locs) (hl : lv_has ls 3 []) : W p l e ({ frames := 1, cells := 0, slots := 0, locals := 15 } : Room) s m args below meth c H locs 0 0 (MQ below (Q_Performance_wave K D ca ad L r F9 B9 A) args s 0 0 A) (F0 m 66 ls [.int (iI s0)]) := by
  obtain ⟨hx, hb, hr, hml, hown, hts, hlk, hK, hA, hL, hX⟩ := id X
  replace hf : (some (s0, F, B)) = some (r, F9, B9) := hf
  cases hf
  exact W.iret hx hb hr (fun t ht hW => ⟨⟨_, (), rfl, rfl, by rw [ht]; exact hZ, va_K.moved hW.alike hK⟩, hS.F ht⟩) hS.2.2 (D_172 W_prog_7_method_27_code_64 2 rfl rfl) hlk

def f_Performance_wave_24 (K : zK) (l0 : Int) (l1 : Int) (s0 : Int) (F : zF) (B : zB) : zO := if r32 l0 then (if l0 = 0 then if r32 l1 then (if 128 ≤ l1 then f_Performance_wave_66 K (-96) F B else f_Performance_wave_66 K 96 F B) else none else (if l0 = 1 then some (l1 - 128, F, B) else (if l0 = 2 then some (s0, F, B) else if r32 s0 then some (zdv (s0 * (128 - (zabs s0))) 32, F, B) else none))) else none
set_option maxHeartbeats 4000000 in
set_option maxRecDepth 100000 in
theorem b_Performance_wave_24 {D : va_G} {ca : Nat → ClassId} {ad : Nat → Int → Nat → Nat} {L : List Nat} {aS vS : Nat → Nat} {A : Nat → Prop} {p : Program} {l : Launch} {e : Env} {s : State} {m : MethodId} {args : Array Value} {below : List Frame} {meth : Method} {c : Code} {K : zK} {r : Int} {F9 : zF} {B9 : zB} (X : zX D ca L aS vS A p s m args meth c prog_7_method_27_code 3 (Option.some Jvm.ClassFile.FieldType.int) "StaveHouse$Performance") {l0 : Int} {l1 : Int} {s0 : Int} {F : zF} {B : zB} {H : Heap} {locs : List Loc} {ls : Array Slot} (hf : f_Performance_wave_24 K l0 l1 s0 F B = some (r, F9, B9)) (hZ : zH D ca ad lnC K.2 L F B A H) (hS : va_S A s.heap H locs) (hl : lv_has ls 3 [(0, .int (iI l0)), (1, .int (iI l1))]) : W p l e ({ frames := 1, cells := 0, slots := 0, locals := 15 } : Room) s m args below meth c H locs 0 0 (MQ below (Q_Performance_wave K D ca ad L r F9 B9 A) args s 0 0 A) (F0 m 24 ls [.int (iI s0)]) := by
  obtain ⟨hx, hb, hr, hml, hown, hts, hlk, hK, hA, hL, hX⟩ := id X
  replace hf : (if r32 l0 then (if l0 = 0 then if r32 l1 then (if 128 ≤ l1 then f_Performance_wave_66 K (-96) F B else f_Performance_wave_66 K 96 F B) else none else (if l0 = 1 then some (l1 - 128, F, B) else (if l0 = 2 then some (s0, F, B) else if r32 s0 then some (zdv (s0 * (128 - (zabs s0))) 32, F, B) else none))) else none) = some (r, F9, B9) := hf
  refine lv_istore_n (lv' := [(2, .int (iI s0)), (0, .int (iI l0)), (1, .int (iI l1))]) hx hb (D_61 W_prog_7_method_27_code_0 24 rfl rfl) rfl hl (by decide) rfl (fun ls hl => ?_)
  refine lv_iload_n hx hb (D_26 W_prog_7_method_27_code_0 25 rfl rfl) rfl (lv_at hl 1 rfl) ?_
  obtain ⟨g3, hf⟩ := gif hf
  by_cases h4 : l0 = 0
  · replace hf := gpos hf h4
    refine lv_tableIn (off := 26) (tgt := 52) hx hb d_7_27_26 (by rw [iI_to g3, h4]; decide) (by rw [iI_to g3, h4]; decide) (by rw [iI_to g3, h4]; rfl) (by decide) ?_
    refine lv_iload_n hx hb (D_27 W_prog_7_method_27_code_32 20 rfl rfl) rfl (lv_at hl 2 rfl) ?_
    refine lv_sipush (v := iI 128) hx hb (D_17 W_prog_7_method_27_code_32 21 rfl rfl rfl) (by decide) ?_
    obtain ⟨g5, hf⟩ := gif hf
    refine zge (tgt := 64) hx hb g5 (by decide) (D_162 W_prog_7_method_27_code_32 24 rfl rfl rfl) (by decide) (fun h6 => ?_) (fun h6 => ?_)
    · replace hf := gpos hf h6
      refine lv_bipush (v := iI (-96)) hx hb (D_16 W_prog_7_method_27_code_64 0 rfl rfl rfl) (by decide) ?_
      exact b_Performance_wave_66 X hf hZ hS (lv_sub hl [] rfl)
    · replace hf := gneg hf h6
      refine lv_bipush (v := iI 96) hx hb (D_16 W_prog_7_method_27_code_32 27 rfl rfl rfl) (by decide) ?_
      refine lv_goto (tgt := 66) hx hb (D_167 W_prog_7_method_27_code_32 29 rfl rfl rfl) (by decide) ?_
      exact b_Performance_wave_66 X hf hZ hS (lv_sub hl [] rfl)
  replace hf := gneg hf h4
  by_cases h7 : l0 = 1
  · replace hf := gpos hf h7
    refine lv_tableIn (off := 41) (tgt := 67) hx hb d_7_27_26 (by rw [iI_to g3, h7]; decide) (by rw [iI_to g3, h7]; decide) (by rw [iI_to g3, h7]; rfl) (by decide) ?_
    refine lv_iload_n hx hb (D_27 W_prog_7_method_27_code_64 3 rfl rfl) rfl (lv_at hl 2 rfl) ?_
    refine lv_sipush (v := iI 128) hx hb (D_17 W_prog_7_method_27_code_64 4 rfl rfl rfl) (by decide) ?_
    refine zsub hx hb (D_100 W_prog_7_method_27_code_64 7 rfl rfl) ?_
    cases hf
    exact W.iret hx hb hr (fun t ht hW => ⟨⟨_, (), rfl, rfl, by rw [ht]; exact hZ, va_K.moved hW.alike hK⟩, hS.F ht⟩) hS.2.2 (D_172 W_prog_7_method_27_code_64 8 rfl rfl) hlk
  replace hf := gneg hf h7
  by_cases h8 : l0 = 2
  · replace hf := gpos hf h8
    refine lv_tableIn (off := 47) (tgt := 73) hx hb d_7_27_26 (by rw [iI_to g3, h8]; decide) (by rw [iI_to g3, h8]; decide) (by rw [iI_to g3, h8]; rfl) (by decide) ?_
    refine lv_iload_n hx hb (D_28 W_prog_7_method_27_code_64 9 rfl rfl) rfl (lv_at hl 0 rfl) ?_
    cases hf
    exact W.iret hx hb hr (fun t ht hW => ⟨⟨_, (), rfl, rfl, by rw [ht]; exact hZ, va_K.moved hW.alike hK⟩, hS.F ht⟩) hS.2.2 (D_172 W_prog_7_method_27_code_64 10 rfl rfl) hlk
  replace hf := gneg hf h8
  refine lv_tableOut (tgt := 75) hx hb d_7_27_26 (by rw [iI_to g3]; omega) (by decide) ?_
  refine lv_iload_n hx hb (D_28 W_prog_7_method_27_code_64 11 rfl rfl) rfl (lv_at hl 0 rfl) ?_
  refine lv_sipush (v := iI 128) hx hb (D_17 W_prog_7_method_27_code_64 12 rfl rfl rfl) (by decide) ?_
  refine lv_iload_n hx hb (D_28 W_prog_7_method_27_code_64 15 rfl rfl) rfl (lv_at hl 0 rfl) ?_
  obtain ⟨g9, hf⟩ := gif hf
  refine va_mabs hx hb (by rw [hml]; exact hl.1.symm) hown (hts _ k_9_15) (hts _ k_4_229) (hts _ k_1_3) (hts _ k_4_230) (Nat.le_of_ble_eq_true rfl) (Nat.le_of_ble_eq_true rfl) (Nat.le_of_ble_eq_true rfl) (Nat.le_of_ble_eq_true rfl) (D_184 W_prog_7_method_27_code_64 16 rfl rfl rfl) ?_
  rw [zabs_e g9]
  refine zsub hx hb (D_100 W_prog_7_method_27_code_64 19 rfl rfl) ?_
  refine zmul hx hb (D_104 W_prog_7_method_27_code_64 20 rfl rfl) ?_
  refine lv_bipush (v := iI 32) hx hb (D_16 W_prog_7_method_27_code_64 21 rfl rfl rfl) (by decide) ?_
  refine zdv_r hx hb (by decide) (D_108 W_prog_7_method_27_code_64 23 rfl rfl) ?_
  cases hf
  exact W.iret hx hb hr (fun t ht hW => ⟨⟨_, (), rfl, rfl, by rw [ht]; exact hZ, va_K.moved hW.alike hK⟩, hS.F ht⟩) hS.2.2 (D_172 W_prog_7_method_27_code_64 24 rfl rfl) hlk

def f_Performance_wave (K : zK) (l0 : Int) (l1 : Int) (F : zF) (B : zB) : zO := if r32 l1 then (if 128 ≤ l1 then f_Performance_wave_24 K l0 l1 (383 - (2 * l1)) F B else f_Performance_wave_24 K l0 l1 ((2 * l1) - 128) F B) else none
set_option maxHeartbeats 4000000 in
set_option maxRecDepth 100000 in
theorem c_Performance_wave {l : Launch} {D : va_G} {ca : Nat → ClassId} {ad : Nat → Int → Nat → Nat} {L : List Nat} {aS vS : Nat → Nat} {sz : Nat} {K : zK}  {l0 : Int} {l1 : Int} {F F9 : zF} {B B9 : zB} {r : Int} (hf : f_Performance_wave K l0 l1 F B = some (r, F9, B9)) : Met l ({ cls := "StaveHouse$Performance", name := "wave", desc := "(II)I" } : Jvm.MethodName) (Cond.code ({ cls := "StaveHouse$Performance", name := "wave", desc := "(II)I" } : Jvm.MethodName) prog_7_method_27_code 3 (Option.some Jvm.ClassFile.FieldType.int) :: wAll) ({ frames := 1, cells := 0, slots := 0, locals := 15 } : Room) (va_Pc [.int (iI l0), .int (iI l1)] (zPre D ca ad lnC K.2 L aS vS F B sz)) (Q_Performance_wave K D ca ad L r F9 B9 (zA L sz)) 0 0 (zA L sz) := by
  refine zMet (Qc := Q_Performance_wave K D ca ad L r F9 B9) (lv := [(0, .int (iI l0)), (1, .int (iI l1))]) (by decide) (Nat.le_of_ble_eq_true rfl) rfl (fun A p e s m below meth c ls X hZ hS hl => ?_)
  obtain ⟨hx, hb, hr, hml, hown, hts, hlk, hK, hA, hL, hX⟩ := id X
  replace hf : (if r32 l1 then (if 128 ≤ l1 then f_Performance_wave_24 K l0 l1 (383 - (2 * l1)) F B else f_Performance_wave_24 K l0 l1 ((2 * l1) - 128) F B) else none) = some (r, F9, B9) := hf
  refine lv_iload_n hx hb (D_27 W_prog_7_method_27_code_0 0 rfl rfl) rfl (lv_at hl 1 rfl) ?_
  refine lv_sipush (v := iI 128) hx hb (D_17 W_prog_7_method_27_code_0 1 rfl rfl rfl) (by decide) ?_
  obtain ⟨g1, hf⟩ := gif hf
  refine zge (tgt := 17) hx hb g1 (by decide) (D_162 W_prog_7_method_27_code_0 4 rfl rfl rfl) (by decide) (fun h2 => ?_) (fun h2 => ?_)
  · replace hf := gpos hf h2
    refine lv_sipush (v := iI 383) hx hb (D_17 W_prog_7_method_27_code_0 17 rfl rfl rfl) (by decide) ?_
    refine lv_iconst (v := iI 2) hx hb (D_5 W_prog_7_method_27_code_0 20 rfl rfl) rfl ?_
    refine lv_iload_n hx hb (D_27 W_prog_7_method_27_code_0 21 rfl rfl) rfl (lv_at hl 1 rfl) ?_
    refine zmul hx hb (D_104 W_prog_7_method_27_code_0 22 rfl rfl) ?_
    refine zsub hx hb (D_100 W_prog_7_method_27_code_0 23 rfl rfl) ?_
    exact b_Performance_wave_24 X hf hZ hS (lv_sub hl [0, 1] rfl)
  · replace hf := gneg hf h2
    refine lv_iconst (v := iI 2) hx hb (D_5 W_prog_7_method_27_code_0 7 rfl rfl) rfl ?_
    refine lv_iload_n hx hb (D_27 W_prog_7_method_27_code_0 8 rfl rfl) rfl (lv_at hl 1 rfl) ?_
    refine zmul hx hb (D_104 W_prog_7_method_27_code_0 9 rfl rfl) ?_
    refine lv_sipush (v := iI 128) hx hb (D_17 W_prog_7_method_27_code_0 10 rfl rfl rfl) (by decide) ?_
    refine zsub hx hb (D_100 W_prog_7_method_27_code_0 13 rfl rfl) ?_
    refine lv_goto (tgt := 24) hx hb (D_167 W_prog_7_method_27_code_0 14 rfl rfl rfl) (by decide) ?_
    exact b_Performance_wave_24 X hf hZ hS (lv_sub hl [0, 1] rfl)

abbrev Q_Performance_rise (K : zK) (D : va_G) (ca : Nat → ClassId) (ad : Nat → Int → Nat → Nat) (L : List Nat) (r : Int) (F : zF) (B : zB) (A : Nat → Prop) : Array Value → State → Outcome → State → Prop := va_Qi (S := Unit) (fun p _ => p = iI r) (fun _ => zPo D ca ad lnC K.2 L F B A) A
def f_Performance_rise_34 (K : zK) (s0 : Int) (F : zF) (B : zB) : zO := some (s0, F, B)
set_option maxHeartbeats 4000000 in
set_option maxRecDepth 100000 in
theorem b_Performance_rise_34 {D : va_G} {ca : Nat → ClassId} {ad : Nat → Int → Nat → Nat} {L : List Nat} {aS vS : Nat → Nat} {A : Nat → Prop} {p : Program} {l : Launch} {e : Env} {s : State} {m : MethodId} {args : Array Value} {below : List Frame} {meth : Method} {c : Code} {K : zK} {r : Int} {F9 : zF} {B9 : zB} (X : zX D ca L aS vS A p s m args meth c prog_7_method_28_code 1 (Option.some Jvm.ClassFile.FieldType.int) "StaveHouse$Performance") {s0 : Int} {F : zF} {B : zB} {H : Heap} {locs : List Loc} {ls : Array Slot} (hf : f_Performance_rise_34 K s0 F B = some (r, F9, B9)) (hZ : zH D ca ad lnC K.2 L F B A H) (hS : va_S A s.heap H locs) (hl : lv_has ls 1 []) : W p l e ({ frames := 1, cells := 0, slots := 0, locals := 13 } : Room) s m args below meth c H locs 0 0 (MQ below (Q_Performance_rise K D ca ad L r F9 B9 A) args s 0 0 A) (F0 m 34 ls [.int (iI s0)]) := by
  obtain ⟨hx, hb, hr, hml, hown, hts, hlk, hK, hA, hL, hX⟩ := id X
  replace hf : (some (s0, F, B)) = some (r, F9, B9) := hf
  cases hf
  exact W.iret hx hb hr (fun t ht hW => ⟨⟨_, (), rfl, rfl, by rw [ht]; exact hZ, va_K.moved hW.alike hK⟩, hS.F ht⟩) hS.2.2 (D_172 W_prog_7_method_28_code_32 2 rfl rfl) hlk

def f_Performance_rise (K : zK) (l0 : Int) (F : zF) (B : zB) : zO := if r32 l0 then (if 40 ≤ l0 then if r32 (256 - (zdv (l0 - 40) 16)) then f_Performance_rise_34 K (zmax (256 - (zdv (l0 - 40) 16)) 128) F B else none else f_Performance_rise_34 K (zdv (256 * l0) 40) F B) else none
set_option maxHeartbeats 4000000 in
set_option maxRecDepth 100000 in
theorem c_Performance_rise {l : Launch} {D : va_G} {ca : Nat → ClassId} {ad : Nat → Int → Nat → Nat} {L : List Nat} {aS vS : Nat → Nat} {sz : Nat} {K : zK}  {l0 : Int} {F F9 : zF} {B B9 : zB} {r : Int} (hf : f_Performance_rise K l0 F B = some (r, F9, B9)) : Met l ({ cls := "StaveHouse$Performance", name := "rise", desc := "(I)I" } : Jvm.MethodName) (Cond.code ({ cls := "StaveHouse$Performance", name := "rise", desc := "(I)I" } : Jvm.MethodName) prog_7_method_28_code 1 (Option.some Jvm.ClassFile.FieldType.int) :: wAll) ({ frames := 1, cells := 0, slots := 0, locals := 13 } : Room) (va_Pc [.int (iI l0)] (zPre D ca ad lnC K.2 L aS vS F B sz)) (Q_Performance_rise K D ca ad L r F9 B9 (zA L sz)) 0 0 (zA L sz) := by
  refine zMet (Qc := Q_Performance_rise K D ca ad L r F9 B9) (lv := [(0, .int (iI l0))]) (by decide) (Nat.le_of_ble_eq_true rfl) rfl (fun A p e s m below meth c ls X hZ hS hl => ?_)
  obtain ⟨hx, hb, hr, hml, hown, hts, hlk, hK, hA, hL, hX⟩ := id X
  replace hf : (if r32 l0 then (if 40 ≤ l0 then if r32 (256 - (zdv (l0 - 40) 16)) then f_Performance_rise_34 K (zmax (256 - (zdv (l0 - 40) 16)) 128) F B else none else f_Performance_rise_34 K (zdv (256 * l0) 40) F B) else none) = some (r, F9, B9) := hf
  refine lv_iload_n hx hb (D_26 W_prog_7_method_28_code_0 0 rfl rfl) rfl (lv_at hl 0 rfl) ?_
  refine lv_bipush (v := iI 40) hx hb (D_16 W_prog_7_method_28_code_0 1 rfl rfl rfl) (by decide) ?_
  obtain ⟨g1, hf⟩ := gif hf
  refine zge (tgt := 17) hx hb g1 (by decide) (D_162 W_prog_7_method_28_code_0 3 rfl rfl rfl) (by decide) (fun h2 => ?_) (fun h2 => ?_)
  · replace hf := gpos hf h2
    refine lv_sipush (v := iI 256) hx hb (D_17 W_prog_7_method_28_code_0 17 rfl rfl rfl) (by decide) ?_
    refine lv_iload_n hx hb (D_26 W_prog_7_method_28_code_0 20 rfl rfl) rfl (lv_at hl 0 rfl) ?_
    refine lv_bipush (v := iI 40) hx hb (D_16 W_prog_7_method_28_code_0 21 rfl rfl rfl) (by decide) ?_
    refine zsub hx hb (D_100 W_prog_7_method_28_code_0 23 rfl rfl) ?_
    refine lv_bipush (v := iI 16) hx hb (D_16 W_prog_7_method_28_code_0 24 rfl rfl rfl) (by decide) ?_
    refine zdv_r hx hb (by decide) (D_108 W_prog_7_method_28_code_0 26 rfl rfl) ?_
    refine zsub hx hb (D_100 W_prog_7_method_28_code_0 27 rfl rfl) ?_
    refine lv_sipush (v := iI 128) hx hb (D_17 W_prog_7_method_28_code_0 28 rfl rfl rfl) (by decide) ?_
    obtain ⟨g3, hf⟩ := gif hf
    refine va_mmax hx hb (by rw [hml]; exact hl.1.symm) hown (hts _ k_6_153) (hts _ k_1_39) (hts _ k_1_3) (hts _ k_1_40) (Nat.le_of_ble_eq_true rfl) (Nat.le_of_ble_eq_true rfl) (Nat.le_of_ble_eq_true rfl) (Nat.le_of_ble_eq_true rfl) (D_184 W_prog_7_method_28_code_0 31 rfl rfl rfl) ?_
    rw [zmax_e g3 (by decide)]
    exact b_Performance_rise_34 X hf hZ hS (lv_sub hl [] rfl)
  · replace hf := gneg hf h2
    refine lv_sipush (v := iI 256) hx hb (D_17 W_prog_7_method_28_code_0 6 rfl rfl rfl) (by decide) ?_
    refine lv_iload_n hx hb (D_26 W_prog_7_method_28_code_0 9 rfl rfl) rfl (lv_at hl 0 rfl) ?_
    refine zmul hx hb (D_104 W_prog_7_method_28_code_0 10 rfl rfl) ?_
    refine lv_bipush (v := iI 40) hx hb (D_16 W_prog_7_method_28_code_0 11 rfl rfl rfl) (by decide) ?_
    refine zdv_r hx hb (by decide) (D_108 W_prog_7_method_28_code_0 13 rfl rfl) ?_
    refine lv_goto (tgt := 34) hx hb (D_167 W_prog_7_method_28_code_0 14 rfl rfl rfl) (by decide) ?_
    exact b_Performance_rise_34 X hf hZ hS (lv_sub hl [] rfl)

abbrev Q_Performance_nextCode (K : zK) (D : va_G) (ca : Nat → ClassId) (ad : Nat → Int → Nat → Nat) (L : List Nat) (r : Int) (F : zF) (B : zB) (A : Nat → Prop) : Array Value → State → Outcome → State → Prop := va_Qi (S := Unit) (fun p _ => p = iI r) (fun _ => zPo D ca ad lnC K.2 L F B A) A
def f_Performance_nextCode_124 (K : zK) (l3 : Int) (l0 : Int) (s0 : Int) (F : zF) (B : zB) : zO := if r32 s0 then if r32 (zmin 32767 s0) then if 0 ≤ l0 ∧ l0 < K.2 5 then if 0 ≤ (zand l3 7) ∧ (zand l3 7) < ztl 15 then if r32 ((F 5 l0 13) + (ztv 15 (zand l3 7))) then if r32 (zmin 88 ((F 5 l0 13) + (ztv 15 (zand l3 7)))) then some (l3, (zup3 (zup3 F 5 l0 12 (zmax (-32768) (zmin 32767 s0))) 5 l0 13 (zmax 0 (zmin 88 ((F 5 l0 13) + (ztv 15 (zand l3 7)))))), B) else none else none else none else none else none else none
set_option maxHeartbeats 4000000 in
set_option maxRecDepth 100000 in
theorem b_Performance_nextCode_124 {D : va_G} {ca : Nat → ClassId} {ad : Nat → Int → Nat → Nat} {L : List Nat} {aS vS : Nat → Nat} {A : Nat → Prop} {p : Program} {l : Launch} {e : Env} {s : State} {m : MethodId} {args : Array Value} {below : List Frame} {meth : Method} {c : Code} {K : zK} {r : Int} {F9 : zF} {B9 : zB} (X : zX D ca L aS vS A p s m args meth c prog_7_method_30_code 7 (Option.some Jvm.ClassFile.FieldType.int) "StaveHouse$Performance") {l3 : Int} {l0 : Int} {s0 : Int} {F : zF} {B : zB} {H : Heap} {locs : List Loc} {ls : Array Slot} (hf : f_Performance_nextCode_124 K l3 l0 s0 F B = some (r, F9, B9)) (hZ : zH D ca ad lnC K.2 L F B A H) (hS : va_S A s.heap H locs) (hl : lv_has ls 7 [(3, .int (iI l3)), (0, .ref (ad 5 l0 0))]) : W p l e ({ frames := 1, cells := 0, slots := 0, locals := 15 } : Room) s m args below meth c H locs 0 0 (MQ below (Q_Performance_nextCode K D ca ad L r F9 B9 A) args s 0 0 A) (F0 m 124 ls [.int (iI s0)]) := by
  obtain ⟨hx, hb, hr, hml, hown, hts, hlk, hK, hA, hL, hX⟩ := id X
  replace hf : (if r32 s0 then if r32 (zmin 32767 s0) then if 0 ≤ l0 ∧ l0 < K.2 5 then if 0 ≤ (zand l3 7) ∧ (zand l3 7) < ztl 15 then if r32 ((F 5 l0 13) + (ztv 15 (zand l3 7))) then if r32 (zmin 88 ((F 5 l0 13) + (ztv 15 (zand l3 7)))) then some (l3, (zup3 (zup3 F 5 l0 12 (zmax (-32768) (zmin 32767 s0))) 5 l0 13 (zmax 0 (zmin 88 ((F 5 l0 13) + (ztv 15 (zand l3 7)))))), B) else none else none else none else none else none else none) = some (r, F9, B9) := hf
  refine lv_istore (lv' := [(6, .int (iI s0)), (3, .int (iI l3)), (0, .ref (ad 5 l0 0))]) hx hb (D_54 W_prog_7_method_30_code_96 28 rfl rfl) hl (by decide) rfl (fun ls hl => ?_)
  refine lv_aload_n hx hb (D_42 W_prog_7_method_30_code_96 30 rfl rfl) rfl (lv_at hl 2 rfl) ?_
  refine lv_sipush (v := iI (-32768)) hx hb (D_17 W_prog_7_method_30_code_96 31 rfl rfl rfl) (by decide) ?_
  refine lv_sipush (v := iI 32767) hx hb (D_17 W_prog_7_method_30_code_128 2 rfl rfl rfl) (by decide) ?_
  refine lv_iload hx hb (D_21 W_prog_7_method_30_code_128 5 rfl rfl) (lv_at hl 0 rfl) ?_
  obtain ⟨g17, hf⟩ := gif hf
  refine va_mmin hx hb (by rw [hml]; exact hl.1.symm) hown (hts _ k_6_134) (hts _ k_3_97) (hts _ k_1_3) (hts _ k_3_98) (Nat.le_of_ble_eq_true rfl) (Nat.le_of_ble_eq_true rfl) (Nat.le_of_ble_eq_true rfl) (Nat.le_of_ble_eq_true rfl) (D_184 W_prog_7_method_30_code_128 7 rfl rfl rfl) ?_
  rw [zmin_e (by decide) g17]
  obtain ⟨g18, hf⟩ := gif hf
  refine va_mmax hx hb (by rw [hml]; exact hl.1.symm) hown (hts _ k_6_153) (hts _ k_1_39) (hts _ k_1_3) (hts _ k_1_40) (Nat.le_of_ble_eq_true rfl) (Nat.le_of_ble_eq_true rfl) (Nat.le_of_ble_eq_true rfl) (Nat.le_of_ble_eq_true rfl) (D_184 W_prog_7_method_30_code_128 10 rfl rfl rfl) ?_
  rw [zmax_e (by decide) g18]
  obtain ⟨g19, hf⟩ := gif hf
  refine zput (ci := 5) (C := RX5) (T := TX5) (k := 12) (v := (zmax (-32768) (zmin 32767 s0))) (w := .int (iI (zmax (-32768) (zmin 32767 s0)))) hx hb hts inW_5 tyX5 tyX5_ok nmX5 hown hK hZ hS g19.1 g19.2 rfl (by decide) k_6_81 rfl (fun G h => congrArg (fun q => Value.int (iI q)) h) rfl rfl (zno (by decide)) (D_181 W_prog_7_method_30_code_128 13 rfl rfl rfl) (fun H20 locs20 hZ20 hS20 => ?_)
  refine lv_aload_n hx hb (D_42 W_prog_7_method_30_code_128 16 rfl rfl) rfl (lv_at hl 2 rfl) ?_
  refine lv_iconst (v := iI 0) hx hb (D_3 W_prog_7_method_30_code_128 17 rfl rfl) rfl ?_
  refine lv_bipush (v := iI 88) hx hb (D_16 W_prog_7_method_30_code_128 18 rfl rfl rfl) (by decide) ?_
  refine lv_aload_n hx hb (D_42 W_prog_7_method_30_code_128 20 rfl rfl) rfl (lv_at hl 2 rfl) ?_
  refine zget (ci := 5) (C := RX5) (T := TX5) (v := .int (iI (F 5 l0 13))) (k := 13) hx hb hts inW_5 hown hK hZ20 g19.1 g19.2 rfl (by decide) k_6_82 (congrArg (fun q : Int => Value.int (iI q)) (show (zup3 F 5 l0 12 (zmax (-32768) (zmin 32767 s0))) 5 l0 13 = F 5 l0 13 by simp [zup3])) (D_180 W_prog_7_method_30_code_128 21 rfl rfl rfl) ?_
  refine va_gets hx hb (hX.2.2.2.2.2.2 15 _ rfl).1 hS20 hown (hts _ k_9_28) (fun _ h => h) (D_178 W_prog_7_method_30_code_128 24 rfl rfl rfl) ?_
  refine W.eq (g2 := F0 m 155 ls [.ref (vS (1000 + 15)), .int (iI (F 5 l0 13)), .int (iI 88), .int (iI 0), .ref (ad 5 l0 0)]) rfl ?_
  refine lv_iload_n hx hb (D_29 W_prog_7_method_30_code_128 27 rfl rfl) rfl (lv_at hl 1 rfl) ?_
  refine lv_bipush (v := iI 7) hx hb (D_16 W_prog_7_method_30_code_128 28 rfl rfl rfl) (by decide) ?_
  refine zand_r hx hb (D_126 W_prog_7_method_30_code_128 30 rfl rfl) ?_
  obtain ⟨g21, hf⟩ := gif hf
  refine va_ti (v := .int (iI (ztv 15 (zand l3 7)))) hx hb (ztI hX (by decide) (by decide)) hS20 (zt_in (by decide) g21) (ztI_v (by decide) g21) (D_46 W_prog_7_method_30_code_128 31 rfl rfl) ?_
  refine zadd hx hb (D_96 W_prog_7_method_30_code_160 0 rfl rfl) ?_
  obtain ⟨g22, hf⟩ := gif hf
  refine va_mmin hx hb (by rw [hml]; exact hl.1.symm) hown (hts _ k_6_134) (hts _ k_3_97) (hts _ k_1_3) (hts _ k_3_98) (Nat.le_of_ble_eq_true rfl) (Nat.le_of_ble_eq_true rfl) (Nat.le_of_ble_eq_true rfl) (Nat.le_of_ble_eq_true rfl) (D_184 W_prog_7_method_30_code_160 1 rfl rfl rfl) ?_
  rw [zmin_e (by decide) g22]
  obtain ⟨g23, hf⟩ := gif hf
  refine va_mmax hx hb (by rw [hml]; exact hl.1.symm) hown (hts _ k_6_153) (hts _ k_1_39) (hts _ k_1_3) (hts _ k_1_40) (Nat.le_of_ble_eq_true rfl) (Nat.le_of_ble_eq_true rfl) (Nat.le_of_ble_eq_true rfl) (Nat.le_of_ble_eq_true rfl) (D_184 W_prog_7_method_30_code_160 4 rfl rfl rfl) ?_
  rw [zmax_e (by decide) g23]
  refine zput (ci := 5) (C := RX5) (T := TX5) (k := 13) (v := (zmax 0 (zmin 88 ((F 5 l0 13) + (ztv 15 (zand l3 7)))))) (w := .int (iI (zmax 0 (zmin 88 ((F 5 l0 13) + (ztv 15 (zand l3 7))))))) hx hb hts inW_5 tyX5 tyX5_ok nmX5 hown hK hZ20 hS20 g19.1 g19.2 rfl (by decide) k_6_82 rfl (fun G h => congrArg (fun q => Value.int (iI q)) h) rfl rfl (zno (by decide)) (D_181 W_prog_7_method_30_code_160 7 rfl rfl rfl) (fun H24 locs24 hZ24 hS24 => ?_)
  refine lv_iload_n hx hb (D_29 W_prog_7_method_30_code_160 10 rfl rfl) rfl (lv_at hl 1 rfl) ?_
  cases hf
  exact W.iret hx hb hr (fun t ht hW => ⟨⟨_, (), rfl, rfl, by rw [ht]; exact hZ24, va_K.moved hW.alike hK⟩, hS24.F ht⟩) hS24.2.2 (D_172 W_prog_7_method_30_code_160 11 rfl rfl) hlk

def f_Performance_nextCode_90 (rec47 : Int → Int → Int → Int → Int → Int → Int → zF → zB → zO) (K : zK) (l6 : Int) (l4 : Int) (l2 : Int) (l3 : Int) (l1 : Int) (l0 : Int) (s0 : Int) (F : zF) (B : zB) : zO := rec47 (zdv l6 2) s0 l4 l2 l3 l1 l0 F B
set_option maxHeartbeats 4000000 in
set_option maxRecDepth 100000 in
theorem b_Performance_nextCode_90 {D : va_G} {ca : Nat → ClassId} {ad : Nat → Int → Nat → Nat} {L : List Nat} {aS vS : Nat → Nat} {A : Nat → Prop} {p : Program} {l : Launch} {e : Env} {s : State} {m : MethodId} {args : Array Value} {below : List Frame} {meth : Method} {c : Code} {K : zK} {r : Int} {F9 : zF} {B9 : zB} (X : zX D ca L aS vS A p s m args meth c prog_7_method_30_code 7 (Option.some Jvm.ClassFile.FieldType.int) "StaveHouse$Performance") {rec47 : Int → Int → Int → Int → Int → Int → Int → zF → zB → zO} (hrec47 : ∀ {l6 : Int} {l5 : Int} {l4 : Int} {l2 : Int} {l3 : Int} {l1 : Int} {l0 : Int} {F : zF} {B : zB} {H : Heap} {locs : List Loc} {ls : Array Slot}, rec47 l6 l5 l4 l2 l3 l1 l0 F B = some (r, F9, B9) → zH D ca ad lnC K.2 L F B A H → va_S A s.heap H locs → lv_has ls 7 [(6, .int (iI l6)), (5, .int (iI l5)), (4, .int (iI l4)), (2, .int (iI l2)), (3, .int (iI l3)), (1, .int (iI l1)), (0, .ref (ad 5 l0 0))] → W p l e ({ frames := 1, cells := 0, slots := 0, locals := 15 } : Room) s m args below meth c H locs 0 0 (MQ below (Q_Performance_nextCode K D ca ad L r F9 B9 A) args s 0 0 A) (F0 m 47 ls [])) {l6 : Int} {l4 : Int} {l2 : Int} {l3 : Int} {l1 : Int} {l0 : Int} {s0 : Int} {F : zF} {B : zB} {H : Heap} {locs : List Loc} {ls : Array Slot} (hf : f_Performance_nextCode_90 rec47 K l6 l4 l2 l3 l1 l0 s0 F B = some (r, F9, B9)) (hZ : zH D ca ad lnC K.2 L F B A H) (hS : va_S A s.heap H locs) (hl : lv_has ls 7 [(6, .int (iI l6)), (4, .int (iI l4)), (2, .int (iI l2)), (3, .int (iI l3)), (1, .int (iI l1)), (0, .ref (ad 5 l0 0))]) : W p l e ({ frames := 1, cells := 0, slots := 0, locals := 15 } : Room) s m args below meth c H locs 0 0 (MQ below (Q_Performance_nextCode K D ca ad L r F9 B9 A) args s 0 0 A) (F0 m 90 ls [.int (iI s0)]) := by
  obtain ⟨hx, hb, hr, hml, hown, hts, hlk, hK, hA, hL, hX⟩ := id X
  replace hf : (rec47 (zdv l6 2) s0 l4 l2 l3 l1 l0 F B) = some (r, F9, B9) := hf
  refine lv_istore (lv' := [(5, .int (iI s0)), (6, .int (iI l6)), (4, .int (iI l4)), (2, .int (iI l2)), (3, .int (iI l3)), (1, .int (iI l1)), (0, .ref (ad 5 l0 0))]) hx hb (D_54 W_prog_7_method_30_code_64 26 rfl rfl) hl (by decide) rfl (fun ls hl => ?_)
  refine lv_iload hx hb (D_21 W_prog_7_method_30_code_64 28 rfl rfl) (lv_at hl 1 rfl) ?_
  refine lv_iconst (v := iI 2) hx hb (D_5 W_prog_7_method_30_code_64 30 rfl rfl) rfl ?_
  refine zdv_r hx hb (by decide) (D_108 W_prog_7_method_30_code_64 31 rfl rfl) ?_
  refine lv_istore (lv' := [(6, .int (iI (zdv l6 2))), (5, .int (iI s0)), (4, .int (iI l4)), (2, .int (iI l2)), (3, .int (iI l3)), (1, .int (iI l1)), (0, .ref (ad 5 l0 0))]) hx hb (D_54 W_prog_7_method_30_code_96 0 rfl rfl) hl (by decide) rfl (fun ls hl => ?_)
  refine lv_goto (tgt := 47) hx hb (D_167 W_prog_7_method_30_code_96 2 rfl rfl rfl) (by decide) ?_
  exact hrec47 hf hZ hS (lv_sub hl [0, 1, 2, 3, 4, 5, 6] rfl)

def f_Performance_nextCode_75 (rec47 : Int → Int → Int → Int → Int → Int → Int → zF → zB → zO) (K : zK) (l6 : Int) (l4 : Int) (l2 : Int) (l3 : Int) (l1 : Int) (l0 : Int) (F : zF) (B : zB) : zO := if r32 l6 then (if l6 = 4 then f_Performance_nextCode_90 rec47 K l6 l4 l2 l3 l1 l0 (zdv l1 2) F B else f_Performance_nextCode_90 rec47 K l6 l4 l2 l3 l1 l0 (zdv l1 4) F B) else none
set_option maxHeartbeats 4000000 in
set_option maxRecDepth 100000 in
theorem b_Performance_nextCode_75 {D : va_G} {ca : Nat → ClassId} {ad : Nat → Int → Nat → Nat} {L : List Nat} {aS vS : Nat → Nat} {A : Nat → Prop} {p : Program} {l : Launch} {e : Env} {s : State} {m : MethodId} {args : Array Value} {below : List Frame} {meth : Method} {c : Code} {K : zK} {r : Int} {F9 : zF} {B9 : zB} (X : zX D ca L aS vS A p s m args meth c prog_7_method_30_code 7 (Option.some Jvm.ClassFile.FieldType.int) "StaveHouse$Performance") {rec47 : Int → Int → Int → Int → Int → Int → Int → zF → zB → zO} (hrec47 : ∀ {l6 : Int} {l5 : Int} {l4 : Int} {l2 : Int} {l3 : Int} {l1 : Int} {l0 : Int} {F : zF} {B : zB} {H : Heap} {locs : List Loc} {ls : Array Slot}, rec47 l6 l5 l4 l2 l3 l1 l0 F B = some (r, F9, B9) → zH D ca ad lnC K.2 L F B A H → va_S A s.heap H locs → lv_has ls 7 [(6, .int (iI l6)), (5, .int (iI l5)), (4, .int (iI l4)), (2, .int (iI l2)), (3, .int (iI l3)), (1, .int (iI l1)), (0, .ref (ad 5 l0 0))] → W p l e ({ frames := 1, cells := 0, slots := 0, locals := 15 } : Room) s m args below meth c H locs 0 0 (MQ below (Q_Performance_nextCode K D ca ad L r F9 B9 A) args s 0 0 A) (F0 m 47 ls [])) {l6 : Int} {l4 : Int} {l2 : Int} {l3 : Int} {l1 : Int} {l0 : Int} {F : zF} {B : zB} {H : Heap} {locs : List Loc} {ls : Array Slot} (hf : f_Performance_nextCode_75 rec47 K l6 l4 l2 l3 l1 l0 F B = some (r, F9, B9)) (hZ : zH D ca ad lnC K.2 L F B A H) (hS : va_S A s.heap H locs) (hl : lv_has ls 7 [(6, .int (iI l6)), (4, .int (iI l4)), (2, .int (iI l2)), (3, .int (iI l3)), (1, .int (iI l1)), (0, .ref (ad 5 l0 0))]) : W p l e ({ frames := 1, cells := 0, slots := 0, locals := 15 } : Room) s m args below meth c H locs 0 0 (MQ below (Q_Performance_nextCode K D ca ad L r F9 B9 A) args s 0 0 A) (F0 m 75 ls []) := by
  obtain ⟨hx, hb, hr, hml, hown, hts, hlk, hK, hA, hL, hX⟩ := id X
  replace hf : (if r32 l6 then (if l6 = 4 then f_Performance_nextCode_90 rec47 K l6 l4 l2 l3 l1 l0 (zdv l1 2) F B else f_Performance_nextCode_90 rec47 K l6 l4 l2 l3 l1 l0 (zdv l1 4) F B) else none) = some (r, F9, B9) := hf
  refine lv_iload hx hb (D_21 W_prog_7_method_30_code_64 11 rfl rfl) (lv_at hl 0 rfl) ?_
  refine lv_iconst (v := iI 4) hx hb (D_7 W_prog_7_method_30_code_64 13 rfl rfl) rfl ?_
  obtain ⟨g15, hf⟩ := gif hf
  refine zne (tgt := 87) hx hb g15 (by decide) (D_160 W_prog_7_method_30_code_64 14 rfl rfl rfl) (by decide) (fun h16 => ?_) (fun h16 => ?_)
  · replace hf := gneg hf h16
    refine lv_iload_n hx hb (D_27 W_prog_7_method_30_code_64 23 rfl rfl) rfl (lv_at hl 4 rfl) ?_
    refine lv_iconst (v := iI 4) hx hb (D_7 W_prog_7_method_30_code_64 24 rfl rfl) rfl ?_
    refine zdv_r hx hb (by decide) (D_108 W_prog_7_method_30_code_64 25 rfl rfl) ?_
    exact b_Performance_nextCode_90 X hrec47 hf hZ hS (lv_sub hl [0, 1, 2, 3, 4, 5] rfl)
  · replace hf := gpos hf h16
    refine lv_iload_n hx hb (D_27 W_prog_7_method_30_code_64 17 rfl rfl) rfl (lv_at hl 4 rfl) ?_
    refine lv_iconst (v := iI 2) hx hb (D_5 W_prog_7_method_30_code_64 18 rfl rfl) rfl ?_
    refine zdv_r hx hb (by decide) (D_108 W_prog_7_method_30_code_64 19 rfl rfl) ?_
    refine lv_goto (tgt := 90) hx hb (D_167 W_prog_7_method_30_code_64 20 rfl rfl rfl) (by decide) ?_
    exact b_Performance_nextCode_90 X hrec47 hf hZ hS (lv_sub hl [0, 1, 2, 3, 4, 5] rfl)

def f_Performance_nextCode_47 (K : zK) : Nat → Int → Int → Int → Int → Int → Int → Int → zF → zB → zO
  | 0, _, _, _, _, _, _, _, _, _ => none
  | n + 1, l6, l5, l4, l2, l3, l1, l0, F, B => if r32 l6 then (if l6 ≤ 0 then if r32 l3 then (if l3 < 8 then if 0 ≤ l0 ∧ l0 < K.2 5 then f_Performance_nextCode_124 K l3 l0 ((F 5 l0 12) + l4) F B else none else if 0 ≤ l0 ∧ l0 < K.2 5 then f_Performance_nextCode_124 K l3 l0 ((F 5 l0 12) - l4) F B else none) else none else if r32 l2 then if r32 l5 then (if l2 < l5 then f_Performance_nextCode_75 (f_Performance_nextCode_47 K n) K l6 l4 l2 l3 l1 l0 F B else f_Performance_nextCode_75 (f_Performance_nextCode_47 K n) K l6 (l4 + l5) (l2 - l5) (zor l3 l6) l1 l0 F B) else none else none) else none
set_option maxHeartbeats 4000000 in
set_option maxRecDepth 100000 in
theorem b_Performance_nextCode_47 {D : va_G} {ca : Nat → ClassId} {ad : Nat → Int → Nat → Nat} {L : List Nat} {aS vS : Nat → Nat} {A : Nat → Prop} {p : Program} {l : Launch} {e : Env} {s : State} {m : MethodId} {args : Array Value} {below : List Frame} {meth : Method} {c : Code} {K : zK} {r : Int} {F9 : zF} {B9 : zB} (X : zX D ca L aS vS A p s m args meth c prog_7_method_30_code 7 (Option.some Jvm.ClassFile.FieldType.int) "StaveHouse$Performance") : ∀ {n : Nat} {l6 : Int} {l5 : Int} {l4 : Int} {l2 : Int} {l3 : Int} {l1 : Int} {l0 : Int} {F : zF} {B : zB} {H : Heap} {locs : List Loc} {ls : Array Slot}, f_Performance_nextCode_47 K n l6 l5 l4 l2 l3 l1 l0 F B = some (r, F9, B9) → zH D ca ad lnC K.2 L F B A H → va_S A s.heap H locs → lv_has ls 7 [(6, .int (iI l6)), (5, .int (iI l5)), (4, .int (iI l4)), (2, .int (iI l2)), (3, .int (iI l3)), (1, .int (iI l1)), (0, .ref (ad 5 l0 0))] → W p l e ({ frames := 1, cells := 0, slots := 0, locals := 15 } : Room) s m args below meth c H locs 0 0 (MQ below (Q_Performance_nextCode K D ca ad L r F9 B9 A) args s 0 0 A) (F0 m 47 ls []) := by
  obtain ⟨hx, hb, hr, hml, hown, hts, hlk, hK, hA, hL, hX⟩ := id X
  intro n
  induction n with
  | zero =>
    intros
    rename_i hf _ _ _
    cases hf
  | succ n ih =>
    intro l6 l5 l4 l2 l3 l1 l0 F B H locs ls hf hZ hS hl
    replace hf : (if r32 l6 then (if l6 ≤ 0 then if r32 l3 then (if l3 < 8 then if 0 ≤ l0 ∧ l0 < K.2 5 then f_Performance_nextCode_124 K l3 l0 ((F 5 l0 12) + l4) F B else none else if 0 ≤ l0 ∧ l0 < K.2 5 then f_Performance_nextCode_124 K l3 l0 ((F 5 l0 12) - l4) F B else none) else none else if r32 l2 then if r32 l5 then (if l2 < l5 then f_Performance_nextCode_75 (f_Performance_nextCode_47 K n) K l6 l4 l2 l3 l1 l0 F B else f_Performance_nextCode_75 (f_Performance_nextCode_47 K n) K l6 (l4 + l5) (l2 - l5) (zor l3 l6) l1 l0 F B) else none else none) else none) = some (r, F9, B9) := hf
    refine lv_iload hx hb (D_21 W_prog_7_method_30_code_32 15 rfl rfl) (lv_at hl 0 rfl) ?_
    obtain ⟨g6, hf⟩ := gif hf
    refine z0le (tgt := 101) hx hb g6 (D_158 W_prog_7_method_30_code_32 17 rfl rfl rfl) (by decide) (fun h7 => ?_) (fun h7 => ?_)
    · replace hf := gpos hf h7
      refine lv_iload_n hx hb (D_29 W_prog_7_method_30_code_96 5 rfl rfl) rfl (lv_at hl 4 rfl) ?_
      refine lv_bipush (v := iI 8) hx hb (D_16 W_prog_7_method_30_code_96 6 rfl rfl rfl) (by decide) ?_
      obtain ⟨g8, hf⟩ := gif hf
      refine zlt (tgt := 117) hx hb g8 (by decide) (D_161 W_prog_7_method_30_code_96 8 rfl rfl rfl) (by decide) (fun h9 => ?_) (fun h9 => ?_)
      · replace hf := gpos hf h9
        refine lv_aload_n hx hb (D_42 W_prog_7_method_30_code_96 21 rfl rfl) rfl (lv_at hl 6 rfl) ?_
        obtain ⟨g10, hf⟩ := gif hf
        refine zget (ci := 5) (C := RX5) (T := TX5) (v := .int (iI (F 5 l0 12))) (k := 12) hx hb hts inW_5 hown hK hZ g10.1 g10.2 rfl (by decide) k_6_81 rfl (D_180 W_prog_7_method_30_code_96 22 rfl rfl rfl) ?_
        refine lv_iload hx hb (D_21 W_prog_7_method_30_code_96 25 rfl rfl) (lv_at hl 2 rfl) ?_
        refine zadd hx hb (D_96 W_prog_7_method_30_code_96 27 rfl rfl) ?_
        exact b_Performance_nextCode_124 X hf hZ hS (lv_sub hl [4, 6] rfl)
      · replace hf := gneg hf h9
        refine lv_aload_n hx hb (D_42 W_prog_7_method_30_code_96 11 rfl rfl) rfl (lv_at hl 6 rfl) ?_
        obtain ⟨g11, hf⟩ := gif hf
        refine zget (ci := 5) (C := RX5) (T := TX5) (v := .int (iI (F 5 l0 12))) (k := 12) hx hb hts inW_5 hown hK hZ g11.1 g11.2 rfl (by decide) k_6_81 rfl (D_180 W_prog_7_method_30_code_96 12 rfl rfl rfl) ?_
        refine lv_iload hx hb (D_21 W_prog_7_method_30_code_96 15 rfl rfl) (lv_at hl 2 rfl) ?_
        refine zsub hx hb (D_100 W_prog_7_method_30_code_96 17 rfl rfl) ?_
        refine lv_goto (tgt := 124) hx hb (D_167 W_prog_7_method_30_code_96 18 rfl rfl rfl) (by decide) ?_
        exact b_Performance_nextCode_124 X hf hZ hS (lv_sub hl [4, 6] rfl)
    · replace hf := gneg hf h7
      refine lv_iload_n hx hb (D_28 W_prog_7_method_30_code_32 20 rfl rfl) rfl (lv_at hl 3 rfl) ?_
      refine lv_iload hx hb (D_21 W_prog_7_method_30_code_32 21 rfl rfl) (lv_at hl 1 rfl) ?_
      obtain ⟨g12, hf⟩ := gif hf
      obtain ⟨g13, hf⟩ := gif hf
      refine zlt (tgt := 75) hx hb g12 g13 (D_161 W_prog_7_method_30_code_32 23 rfl rfl rfl) (by decide) (fun h14 => ?_) (fun h14 => ?_)
      · replace hf := gpos hf h14
        exact b_Performance_nextCode_75 X ih hf hZ hS (lv_sub hl [0, 2, 3, 4, 5, 6] rfl)
      · replace hf := gneg hf h14
        refine lv_iload_n hx hb (D_29 W_prog_7_method_30_code_32 26 rfl rfl) rfl (lv_at hl 4 rfl) ?_
        refine lv_iload hx hb (D_21 W_prog_7_method_30_code_32 27 rfl rfl) (lv_at hl 0 rfl) ?_
        refine zor_r hx hb (D_128 W_prog_7_method_30_code_32 29 rfl rfl) ?_
        refine lv_istore_n (lv' := [(3, .int (iI (zor l3 l6))), (6, .int (iI l6)), (5, .int (iI l5)), (4, .int (iI l4)), (2, .int (iI l2)), (1, .int (iI l1)), (0, .ref (ad 5 l0 0))]) hx hb (D_62 W_prog_7_method_30_code_32 30 rfl rfl) rfl hl (by decide) rfl (fun ls hl => ?_)
        refine lv_iload_n hx hb (D_28 W_prog_7_method_30_code_32 31 rfl rfl) rfl (lv_at hl 4 rfl) ?_
        refine lv_iload hx hb (D_21 W_prog_7_method_30_code_64 0 rfl rfl) (lv_at hl 2 rfl) ?_
        refine zsub hx hb (D_100 W_prog_7_method_30_code_64 2 rfl rfl) ?_
        refine lv_istore_n (lv' := [(2, .int (iI (l2 - l5))), (3, .int (iI (zor l3 l6))), (6, .int (iI l6)), (5, .int (iI l5)), (4, .int (iI l4)), (1, .int (iI l1)), (0, .ref (ad 5 l0 0))]) hx hb (D_61 W_prog_7_method_30_code_64 3 rfl rfl) rfl hl (by decide) rfl (fun ls hl => ?_)
        refine lv_iload hx hb (D_21 W_prog_7_method_30_code_64 4 rfl rfl) (lv_at hl 4 rfl) ?_
        refine lv_iload hx hb (D_21 W_prog_7_method_30_code_64 6 rfl rfl) (lv_at hl 3 rfl) ?_
        refine zadd hx hb (D_96 W_prog_7_method_30_code_64 8 rfl rfl) ?_
        refine lv_istore (lv' := [(4, .int (iI (l4 + l5))), (2, .int (iI (l2 - l5))), (3, .int (iI (zor l3 l6))), (6, .int (iI l6)), (5, .int (iI l5)), (1, .int (iI l1)), (0, .ref (ad 5 l0 0))]) hx hb (D_54 W_prog_7_method_30_code_64 9 rfl rfl) hl (by decide) rfl (fun ls hl => ?_)
        exact b_Performance_nextCode_75 X ih hf hZ hS (lv_sub hl [3, 0, 1, 2, 5, 6] rfl)

def f_Performance_nextCode_29 (K : zK) (l2 : Int) (l1 : Int) (l0 : Int) (s0 : Int) (F : zF) (B : zB) : zO := if r32 l2 then f_Performance_nextCode_47 K K.1 4 l1 (zdv l1 8) (zabs l2) s0 l1 l0 F B else none
set_option maxHeartbeats 4000000 in
set_option maxRecDepth 100000 in
theorem b_Performance_nextCode_29 {D : va_G} {ca : Nat → ClassId} {ad : Nat → Int → Nat → Nat} {L : List Nat} {aS vS : Nat → Nat} {A : Nat → Prop} {p : Program} {l : Launch} {e : Env} {s : State} {m : MethodId} {args : Array Value} {below : List Frame} {meth : Method} {c : Code} {K : zK} {r : Int} {F9 : zF} {B9 : zB} (X : zX D ca L aS vS A p s m args meth c prog_7_method_30_code 7 (Option.some Jvm.ClassFile.FieldType.int) "StaveHouse$Performance") {l2 : Int} {l1 : Int} {l0 : Int} {s0 : Int} {F : zF} {B : zB} {H : Heap} {locs : List Loc} {ls : Array Slot} (hf : f_Performance_nextCode_29 K l2 l1 l0 s0 F B = some (r, F9, B9)) (hZ : zH D ca ad lnC K.2 L F B A H) (hS : va_S A s.heap H locs) (hl : lv_has ls 7 [(2, .int (iI l2)), (1, .int (iI l1)), (0, .ref (ad 5 l0 0))]) : W p l e ({ frames := 1, cells := 0, slots := 0, locals := 15 } : Room) s m args below meth c H locs 0 0 (MQ below (Q_Performance_nextCode K D ca ad L r F9 B9 A) args s 0 0 A) (F0 m 29 ls [.int (iI s0)]) := by
  obtain ⟨hx, hb, hr, hml, hown, hts, hlk, hK, hA, hL, hX⟩ := id X
  replace hf : (if r32 l2 then f_Performance_nextCode_47 K K.1 4 l1 (zdv l1 8) (zabs l2) s0 l1 l0 F B else none) = some (r, F9, B9) := hf
  refine lv_istore_n (lv' := [(3, .int (iI s0)), (2, .int (iI l2)), (1, .int (iI l1)), (0, .ref (ad 5 l0 0))]) hx hb (D_62 W_prog_7_method_30_code_0 29 rfl rfl) rfl hl (by decide) rfl (fun ls hl => ?_)
  refine lv_iload_n hx hb (D_28 W_prog_7_method_30_code_0 30 rfl rfl) rfl (lv_at hl 1 rfl) ?_
  obtain ⟨g5, hf⟩ := gif hf
  refine va_mabs hx hb (by rw [hml]; exact hl.1.symm) hown (hts _ k_9_15) (hts _ k_4_229) (hts _ k_1_3) (hts _ k_4_230) (Nat.le_of_ble_eq_true rfl) (Nat.le_of_ble_eq_true rfl) (Nat.le_of_ble_eq_true rfl) (Nat.le_of_ble_eq_true rfl) (D_184 W_prog_7_method_30_code_0 31 rfl rfl rfl) ?_
  rw [zabs_e g5]
  refine lv_istore_n (lv' := [(2, .int (iI (zabs l2))), (3, .int (iI s0)), (1, .int (iI l1)), (0, .ref (ad 5 l0 0))]) hx hb (D_61 W_prog_7_method_30_code_32 2 rfl rfl) rfl hl (by decide) rfl (fun ls hl => ?_)
  refine lv_iload_n hx hb (D_27 W_prog_7_method_30_code_32 3 rfl rfl) rfl (lv_at hl 2 rfl) ?_
  refine lv_bipush (v := iI 8) hx hb (D_16 W_prog_7_method_30_code_32 4 rfl rfl rfl) (by decide) ?_
  refine zdv_r hx hb (by decide) (D_108 W_prog_7_method_30_code_32 6 rfl rfl) ?_
  refine lv_istore (lv' := [(4, .int (iI (zdv l1 8))), (2, .int (iI (zabs l2))), (3, .int (iI s0)), (1, .int (iI l1)), (0, .ref (ad 5 l0 0))]) hx hb (D_54 W_prog_7_method_30_code_32 7 rfl rfl) hl (by decide) rfl (fun ls hl => ?_)
  refine lv_iload_n hx hb (D_27 W_prog_7_method_30_code_32 9 rfl rfl) rfl (lv_at hl 3 rfl) ?_
  refine lv_istore (lv' := [(5, .int (iI l1)), (4, .int (iI (zdv l1 8))), (2, .int (iI (zabs l2))), (3, .int (iI s0)), (1, .int (iI l1)), (0, .ref (ad 5 l0 0))]) hx hb (D_54 W_prog_7_method_30_code_32 10 rfl rfl) hl (by decide) rfl (fun ls hl => ?_)
  refine lv_iconst (v := iI 4) hx hb (D_7 W_prog_7_method_30_code_32 12 rfl rfl) rfl ?_
  refine lv_istore (lv' := [(6, .int (iI 4)), (5, .int (iI l1)), (4, .int (iI (zdv l1 8))), (2, .int (iI (zabs l2))), (3, .int (iI s0)), (1, .int (iI l1)), (0, .ref (ad 5 l0 0))]) hx hb (D_54 W_prog_7_method_30_code_32 13 rfl rfl) hl (by decide) rfl (fun ls hl => ?_)
  exact b_Performance_nextCode_47 X hf hZ hS (lv_sub hl [0, 1, 2, 3, 4, 5, 6] rfl)

def f_Performance_nextCode (K : zK) (l0 : Int) (F : zF) (B : zB) : zO := if 0 ≤ l0 ∧ l0 < K.2 5 then if 0 ≤ (F 5 l0 13) ∧ (F 5 l0 13) < ztl 14 then if r32 ((F 5 l0 11) - (F 5 l0 12)) then (if 0 ≤ ((F 5 l0 11) - (F 5 l0 12)) then f_Performance_nextCode_29 K ((F 5 l0 11) - (F 5 l0 12)) (ztv 14 (F 5 l0 13)) l0 0 F B else f_Performance_nextCode_29 K ((F 5 l0 11) - (F 5 l0 12)) (ztv 14 (F 5 l0 13)) l0 8 F B) else none else none else none
set_option maxHeartbeats 4000000 in
set_option maxRecDepth 100000 in
theorem c_Performance_nextCode {l : Launch} {D : va_G} {ca : Nat → ClassId} {ad : Nat → Int → Nat → Nat} {L : List Nat} {aS vS : Nat → Nat} {sz : Nat} {K : zK}  {l0 : Int} {F F9 : zF} {B B9 : zB} {r : Int} (hf : f_Performance_nextCode K l0 F B = some (r, F9, B9)) : Met l ({ cls := "StaveHouse$Performance", name := "nextCode", desc := "()I" } : Jvm.MethodName) (Cond.code ({ cls := "StaveHouse$Performance", name := "nextCode", desc := "()I" } : Jvm.MethodName) prog_7_method_30_code 7 (Option.some Jvm.ClassFile.FieldType.int) :: wAll) ({ frames := 1, cells := 0, slots := 0, locals := 15 } : Room) (va_Pc [.ref (ad 5 l0 0)] (zPre D ca ad lnC K.2 L aS vS F B sz)) (Q_Performance_nextCode K D ca ad L r F9 B9 (zA L sz)) 0 0 (zA L sz) := by
  refine zMet (Qc := Q_Performance_nextCode K D ca ad L r F9 B9) (lv := [(0, .ref (ad 5 l0 0))]) (by decide) (Nat.le_of_ble_eq_true rfl) rfl (fun A p e s m below meth c ls X hZ hS hl => ?_)
  obtain ⟨hx, hb, hr, hml, hown, hts, hlk, hK, hA, hL, hX⟩ := id X
  replace hf : (if 0 ≤ l0 ∧ l0 < K.2 5 then if 0 ≤ (F 5 l0 13) ∧ (F 5 l0 13) < ztl 14 then if r32 ((F 5 l0 11) - (F 5 l0 12)) then (if 0 ≤ ((F 5 l0 11) - (F 5 l0 12)) then f_Performance_nextCode_29 K ((F 5 l0 11) - (F 5 l0 12)) (ztv 14 (F 5 l0 13)) l0 0 F B else f_Performance_nextCode_29 K ((F 5 l0 11) - (F 5 l0 12)) (ztv 14 (F 5 l0 13)) l0 8 F B) else none else none else none) = some (r, F9, B9) := hf
  refine va_gets hx hb (hX.2.2.2.2.2.2 14 _ rfl).1 hS hown (hts _ k_9_26) (fun _ h => h) (D_178 W_prog_7_method_30_code_0 0 rfl rfl rfl) ?_
  refine W.eq (g2 := F0 m 3 ls [.ref (vS (1000 + 14))]) rfl ?_
  refine lv_aload_n hx hb (D_42 W_prog_7_method_30_code_0 3 rfl rfl) rfl (lv_at hl 0 rfl) ?_
  obtain ⟨g1, hf⟩ := gif hf
  refine zget (ci := 5) (C := RX5) (T := TX5) (v := .int (iI (F 5 l0 13))) (k := 13) hx hb hts inW_5 hown hK hZ g1.1 g1.2 rfl (by decide) k_6_82 rfl (D_180 W_prog_7_method_30_code_0 4 rfl rfl rfl) ?_
  obtain ⟨g2, hf⟩ := gif hf
  refine va_ti (v := .int (iI (ztv 14 (F 5 l0 13)))) hx hb (ztI hX (by decide) (by decide)) hS (zt_in (by decide) g2) (ztI_v (by decide) g2) (D_46 W_prog_7_method_30_code_0 7 rfl rfl) ?_
  refine lv_istore_n (lv' := [(1, .int (iI (ztv 14 (F 5 l0 13)))), (0, .ref (ad 5 l0 0))]) hx hb (D_60 W_prog_7_method_30_code_0 8 rfl rfl) rfl hl (by decide) rfl (fun ls hl => ?_)
  refine lv_aload_n hx hb (D_42 W_prog_7_method_30_code_0 9 rfl rfl) rfl (lv_at hl 1 rfl) ?_
  refine zget (ci := 5) (C := RX5) (T := TX5) (v := .int (iI (F 5 l0 11))) (k := 11) hx hb hts inW_5 hown hK hZ g1.1 g1.2 rfl (by decide) k_6_80 rfl (D_180 W_prog_7_method_30_code_0 10 rfl rfl rfl) ?_
  refine lv_aload_n hx hb (D_42 W_prog_7_method_30_code_0 13 rfl rfl) rfl (lv_at hl 1 rfl) ?_
  refine zget (ci := 5) (C := RX5) (T := TX5) (v := .int (iI (F 5 l0 12))) (k := 12) hx hb hts inW_5 hown hK hZ g1.1 g1.2 rfl (by decide) k_6_81 rfl (D_180 W_prog_7_method_30_code_0 14 rfl rfl rfl) ?_
  refine zsub hx hb (D_100 W_prog_7_method_30_code_0 17 rfl rfl) ?_
  refine lv_istore_n (lv' := [(2, .int (iI ((F 5 l0 11) - (F 5 l0 12)))), (1, .int (iI (ztv 14 (F 5 l0 13)))), (0, .ref (ad 5 l0 0))]) hx hb (D_61 W_prog_7_method_30_code_0 18 rfl rfl) rfl hl (by decide) rfl (fun ls hl => ?_)
  refine lv_iload_n hx hb (D_28 W_prog_7_method_30_code_0 19 rfl rfl) rfl (lv_at hl 0 rfl) ?_
  obtain ⟨g3, hf⟩ := gif hf
  refine z0ge (tgt := 28) hx hb g3 (D_156 W_prog_7_method_30_code_0 20 rfl rfl rfl) (by decide) (fun h4 => ?_) (fun h4 => ?_)
  · replace hf := gpos hf h4
    refine lv_iconst (v := iI 0) hx hb (D_3 W_prog_7_method_30_code_0 28 rfl rfl) rfl ?_
    exact b_Performance_nextCode_29 X hf hZ hS (lv_sub hl [0, 1, 2] rfl)
  · replace hf := gneg hf h4
    refine lv_bipush (v := iI 8) hx hb (D_16 W_prog_7_method_30_code_0 23 rfl rfl rfl) (by decide) ?_
    refine lv_goto (tgt := 29) hx hb (D_167 W_prog_7_method_30_code_0 25 rfl rfl rfl) (by decide) ?_
    exact b_Performance_nextCode_29 X hf hZ hS (lv_sub hl [0, 1, 2] rfl)

abbrev Q_S_sample (K : zK) (D : va_G) (ca : Nat → ClassId) (ad : Nat → Int → Nat → Nat) (L : List Nat) (r : Int) (F : zF) (B : zB) (A : Nat → Prop) : Array Value → State → Outcome → State → Prop := va_Qi (S := Unit) (fun p _ => p = iI r) (fun _ => zPo D ca ad lnC K.2 L F B A) A
def f_S_sample_25 (K : zK)  (F : zF) (B : zB) : zO := some ((-2147483648), F, B)
set_option maxHeartbeats 4000000 in
set_option maxRecDepth 100000 in
theorem b_S_sample_25 {D : va_G} {ca : Nat → ClassId} {ad : Nat → Int → Nat → Nat} {L : List Nat} {aS vS : Nat → Nat} {A : Nat → Prop} {p : Program} {l : Launch} {e : Env} {s : State} {m : MethodId} {args : Array Value} {below : List Frame} {meth : Method} {c : Code} {K : zK} {r : Int} {F9 : zF} {B9 : zB} (X : zX D ca L aS vS A p s m args meth c prog_1_method_29_code 5 (Option.some Jvm.ClassFile.FieldType.int) "StaveHouse")  {F : zF} {B : zB} {H : Heap} {locs : List Loc} {ls : Array Slot} (hf : f_S_sample_25 K  F B = some (r, F9, B9)) (hZ : zH D ca ad lnC K.2 L F B A H) (hS : va_S A s.heap H locs) (hl : lv_has ls 5 []) : W p l e ({ frames := 2, cells := 0, slots := 0, locals := 43 } : Room) s m args below meth c H locs 0 0 (MQ below (Q_S_sample K D ca ad L r F9 B9 A) args s 0 0 A) (F0 m 25 ls []) := by
  obtain ⟨hx, hb, hr, hml, hown, hts, hlk, hK, hA, hL, hX⟩ := id X
  replace hf : (some ((-2147483648), F, B)) = some (r, F9, B9) := hf
  refine lv_ldc hx hb hown (hts _ k_6_199) (D_18 W_prog_1_method_29_code_0 25 rfl rfl) ?_
  refine W.eq (g2 := F0 m 27 ls [.int (iI (-2147483648))]) rfl ?_
  cases hf
  exact W.iret hx hb hr (fun t ht hW => ⟨⟨_, (), rfl, rfl, by rw [ht]; exact hZ, va_K.moved hW.alike hK⟩, hS.F ht⟩) hS.2.2 (D_172 W_prog_1_method_29_code_0 27 rfl rfl) hlk

def f_S_sample (K : zK) (l0 : Int) (l1 : Int) (l2 : Int) (l3 : Int) (F : zF) (B : zB) : zO := if 0 ≤ l0 ∧ l0 < K.2 12 then zbind (f_S_performanceOf K l0 l1 F B) (fun r2 F2 B2 => (if r2 < 0 then f_S_sample_25 K F2 B2 else if r32 l2 then (if l2 < 0 then f_S_sample_25 K F2 B2 else if 0 ≤ r2 ∧ r2 < K.2 5 then if r32 (F2 5 r2 3) then (if l2 < (F2 5 r2 3) then if r32 l3 then (if l3 = 0 then if 0 ≤ l2 ∧ l2 < 1000 then some (B2 5 r2 4 l2, F2, B2) else none else (if l3 = 1 then if 0 ≤ l2 ∧ l2 < 1000 then some (B2 5 r2 5 l2, F2, B2) else none else some ((-2147483648), F2, B2))) else none else f_S_sample_25 K F2 B2) else none else none) else none)) else none
set_option maxHeartbeats 4000000 in
set_option maxRecDepth 100000 in
theorem c_S_sample {l : Launch} {D : va_G} {ca : Nat → ClassId} {ad : Nat → Int → Nat → Nat} {L : List Nat} {aS vS : Nat → Nat} {sz : Nat} {K : zK}  {l0 : Int} {l1 : Int} {l2 : Int} {l3 : Int} {F F9 : zF} {B B9 : zB} {r : Int} (hf : f_S_sample K l0 l1 l2 l3 F B = some (r, F9, B9)) : Met l ({ cls := "StaveHouse", name := "sample", desc := "(III)I" } : Jvm.MethodName) (Cond.code ({ cls := "StaveHouse", name := "sample", desc := "(III)I" } : Jvm.MethodName) prog_1_method_29_code 5 (Option.some Jvm.ClassFile.FieldType.int) :: wAll) ({ frames := 2, cells := 0, slots := 0, locals := 43 } : Room) (va_Pc [.ref (ad 12 l0 0), .int (iI l1), .int (iI l2), .int (iI l3)] (zPre D ca ad lnC K.2 L aS vS F B sz)) (Q_S_sample K D ca ad L r F9 B9 (zA L sz)) 0 0 (zA L sz) := by
  refine zMet (Qc := Q_S_sample K D ca ad L r F9 B9) (lv := [(0, .ref (ad 12 l0 0)), (1, .int (iI l1)), (2, .int (iI l2)), (3, .int (iI l3))]) (by decide) (Nat.le_of_ble_eq_true rfl) rfl (fun A p e s m below meth c ls X hZ hS hl => ?_)
  obtain ⟨hx, hb, hr, hml, hown, hts, hlk, hK, hA, hL, hX⟩ := id X
  replace hf : (if 0 ≤ l0 ∧ l0 < K.2 12 then zbind (f_S_performanceOf K l0 l1 F B) (fun r2 F2 B2 => (if r2 < 0 then f_S_sample_25 K F2 B2 else if r32 l2 then (if l2 < 0 then f_S_sample_25 K F2 B2 else if 0 ≤ r2 ∧ r2 < K.2 5 then if r32 (F2 5 r2 3) then (if l2 < (F2 5 r2 3) then if r32 l3 then (if l3 = 0 then if 0 ≤ l2 ∧ l2 < 1000 then some (B2 5 r2 4 l2, F2, B2) else none else (if l3 = 1 then if 0 ≤ l2 ∧ l2 < 1000 then some (B2 5 r2 5 l2, F2, B2) else none else some ((-2147483648), F2, B2))) else none else f_S_sample_25 K F2 B2) else none else none) else none)) else none) = some (r, F9, B9) := hf
  refine lv_aload_n hx hb (D_42 W_prog_1_method_29_code_0 0 rfl rfl) rfl (lv_at hl 0 rfl) ?_
  refine lv_iload_n hx hb (D_27 W_prog_1_method_29_code_0 1 rfl rfl) rfl (lv_at hl 1 rfl) ?_
  obtain ⟨g1, hf⟩ := gif hf
  obtain ⟨r2, F2, B2, hc2, hf⟩ := gbind hf
  refine va_callq (va_runV (As := [.int (iI l1)]) (rest := []) ⟨hx, hb, hml, hown, hts⟩ (c_S_performanceOf (l := l) hc2) (cwV 1 hts (gdV k_7_108 k_7_110 ks_89 k_1_1 k_7_111) rfl rfl rfl (by decide +kernel) ⟨Nat.le_of_ble_eq_true rfl, Nat.le_of_ble_eq_true rfl⟩) (zPV X hZ hS (ci := 12) g1.1 g1.2 (r := (RX12, TX12, 10)) rfl [.int (iI l1)]) rfl rfl hl.1 rfl (lv_room (Nat.le_of_ble_eq_true rfl)) (D_182 W_prog_1_method_29_code_0 2 rfl rfl rfl) ⟨Nat.le_of_ble_eq_true rfl, Nat.le_of_ble_eq_true rfl⟩) hS (fun q _ h => zAin X hS q h) (zAin X hS) (fun p2 u2 t2 H2 locs2 ht2 hv2 hw2 hB2 hz2 hk2 hS2 => ?_)
  have hZ2 := zBack X ht2 hB2
  subst hw2
  refine zastore (lv' := [(0, .ref (ad 12 l0 0)), (1, .int (iI l1)), (2, .int (iI l2)), (3, .int (iI l3))]) hx hb (D_58 W_prog_1_method_29_code_0 5 rfl rfl) hl (by decide) (fun _ _ => rfl) (fun ls hl => ?_)
  refine zaload hx hb (D_25 W_prog_1_method_29_code_0 7 rfl rfl) (lv_at hl 0 rfl) ?_
  refine zifnull (tgt := 25) hx hb (D_198 W_prog_1_method_29_code_0 9 rfl rfl rfl) (by decide) (fun h3 => ?_) (fun h3 => ?_)
  · replace hf := gpos hf h3
    exact b_S_sample_25 X hf hZ2 hS2 (lv_sub hl [] rfl)
  · replace hf := gneg hf h3
    refine lv_iload_n hx hb (D_28 W_prog_1_method_29_code_0 12 rfl rfl) rfl (lv_at hl 3 rfl) ?_
    obtain ⟨g4, hf⟩ := gif hf
    refine z0lt (tgt := 25) hx hb g4 (D_155 W_prog_1_method_29_code_0 13 rfl rfl rfl) (by decide) (fun h5 => ?_) (fun h5 => ?_)
    · replace hf := gpos hf h5
      exact b_S_sample_25 X hf hZ2 hS2 (lv_sub hl [] rfl)
    · replace hf := gneg hf h5
      refine lv_iload_n hx hb (D_28 W_prog_1_method_29_code_0 16 rfl rfl) rfl (lv_at hl 3 rfl) ?_
      refine zaload hx hb (D_25 W_prog_1_method_29_code_0 17 rfl rfl) (lv_at hl 0 rfl) ?_
      obtain ⟨g6, hf⟩ := gif hf
      refine zunrf g6.1 ?_
      refine zget (ci := 5) (C := RX5) (T := TX5) (v := .int (iI (F2 5 r2 3))) (k := 3) hx hb hts inW_5 hown hK hZ2 g6.1 g6.2 rfl (by decide) k_6_70 rfl (D_180 W_prog_1_method_29_code_0 19 rfl rfl rfl) ?_
      obtain ⟨g7, hf⟩ := gif hf
      refine zlt (tgt := 28) hx hb g4 g7 (D_161 W_prog_1_method_29_code_0 22 rfl rfl rfl) (by decide) (fun h8 => ?_) (fun h8 => ?_)
      · replace hf := gpos hf h8
        refine lv_iload_n hx hb (D_29 W_prog_1_method_29_code_0 28 rfl rfl) rfl (lv_at hl 4 rfl) ?_
        obtain ⟨g9, hf⟩ := gif hf
        by_cases h10 : l3 = 0
        · replace hf := gpos hf h10
          refine lv_lookup (off := 27) (tgt := 56) hx hb d_1_29_29 (by decide) (by rw [iI_to g9, h10]; rfl) (by decide) ?_
          refine zaload hx hb (D_25 W_prog_1_method_29_code_32 24 rfl rfl) (lv_at hl 0 rfl) ?_
          refine zunrf g6.1 ?_
          refine zget (ci := 5) (C := RX5) (T := TX5) (v := .ref (ad 5 r2 (4 + 1))) (k := 4) hx hb hts inW_5 hown hK hZ2 g6.1 g6.2 rfl (by decide) k_6_72 rfl (D_180 W_prog_1_method_29_code_32 26 rfl rfl rfl) ?_
          refine lv_iload_n hx hb (D_28 W_prog_1_method_29_code_32 29 rfl rfl) rfl (lv_at hl 3 rfl) ?_
          obtain ⟨g11, hf⟩ := gif hf
          refine zald (ci := 5) (k := 4) hx hb hK rfl hZ2 g6.1 g6.2 rfl (Nat.le_of_ble_eq_true rfl) g11.1 g11.2 (D_46 W_prog_1_method_29_code_32 30 rfl rfl) ?_
          cases hf
          exact W.iret hx hb hr (fun t ht hW => ⟨⟨_, (), rfl, rfl, by rw [ht]; exact hZ2, va_K.moved hW.alike hK⟩, hS2.F ht⟩) hS2.2.2 (D_172 W_prog_1_method_29_code_32 31 rfl rfl) hlk
        replace hf := gneg hf h10
        by_cases h12 : l3 = 1
        · replace hf := gpos hf h12
          refine lv_lookup (off := 35) (tgt := 64) hx hb d_1_29_29 (by decide) (by rw [iI_to g9, h12]; rfl) (by decide) ?_
          refine zaload hx hb (D_25 W_prog_1_method_29_code_64 0 rfl rfl) (lv_at hl 0 rfl) ?_
          refine zunrf g6.1 ?_
          refine zget (ci := 5) (C := RX5) (T := TX5) (v := .ref (ad 5 r2 (5 + 1))) (k := 5) hx hb hts inW_5 hown hK hZ2 g6.1 g6.2 rfl (by decide) k_6_74 rfl (D_180 W_prog_1_method_29_code_64 2 rfl rfl rfl) ?_
          refine lv_iload_n hx hb (D_28 W_prog_1_method_29_code_64 5 rfl rfl) rfl (lv_at hl 3 rfl) ?_
          obtain ⟨g13, hf⟩ := gif hf
          refine zald (ci := 5) (k := 5) hx hb hK rfl hZ2 g6.1 g6.2 rfl (Nat.le_of_ble_eq_true rfl) g13.1 g13.2 (D_46 W_prog_1_method_29_code_64 6 rfl rfl) ?_
          cases hf
          exact W.iret hx hb hr (fun t ht hW => ⟨⟨_, (), rfl, rfl, by rw [ht]; exact hZ2, va_K.moved hW.alike hK⟩, hS2.F ht⟩) hS2.2.2 (D_172 W_prog_1_method_29_code_64 7 rfl rfl) hlk
        replace hf := gneg hf h12
        refine lv_lookup (off := 43) (tgt := 72) hx hb d_1_29_29 (by decide) (by rw [iI_to g9, Op.lookupswitch.offset_cons, if_neg (fun q => h10 q.symm), Op.lookupswitch.offset_cons, if_neg (fun q => h12 q.symm)]; rfl) (by decide) ?_
        refine lv_ldc hx hb hown (hts _ k_6_199) (D_18 W_prog_1_method_29_code_64 8 rfl rfl) ?_
        refine W.eq (g2 := F0 m 74 ls [.int (iI (-2147483648))]) rfl ?_
        cases hf
        exact W.iret hx hb hr (fun t ht hW => ⟨⟨_, (), rfl, rfl, by rw [ht]; exact hZ2, va_K.moved hW.alike hK⟩, hS2.F ht⟩) hS2.2.2 (D_172 W_prog_1_method_29_code_64 10 rfl rfl) hlk
      · replace hf := gneg hf h8
        exact b_S_sample_25 X hf hZ2 hS2 (lv_sub hl [] rfl)

abbrev Q_Study_takeClasses (K : zK) (D : va_G) (ca : Nat → ClassId) (ad : Nat → Int → Nat → Nat) (L : List Nat) (r : Int) (F : zF) (B : zB) (A : Nat → Prop) : Array Value → State → Outcome → State → Prop := va_Qv (S := Unit) (fun _ => True) (fun _ => zPo D ca ad lnC K.2 L F B A) A
def f_Study_takeClasses_95 (rec23 : Int → Int → Int → Int → zF → zB → zO) (K : zK) (l3 : Int) (l0 : Int) (l1 : Int) (l2 : Int) (F : zF) (B : zB) : zO := rec23 (l3 + 1) l0 l1 l2 F B
set_option maxHeartbeats 4000000 in
set_option maxRecDepth 100000 in
theorem b_Study_takeClasses_95 {D : va_G} {ca : Nat → ClassId} {ad : Nat → Int → Nat → Nat} {L : List Nat} {aS vS : Nat → Nat} {A : Nat → Prop} {p : Program} {l : Launch} {e : Env} {s : State} {m : MethodId} {args : Array Value} {below : List Frame} {meth : Method} {c : Code} {K : zK} {r : Int} {F9 : zF} {B9 : zB} (X : zX D ca L aS vS A p s m args meth c prog_11_method_13_code 6 (Option.none : Option Jvm.ClassFile.FieldType) "StaveHouse$Study") {rec23 : Int → Int → Int → Int → zF → zB → zO} (hrec23 : ∀ {l3 : Int} {l0 : Int} {l1 : Int} {l2 : Int} {F : zF} {B : zB} {H : Heap} {locs : List Loc} {ls : Array Slot}, rec23 l3 l0 l1 l2 F B = some (r, F9, B9) → zH D ca ad lnC K.2 L F B A H → va_S A s.heap H locs → lv_has ls 6 [(3, .int (iI l3)), (0, .ref (ad 9 l0 0)), (1, .ref (ad 6 l1 0)), (2, .int (iI l2))] → W p l e ({ frames := 1, cells := 0, slots := 0, locals := 24 } : Room) s m args below meth c H locs 0 0 (MQ below (Q_Study_takeClasses K D ca ad L r F9 B9 A) args s 0 0 A) (F0 m 23 ls [])) {l3 : Int} {l0 : Int} {l1 : Int} {l2 : Int} {F : zF} {B : zB} {H : Heap} {locs : List Loc} {ls : Array Slot} (hf : f_Study_takeClasses_95 rec23 K l3 l0 l1 l2 F B = some (r, F9, B9)) (hZ : zH D ca ad lnC K.2 L F B A H) (hS : va_S A s.heap H locs) (hl : lv_has ls 6 [(3, .int (iI l3)), (0, .ref (ad 9 l0 0)), (1, .ref (ad 6 l1 0)), (2, .int (iI l2))]) : W p l e ({ frames := 1, cells := 0, slots := 0, locals := 24 } : Room) s m args below meth c H locs 0 0 (MQ below (Q_Study_takeClasses K D ca ad L r F9 B9 A) args s 0 0 A) (F0 m 95 ls []) := by
  obtain ⟨hx, hb, hr, hml, hown, hts, hlk, hK, hA, hL, hX⟩ := id X
  replace hf : (rec23 (l3 + 1) l0 l1 l2 F B) = some (r, F9, B9) := hf
  refine lv_iinc (v := iI (l3 + 1)) (lv' := [(3, .int (iI (l3 + 1))), (0, .ref (ad 9 l0 0)), (1, .ref (ad 6 l1 0)), (2, .int (iI l2))]) hx hb d_11_13_95 hl (k := 0) rfl (iI_add _ 1) (by decide) rfl (fun ls hl => ?_)
  refine lv_goto (tgt := 23) hx hb (D_167 W_prog_11_method_13_code_96 2 rfl rfl rfl) (by decide) ?_
  exact hrec23 hf hZ hS (lv_sub hl [0, 1, 2, 3] rfl)

def f_Study_takeClasses_43 (rec23 : Int → Int → Int → Int → zF → zB → zO) (K : zK) : Nat → Int → Int → Int → Int → Int → Int → zF → zB → zO
  | 0, _, _, _, _, _, _, _, _ => none
  | n + 1, l5, l4, l3, l0, l1, l2, F, B => (if l4 < 0 then f_Study_takeClasses_95 rec23 K l3 l0 l1 l2 F B else if 0 ≤ l4 ∧ l4 < K.2 1 then if r32 l5 then if r32 (F 1 l4 10) then (if (F 1 l4 10) ≤ l5 then f_Study_takeClasses_95 rec23 K l3 l0 l1 l2 F B else if 0 ≤ l0 ∧ l0 < K.2 9 then if 0 ≤ l5 ∧ l5 < 6 then if 0 ≤ (zrm (B 1 l4 12 l5) 7) ∧ (zrm (B 1 l4 12 l5) 7) < 7 then f_Study_takeClasses_43 rec23 K n (l5 + 1) l4 l3 l0 l1 l2 F (zup4 B 9 l0 10 (zrm (B 1 l4 12 l5) 7) (zor (B 9 l0 10 (zrm (B 1 l4 12 l5) 7)) (zshl 1 ((B 1 l4 13 l5) + 2)))) else none else none else none) else none else none else none)
set_option maxHeartbeats 4000000 in
set_option maxRecDepth 100000 in
theorem b_Study_takeClasses_43 {D : va_G} {ca : Nat → ClassId} {ad : Nat → Int → Nat → Nat} {L : List Nat} {aS vS : Nat → Nat} {A : Nat → Prop} {p : Program} {l : Launch} {e : Env} {s : State} {m : MethodId} {args : Array Value} {below : List Frame} {meth : Method} {c : Code} {K : zK} {r : Int} {F9 : zF} {B9 : zB} (X : zX D ca L aS vS A p s m args meth c prog_11_method_13_code 6 (Option.none : Option Jvm.ClassFile.FieldType) "StaveHouse$Study") {rec23 : Int → Int → Int → Int → zF → zB → zO} (hrec23 : ∀ {l3 : Int} {l0 : Int} {l1 : Int} {l2 : Int} {F : zF} {B : zB} {H : Heap} {locs : List Loc} {ls : Array Slot}, rec23 l3 l0 l1 l2 F B = some (r, F9, B9) → zH D ca ad lnC K.2 L F B A H → va_S A s.heap H locs → lv_has ls 6 [(3, .int (iI l3)), (0, .ref (ad 9 l0 0)), (1, .ref (ad 6 l1 0)), (2, .int (iI l2))] → W p l e ({ frames := 1, cells := 0, slots := 0, locals := 24 } : Room) s m args below meth c H locs 0 0 (MQ below (Q_Study_takeClasses K D ca ad L r F9 B9 A) args s 0 0 A) (F0 m 23 ls [])) : ∀ {n : Nat} {l5 : Int} {l4 : Int} {l3 : Int} {l0 : Int} {l1 : Int} {l2 : Int} {F : zF} {B : zB} {H : Heap} {locs : List Loc} {ls : Array Slot}, f_Study_takeClasses_43 rec23 K n l5 l4 l3 l0 l1 l2 F B = some (r, F9, B9) → zH D ca ad lnC K.2 L F B A H → va_S A s.heap H locs → lv_has ls 6 [(5, .int (iI l5)), (4, va_rf (zrf ad 1 l4)), (3, .int (iI l3)), (0, .ref (ad 9 l0 0)), (1, .ref (ad 6 l1 0)), (2, .int (iI l2))] → W p l e ({ frames := 1, cells := 0, slots := 0, locals := 24 } : Room) s m args below meth c H locs 0 0 (MQ below (Q_Study_takeClasses K D ca ad L r F9 B9 A) args s 0 0 A) (F0 m 43 ls []) := by
  obtain ⟨hx, hb, hr, hml, hown, hts, hlk, hK, hA, hL, hX⟩ := id X
  intro n
  induction n with
  | zero =>
    intros
    rename_i hf _ _ _
    cases hf
  | succ n ih =>
    intro l5 l4 l3 l0 l1 l2 F B H locs ls hf hZ hS hl
    replace hf : ((if l4 < 0 then f_Study_takeClasses_95 rec23 K l3 l0 l1 l2 F B else if 0 ≤ l4 ∧ l4 < K.2 1 then if r32 l5 then if r32 (F 1 l4 10) then (if (F 1 l4 10) ≤ l5 then f_Study_takeClasses_95 rec23 K l3 l0 l1 l2 F B else if 0 ≤ l0 ∧ l0 < K.2 9 then if 0 ≤ l5 ∧ l5 < 6 then if 0 ≤ (zrm (B 1 l4 12 l5) 7) ∧ (zrm (B 1 l4 12 l5) 7) < 7 then f_Study_takeClasses_43 rec23 K n (l5 + 1) l4 l3 l0 l1 l2 F (zup4 B 9 l0 10 (zrm (B 1 l4 12 l5) 7) (zor (B 9 l0 10 (zrm (B 1 l4 12 l5) 7)) (zshl 1 ((B 1 l4 13 l5) + 2)))) else none else none else none) else none else none else none)) = some (r, F9, B9) := hf
    refine zaload hx hb (D_25 W_prog_11_method_13_code_32 11 rfl rfl) (lv_at hl 1 rfl) ?_
    refine zifnull (tgt := 95) hx hb (D_198 W_prog_11_method_13_code_32 13 rfl rfl rfl) (by decide) (fun h12 => ?_) (fun h12 => ?_)
    · replace hf := gpos hf h12
      exact b_Study_takeClasses_95 X hrec23 hf hZ hS (lv_sub hl [2, 3, 4, 5] rfl)
    · replace hf := gneg hf h12
      refine lv_iload hx hb (D_21 W_prog_11_method_13_code_32 16 rfl rfl) (lv_at hl 0 rfl) ?_
      refine zaload hx hb (D_25 W_prog_11_method_13_code_32 18 rfl rfl) (lv_at hl 1 rfl) ?_
      obtain ⟨g13, hf⟩ := gif hf
      refine zunrf g13.1 ?_
      refine zget (ci := 1) (C := RX1) (T := TX1) (v := .int (iI (F 1 l4 10))) (k := 10) hx hb hts inW_1 hown hK hZ g13.1 g13.2 rfl (by decide) k_2_51 rfl (D_180 W_prog_11_method_13_code_32 20 rfl rfl rfl) ?_
      obtain ⟨g14, hf⟩ := gif hf
      obtain ⟨g15, hf⟩ := gif hf
      refine zge (tgt := 95) hx hb g14 g15 (D_162 W_prog_11_method_13_code_32 23 rfl rfl rfl) (by decide) (fun h16 => ?_) (fun h16 => ?_)
      · replace hf := gpos hf h16
        exact b_Study_takeClasses_95 X hrec23 hf hZ hS (lv_sub hl [2, 3, 4, 5] rfl)
      · replace hf := gneg hf h16
        refine lv_aload_n hx hb (D_42 W_prog_11_method_13_code_32 26 rfl rfl) rfl (lv_at hl 3 rfl) ?_
        obtain ⟨g17, hf⟩ := gif hf
        refine zget (ci := 9) (C := RX9) (T := TX9) (v := .ref (ad 9 l0 (10 + 1))) (k := 10) hx hb hts inW_9 hown hK hZ g17.1 g17.2 rfl (by decide) k_5_211 rfl (D_180 W_prog_11_method_13_code_32 27 rfl rfl rfl) ?_
        refine zaload hx hb (D_25 W_prog_11_method_13_code_32 30 rfl rfl) (lv_at hl 1 rfl) ?_
        refine zunrf g13.1 ?_
        refine zget (ci := 1) (C := RX1) (T := TX1) (v := .ref (ad 1 l4 (12 + 1))) (k := 12) hx hb hts inW_1 hown hK hZ g13.1 g13.2 rfl (by decide) k_2_58 rfl (D_180 W_prog_11_method_13_code_64 0 rfl rfl rfl) ?_
        refine lv_iload hx hb (D_21 W_prog_11_method_13_code_64 3 rfl rfl) (lv_at hl 0 rfl) ?_
        obtain ⟨g18, hf⟩ := gif hf
        refine zald (ci := 1) (k := 12) hx hb hK rfl hZ g13.1 g13.2 rfl (Nat.le_of_ble_eq_true rfl) g18.1 g18.2 (D_46 W_prog_11_method_13_code_64 5 rfl rfl) ?_
        refine lv_bipush (v := iI 7) hx hb (D_16 W_prog_11_method_13_code_64 6 rfl rfl rfl) (by decide) ?_
        refine zrm_r hx hb (by decide) (D_112 W_prog_11_method_13_code_64 8 rfl rfl) ?_
        refine lv_dup2_11 hx hb (D_92 W_prog_11_method_13_code_64 9 rfl rfl) rfl rfl ?_
        obtain ⟨g19, hf⟩ := gif hf
        refine zald (ci := 9) (k := 10) hx hb hK rfl hZ g17.1 g17.2 rfl (Nat.le_of_ble_eq_true rfl) g19.1 g19.2 (D_46 W_prog_11_method_13_code_64 10 rfl rfl) ?_
        refine lv_iconst (v := iI 1) hx hb (D_4 W_prog_11_method_13_code_64 11 rfl rfl) rfl ?_
        refine zaload hx hb (D_25 W_prog_11_method_13_code_64 12 rfl rfl) (lv_at hl 1 rfl) ?_
        refine zunrf g13.1 ?_
        refine zget (ci := 1) (C := RX1) (T := TX1) (v := .ref (ad 1 l4 (13 + 1))) (k := 13) hx hb hts inW_1 hown hK hZ g13.1 g13.2 rfl (by decide) k_2_66 rfl (D_180 W_prog_11_method_13_code_64 14 rfl rfl rfl) ?_
        refine lv_iload hx hb (D_21 W_prog_11_method_13_code_64 17 rfl rfl) (lv_at hl 0 rfl) ?_
        refine zald (ci := 1) (k := 13) hx hb hK rfl hZ g13.1 g13.2 rfl (Nat.le_of_ble_eq_true rfl) g18.1 g18.2 (D_46 W_prog_11_method_13_code_64 19 rfl rfl) ?_
        refine lv_iconst (v := iI 2) hx hb (D_5 W_prog_11_method_13_code_64 20 rfl rfl) rfl ?_
        refine zadd hx hb (D_96 W_prog_11_method_13_code_64 21 rfl rfl) ?_
        refine zshl_r hx hb (D_120 W_prog_11_method_13_code_64 22 rfl rfl) ?_
        refine zor_r hx hb (D_128 W_prog_11_method_13_code_64 23 rfl rfl) ?_
        refine zast (ci := 9) (k := 10) hx hb hK rfl hZ hS g17.1 g17.2 rfl (Nat.le_of_ble_eq_true rfl) g19.1 g19.2 (D_79 W_prog_11_method_13_code_64 24 rfl rfl) (fun H20 locs20 hZ20 hS20 => ?_)
        refine lv_iinc (v := iI (l5 + 1)) (lv' := [(5, .int (iI (l5 + 1))), (4, va_rf (zrf ad 1 l4)), (3, .int (iI l3)), (0, .ref (ad 9 l0 0)), (1, .ref (ad 6 l1 0)), (2, .int (iI l2))]) hx hb d_11_13_89 hl (k := 0) rfl (iI_add _ 1) (by decide) (by cases zrf ad 1 l4 <;> rfl) (fun ls hl => ?_)
        refine lv_goto (tgt := 43) hx hb (D_167 W_prog_11_method_13_code_64 28 rfl rfl rfl) (by decide) ?_
        exact ih hf hZ20 hS20 (lv_sub hl [0, 1, 2, 3, 4, 5] rfl)

def f_Study_takeClasses_23 (K : zK) : Nat → Int → Int → Int → Int → zF → zB → zO
  | 0, _, _, _, _, _, _ => none
  | n + 1, l3, l0, l1, l2, F, B => if 0 ≤ l1 ∧ l1 < K.2 6 then if r32 l3 then if r32 (F 6 l1 1) then (if (F 6 l1 1) ≤ l3 then some (0, F, B) else if 0 ≤ l0 ∧ l0 < K.2 9 then zbind (f_Study_eventOf K l0 l1 l3 l2 F B) (fun r11 F11 B11 => f_Study_takeClasses_43 (f_Study_takeClasses_23 K n) K K.1 0 r11 l3 l0 l1 l2 F11 B11) else none) else none else none else none
set_option maxHeartbeats 4000000 in
set_option maxRecDepth 100000 in
theorem b_Study_takeClasses_23 {D : va_G} {ca : Nat → ClassId} {ad : Nat → Int → Nat → Nat} {L : List Nat} {aS vS : Nat → Nat} {A : Nat → Prop} {p : Program} {l : Launch} {e : Env} {s : State} {m : MethodId} {args : Array Value} {below : List Frame} {meth : Method} {c : Code} {K : zK} {r : Int} {F9 : zF} {B9 : zB} (X : zX D ca L aS vS A p s m args meth c prog_11_method_13_code 6 (Option.none : Option Jvm.ClassFile.FieldType) "StaveHouse$Study") : ∀ {n : Nat} {l3 : Int} {l0 : Int} {l1 : Int} {l2 : Int} {F : zF} {B : zB} {H : Heap} {locs : List Loc} {ls : Array Slot}, f_Study_takeClasses_23 K n l3 l0 l1 l2 F B = some (r, F9, B9) → zH D ca ad lnC K.2 L F B A H → va_S A s.heap H locs → lv_has ls 6 [(3, .int (iI l3)), (0, .ref (ad 9 l0 0)), (1, .ref (ad 6 l1 0)), (2, .int (iI l2))] → W p l e ({ frames := 1, cells := 0, slots := 0, locals := 24 } : Room) s m args below meth c H locs 0 0 (MQ below (Q_Study_takeClasses K D ca ad L r F9 B9 A) args s 0 0 A) (F0 m 23 ls []) := by
  obtain ⟨hx, hb, hr, hml, hown, hts, hlk, hK, hA, hL, hX⟩ := id X
  intro n
  induction n with
  | zero =>
    intros
    rename_i hf _ _ _
    cases hf
  | succ n ih =>
    intro l3 l0 l1 l2 F B H locs ls hf hZ hS hl
    replace hf : (if 0 ≤ l1 ∧ l1 < K.2 6 then if r32 l3 then if r32 (F 6 l1 1) then (if (F 6 l1 1) ≤ l3 then some (0, F, B) else if 0 ≤ l0 ∧ l0 < K.2 9 then zbind (f_Study_eventOf K l0 l1 l3 l2 F B) (fun r11 F11 B11 => f_Study_takeClasses_43 (f_Study_takeClasses_23 K n) K K.1 0 r11 l3 l0 l1 l2 F11 B11) else none) else none else none else none) = some (r, F9, B9) := hf
    refine lv_iload_n hx hb (D_29 W_prog_11_method_13_code_0 23 rfl rfl) rfl (lv_at hl 0 rfl) ?_
    refine lv_aload_n hx hb (D_43 W_prog_11_method_13_code_0 24 rfl rfl) rfl (lv_at hl 2 rfl) ?_
    obtain ⟨g6, hf⟩ := gif hf
    refine zget (ci := 6) (C := RX6) (T := TX6) (v := .int (iI (F 6 l1 1))) (k := 1) hx hb hts inW_6 hown hK hZ g6.1 g6.2 rfl (by decide) k_2_192 rfl (D_180 W_prog_11_method_13_code_0 25 rfl rfl rfl) ?_
    obtain ⟨g7, hf⟩ := gif hf
    obtain ⟨g8, hf⟩ := gif hf
    refine zge (tgt := 101) hx hb g7 g8 (D_162 W_prog_11_method_13_code_0 28 rfl rfl rfl) (by decide) (fun h9 => ?_) (fun h9 => ?_)
    · replace hf := gpos hf h9
      cases hf
      exact W.vret hx hb hr (fun t ht hW => ⟨⟨(), rfl, trivial, by rw [ht]; exact hZ, va_K.moved hW.alike hK⟩, hS.F ht⟩) hS.2.2 (D_177 W_prog_11_method_13_code_96 5 rfl rfl) hlk
    · replace hf := gneg hf h9
      refine lv_aload_n hx hb (D_42 W_prog_11_method_13_code_0 31 rfl rfl) rfl (lv_at hl 1 rfl) ?_
      refine lv_aload_n hx hb (D_43 W_prog_11_method_13_code_32 0 rfl rfl) rfl (lv_at hl 2 rfl) ?_
      refine lv_iload_n hx hb (D_29 W_prog_11_method_13_code_32 1 rfl rfl) rfl (lv_at hl 0 rfl) ?_
      refine lv_iload_n hx hb (D_28 W_prog_11_method_13_code_32 2 rfl rfl) rfl (lv_at hl 3 rfl) ?_
      obtain ⟨g10, hf⟩ := gif hf
      obtain ⟨r11, F11, B11, hc11, hf⟩ := gbind hf
      refine va_callq (va_runV (As := [.ref (ad 6 l1 0), .int (iI l3), .int (iI l2)]) (rest := []) ⟨hx, hb, hml, hown, hts⟩ (c_Study_eventOf (l := l) hc11) (cwV 3 hts (gdV k_6_13 k_6_15 ks_69 k_1_19 k_6_16) rfl rfl rfl (by decide +kernel) ⟨Nat.le_of_ble_eq_true rfl, Nat.le_of_ble_eq_true rfl⟩) (zPV X hZ hS (ci := 9) g10.1 g10.2 (r := (RX9, TX9, 11)) rfl [.ref (ad 6 l1 0), .int (iI l3), .int (iI l2)]) rfl rfl hl.1 rfl (lv_room (Nat.le_of_ble_eq_true rfl)) (D_182 W_prog_11_method_13_code_32 3 rfl rfl rfl) ⟨Nat.le_of_ble_eq_true rfl, Nat.le_of_ble_eq_true rfl⟩) hS (fun q _ h => zAin X hS q h) (zAin X hS) (fun p11 u11 t11 H11 locs11 ht11 hv11 hw11 hB11 hz11 hk11 hS11 => ?_)
      have hZ11 := zBack X ht11 hB11
      subst hw11
      refine zastore (lv' := [(3, .int (iI l3)), (0, .ref (ad 9 l0 0)), (1, .ref (ad 6 l1 0)), (2, .int (iI l2))]) hx hb (D_58 W_prog_11_method_13_code_32 6 rfl rfl) hl (by decide) (fun _ _ => rfl) (fun ls hl => ?_)
      refine lv_iconst (v := iI 0) hx hb (D_3 W_prog_11_method_13_code_32 8 rfl rfl) rfl ?_
      refine lv_istore (lv' := [(5, .int (iI 0)), (4, va_rf (zrf ad 1 r11)), (3, .int (iI l3)), (0, .ref (ad 9 l0 0)), (1, .ref (ad 6 l1 0)), (2, .int (iI l2))]) hx hb (D_54 W_prog_11_method_13_code_32 9 rfl rfl) hl (by decide) (by cases zrf ad 1 r11 <;> rfl) (fun ls hl => ?_)
      exact b_Study_takeClasses_43 X ih hf hZ11 hS11 (lv_sub hl [0, 1, 2, 3, 4, 5] rfl)

def f_Study_takeClasses_2 (K : zK) : Nat → Int → Int → Int → Int → zF → zB → zO
  | 0, _, _, _, _, _, _ => none
  | n + 1, l3, l0, l1, l2, F, B => if r32 l3 then (if 7 ≤ l3 then f_Study_takeClasses_23 K K.1 0 l0 l1 l2 F B else if 0 ≤ l0 ∧ l0 < K.2 9 then if 0 ≤ l3 ∧ l3 < 7 then f_Study_takeClasses_2 K n (l3 + 1) l0 l1 l2 F (zup4 B 9 l0 10 l3 0) else none else none) else none
set_option maxHeartbeats 4000000 in
set_option maxRecDepth 100000 in
theorem b_Study_takeClasses_2 {D : va_G} {ca : Nat → ClassId} {ad : Nat → Int → Nat → Nat} {L : List Nat} {aS vS : Nat → Nat} {A : Nat → Prop} {p : Program} {l : Launch} {e : Env} {s : State} {m : MethodId} {args : Array Value} {below : List Frame} {meth : Method} {c : Code} {K : zK} {r : Int} {F9 : zF} {B9 : zB} (X : zX D ca L aS vS A p s m args meth c prog_11_method_13_code 6 (Option.none : Option Jvm.ClassFile.FieldType) "StaveHouse$Study") : ∀ {n : Nat} {l3 : Int} {l0 : Int} {l1 : Int} {l2 : Int} {F : zF} {B : zB} {H : Heap} {locs : List Loc} {ls : Array Slot}, f_Study_takeClasses_2 K n l3 l0 l1 l2 F B = some (r, F9, B9) → zH D ca ad lnC K.2 L F B A H → va_S A s.heap H locs → lv_has ls 6 [(3, .int (iI l3)), (0, .ref (ad 9 l0 0)), (1, .ref (ad 6 l1 0)), (2, .int (iI l2))] → W p l e ({ frames := 1, cells := 0, slots := 0, locals := 24 } : Room) s m args below meth c H locs 0 0 (MQ below (Q_Study_takeClasses K D ca ad L r F9 B9 A) args s 0 0 A) (F0 m 2 ls []) := by
  obtain ⟨hx, hb, hr, hml, hown, hts, hlk, hK, hA, hL, hX⟩ := id X
  intro n
  induction n with
  | zero =>
    intros
    rename_i hf _ _ _
    cases hf
  | succ n ih =>
    intro l3 l0 l1 l2 F B H locs ls hf hZ hS hl
    replace hf : (if r32 l3 then (if 7 ≤ l3 then f_Study_takeClasses_23 K K.1 0 l0 l1 l2 F B else if 0 ≤ l0 ∧ l0 < K.2 9 then if 0 ≤ l3 ∧ l3 < 7 then f_Study_takeClasses_2 K n (l3 + 1) l0 l1 l2 F (zup4 B 9 l0 10 l3 0) else none else none) else none) = some (r, F9, B9) := hf
    refine lv_iload_n hx hb (D_29 W_prog_11_method_13_code_0 2 rfl rfl) rfl (lv_at hl 0 rfl) ?_
    refine lv_bipush (v := iI 7) hx hb (D_16 W_prog_11_method_13_code_0 3 rfl rfl rfl) (by decide) ?_
    obtain ⟨g1, hf⟩ := gif hf
    refine zge (tgt := 21) hx hb g1 (by decide) (D_162 W_prog_11_method_13_code_0 5 rfl rfl rfl) (by decide) (fun h2 => ?_) (fun h2 => ?_)
    · replace hf := gpos hf h2
      refine lv_iconst (v := iI 0) hx hb (D_3 W_prog_11_method_13_code_0 21 rfl rfl) rfl ?_
      refine lv_istore_n (lv' := [(3, .int (iI 0)), (0, .ref (ad 9 l0 0)), (1, .ref (ad 6 l1 0)), (2, .int (iI l2))]) hx hb (D_62 W_prog_11_method_13_code_0 22 rfl rfl) rfl hl (by decide) rfl (fun ls hl => ?_)
      exact b_Study_takeClasses_23 X hf hZ hS (lv_sub hl [0, 1, 2, 3] rfl)
    · replace hf := gneg hf h2
      refine lv_aload_n hx hb (D_42 W_prog_11_method_13_code_0 8 rfl rfl) rfl (lv_at hl 1 rfl) ?_
      obtain ⟨g3, hf⟩ := gif hf
      refine zget (ci := 9) (C := RX9) (T := TX9) (v := .ref (ad 9 l0 (10 + 1))) (k := 10) hx hb hts inW_9 hown hK hZ g3.1 g3.2 rfl (by decide) k_5_211 rfl (D_180 W_prog_11_method_13_code_0 9 rfl rfl rfl) ?_
      refine lv_iload_n hx hb (D_29 W_prog_11_method_13_code_0 12 rfl rfl) rfl (lv_at hl 0 rfl) ?_
      refine lv_iconst (v := iI 0) hx hb (D_3 W_prog_11_method_13_code_0 13 rfl rfl) rfl ?_
      obtain ⟨g4, hf⟩ := gif hf
      refine zast (ci := 9) (k := 10) hx hb hK rfl hZ hS g3.1 g3.2 rfl (Nat.le_of_ble_eq_true rfl) g4.1 g4.2 (D_79 W_prog_11_method_13_code_0 14 rfl rfl) (fun H5 locs5 hZ5 hS5 => ?_)
      refine lv_iinc (v := iI (l3 + 1)) (lv' := [(3, .int (iI (l3 + 1))), (0, .ref (ad 9 l0 0)), (1, .ref (ad 6 l1 0)), (2, .int (iI l2))]) hx hb d_11_13_15 hl (k := 0) rfl (iI_add _ 1) (by decide) rfl (fun ls hl => ?_)
      refine lv_goto (tgt := 2) hx hb (D_167 W_prog_11_method_13_code_0 18 rfl rfl rfl) (by decide) ?_
      exact ih hf hZ5 hS5 (lv_sub hl [0, 1, 2, 3] rfl)

def f_Study_takeClasses (K : zK) (l0 : Int) (l1 : Int) (l2 : Int) (F : zF) (B : zB) : zO := f_Study_takeClasses_2 K K.1 0 l0 l1 l2 F B
set_option maxHeartbeats 4000000 in
set_option maxRecDepth 100000 in
theorem c_Study_takeClasses {l : Launch} {D : va_G} {ca : Nat → ClassId} {ad : Nat → Int → Nat → Nat} {L : List Nat} {aS vS : Nat → Nat} {sz : Nat} {K : zK}  {l0 : Int} {l1 : Int} {l2 : Int} {F F9 : zF} {B B9 : zB} {r : Int} (hf : f_Study_takeClasses K l0 l1 l2 F B = some (r, F9, B9)) : Met l ({ cls := "StaveHouse$Study", name := "takeClasses", desc := "(LStaveHouse$Piece;I)V" } : Jvm.MethodName) (Cond.code ({ cls := "StaveHouse$Study", name := "takeClasses", desc := "(LStaveHouse$Piece;I)V" } : Jvm.MethodName) prog_11_method_13_code 6 (Option.none : Option Jvm.ClassFile.FieldType) :: wAll) ({ frames := 1, cells := 0, slots := 0, locals := 24 } : Room) (va_Pc [.ref (ad 9 l0 0), .ref (ad 6 l1 0), .int (iI l2)] (zPre D ca ad lnC K.2 L aS vS F B sz)) (Q_Study_takeClasses K D ca ad L r F9 B9 (zA L sz)) 0 0 (zA L sz) := by
  refine zMet (Qc := Q_Study_takeClasses K D ca ad L r F9 B9) (lv := [(0, .ref (ad 9 l0 0)), (1, .ref (ad 6 l1 0)), (2, .int (iI l2))]) (by decide) (Nat.le_of_ble_eq_true rfl) rfl (fun A p e s m below meth c ls X hZ hS hl => ?_)
  obtain ⟨hx, hb, hr, hml, hown, hts, hlk, hK, hA, hL, hX⟩ := id X
  replace hf : (f_Study_takeClasses_2 K K.1 0 l0 l1 l2 F B) = some (r, F9, B9) := hf
  refine lv_iconst (v := iI 0) hx hb (D_3 W_prog_11_method_13_code_0 0 rfl rfl) rfl ?_
  refine lv_istore_n (lv' := [(3, .int (iI 0)), (0, .ref (ad 9 l0 0)), (1, .ref (ad 6 l1 0)), (2, .int (iI l2))]) hx hb (D_62 W_prog_11_method_13_code_0 1 rfl rfl) rfl hl (by decide) rfl (fun ls hl => ?_)
  exact b_Study_takeClasses_2 X hf hZ hS (lv_sub hl [0, 1, 2, 3] rfl)

abbrev Q_Study_alterationOf (K : zK) (D : va_G) (ca : Nat → ClassId) (ad : Nat → Int → Nat → Nat) (L : List Nat) (r : Int) (F : zF) (B : zB) (A : Nat → Prop) : Array Value → State → Outcome → State → Prop := va_Qi (S := Unit) (fun p _ => p = iI r) (fun _ => zPo D ca ad lnC K.2 L F B A) A
def f_Study_alterationOf (K : zK) (l0 : Int) (l1 : Int) (F : zF) (B : zB) : zO := if 0 ≤ l0 ∧ l0 < K.2 9 then if 0 ≤ l1 ∧ l1 < 7 then zbind (f_Integer_bitCount K ((B 9 l0 10 l1) - 1) F B) (fun r3 F3 B3 => some (r3 - 2, F3, B3)) else none else none
set_option maxHeartbeats 4000000 in
set_option maxRecDepth 100000 in
theorem c_Study_alterationOf {l : Launch} {D : va_G} {ca : Nat → ClassId} {ad : Nat → Int → Nat → Nat} {L : List Nat} {aS vS : Nat → Nat} {sz : Nat} {K : zK}  {l0 : Int} {l1 : Int} {F F9 : zF} {B B9 : zB} {r : Int} (hf : f_Study_alterationOf K l0 l1 F B = some (r, F9, B9)) : Met l ({ cls := "StaveHouse$Study", name := "alterationOf", desc := "(I)I" } : Jvm.MethodName) (Cond.code ({ cls := "StaveHouse$Study", name := "alterationOf", desc := "(I)I" } : Jvm.MethodName) prog_11_method_14_code 2 (Option.some Jvm.ClassFile.FieldType.int) :: wAll) ({ frames := 1, cells := 0, slots := 0, locals := 20 } : Room) (va_Pc [.ref (ad 9 l0 0), .int (iI l1)] (zPre D ca ad lnC K.2 L aS vS F B sz)) (Q_Study_alterationOf K D ca ad L r F9 B9 (zA L sz)) 0 0 (zA L sz) := by
  refine zMet (Qc := Q_Study_alterationOf K D ca ad L r F9 B9) (lv := [(0, .ref (ad 9 l0 0)), (1, .int (iI l1))]) (by decide) (Nat.le_of_ble_eq_true rfl) rfl (fun A p e s m below meth c ls X hZ hS hl => ?_)
  obtain ⟨hx, hb, hr, hml, hown, hts, hlk, hK, hA, hL, hX⟩ := id X
  replace hf : (if 0 ≤ l0 ∧ l0 < K.2 9 then if 0 ≤ l1 ∧ l1 < 7 then zbind (f_Integer_bitCount K ((B 9 l0 10 l1) - 1) F B) (fun r3 F3 B3 => some (r3 - 2, F3, B3)) else none else none) = some (r, F9, B9) := hf
  refine lv_aload_n hx hb (D_42 W_prog_11_method_14_code_0 0 rfl rfl) rfl (lv_at hl 0 rfl) ?_
  obtain ⟨g1, hf⟩ := gif hf
  refine zget (ci := 9) (C := RX9) (T := TX9) (v := .ref (ad 9 l0 (10 + 1))) (k := 10) hx hb hts inW_9 hown hK hZ g1.1 g1.2 rfl (by decide) k_5_211 rfl (D_180 W_prog_11_method_14_code_0 1 rfl rfl rfl) ?_
  refine lv_iload_n hx hb (D_27 W_prog_11_method_14_code_0 4 rfl rfl) rfl (lv_at hl 1 rfl) ?_
  obtain ⟨g2, hf⟩ := gif hf
  refine zald (ci := 9) (k := 10) hx hb hK rfl hZ g1.1 g1.2 rfl (Nat.le_of_ble_eq_true rfl) g2.1 g2.2 (D_46 W_prog_11_method_14_code_0 5 rfl rfl) ?_
  refine lv_iconst (v := iI 1) hx hb (D_4 W_prog_11_method_14_code_0 6 rfl rfl) rfl ?_
  refine zsub hx hb (D_100 W_prog_11_method_14_code_0 7 rfl rfl) ?_
  obtain ⟨r3, F3, B3, hc3, hf⟩ := gbind hf
  refine va_calli (va_runS (As := [.int (iI ((B 9 l0 10 l1) - 1))]) (rest := []) ⟨hx, hb, hml, hown, hts⟩ (c_Integer_bitCount (l := l) hc3) (va_cwS 1 hts (gdS k_9_47 k_7_170 k_1_22 k_7_171) rfl rfl rfl (by decide +kernel) ⟨Nat.le_of_ble_eq_true rfl, Nat.le_of_ble_eq_true rfl⟩) (zPS X hZ hS [.int (iI ((B 9 l0 10 l1) - 1))]) rfl rfl hl.1 rfl (lv_room (Nat.le_of_ble_eq_true rfl)) (D_184 W_prog_11_method_14_code_0 8 rfl rfl rfl) ⟨Nat.le_of_ble_eq_true rfl, Nat.le_of_ble_eq_true rfl⟩) hS (fun q _ h => zAin X hS q h) (zAin X hS) (fun p3 u3 t3 H3 locs3 ht3 hv3 hw3 hB3 hz3 hk3 hS3 => ?_)
  have hZ3 := zBack X ht3 hB3
  subst hw3
  refine lv_iconst (v := iI 2) hx hb (D_5 W_prog_11_method_14_code_0 11 rfl rfl) rfl ?_
  refine zsub hx hb (D_100 W_prog_11_method_14_code_0 12 rfl rfl) ?_
  cases hf
  exact W.iret hx hb hr (fun t ht hW => ⟨⟨_, (), rfl, rfl, by rw [ht]; exact hZ3, va_K.moved hW.alike hK⟩, hS3.F ht⟩) hS3.2.2 (D_172 W_prog_11_method_14_code_0 13 rfl rfl) hlk

abbrev Q_Study_tonic (K : zK) (D : va_G) (ca : Nat → ClassId) (ad : Nat → Int → Nat → Nat) (L : List Nat) (r : Int) (F : zF) (B : zB) (A : Nat → Prop) : Array Value → State → Outcome → State → Prop := va_Qi (S := Unit) (fun p _ => p = iI r) (fun _ => zPo D ca ad lnC K.2 L F B A) A
def f_Study_tonic_19 (K : zK) (s0 : Int) (s1 : Int) (F : zF) (B : zB) : zO := zbind (f_Math_floorMod K (s0 + s1) 7 F B) (fun r4 F4 B4 => some (r4, F4, B4))
set_option maxHeartbeats 4000000 in
set_option maxRecDepth 100000 in
theorem b_Study_tonic_19 {D : va_G} {ca : Nat → ClassId} {ad : Nat → Int → Nat → Nat} {L : List Nat} {aS vS : Nat → Nat} {A : Nat → Prop} {p : Program} {l : Launch} {e : Env} {s : State} {m : MethodId} {args : Array Value} {below : List Frame} {meth : Method} {c : Code} {K : zK} {r : Int} {F9 : zF} {B9 : zB} (X : zX D ca L aS vS A p s m args meth c prog_11_method_18_code 1 (Option.some Jvm.ClassFile.FieldType.int) "StaveHouse$Study") {s0 : Int} {s1 : Int} {F : zF} {B : zB} {H : Heap} {locs : List Loc} {ls : Array Slot} (hf : f_Study_tonic_19 K s0 s1 F B = some (r, F9, B9)) (hZ : zH D ca ad lnC K.2 L F B A H) (hS : va_S A s.heap H locs) (hl : lv_has ls 1 []) : W p l e ({ frames := 1, cells := 0, slots := 0, locals := 22 } : Room) s m args below meth c H locs 0 0 (MQ below (Q_Study_tonic K D ca ad L r F9 B9 A) args s 0 0 A) (F0 m 19 ls [.int (iI s1), .int (iI s0)]) := by
  obtain ⟨hx, hb, hr, hml, hown, hts, hlk, hK, hA, hL, hX⟩ := id X
  replace hf : (zbind (f_Math_floorMod K (s0 + s1) 7 F B) (fun r4 F4 B4 => some (r4, F4, B4))) = some (r, F9, B9) := hf
  refine zadd hx hb (D_96 W_prog_11_method_18_code_0 19 rfl rfl) ?_
  refine lv_bipush (v := iI 7) hx hb (D_16 W_prog_11_method_18_code_0 20 rfl rfl rfl) (by decide) ?_
  obtain ⟨r4, F4, B4, hc4, hf⟩ := gbind hf
  refine va_calli (va_runS (As := [.int (iI (s0 + s1)), .int (iI 7)]) (rest := []) ⟨hx, hb, hml, hown, hts⟩ (c_Math_floorMod (l := l) hc4) (va_cwS 2 hts (gdS k_6_38 k_4_71 k_1_3 k_4_72) rfl rfl rfl (by decide +kernel) ⟨Nat.le_of_ble_eq_true rfl, Nat.le_of_ble_eq_true rfl⟩) (zPS X hZ hS [.int (iI (s0 + s1)), .int (iI 7)]) rfl rfl hl.1 rfl (lv_room (Nat.le_of_ble_eq_true rfl)) (D_184 W_prog_11_method_18_code_0 22 rfl rfl rfl) ⟨Nat.le_of_ble_eq_true rfl, Nat.le_of_ble_eq_true rfl⟩) hS (fun q _ h => zAin X hS q h) (zAin X hS) (fun p4 u4 t4 H4 locs4 ht4 hv4 hw4 hB4 hz4 hk4 hS4 => ?_)
  have hZ4 := zBack X ht4 hB4
  subst hw4
  cases hf
  exact W.iret hx hb hr (fun t ht hW => ⟨⟨_, (), rfl, rfl, by rw [ht]; exact hZ4, va_K.moved hW.alike hK⟩, hS4.F ht⟩) hS4.2.2 (D_172 W_prog_11_method_18_code_0 25 rfl rfl) hlk

def f_Study_tonic (K : zK) (l0 : Int) (F : zF) (B : zB) : zO := if 0 ≤ l0 ∧ l0 < K.2 6 then if r32 (F 6 l0 3) then (if (F 6 l0 3) = 1 then f_Study_tonic_19 K (4 * (F 6 l0 2)) 5 F B else f_Study_tonic_19 K (4 * (F 6 l0 2)) 0 F B) else none else none
set_option maxHeartbeats 4000000 in
set_option maxRecDepth 100000 in
theorem c_Study_tonic {l : Launch} {D : va_G} {ca : Nat → ClassId} {ad : Nat → Int → Nat → Nat} {L : List Nat} {aS vS : Nat → Nat} {sz : Nat} {K : zK}  {l0 : Int} {F F9 : zF} {B B9 : zB} {r : Int} (hf : f_Study_tonic K l0 F B = some (r, F9, B9)) : Met l ({ cls := "StaveHouse$Study", name := "tonic", desc := "(LStaveHouse$Piece;)I" } : Jvm.MethodName) (Cond.code ({ cls := "StaveHouse$Study", name := "tonic", desc := "(LStaveHouse$Piece;)I" } : Jvm.MethodName) prog_11_method_18_code 1 (Option.some Jvm.ClassFile.FieldType.int) :: wAll) ({ frames := 1, cells := 0, slots := 0, locals := 22 } : Room) (va_Pc [.ref (ad 6 l0 0)] (zPre D ca ad lnC K.2 L aS vS F B sz)) (Q_Study_tonic K D ca ad L r F9 B9 (zA L sz)) 0 0 (zA L sz) := by
  refine zMet (Qc := Q_Study_tonic K D ca ad L r F9 B9) (lv := [(0, .ref (ad 6 l0 0))]) (by decide) (Nat.le_of_ble_eq_true rfl) rfl (fun A p e s m below meth c ls X hZ hS hl => ?_)
  obtain ⟨hx, hb, hr, hml, hown, hts, hlk, hK, hA, hL, hX⟩ := id X
  replace hf : (if 0 ≤ l0 ∧ l0 < K.2 6 then if r32 (F 6 l0 3) then (if (F 6 l0 3) = 1 then f_Study_tonic_19 K (4 * (F 6 l0 2)) 5 F B else f_Study_tonic_19 K (4 * (F 6 l0 2)) 0 F B) else none else none) = some (r, F9, B9) := hf
  refine lv_iconst (v := iI 4) hx hb (D_7 W_prog_11_method_18_code_0 0 rfl rfl) rfl ?_
  refine lv_aload_n hx hb (D_42 W_prog_11_method_18_code_0 1 rfl rfl) rfl (lv_at hl 0 rfl) ?_
  obtain ⟨g1, hf⟩ := gif hf
  refine zget (ci := 6) (C := RX6) (T := TX6) (v := .int (iI (F 6 l0 2))) (k := 2) hx hb hts inW_6 hown hK hZ g1.1 g1.2 rfl (by decide) k_2_201 rfl (D_180 W_prog_11_method_18_code_0 2 rfl rfl rfl) ?_
  refine zmul hx hb (D_104 W_prog_11_method_18_code_0 5 rfl rfl) ?_
  refine lv_aload_n hx hb (D_42 W_prog_11_method_18_code_0 6 rfl rfl) rfl (lv_at hl 0 rfl) ?_
  refine zget (ci := 6) (C := RX6) (T := TX6) (v := .int (iI (F 6 l0 3))) (k := 3) hx hb hts inW_6 hown hK hZ g1.1 g1.2 rfl (by decide) k_2_205 rfl (D_180 W_prog_11_method_18_code_0 7 rfl rfl rfl) ?_
  refine lv_iconst (v := iI 1) hx hb (D_4 W_prog_11_method_18_code_0 10 rfl rfl) rfl ?_
  obtain ⟨g2, hf⟩ := gif hf
  refine zne (tgt := 18) hx hb g2 (by decide) (D_160 W_prog_11_method_18_code_0 11 rfl rfl rfl) (by decide) (fun h3 => ?_) (fun h3 => ?_)
  · replace hf := gneg hf h3
    refine lv_iconst (v := iI 0) hx hb (D_3 W_prog_11_method_18_code_0 18 rfl rfl) rfl ?_
    exact b_Study_tonic_19 X hf hZ hS (lv_sub hl [] rfl)
  · replace hf := gpos hf h3
    refine lv_iconst (v := iI 5) hx hb (D_8 W_prog_11_method_18_code_0 14 rfl rfl) rfl ?_
    refine lv_goto (tgt := 19) hx hb (D_167 W_prog_11_method_18_code_0 15 rfl rfl rfl) (by decide) ?_
    exact b_Study_tonic_19 X hf hZ hS (lv_sub hl [] rfl)

abbrev Q_Study_isForeign (K : zK) (D : va_G) (ca : Nat → ClassId) (ad : Nat → Int → Nat → Nat) (L : List Nat) (r : Int) (F : zF) (B : zB) (A : Nat → Prop) : Array Value → State → Outcome → State → Prop := va_Qi (S := Unit) (fun p _ => p = iI r) (fun _ => zPo D ca ad lnC K.2 L F B A) A
def f_Study_isForeign_2 (K : zK) : Nat → Int → Int → Int → zF → zB → zO
  | 0, _, _, _, _, _ => none
  | n + 1, l2, l0, l1, F, B => if r32 l2 then (if 7 ≤ l2 then some (0, F, B) else if 0 ≤ l1 ∧ l1 < K.2 6 then zbind (f_S_keyAlteration K (F 6 l1 2) l2 F B) (fun r4 F4 B4 => if 0 ≤ l0 ∧ l0 < K.2 9 then if 0 ≤ l2 ∧ l2 < 7 then if r32 (zand (B4 9 l0 10 l2) (zxor (zshl 1 (r4 + 2)) (-1))) then (if (zand (B4 9 l0 10 l2) (zxor (zshl 1 (r4 + 2)) (-1))) = 0 then f_Study_isForeign_2 K n (l2 + 1) l0 l1 F4 B4 else some (1, F4, B4)) else none else none else none) else none) else none
set_option maxHeartbeats 4000000 in
set_option maxRecDepth 100000 in
theorem b_Study_isForeign_2 {D : va_G} {ca : Nat → ClassId} {ad : Nat → Int → Nat → Nat} {L : List Nat} {aS vS : Nat → Nat} {A : Nat → Prop} {p : Program} {l : Launch} {e : Env} {s : State} {m : MethodId} {args : Array Value} {below : List Frame} {meth : Method} {c : Code} {K : zK} {r : Int} {F9 : zF} {B9 : zB} (X : zX D ca L aS vS A p s m args meth c prog_11_method_19_code 4 (Option.some Jvm.ClassFile.FieldType.boolean) "StaveHouse$Study") : ∀ {n : Nat} {l2 : Int} {l0 : Int} {l1 : Int} {F : zF} {B : zB} {H : Heap} {locs : List Loc} {ls : Array Slot}, f_Study_isForeign_2 K n l2 l0 l1 F B = some (r, F9, B9) → zH D ca ad lnC K.2 L F B A H → va_S A s.heap H locs → lv_has ls 4 [(2, .int (iI l2)), (0, .ref (ad 9 l0 0)), (1, .ref (ad 6 l1 0))] → W p l e ({ frames := 2, cells := 0, slots := 0, locals := 44 } : Room) s m args below meth c H locs 0 0 (MQ below (Q_Study_isForeign K D ca ad L r F9 B9 A) args s 0 0 A) (F0 m 2 ls []) := by
  obtain ⟨hx, hb, hr, hml, hown, hts, hlk, hK, hA, hL, hX⟩ := id X
  intro n
  induction n with
  | zero =>
    intros
    rename_i hf _ _ _
    cases hf
  | succ n ih =>
    intro l2 l0 l1 F B H locs ls hf hZ hS hl
    replace hf : (if r32 l2 then (if 7 ≤ l2 then some (0, F, B) else if 0 ≤ l1 ∧ l1 < K.2 6 then zbind (f_S_keyAlteration K (F 6 l1 2) l2 F B) (fun r4 F4 B4 => if 0 ≤ l0 ∧ l0 < K.2 9 then if 0 ≤ l2 ∧ l2 < 7 then if r32 (zand (B4 9 l0 10 l2) (zxor (zshl 1 (r4 + 2)) (-1))) then (if (zand (B4 9 l0 10 l2) (zxor (zshl 1 (r4 + 2)) (-1))) = 0 then f_Study_isForeign_2 K n (l2 + 1) l0 l1 F4 B4 else some (1, F4, B4)) else none else none else none) else none) else none) = some (r, F9, B9) := hf
    refine lv_iload_n hx hb (D_28 W_prog_11_method_19_code_0 2 rfl rfl) rfl (lv_at hl 0 rfl) ?_
    refine lv_bipush (v := iI 7) hx hb (D_16 W_prog_11_method_19_code_0 3 rfl rfl rfl) (by decide) ?_
    obtain ⟨g1, hf⟩ := gif hf
    refine zge (tgt := 42) hx hb g1 (by decide) (D_162 W_prog_11_method_19_code_0 5 rfl rfl rfl) (by decide) (fun h2 => ?_) (fun h2 => ?_)
    · replace hf := gpos hf h2
      refine lv_iconst (v := iI 0) hx hb (D_3 W_prog_11_method_19_code_32 10 rfl rfl) rfl ?_
      cases hf
      exact W.zret hx hb hr rfl (fun t ht hW => ⟨⟨_, (), rfl, rfl, by rw [ht]; exact hZ, va_K.moved hW.alike hK⟩, hS.F ht⟩) hS.2.2 (D_172 W_prog_11_method_19_code_32 11 rfl rfl) hlk
    · replace hf := gneg hf h2
      refine lv_iconst (v := iI 1) hx hb (D_4 W_prog_11_method_19_code_0 8 rfl rfl) rfl ?_
      refine lv_aload_n hx hb (D_43 W_prog_11_method_19_code_0 9 rfl rfl) rfl (lv_at hl 2 rfl) ?_
      obtain ⟨g3, hf⟩ := gif hf
      refine zget (ci := 6) (C := RX6) (T := TX6) (v := .int (iI (F 6 l1 2))) (k := 2) hx hb hts inW_6 hown hK hZ g3.1 g3.2 rfl (by decide) k_2_201 rfl (D_180 W_prog_11_method_19_code_0 10 rfl rfl rfl) ?_
      refine lv_iload_n hx hb (D_28 W_prog_11_method_19_code_0 13 rfl rfl) rfl (lv_at hl 0 rfl) ?_
      obtain ⟨r4, F4, B4, hc4, hf⟩ := gbind hf
      refine va_calli (va_runSN (As := [.int (iI (F 6 l1 2)), .int (iI l2)]) (rest := [.int (iI 1)]) ⟨hx, hb, hml, hown, hts⟩ (c_S_keyAlteration (l := l) hc4) ⟨va_cnB 2 hts (gdC k_5_118) rfl rfl rfl (hX.1 _ (List.mem_of_getElem? (i := 24) rfl) :) (hts _ k_1_1) (by decide +kernel) ⟨Nat.le_of_ble_eq_true rfl, Nat.le_of_ble_eq_true rfl⟩, hts _ k_5_117, trivial⟩ (zPS X hZ hS [.int (iI (F 6 l1 2)), .int (iI l2)]) rfl rfl hl.1 rfl (lv_room (Nat.le_of_ble_eq_true rfl)) (D_184 W_prog_11_method_19_code_0 14 rfl rfl rfl) ⟨Nat.le_of_ble_eq_true rfl, Nat.le_of_ble_eq_true rfl⟩) hS (fun q _ h => zAin X hS q h) (zAin X hS) (fun p4 u4 t4 H4 locs4 ht4 hv4 hw4 hB4 hz4 hk4 hS4 => ?_)
      have hZ4 := zBack X ht4 hB4
      subst hw4
      refine lv_iconst (v := iI 2) hx hb (D_5 W_prog_11_method_19_code_0 17 rfl rfl) rfl ?_
      refine zadd hx hb (D_96 W_prog_11_method_19_code_0 18 rfl rfl) ?_
      refine zshl_r hx hb (D_120 W_prog_11_method_19_code_0 19 rfl rfl) ?_
      refine lv_istore_n (lv' := [(3, .int (iI (zshl 1 (r4 + 2)))), (2, .int (iI l2)), (0, .ref (ad 9 l0 0)), (1, .ref (ad 6 l1 0))]) hx hb (D_62 W_prog_11_method_19_code_0 20 rfl rfl) rfl hl (by decide) rfl (fun ls hl => ?_)
      refine lv_aload_n hx hb (D_42 W_prog_11_method_19_code_0 21 rfl rfl) rfl (lv_at hl 2 rfl) ?_
      obtain ⟨g5, hf⟩ := gif hf
      refine zget (ci := 9) (C := RX9) (T := TX9) (v := .ref (ad 9 l0 (10 + 1))) (k := 10) hx hb hts inW_9 hown hK hZ4 g5.1 g5.2 rfl (by decide) k_5_211 rfl (D_180 W_prog_11_method_19_code_0 22 rfl rfl rfl) ?_
      refine lv_iload_n hx hb (D_28 W_prog_11_method_19_code_0 25 rfl rfl) rfl (lv_at hl 1 rfl) ?_
      obtain ⟨g6, hf⟩ := gif hf
      refine zald (ci := 9) (k := 10) hx hb hK rfl hZ4 g5.1 g5.2 rfl (Nat.le_of_ble_eq_true rfl) g6.1 g6.2 (D_46 W_prog_11_method_19_code_0 26 rfl rfl) ?_
      refine lv_iload_n hx hb (D_29 W_prog_11_method_19_code_0 27 rfl rfl) rfl (lv_at hl 0 rfl) ?_
      refine lv_iconst (v := iI (-1)) hx hb (D_2 W_prog_11_method_19_code_0 28 rfl rfl) rfl ?_
      refine zxor_r hx hb (D_130 W_prog_11_method_19_code_0 29 rfl rfl) ?_
      refine zand_r hx hb (D_126 W_prog_11_method_19_code_0 30 rfl rfl) ?_
      obtain ⟨g7, hf⟩ := gif hf
      refine z0eq (tgt := 36) hx hb g7 (D_153 W_prog_11_method_19_code_0 31 rfl rfl rfl) (by decide) (fun h8 => ?_) (fun h8 => ?_)
      · replace hf := gpos hf h8
        refine lv_iinc (v := iI (l2 + 1)) (lv' := [(2, .int (iI (l2 + 1))), (3, .int (iI (zshl 1 (r4 + 2)))), (0, .ref (ad 9 l0 0)), (1, .ref (ad 6 l1 0))]) hx hb d_11_19_36 hl (k := 1) rfl (iI_add _ 1) (by decide) rfl (fun ls hl => ?_)
        refine lv_goto (tgt := 2) hx hb (D_167 W_prog_11_method_19_code_32 7 rfl rfl rfl) (by decide) ?_
        exact ih hf hZ4 hS4 (lv_sub hl [0, 2, 3] rfl)
      · replace hf := gneg hf h8
        refine lv_iconst (v := iI 1) hx hb (D_4 W_prog_11_method_19_code_32 2 rfl rfl) rfl ?_
        cases hf
        exact W.zret hx hb hr rfl (fun t ht hW => ⟨⟨_, (), rfl, rfl, by rw [ht]; exact hZ4, va_K.moved hW.alike hK⟩, hS4.F ht⟩) hS4.2.2 (D_172 W_prog_11_method_19_code_32 3 rfl rfl) hlk

def f_Study_isForeign (K : zK) (l0 : Int) (l1 : Int) (F : zF) (B : zB) : zO := f_Study_isForeign_2 K K.1 0 l0 l1 F B
set_option maxHeartbeats 4000000 in
set_option maxRecDepth 100000 in
theorem c_Study_isForeign {l : Launch} {D : va_G} {ca : Nat → ClassId} {ad : Nat → Int → Nat → Nat} {L : List Nat} {aS vS : Nat → Nat} {sz : Nat} {K : zK}  {l0 : Int} {l1 : Int} {F F9 : zF} {B B9 : zB} {r : Int} (hf : f_Study_isForeign K l0 l1 F B = some (r, F9, B9)) : Met l ({ cls := "StaveHouse$Study", name := "isForeign", desc := "(LStaveHouse$Piece;)Z" } : Jvm.MethodName) (Cond.code ({ cls := "StaveHouse$Study", name := "isForeign", desc := "(LStaveHouse$Piece;)Z" } : Jvm.MethodName) prog_11_method_19_code 4 (Option.some Jvm.ClassFile.FieldType.boolean) :: wAll) ({ frames := 2, cells := 0, slots := 0, locals := 44 } : Room) (va_Pc [.ref (ad 9 l0 0), .ref (ad 6 l1 0)] (zPre D ca ad lnC K.2 L aS vS F B sz)) (Q_Study_isForeign K D ca ad L r F9 B9 (zA L sz)) 0 0 (zA L sz) := by
  refine zMet (Qc := Q_Study_isForeign K D ca ad L r F9 B9) (lv := [(0, .ref (ad 9 l0 0)), (1, .ref (ad 6 l1 0))]) (by decide) (Nat.le_of_ble_eq_true rfl) rfl (fun A p e s m below meth c ls X hZ hS hl => ?_)
  obtain ⟨hx, hb, hr, hml, hown, hts, hlk, hK, hA, hL, hX⟩ := id X
  replace hf : (f_Study_isForeign_2 K K.1 0 l0 l1 F B) = some (r, F9, B9) := hf
  refine lv_iconst (v := iI 0) hx hb (D_3 W_prog_11_method_19_code_0 0 rfl rfl) rfl ?_
  refine lv_istore_n (lv' := [(2, .int (iI 0)), (0, .ref (ad 9 l0 0)), (1, .ref (ad 6 l1 0))]) hx hb (D_61 W_prog_11_method_19_code_0 1 rfl rfl) rfl hl (by decide) rfl (fun ls hl => ?_)
  exact b_Study_isForeign_2 X hf hZ hS (lv_sub hl [0, 1, 2] rfl)

abbrev Q_Part_firstSounding (K : zK) (D : va_G) (ca : Nat → ClassId) (ad : Nat → Int → Nat → Nat) (L : List Nat) (r : Int) (F : zF) (B : zB) (A : Nat → Prop) : Array Value → State → Outcome → State → Prop := va_Qi (S := Unit) (fun p _ => p = iI r) (fun _ => zPo D ca ad lnC K.2 L F B A) A
def f_Part_firstSounding_2 (K : zK) : Nat → Int → Int → zF → zB → zO
  | 0, _, _, _, _ => none
  | n + 1, l1, l0, F, B => if 0 ≤ l0 ∧ l0 < K.2 4 then if r32 l1 then if r32 (F 4 l0 6) then (if (F 4 l0 6) ≤ l1 then some ((-1), F, B) else if 0 ≤ l1 ∧ l1 < 200 then if 0 ≤ (B 4 l0 5 l1) ∧ (B 4 l0 5 l1) < K.2 1 then zbind (f_Event_isRest K (B 4 l0 5 l1) F B) (fun r7 F7 B7 => if r32 r7 then (if r7 = 0 then some (l1, F7, B7) else f_Part_firstSounding_2 K n (l1 + 1) l0 F7 B7) else none) else none else none) else none else none else none
set_option maxHeartbeats 4000000 in
set_option maxRecDepth 100000 in
theorem b_Part_firstSounding_2 {D : va_G} {ca : Nat → ClassId} {ad : Nat → Int → Nat → Nat} {L : List Nat} {aS vS : Nat → Nat} {A : Nat → Prop} {p : Program} {l : Launch} {e : Env} {s : State} {m : MethodId} {args : Array Value} {below : List Frame} {meth : Method} {c : Code} {K : zK} {r : Int} {F9 : zF} {B9 : zB} (X : zX D ca L aS vS A p s m args meth c prog_6_method_26_code 2 (Option.some Jvm.ClassFile.FieldType.int) "StaveHouse$Part") : ∀ {n : Nat} {l1 : Int} {l0 : Int} {F : zF} {B : zB} {H : Heap} {locs : List Loc} {ls : Array Slot}, f_Part_firstSounding_2 K n l1 l0 F B = some (r, F9, B9) → zH D ca ad lnC K.2 L F B A H → va_S A s.heap H locs → lv_has ls 2 [(1, .int (iI l1)), (0, .ref (ad 4 l0 0))] → W p l e ({ frames := 1, cells := 0, slots := 0, locals := 20 } : Room) s m args below meth c H locs 0 0 (MQ below (Q_Part_firstSounding K D ca ad L r F9 B9 A) args s 0 0 A) (F0 m 2 ls []) := by
  obtain ⟨hx, hb, hr, hml, hown, hts, hlk, hK, hA, hL, hX⟩ := id X
  intro n
  induction n with
  | zero =>
    intros
    rename_i hf _ _ _
    cases hf
  | succ n ih =>
    intro l1 l0 F B H locs ls hf hZ hS hl
    replace hf : (if 0 ≤ l0 ∧ l0 < K.2 4 then if r32 l1 then if r32 (F 4 l0 6) then (if (F 4 l0 6) ≤ l1 then some ((-1), F, B) else if 0 ≤ l1 ∧ l1 < 200 then if 0 ≤ (B 4 l0 5 l1) ∧ (B 4 l0 5 l1) < K.2 1 then zbind (f_Event_isRest K (B 4 l0 5 l1) F B) (fun r7 F7 B7 => if r32 r7 then (if r7 = 0 then some (l1, F7, B7) else f_Part_firstSounding_2 K n (l1 + 1) l0 F7 B7) else none) else none else none) else none else none else none) = some (r, F9, B9) := hf
    refine lv_iload_n hx hb (D_27 W_prog_6_method_26_code_0 2 rfl rfl) rfl (lv_at hl 0 rfl) ?_
    refine lv_aload_n hx hb (D_42 W_prog_6_method_26_code_0 3 rfl rfl) rfl (lv_at hl 1 rfl) ?_
    obtain ⟨g1, hf⟩ := gif hf
    refine zget (ci := 4) (C := RX4) (T := TX4) (v := .int (iI (F 4 l0 6))) (k := 6) hx hb hts inW_4 hown hK hZ g1.1 g1.2 rfl (by decide) k_4_135 rfl (D_180 W_prog_6_method_26_code_0 4 rfl rfl rfl) ?_
    obtain ⟨g2, hf⟩ := gif hf
    obtain ⟨g3, hf⟩ := gif hf
    refine zge (tgt := 30) hx hb g2 g3 (D_162 W_prog_6_method_26_code_0 7 rfl rfl rfl) (by decide) (fun h4 => ?_) (fun h4 => ?_)
    · replace hf := gpos hf h4
      refine lv_iconst (v := iI (-1)) hx hb (D_2 W_prog_6_method_26_code_0 30 rfl rfl) rfl ?_
      cases hf
      exact W.iret hx hb hr (fun t ht hW => ⟨⟨_, (), rfl, rfl, by rw [ht]; exact hZ, va_K.moved hW.alike hK⟩, hS.F ht⟩) hS.2.2 (D_172 W_prog_6_method_26_code_0 31 rfl rfl) hlk
    · replace hf := gneg hf h4
      refine lv_aload_n hx hb (D_42 W_prog_6_method_26_code_0 10 rfl rfl) rfl (lv_at hl 1 rfl) ?_
      refine zget (ci := 4) (C := RX4) (T := TX4) (v := .ref (ad 4 l0 (5 + 1))) (k := 5) hx hb hts inW_4 hown hK hZ g1.1 g1.2 rfl (by decide) k_4_130 rfl (D_180 W_prog_6_method_26_code_0 11 rfl rfl rfl) ?_
      refine lv_iload_n hx hb (D_27 W_prog_6_method_26_code_0 14 rfl rfl) rfl (lv_at hl 0 rfl) ?_
      obtain ⟨g5, hf⟩ := gif hf
      refine zaldR (t := 1) (x := 7) (ci := 4) (k := 5) hx hb hK rfl rfl hZ g1.1 g1.2 rfl (Nat.le_of_ble_eq_true rfl) g5.1 g5.2 (D_50 W_prog_6_method_26_code_0 15 rfl rfl) ?_
      obtain ⟨g6, hf⟩ := gif hf
      refine W.eq (g2 := F0 m 16 ls [.ref (ad 1 (B 4 l0 5 l1) 0)]) (by rw [zrf_pos (ad := ad) (t := 1) g6.1]; try rfl) ?_
      obtain ⟨r7, F7, B7, hc7, hf⟩ := gbind hf
      refine va_calli (va_runV (As := []) (rest := []) ⟨hx, hb, hml, hown, hts⟩ (c_Event_isRest (l := l) hc7) (cwV 0 hts (gdV k_5_78 k_5_79 k_5_80 k_1_8 k_5_81) rfl rfl rfl (by decide +kernel) ⟨Nat.le_of_ble_eq_true rfl, Nat.le_of_ble_eq_true rfl⟩) (zPV X hZ hS (ci := 1) g6.1 g6.2 (r := (RX1, TX1, 14)) rfl []) rfl rfl hl.1 rfl (lv_room (Nat.le_of_ble_eq_true rfl)) (D_182 W_prog_6_method_26_code_0 16 rfl rfl rfl) ⟨Nat.le_of_ble_eq_true rfl, Nat.le_of_ble_eq_true rfl⟩) hS (fun q _ h => zAin X hS q h) (zAin X hS) (fun p7 u7 t7 H7 locs7 ht7 hv7 hw7 hB7 hz7 hk7 hS7 => ?_)
      have hZ7 := zBack X ht7 hB7
      subst hw7
      obtain ⟨g8, hf⟩ := gif hf
      refine z0ne (tgt := 24) hx hb g8 (D_154 W_prog_6_method_26_code_0 19 rfl rfl rfl) (by decide) (fun h9 => ?_) (fun h9 => ?_)
      · replace hf := gneg hf h9
        refine lv_iinc (v := iI (l1 + 1)) (lv' := [(1, .int (iI (l1 + 1))), (0, .ref (ad 4 l0 0))]) hx hb d_6_26_24 hl (k := 0) rfl (iI_add _ 1) (by decide) rfl (fun ls hl => ?_)
        refine lv_goto (tgt := 2) hx hb (D_167 W_prog_6_method_26_code_0 27 rfl rfl rfl) (by decide) ?_
        exact ih hf hZ7 hS7 (lv_sub hl [0, 1] rfl)
      · replace hf := gpos hf h9
        refine lv_iload_n hx hb (D_27 W_prog_6_method_26_code_0 22 rfl rfl) rfl (lv_at hl 0 rfl) ?_
        cases hf
        exact W.iret hx hb hr (fun t ht hW => ⟨⟨_, (), rfl, rfl, by rw [ht]; exact hZ7, va_K.moved hW.alike hK⟩, hS7.F ht⟩) hS7.2.2 (D_172 W_prog_6_method_26_code_0 23 rfl rfl) hlk

def f_Part_firstSounding (K : zK) (l0 : Int) (F : zF) (B : zB) : zO := f_Part_firstSounding_2 K K.1 0 l0 F B
set_option maxHeartbeats 4000000 in
set_option maxRecDepth 100000 in
theorem c_Part_firstSounding {l : Launch} {D : va_G} {ca : Nat → ClassId} {ad : Nat → Int → Nat → Nat} {L : List Nat} {aS vS : Nat → Nat} {sz : Nat} {K : zK}  {l0 : Int} {F F9 : zF} {B B9 : zB} {r : Int} (hf : f_Part_firstSounding K l0 F B = some (r, F9, B9)) : Met l ({ cls := "StaveHouse$Part", name := "firstSounding", desc := "()I" } : Jvm.MethodName) (Cond.code ({ cls := "StaveHouse$Part", name := "firstSounding", desc := "()I" } : Jvm.MethodName) prog_6_method_26_code 2 (Option.some Jvm.ClassFile.FieldType.int) :: wAll) ({ frames := 1, cells := 0, slots := 0, locals := 20 } : Room) (va_Pc [.ref (ad 4 l0 0)] (zPre D ca ad lnC K.2 L aS vS F B sz)) (Q_Part_firstSounding K D ca ad L r F9 B9 (zA L sz)) 0 0 (zA L sz) := by
  refine zMet (Qc := Q_Part_firstSounding K D ca ad L r F9 B9) (lv := [(0, .ref (ad 4 l0 0))]) (by decide) (Nat.le_of_ble_eq_true rfl) rfl (fun A p e s m below meth c ls X hZ hS hl => ?_)
  obtain ⟨hx, hb, hr, hml, hown, hts, hlk, hK, hA, hL, hX⟩ := id X
  replace hf : (f_Part_firstSounding_2 K K.1 0 l0 F B) = some (r, F9, B9) := hf
  refine lv_iconst (v := iI 0) hx hb (D_3 W_prog_6_method_26_code_0 0 rfl rfl) rfl ?_
  refine lv_istore_n (lv' := [(1, .int (iI 0)), (0, .ref (ad 4 l0 0))]) hx hb (D_60 W_prog_6_method_26_code_0 1 rfl rfl) rfl hl (by decide) rfl (fun ls hl => ?_)
  exact b_Part_firstSounding_2 X hf hZ hS (lv_sub hl [0, 1] rfl)

abbrev Q_Part_sameFraction (K : zK) (D : va_G) (ca : Nat → ClassId) (ad : Nat → Int → Nat → Nat) (L : List Nat) (r : Int) (F : zF) (B : zB) (A : Nat → Prop) : Array Value → State → Outcome → State → Prop := va_Qi (S := Unit) (fun p _ => p = iI r) (fun _ => zPo D ca ad lnC K.2 L F B A) A
def f_Part_sameFraction_75 (K : zK) (s0 : Int) (F : zF) (B : zB) : zO := if (s0 = 0 ∨ s0 = 1) then some (s0, F, B) else none
set_option maxHeartbeats 4000000 in
set_option maxRecDepth 100000 in
theorem b_Part_sameFraction_75 {D : va_G} {ca : Nat → ClassId} {ad : Nat → Int → Nat → Nat} {L : List Nat} {aS vS : Nat → Nat} {A : Nat → Prop} {p : Program} {l : Launch} {e : Env} {s : State} {m : MethodId} {args : Array Value} {below : List Frame} {meth : Method} {c : Code} {K : zK} {r : Int} {F9 : zF} {B9 : zB} (X : zX D ca L aS vS A p s m args meth c prog_6_method_29_code 8 (Option.some Jvm.ClassFile.FieldType.boolean) "StaveHouse$Part") {s0 : Int} {F : zF} {B : zB} {H : Heap} {locs : List Loc} {ls : Array Slot} (hf : f_Part_sameFraction_75 K s0 F B = some (r, F9, B9)) (hZ : zH D ca ad lnC K.2 L F B A H) (hS : va_S A s.heap H locs) (hl : lv_has ls 8 []) : W p l e ({ frames := 1, cells := 0, slots := 0, locals := 30 } : Room) s m args below meth c H locs 0 0 (MQ below (Q_Part_sameFraction K D ca ad L r F9 B9 A) args s 0 0 A) (F0 m 75 ls [.int (iI s0)]) := by
  obtain ⟨hx, hb, hr, hml, hown, hts, hlk, hK, hA, hL, hX⟩ := id X
  replace hf : (if (s0 = 0 ∨ s0 = 1) then some (s0, F, B) else none) = some (r, F9, B9) := hf
  obtain ⟨g17, hf⟩ := gif hf
  cases hf
  exact W.zret hx hb hr (zbool g17) (fun t ht hW => ⟨⟨_, (), rfl, rfl, by rw [ht]; exact hZ, va_K.moved hW.alike hK⟩, hS.F ht⟩) hS.2.2 (D_172 W_prog_6_method_29_code_64 11 rfl rfl) hlk

def f_Part_sameFraction_74 (K : zK)  (F : zF) (B : zB) : zO := f_Part_sameFraction_75 K 0 F B
set_option maxHeartbeats 4000000 in
set_option maxRecDepth 100000 in
theorem b_Part_sameFraction_74 {D : va_G} {ca : Nat → ClassId} {ad : Nat → Int → Nat → Nat} {L : List Nat} {aS vS : Nat → Nat} {A : Nat → Prop} {p : Program} {l : Launch} {e : Env} {s : State} {m : MethodId} {args : Array Value} {below : List Frame} {meth : Method} {c : Code} {K : zK} {r : Int} {F9 : zF} {B9 : zB} (X : zX D ca L aS vS A p s m args meth c prog_6_method_29_code 8 (Option.some Jvm.ClassFile.FieldType.boolean) "StaveHouse$Part")  {F : zF} {B : zB} {H : Heap} {locs : List Loc} {ls : Array Slot} (hf : f_Part_sameFraction_74 K  F B = some (r, F9, B9)) (hZ : zH D ca ad lnC K.2 L F B A H) (hS : va_S A s.heap H locs) (hl : lv_has ls 8 []) : W p l e ({ frames := 1, cells := 0, slots := 0, locals := 30 } : Room) s m args below meth c H locs 0 0 (MQ below (Q_Part_sameFraction K D ca ad L r F9 B9 A) args s 0 0 A) (F0 m 74 ls []) := by
  obtain ⟨hx, hb, hr, hml, hown, hts, hlk, hK, hA, hL, hX⟩ := id X
  replace hf : (f_Part_sameFraction_75 K 0 F B) = some (r, F9, B9) := hf
  refine lv_iconst (v := iI 0) hx hb (D_3 W_prog_6_method_29_code_64 10 rfl rfl) rfl ?_
  exact b_Part_sameFraction_75 X hf hZ hS (lv_sub hl [] rfl)

def f_Part_sameFraction (K : zK) (l0 : Int) (l1 : Int) (l2 : Int) (l3 : Int) (F : zF) (B : zB) : zO := if 0 ≤ l0 ∧ l0 < K.2 1 then if 0 ≤ l1 ∧ l1 < K.2 1 then zbind (f_S_gcd K (F 1 l0 1) (F 1 l1 1) F B) (fun r3 F3 B3 => if r64 r3 then if 0 ≤ l2 ∧ l2 < K.2 1 then if 0 ≤ l3 ∧ l3 < K.2 1 then zbind (f_S_gcd K (F3 1 l2 1) (F3 1 l3 1) F3 B3) (fun r7 F7 B7 => if r64 r7 then if ¬ lI (zmax r3 1) = 0 then if ¬ lI (zmax r7 1) = 0 then if r64 (zldv (F7 1 l0 1) (zmax r3 1)) then if r64 (zldv (F7 1 l2 1) (zmax r7 1)) then (if (zcmp (zldv (F7 1 l0 1) (zmax r3 1)) (zldv (F7 1 l2 1) (zmax r7 1))) = 0 then if r64 (zldv (F7 1 l1 1) (zmax r3 1)) then if r64 (zldv (F7 1 l3 1) (zmax r7 1)) then (if (zcmp (zldv (F7 1 l1 1) (zmax r3 1)) (zldv (F7 1 l3 1) (zmax r7 1))) = 0 then f_Part_sameFraction_75 K 1 F7 B7 else f_Part_sameFraction_74 K F7 B7) else none else none else f_Part_sameFraction_74 K F7 B7) else none else none else none else none else none) else none else none else none) else none else none
set_option maxHeartbeats 4000000 in
set_option maxRecDepth 100000 in
theorem c_Part_sameFraction {l : Launch} {D : va_G} {ca : Nat → ClassId} {ad : Nat → Int → Nat → Nat} {L : List Nat} {aS vS : Nat → Nat} {sz : Nat} {K : zK}  {l0 : Int} {l1 : Int} {l2 : Int} {l3 : Int} {F F9 : zF} {B B9 : zB} {r : Int} (hf : f_Part_sameFraction K l0 l1 l2 l3 F B = some (r, F9, B9)) : Met l ({ cls := "StaveHouse$Part", name := "sameFraction", desc := "(LStaveHouse$Event;LStaveHouse$Event;LStaveHouse$Event;LStaveHouse$Event;)Z" } : Jvm.MethodName) (Cond.code ({ cls := "StaveHouse$Part", name := "sameFraction", desc := "(LStaveHouse$Event;LStaveHouse$Event;LStaveHouse$Event;LStaveHouse$Event;)Z" } : Jvm.MethodName) prog_6_method_29_code 8 (Option.some Jvm.ClassFile.FieldType.boolean) :: wAll) ({ frames := 1, cells := 0, slots := 0, locals := 30 } : Room) (va_Pc [.ref (ad 1 l0 0), .ref (ad 1 l1 0), .ref (ad 1 l2 0), .ref (ad 1 l3 0)] (zPre D ca ad lnC K.2 L aS vS F B sz)) (Q_Part_sameFraction K D ca ad L r F9 B9 (zA L sz)) 0 0 (zA L sz) := by
  refine zMet (Qc := Q_Part_sameFraction K D ca ad L r F9 B9) (lv := [(0, .ref (ad 1 l0 0)), (1, .ref (ad 1 l1 0)), (2, .ref (ad 1 l2 0)), (3, .ref (ad 1 l3 0))]) (by decide) (Nat.le_of_ble_eq_true rfl) rfl (fun A p e s m below meth c ls X hZ hS hl => ?_)
  obtain ⟨hx, hb, hr, hml, hown, hts, hlk, hK, hA, hL, hX⟩ := id X
  replace hf : (if 0 ≤ l0 ∧ l0 < K.2 1 then if 0 ≤ l1 ∧ l1 < K.2 1 then zbind (f_S_gcd K (F 1 l0 1) (F 1 l1 1) F B) (fun r3 F3 B3 => if r64 r3 then if 0 ≤ l2 ∧ l2 < K.2 1 then if 0 ≤ l3 ∧ l3 < K.2 1 then zbind (f_S_gcd K (F3 1 l2 1) (F3 1 l3 1) F3 B3) (fun r7 F7 B7 => if r64 r7 then if ¬ lI (zmax r3 1) = 0 then if ¬ lI (zmax r7 1) = 0 then if r64 (zldv (F7 1 l0 1) (zmax r3 1)) then if r64 (zldv (F7 1 l2 1) (zmax r7 1)) then (if (zcmp (zldv (F7 1 l0 1) (zmax r3 1)) (zldv (F7 1 l2 1) (zmax r7 1))) = 0 then if r64 (zldv (F7 1 l1 1) (zmax r3 1)) then if r64 (zldv (F7 1 l3 1) (zmax r7 1)) then (if (zcmp (zldv (F7 1 l1 1) (zmax r3 1)) (zldv (F7 1 l3 1) (zmax r7 1))) = 0 then f_Part_sameFraction_75 K 1 F7 B7 else f_Part_sameFraction_74 K F7 B7) else none else none else f_Part_sameFraction_74 K F7 B7) else none else none else none else none else none) else none else none else none) else none else none) = some (r, F9, B9) := hf
  refine lv_aload_n hx hb (D_42 W_prog_6_method_29_code_0 0 rfl rfl) rfl (lv_at hl 0 rfl) ?_
  obtain ⟨g1, hf⟩ := gif hf
  refine zget (ci := 1) (C := RX1) (T := TX1) (v := .long (lI (F 1 l0 1))) (k := 1) hx hb hts inW_1 hown hK hZ g1.1 g1.2 rfl (by decide) k_2_24 rfl (D_180 W_prog_6_method_29_code_0 1 rfl rfl rfl) ?_
  refine lv_aload_n hx hb (D_43 W_prog_6_method_29_code_0 4 rfl rfl) rfl (lv_at hl 1 rfl) ?_
  obtain ⟨g2, hf⟩ := gif hf
  refine zget (ci := 1) (C := RX1) (T := TX1) (v := .long (lI (F 1 l1 1))) (k := 1) hx hb hts inW_1 hown hK hZ g2.1 g2.2 rfl (by decide) k_2_24 rfl (D_180 W_prog_6_method_29_code_0 5 rfl rfl rfl) ?_
  obtain ⟨r3, F3, B3, hc3, hf⟩ := gbind hf
  refine va_calll (va_runSN (As := [.long (lI (F 1 l0 1)), .long (lI (F 1 l1 1))]) (rest := []) ⟨hx, hb, hml, hown, hts⟩ (c_S_gcd (l := l) hc3) ⟨va_cnB 2 hts (gdC k_6_191) rfl rfl rfl (hX.1 _ (List.mem_of_getElem? (i := 25) rfl) :) (hts _ k_1_1) (by decide +kernel) ⟨Nat.le_of_ble_eq_true rfl, Nat.le_of_ble_eq_true rfl⟩, hts _ k_6_190, trivial⟩ (zPS X hZ hS [.long (lI (F 1 l0 1)), .long (lI (F 1 l1 1))]) rfl rfl hl.1 rfl (lv_room (Nat.le_of_ble_eq_true rfl)) (D_184 W_prog_6_method_29_code_0 8 rfl rfl rfl) ⟨Nat.le_of_ble_eq_true rfl, Nat.le_of_ble_eq_true rfl⟩) hS (fun q _ h => zAin X hS q h) (zAin X hS) (fun p3 u3 t3 H3 locs3 ht3 hv3 hw3 hB3 hz3 hk3 hS3 => ?_)
  have hZ3 := zBack X ht3 hB3
  subst hw3
  refine lv_lconst (v := lI 1) hx hb (D_10 W_prog_6_method_29_code_0 11 rfl rfl) (by decide) ?_
  obtain ⟨g4, hf⟩ := gif hf
  refine va_mmax_long hx hb (by rw [hml]; exact hl.1.symm) hown (hts _ k_9_111) (hts _ k_5_176) (hts _ k_1_3) (hts _ k_5_177) (Nat.le_of_ble_eq_true rfl) (Nat.le_of_ble_eq_true rfl) (Nat.le_of_ble_eq_true rfl) (Nat.le_of_ble_eq_true rfl) (D_184 W_prog_6_method_29_code_0 12 rfl rfl rfl) ?_
  rw [zlmax_e g4 (by decide)]
  refine lv_lstore (lv' := [(4, .long (lI (zmax r3 1))), (0, .ref (ad 1 l0 0)), (1, .ref (ad 1 l1 0)), (2, .ref (ad 1 l2 0)), (3, .ref (ad 1 l3 0))]) hx hb (D_55 W_prog_6_method_29_code_0 15 rfl rfl) hl (by decide) rfl (fun ls hl => ?_)
  refine lv_aload_n hx hb (D_44 W_prog_6_method_29_code_0 17 rfl rfl) rfl (lv_at hl 3 rfl) ?_
  obtain ⟨g5, hf⟩ := gif hf
  refine zget (ci := 1) (C := RX1) (T := TX1) (v := .long (lI (F3 1 l2 1))) (k := 1) hx hb hts inW_1 hown hK hZ3 g5.1 g5.2 rfl (by decide) k_2_24 rfl (D_180 W_prog_6_method_29_code_0 18 rfl rfl rfl) ?_
  refine lv_aload_n hx hb (D_45 W_prog_6_method_29_code_0 21 rfl rfl) rfl (lv_at hl 4 rfl) ?_
  obtain ⟨g6, hf⟩ := gif hf
  refine zget (ci := 1) (C := RX1) (T := TX1) (v := .long (lI (F3 1 l3 1))) (k := 1) hx hb hts inW_1 hown hK hZ3 g6.1 g6.2 rfl (by decide) k_2_24 rfl (D_180 W_prog_6_method_29_code_0 22 rfl rfl rfl) ?_
  obtain ⟨r7, F7, B7, hc7, hf⟩ := gbind hf
  refine va_calll (va_runSN (As := [.long (lI (F3 1 l2 1)), .long (lI (F3 1 l3 1))]) (rest := []) ⟨hx, hb, hml, hown, hts⟩ (c_S_gcd (l := l) hc7) ⟨va_cnB 2 hts (gdC k_6_191) rfl rfl rfl (hX.1 _ (List.mem_of_getElem? (i := 25) rfl) :) (hts _ k_1_1) (by decide +kernel) ⟨Nat.le_of_ble_eq_true rfl, Nat.le_of_ble_eq_true rfl⟩, hts _ k_6_190, trivial⟩ (zPS X hZ3 hS3 [.long (lI (F3 1 l2 1)), .long (lI (F3 1 l3 1))]) rfl rfl hl.1 rfl (lv_room (Nat.le_of_ble_eq_true rfl)) (D_184 W_prog_6_method_29_code_0 25 rfl rfl rfl) ⟨Nat.le_of_ble_eq_true rfl, Nat.le_of_ble_eq_true rfl⟩) hS3 (fun q _ h => zAin X hS3 q h) (zAin X hS3) (fun p7 u7 t7 H7 locs7 ht7 hv7 hw7 hB7 hz7 hk7 hS7 => ?_)
  have hZ7 := zBack X ht7 hB7
  subst hw7
  refine lv_lconst (v := lI 1) hx hb (D_10 W_prog_6_method_29_code_0 28 rfl rfl) (by decide) ?_
  obtain ⟨g8, hf⟩ := gif hf
  refine va_mmax_long hx hb (by rw [hml]; exact hl.1.symm) hown (hts _ k_9_111) (hts _ k_5_176) (hts _ k_1_3) (hts _ k_5_177) (Nat.le_of_ble_eq_true rfl) (Nat.le_of_ble_eq_true rfl) (Nat.le_of_ble_eq_true rfl) (Nat.le_of_ble_eq_true rfl) (D_184 W_prog_6_method_29_code_0 29 rfl rfl rfl) ?_
  rw [zlmax_e g8 (by decide)]
  refine lv_lstore (lv' := [(6, .long (lI (zmax r7 1))), (4, .long (lI (zmax r3 1))), (0, .ref (ad 1 l0 0)), (1, .ref (ad 1 l1 0)), (2, .ref (ad 1 l2 0)), (3, .ref (ad 1 l3 0))]) hx hb (D_55 W_prog_6_method_29_code_32 0 rfl rfl) hl (by decide) rfl (fun ls hl => ?_)
  refine lv_aload_n hx hb (D_42 W_prog_6_method_29_code_32 2 rfl rfl) rfl (lv_at hl 2 rfl) ?_
  refine zget (ci := 1) (C := RX1) (T := TX1) (v := .long (lI (F7 1 l0 1))) (k := 1) hx hb hts inW_1 hown hK hZ7 g1.1 g1.2 rfl (by decide) k_2_24 rfl (D_180 W_prog_6_method_29_code_32 3 rfl rfl rfl) ?_
  refine lv_lload hx hb (D_22 W_prog_6_method_29_code_32 6 rfl rfl) (lv_at hl 1 rfl) ?_
  obtain ⟨g9, hf⟩ := gif hf
  refine zldv_r hx hb g9 (D_109 W_prog_6_method_29_code_32 8 rfl rfl) ?_
  refine lv_aload_n hx hb (D_44 W_prog_6_method_29_code_32 9 rfl rfl) rfl (lv_at hl 4 rfl) ?_
  refine zget (ci := 1) (C := RX1) (T := TX1) (v := .long (lI (F7 1 l2 1))) (k := 1) hx hb hts inW_1 hown hK hZ7 g5.1 g5.2 rfl (by decide) k_2_24 rfl (D_180 W_prog_6_method_29_code_32 10 rfl rfl rfl) ?_
  refine lv_lload hx hb (D_22 W_prog_6_method_29_code_32 13 rfl rfl) (lv_at hl 0 rfl) ?_
  obtain ⟨g10, hf⟩ := gif hf
  refine zldv_r hx hb g10 (D_109 W_prog_6_method_29_code_32 15 rfl rfl) ?_
  obtain ⟨g11, hf⟩ := gif hf
  obtain ⟨g12, hf⟩ := gif hf
  refine zcmp_r hx hb g11 g12 (D_148 W_prog_6_method_29_code_32 16 rfl rfl) ?_
  refine z0ne (tgt := 74) hx hb zcmp_32 (D_154 W_prog_6_method_29_code_32 17 rfl rfl rfl) (by decide) (fun h13 => ?_) (fun h13 => ?_)
  · replace hf := gneg hf h13
    exact b_Part_sameFraction_74 X hf hZ7 hS7 (lv_sub hl [] rfl)
  · replace hf := gpos hf h13
    refine lv_aload_n hx hb (D_43 W_prog_6_method_29_code_32 20 rfl rfl) rfl (lv_at hl 3 rfl) ?_
    refine zget (ci := 1) (C := RX1) (T := TX1) (v := .long (lI (F7 1 l1 1))) (k := 1) hx hb hts inW_1 hown hK hZ7 g2.1 g2.2 rfl (by decide) k_2_24 rfl (D_180 W_prog_6_method_29_code_32 21 rfl rfl rfl) ?_
    refine lv_lload hx hb (D_22 W_prog_6_method_29_code_32 24 rfl rfl) (lv_at hl 1 rfl) ?_
    refine zldv_r hx hb g9 (D_109 W_prog_6_method_29_code_32 26 rfl rfl) ?_
    refine lv_aload_n hx hb (D_45 W_prog_6_method_29_code_32 27 rfl rfl) rfl (lv_at hl 5 rfl) ?_
    refine zget (ci := 1) (C := RX1) (T := TX1) (v := .long (lI (F7 1 l3 1))) (k := 1) hx hb hts inW_1 hown hK hZ7 g6.1 g6.2 rfl (by decide) k_2_24 rfl (D_180 W_prog_6_method_29_code_32 28 rfl rfl rfl) ?_
    refine lv_lload hx hb (D_22 W_prog_6_method_29_code_32 31 rfl rfl) (lv_at hl 0 rfl) ?_
    refine zldv_r hx hb g10 (D_109 W_prog_6_method_29_code_64 1 rfl rfl) ?_
    obtain ⟨g14, hf⟩ := gif hf
    obtain ⟨g15, hf⟩ := gif hf
    refine zcmp_r hx hb g14 g15 (D_148 W_prog_6_method_29_code_64 2 rfl rfl) ?_
    refine z0ne (tgt := 74) hx hb zcmp_32 (D_154 W_prog_6_method_29_code_64 3 rfl rfl rfl) (by decide) (fun h16 => ?_) (fun h16 => ?_)
    · replace hf := gneg hf h16
      exact b_Part_sameFraction_74 X hf hZ7 hS7 (lv_sub hl [] rfl)
    · replace hf := gpos hf h16
      refine lv_iconst (v := iI 1) hx hb (D_4 W_prog_6_method_29_code_64 6 rfl rfl) rfl ?_
      refine lv_goto (tgt := 75) hx hb (D_167 W_prog_6_method_29_code_64 7 rfl rfl rfl) (by decide) ?_
      exact b_Part_sameFraction_75 X hf hZ7 hS7 (lv_sub hl [] rfl)

abbrev Q_S_feed (K : zK) (D : va_G) (ca : Nat → ClassId) (ad : Nat → Int → Nat → Nat) (L : List Nat) (r : Int) (F : zF) (B : zB) (A : Nat → Prop) : Array Value → State → Outcome → State → Prop := va_Qv (S := Unit) (fun _ => True) (fun _ => zPo D ca ad lnC K.2 L F B A) A
def f_S_feed (K : zK) (l0 : Int) (l1 : Int) (l2 : Int) (l3 : Int) (l4 : Int) (l5 : Int) (F : zF) (B : zB) : zO := if 0 ≤ l0 ∧ l0 < K.2 12 then zbind (f_S_waitWord K l0 0 l1 F B) (fun r2 F2 B2 => zbind (f_S_waitWord K l0 4 l2 F2 B2) (fun r3 F3 B3 => zbind (f_S_waitWord K l0 8 l3 F3 B3) (fun r4 F4 B4 => zbind (f_S_waitWord K l0 12 l4 F4 B4) (fun r5 F5 B5 => zbind (f_S_waitWord K l0 16 l5 F5 B5) (fun r6 F6 B6 => some (0, F6, B6)))))) else none
set_option maxHeartbeats 4000000 in
set_option maxRecDepth 100000 in
theorem c_S_feed {l : Launch} {D : va_G} {ca : Nat → ClassId} {ad : Nat → Int → Nat → Nat} {L : List Nat} {aS vS : Nat → Nat} {sz : Nat} {K : zK}  {l0 : Int} {l1 : Int} {l2 : Int} {l3 : Int} {l4 : Int} {l5 : Int} {F F9 : zF} {B B9 : zB} {r : Int} (hf : f_S_feed K l0 l1 l2 l3 l4 l5 F B = some (r, F9, B9)) : Met l ({ cls := "StaveHouse", name := "feed", desc := "(IIIII)V" } : Jvm.MethodName) (Cond.code ({ cls := "StaveHouse", name := "feed", desc := "(IIIII)V" } : Jvm.MethodName) prog_1_method_2_code 6 (Option.none : Option Jvm.ClassFile.FieldType) :: wAll) ({ frames := 1, cells := 0, slots := 0, locals := 23 } : Room) (va_Pc [.ref (ad 12 l0 0), .int (iI l1), .int (iI l2), .int (iI l3), .int (iI l4), .int (iI l5)] (zPre D ca ad lnC K.2 L aS vS F B sz)) (Q_S_feed K D ca ad L r F9 B9 (zA L sz)) 0 0 (zA L sz) := by
  refine zMet (Qc := Q_S_feed K D ca ad L r F9 B9) (lv := [(0, .ref (ad 12 l0 0)), (1, .int (iI l1)), (2, .int (iI l2)), (3, .int (iI l3)), (4, .int (iI l4)), (5, .int (iI l5))]) (by decide) (Nat.le_of_ble_eq_true rfl) rfl (fun A p e s m below meth c ls X hZ hS hl => ?_)
  obtain ⟨hx, hb, hr, hml, hown, hts, hlk, hK, hA, hL, hX⟩ := id X
  replace hf : (if 0 ≤ l0 ∧ l0 < K.2 12 then zbind (f_S_waitWord K l0 0 l1 F B) (fun r2 F2 B2 => zbind (f_S_waitWord K l0 4 l2 F2 B2) (fun r3 F3 B3 => zbind (f_S_waitWord K l0 8 l3 F3 B3) (fun r4 F4 B4 => zbind (f_S_waitWord K l0 12 l4 F4 B4) (fun r5 F5 B5 => zbind (f_S_waitWord K l0 16 l5 F5 B5) (fun r6 F6 B6 => some (0, F6, B6)))))) else none) = some (r, F9, B9) := hf
  refine lv_aload_n hx hb (D_42 W_prog_1_method_2_code_0 0 rfl rfl) rfl (lv_at hl 0 rfl) ?_
  refine lv_iconst (v := iI 0) hx hb (D_3 W_prog_1_method_2_code_0 1 rfl rfl) rfl ?_
  refine lv_iload_n hx hb (D_27 W_prog_1_method_2_code_0 2 rfl rfl) rfl (lv_at hl 1 rfl) ?_
  obtain ⟨g1, hf⟩ := gif hf
  obtain ⟨r2, F2, B2, hc2, hf⟩ := gbind hf
  refine va_callv (va_runV (As := [.int (iI 0), .int (iI l1)]) (rest := []) ⟨hx, hb, hml, hown, hts⟩ (c_S_waitWord (l := l) hc2) (cwV 2 hts (gdV k_2_162 k_2_164 ks_0 k_1_1 k_2_165) rfl rfl rfl (by decide +kernel) ⟨Nat.le_of_ble_eq_true rfl, Nat.le_of_ble_eq_true rfl⟩) (zPV X hZ hS (ci := 12) g1.1 g1.2 (r := (RX12, TX12, 10)) rfl [.int (iI 0), .int (iI l1)]) rfl rfl hl.1 rfl (lv_room (Nat.le_of_ble_eq_true rfl)) (D_182 W_prog_1_method_2_code_0 3 rfl rfl rfl) ⟨Nat.le_of_ble_eq_true rfl, Nat.le_of_ble_eq_true rfl⟩) hS (fun q _ h => zAin X hS q h) (zAin X hS) (fun u2 t2 H2 locs2 ht2 hv2 hw2 hB2 hz2 hk2 hS2 => ?_)
  have hZ2 := zBack X ht2 hB2
  refine lv_aload_n hx hb (D_42 W_prog_1_method_2_code_0 6 rfl rfl) rfl (lv_at hl 0 rfl) ?_
  refine lv_iconst (v := iI 4) hx hb (D_7 W_prog_1_method_2_code_0 7 rfl rfl) rfl ?_
  refine lv_iload_n hx hb (D_28 W_prog_1_method_2_code_0 8 rfl rfl) rfl (lv_at hl 2 rfl) ?_
  obtain ⟨r3, F3, B3, hc3, hf⟩ := gbind hf
  refine va_callv (va_runV (As := [.int (iI 4), .int (iI l2)]) (rest := []) ⟨hx, hb, hml, hown, hts⟩ (c_S_waitWord (l := l) hc3) (cwV 2 hts (gdV k_2_162 k_2_164 ks_0 k_1_1 k_2_165) rfl rfl rfl (by decide +kernel) ⟨Nat.le_of_ble_eq_true rfl, Nat.le_of_ble_eq_true rfl⟩) (zPV X hZ2 hS2 (ci := 12) g1.1 g1.2 (r := (RX12, TX12, 10)) rfl [.int (iI 4), .int (iI l2)]) rfl rfl hl.1 rfl (lv_room (Nat.le_of_ble_eq_true rfl)) (D_182 W_prog_1_method_2_code_0 9 rfl rfl rfl) ⟨Nat.le_of_ble_eq_true rfl, Nat.le_of_ble_eq_true rfl⟩) hS2 (fun q _ h => zAin X hS2 q h) (zAin X hS2) (fun u3 t3 H3 locs3 ht3 hv3 hw3 hB3 hz3 hk3 hS3 => ?_)
  have hZ3 := zBack X ht3 hB3
  refine lv_aload_n hx hb (D_42 W_prog_1_method_2_code_0 12 rfl rfl) rfl (lv_at hl 0 rfl) ?_
  refine lv_bipush (v := iI 8) hx hb (D_16 W_prog_1_method_2_code_0 13 rfl rfl rfl) (by decide) ?_
  refine lv_iload_n hx hb (D_29 W_prog_1_method_2_code_0 15 rfl rfl) rfl (lv_at hl 3 rfl) ?_
  obtain ⟨r4, F4, B4, hc4, hf⟩ := gbind hf
  refine va_callv (va_runV (As := [.int (iI 8), .int (iI l3)]) (rest := []) ⟨hx, hb, hml, hown, hts⟩ (c_S_waitWord (l := l) hc4) (cwV 2 hts (gdV k_2_162 k_2_164 ks_0 k_1_1 k_2_165) rfl rfl rfl (by decide +kernel) ⟨Nat.le_of_ble_eq_true rfl, Nat.le_of_ble_eq_true rfl⟩) (zPV X hZ3 hS3 (ci := 12) g1.1 g1.2 (r := (RX12, TX12, 10)) rfl [.int (iI 8), .int (iI l3)]) rfl rfl hl.1 rfl (lv_room (Nat.le_of_ble_eq_true rfl)) (D_182 W_prog_1_method_2_code_0 16 rfl rfl rfl) ⟨Nat.le_of_ble_eq_true rfl, Nat.le_of_ble_eq_true rfl⟩) hS3 (fun q _ h => zAin X hS3 q h) (zAin X hS3) (fun u4 t4 H4 locs4 ht4 hv4 hw4 hB4 hz4 hk4 hS4 => ?_)
  have hZ4 := zBack X ht4 hB4
  refine lv_aload_n hx hb (D_42 W_prog_1_method_2_code_0 19 rfl rfl) rfl (lv_at hl 0 rfl) ?_
  refine lv_bipush (v := iI 12) hx hb (D_16 W_prog_1_method_2_code_0 20 rfl rfl rfl) (by decide) ?_
  refine lv_iload hx hb (D_21 W_prog_1_method_2_code_0 22 rfl rfl) (lv_at hl 4 rfl) ?_
  obtain ⟨r5, F5, B5, hc5, hf⟩ := gbind hf
  refine va_callv (va_runV (As := [.int (iI 12), .int (iI l4)]) (rest := []) ⟨hx, hb, hml, hown, hts⟩ (c_S_waitWord (l := l) hc5) (cwV 2 hts (gdV k_2_162 k_2_164 ks_0 k_1_1 k_2_165) rfl rfl rfl (by decide +kernel) ⟨Nat.le_of_ble_eq_true rfl, Nat.le_of_ble_eq_true rfl⟩) (zPV X hZ4 hS4 (ci := 12) g1.1 g1.2 (r := (RX12, TX12, 10)) rfl [.int (iI 12), .int (iI l4)]) rfl rfl hl.1 rfl (lv_room (Nat.le_of_ble_eq_true rfl)) (D_182 W_prog_1_method_2_code_0 24 rfl rfl rfl) ⟨Nat.le_of_ble_eq_true rfl, Nat.le_of_ble_eq_true rfl⟩) hS4 (fun q _ h => zAin X hS4 q h) (zAin X hS4) (fun u5 t5 H5 locs5 ht5 hv5 hw5 hB5 hz5 hk5 hS5 => ?_)
  have hZ5 := zBack X ht5 hB5
  refine lv_aload_n hx hb (D_42 W_prog_1_method_2_code_0 27 rfl rfl) rfl (lv_at hl 0 rfl) ?_
  refine lv_bipush (v := iI 16) hx hb (D_16 W_prog_1_method_2_code_0 28 rfl rfl rfl) (by decide) ?_
  refine lv_iload hx hb (D_21 W_prog_1_method_2_code_0 30 rfl rfl) (lv_at hl 5 rfl) ?_
  obtain ⟨r6, F6, B6, hc6, hf⟩ := gbind hf
  refine va_callv (va_runV (As := [.int (iI 16), .int (iI l5)]) (rest := []) ⟨hx, hb, hml, hown, hts⟩ (c_S_waitWord (l := l) hc6) (cwV 2 hts (gdV k_2_162 k_2_164 ks_0 k_1_1 k_2_165) rfl rfl rfl (by decide +kernel) ⟨Nat.le_of_ble_eq_true rfl, Nat.le_of_ble_eq_true rfl⟩) (zPV X hZ5 hS5 (ci := 12) g1.1 g1.2 (r := (RX12, TX12, 10)) rfl [.int (iI 16), .int (iI l5)]) rfl rfl hl.1 rfl (lv_room (Nat.le_of_ble_eq_true rfl)) (D_182 W_prog_1_method_2_code_32 0 rfl rfl rfl) ⟨Nat.le_of_ble_eq_true rfl, Nat.le_of_ble_eq_true rfl⟩) hS5 (fun q _ h => zAin X hS5 q h) (zAin X hS5) (fun u6 t6 H6 locs6 ht6 hv6 hw6 hB6 hz6 hk6 hS6 => ?_)
  have hZ6 := zBack X ht6 hB6
  cases hf
  exact W.vret hx hb hr (fun t ht hW => ⟨⟨(), rfl, trivial, by rw [ht]; exact hZ6, va_K.moved hW.alike hK⟩, hS6.F ht⟩) hS6.2.2 (D_177 W_prog_1_method_2_code_32 3 rfl rfl) hlk

abbrev Q_S_end (K : zK) (D : va_G) (ca : Nat → ClassId) (ad : Nat → Int → Nat → Nat) (L : List Nat) (r : Int) (F : zF) (B : zB) (A : Nat → Prop) : Array Value → State → Outcome → State → Prop := va_Qi (S := Unit) (fun p _ => p = iI r) (fun _ => zPo D ca ad lnC K.2 L F B A) A
def f_S_end_29 (K : zK) : Nat → Int → Int → Int → zF → zB → zO
  | 0, _, _, _, _, _ => none
  | n + 1, l2, l0, l1, F, B => if r32 l2 then if r32 l1 then (if l1 ≤ l2 then if 0 ≤ l0 ∧ l0 < K.2 12 then if 0 ≤ (F 12 l0 0) ∧ (F 12 l0 0) < K.2 0 then some (F 0 (F 12 l0 0) 1, F, B) else none else none else if 0 ≤ l0 ∧ l0 < K.2 12 then if 0 ≤ l2 ∧ l2 < 20 then if 0 ≤ (F 12 l0 0) ∧ (F 12 l0 0) < K.2 0 then zbind (f_ByteRow_put K (F 12 l0 0) (B 12 l0 1 l2) F B) (fun r16 F16 B16 => f_S_end_29 K n (l2 + 1) l0 l1 F16 B16) else none else none else none) else none else none
set_option maxHeartbeats 4000000 in
set_option maxRecDepth 100000 in
theorem b_S_end_29 {D : va_G} {ca : Nat → ClassId} {ad : Nat → Int → Nat → Nat} {L : List Nat} {aS vS : Nat → Nat} {A : Nat → Prop} {p : Program} {l : Launch} {e : Env} {s : State} {m : MethodId} {args : Array Value} {below : List Frame} {meth : Method} {c : Code} {K : zK} {r : Int} {F9 : zF} {B9 : zB} (X : zX D ca L aS vS A p s m args meth c prog_1_method_4_code 3 (Option.some Jvm.ClassFile.FieldType.int) "StaveHouse") : ∀ {n : Nat} {l2 : Int} {l0 : Int} {l1 : Int} {F : zF} {B : zB} {H : Heap} {locs : List Loc} {ls : Array Slot}, f_S_end_29 K n l2 l0 l1 F B = some (r, F9, B9) → zH D ca ad lnC K.2 L F B A H → va_S A s.heap H locs → lv_has ls 3 [(2, .int (iI l2)), (0, .ref (ad 12 l0 0)), (1, .int (iI l1))] → W p l e ({ frames := 1, cells := 0, slots := 0, locals := 21 } : Room) s m args below meth c H locs 0 0 (MQ below (Q_S_end K D ca ad L r F9 B9 A) args s 0 0 A) (F0 m 29 ls []) := by
  obtain ⟨hx, hb, hr, hml, hown, hts, hlk, hK, hA, hL, hX⟩ := id X
  intro n
  induction n with
  | zero =>
    intros
    rename_i hf _ _ _
    cases hf
  | succ n ih =>
    intro l2 l0 l1 F B H locs ls hf hZ hS hl
    replace hf : (if r32 l2 then if r32 l1 then (if l1 ≤ l2 then if 0 ≤ l0 ∧ l0 < K.2 12 then if 0 ≤ (F 12 l0 0) ∧ (F 12 l0 0) < K.2 0 then some (F 0 (F 12 l0 0) 1, F, B) else none else none else if 0 ≤ l0 ∧ l0 < K.2 12 then if 0 ≤ l2 ∧ l2 < 20 then if 0 ≤ (F 12 l0 0) ∧ (F 12 l0 0) < K.2 0 then zbind (f_ByteRow_put K (F 12 l0 0) (B 12 l0 1 l2) F B) (fun r16 F16 B16 => f_S_end_29 K n (l2 + 1) l0 l1 F16 B16) else none else none else none) else none else none) = some (r, F9, B9) := hf
    refine lv_iload_n hx hb (D_28 W_prog_1_method_4_code_0 29 rfl rfl) rfl (lv_at hl 0 rfl) ?_
    refine lv_iload_n hx hb (D_27 W_prog_1_method_4_code_0 30 rfl rfl) rfl (lv_at hl 2 rfl) ?_
    obtain ⟨g8, hf⟩ := gif hf
    obtain ⟨g9, hf⟩ := gif hf
    refine zge (tgt := 53) hx hb g8 g9 (D_162 W_prog_1_method_4_code_0 31 rfl rfl rfl) (by decide) (fun h10 => ?_) (fun h10 => ?_)
    · replace hf := gpos hf h10
      refine lv_aload_n hx hb (D_42 W_prog_1_method_4_code_32 21 rfl rfl) rfl (lv_at hl 1 rfl) ?_
      obtain ⟨g11, hf⟩ := gif hf
      refine zget (ci := 12) (C := RX12) (T := TX12) (v := va_rf (zrf ad 0 (F 12 l0 0))) (k := 0) hx hb hts inW_12 hown hK hZ g11.1 g11.2 rfl (by decide) k_2_127 rfl (D_180 W_prog_1_method_4_code_32 22 rfl rfl rfl) ?_
      obtain ⟨g12, hf⟩ := gif hf
      refine zunrf g12.1 ?_
      refine zget (ci := 0) (C := RX0) (T := TX0) (v := .int (iI (F 0 (F 12 l0 0) 1))) (k := 1) hx hb hts inW_0 hown hK hZ g12.1 g12.2 rfl (by decide) k_1_46 rfl (D_180 W_prog_1_method_4_code_32 25 rfl rfl rfl) ?_
      cases hf
      exact W.iret hx hb hr (fun t ht hW => ⟨⟨_, (), rfl, rfl, by rw [ht]; exact hZ, va_K.moved hW.alike hK⟩, hS.F ht⟩) hS.2.2 (D_172 W_prog_1_method_4_code_32 28 rfl rfl) hlk
    · replace hf := gneg hf h10
      refine lv_aload_n hx hb (D_42 W_prog_1_method_4_code_32 2 rfl rfl) rfl (lv_at hl 1 rfl) ?_
      obtain ⟨g13, hf⟩ := gif hf
      refine zget (ci := 12) (C := RX12) (T := TX12) (v := va_rf (zrf ad 0 (F 12 l0 0))) (k := 0) hx hb hts inW_12 hown hK hZ g13.1 g13.2 rfl (by decide) k_2_127 rfl (D_180 W_prog_1_method_4_code_32 3 rfl rfl rfl) ?_
      refine lv_aload_n hx hb (D_42 W_prog_1_method_4_code_32 6 rfl rfl) rfl (lv_at hl 1 rfl) ?_
      refine zget (ci := 12) (C := RX12) (T := TX12) (v := .ref (ad 12 l0 (1 + 1))) (k := 1) hx hb hts inW_12 hown hK hZ g13.1 g13.2 rfl (by decide) k_2_128 rfl (D_180 W_prog_1_method_4_code_32 7 rfl rfl rfl) ?_
      refine lv_iload_n hx hb (D_28 W_prog_1_method_4_code_32 10 rfl rfl) rfl (lv_at hl 0 rfl) ?_
      obtain ⟨g14, hf⟩ := gif hf
      refine zald (ci := 12) (k := 1) hx hb hK rfl hZ g13.1 g13.2 rfl (Nat.le_of_ble_eq_true rfl) g14.1 g14.2 (D_46 W_prog_1_method_4_code_32 11 rfl rfl) ?_
      obtain ⟨g15, hf⟩ := gif hf
      refine W.eq (g2 := F0 m 44 ls [.int (iI (B 12 l0 1 l2)), .ref (ad 0 (F 12 l0 0) 0)]) (by rw [zrf_pos (ad := ad) (t := 0) g15.1]; try rfl) ?_
      obtain ⟨r16, F16, B16, hc16, hf⟩ := gbind hf
      refine va_callv (va_runV (As := [.int (iI (B 12 l0 1 l2))]) (rest := []) ⟨hx, hb, hml, hown, hts⟩ (c_ByteRow_put (l := l) hc16) (cwV 1 hts (gdV k_2_170 k_2_171 k_2_172 k_1_2 k_2_173) rfl rfl rfl (by decide +kernel) ⟨Nat.le_of_ble_eq_true rfl, Nat.le_of_ble_eq_true rfl⟩) (zPV X hZ hS (ci := 0) g15.1 g15.2 (r := (RX0, TX0, 3)) rfl [.int (iI (B 12 l0 1 l2))]) rfl rfl hl.1 rfl (lv_room (Nat.le_of_ble_eq_true rfl)) (D_182 W_prog_1_method_4_code_32 12 rfl rfl rfl) ⟨Nat.le_of_ble_eq_true rfl, Nat.le_of_ble_eq_true rfl⟩) hS (fun q _ h => zAin X hS q h) (zAin X hS) (fun u16 t16 H16 locs16 ht16 hv16 hw16 hB16 hz16 hk16 hS16 => ?_)
      have hZ16 := zBack X ht16 hB16
      refine lv_iinc (v := iI (l2 + 1)) (lv' := [(2, .int (iI (l2 + 1))), (0, .ref (ad 12 l0 0)), (1, .int (iI l1))]) hx hb d_1_4_47 hl (k := 0) rfl (iI_add _ 1) (by decide) rfl (fun ls hl => ?_)
      refine lv_goto (tgt := 29) hx hb (D_167 W_prog_1_method_4_code_32 18 rfl rfl rfl) (by decide) ?_
      exact ih hf hZ16 hS16 (lv_sub hl [0, 1, 2] rfl)

def f_S_end_25 (K : zK)  (F : zF) (B : zB) : zO := some ((-1), F, B)
set_option maxHeartbeats 4000000 in
set_option maxRecDepth 100000 in
theorem b_S_end_25 {D : va_G} {ca : Nat → ClassId} {ad : Nat → Int → Nat → Nat} {L : List Nat} {aS vS : Nat → Nat} {A : Nat → Prop} {p : Program} {l : Launch} {e : Env} {s : State} {m : MethodId} {args : Array Value} {below : List Frame} {meth : Method} {c : Code} {K : zK} {r : Int} {F9 : zF} {B9 : zB} (X : zX D ca L aS vS A p s m args meth c prog_1_method_4_code 3 (Option.some Jvm.ClassFile.FieldType.int) "StaveHouse")  {F : zF} {B : zB} {H : Heap} {locs : List Loc} {ls : Array Slot} (hf : f_S_end_25 K  F B = some (r, F9, B9)) (hZ : zH D ca ad lnC K.2 L F B A H) (hS : va_S A s.heap H locs) (hl : lv_has ls 3 []) : W p l e ({ frames := 1, cells := 0, slots := 0, locals := 21 } : Room) s m args below meth c H locs 0 0 (MQ below (Q_S_end K D ca ad L r F9 B9 A) args s 0 0 A) (F0 m 25 ls []) := by
  obtain ⟨hx, hb, hr, hml, hown, hts, hlk, hK, hA, hL, hX⟩ := id X
  replace hf : (some ((-1), F, B)) = some (r, F9, B9) := hf
  refine lv_iconst (v := iI (-1)) hx hb (D_2 W_prog_1_method_4_code_0 25 rfl rfl) rfl ?_
  cases hf
  exact W.iret hx hb hr (fun t ht hW => ⟨⟨_, (), rfl, rfl, by rw [ht]; exact hZ, va_K.moved hW.alike hK⟩, hS.F ht⟩) hS.2.2 (D_172 W_prog_1_method_4_code_0 26 rfl rfl) hlk

def f_S_end (K : zK) (l0 : Int) (l1 : Int) (F : zF) (B : zB) : zO := if r32 l1 then (if l1 < 0 then f_S_end_25 K F B else (if 20 < l1 then f_S_end_25 K F B else if 0 ≤ l0 ∧ l0 < K.2 12 then if 0 ≤ (F 12 l0 0) ∧ (F 12 l0 0) < K.2 0 then if r32 ((F 0 (F 12 l0 0) 1) + l1) then (if ((F 0 (F 12 l0 0) 1) + l1) ≤ 3000 then f_S_end_29 K K.1 0 l0 l1 F B else f_S_end_25 K F B) else none else none else none)) else none
set_option maxHeartbeats 4000000 in
set_option maxRecDepth 100000 in
theorem c_S_end {l : Launch} {D : va_G} {ca : Nat → ClassId} {ad : Nat → Int → Nat → Nat} {L : List Nat} {aS vS : Nat → Nat} {sz : Nat} {K : zK}  {l0 : Int} {l1 : Int} {F F9 : zF} {B B9 : zB} {r : Int} (hf : f_S_end K l0 l1 F B = some (r, F9, B9)) : Met l ({ cls := "StaveHouse", name := "end", desc := "(I)I" } : Jvm.MethodName) (Cond.code ({ cls := "StaveHouse", name := "end", desc := "(I)I" } : Jvm.MethodName) prog_1_method_4_code 3 (Option.some Jvm.ClassFile.FieldType.int) :: wAll) ({ frames := 1, cells := 0, slots := 0, locals := 21 } : Room) (va_Pc [.ref (ad 12 l0 0), .int (iI l1)] (zPre D ca ad lnC K.2 L aS vS F B sz)) (Q_S_end K D ca ad L r F9 B9 (zA L sz)) 0 0 (zA L sz) := by
  refine zMet (Qc := Q_S_end K D ca ad L r F9 B9) (lv := [(0, .ref (ad 12 l0 0)), (1, .int (iI l1))]) (by decide) (Nat.le_of_ble_eq_true rfl) rfl (fun A p e s m below meth c ls X hZ hS hl => ?_)
  obtain ⟨hx, hb, hr, hml, hown, hts, hlk, hK, hA, hL, hX⟩ := id X
  replace hf : (if r32 l1 then (if l1 < 0 then f_S_end_25 K F B else (if 20 < l1 then f_S_end_25 K F B else if 0 ≤ l0 ∧ l0 < K.2 12 then if 0 ≤ (F 12 l0 0) ∧ (F 12 l0 0) < K.2 0 then if r32 ((F 0 (F 12 l0 0) 1) + l1) then (if ((F 0 (F 12 l0 0) 1) + l1) ≤ 3000 then f_S_end_29 K K.1 0 l0 l1 F B else f_S_end_25 K F B) else none else none else none)) else none) = some (r, F9, B9) := hf
  refine lv_iload_n hx hb (D_27 W_prog_1_method_4_code_0 0 rfl rfl) rfl (lv_at hl 1 rfl) ?_
  obtain ⟨g1, hf⟩ := gif hf
  refine z0lt (tgt := 25) hx hb g1 (D_155 W_prog_1_method_4_code_0 1 rfl rfl rfl) (by decide) (fun h2 => ?_) (fun h2 => ?_)
  · replace hf := gpos hf h2
    exact b_S_end_25 X hf hZ hS (lv_sub hl [] rfl)
  · replace hf := gneg hf h2
    refine lv_iload_n hx hb (D_27 W_prog_1_method_4_code_0 4 rfl rfl) rfl (lv_at hl 1 rfl) ?_
    refine lv_bipush (v := iI 20) hx hb (D_16 W_prog_1_method_4_code_0 5 rfl rfl rfl) (by decide) ?_
    refine zgt (tgt := 25) hx hb g1 (by decide) (D_163 W_prog_1_method_4_code_0 7 rfl rfl rfl) (by decide) (fun h3 => ?_) (fun h3 => ?_)
    · replace hf := gpos hf h3
      exact b_S_end_25 X hf hZ hS (lv_sub hl [] rfl)
    · replace hf := gneg hf h3
      refine lv_aload_n hx hb (D_42 W_prog_1_method_4_code_0 10 rfl rfl) rfl (lv_at hl 0 rfl) ?_
      obtain ⟨g4, hf⟩ := gif hf
      refine zget (ci := 12) (C := RX12) (T := TX12) (v := va_rf (zrf ad 0 (F 12 l0 0))) (k := 0) hx hb hts inW_12 hown hK hZ g4.1 g4.2 rfl (by decide) k_2_127 rfl (D_180 W_prog_1_method_4_code_0 11 rfl rfl rfl) ?_
      obtain ⟨g5, hf⟩ := gif hf
      refine zunrf g5.1 ?_
      refine zget (ci := 0) (C := RX0) (T := TX0) (v := .int (iI (F 0 (F 12 l0 0) 1))) (k := 1) hx hb hts inW_0 hown hK hZ g5.1 g5.2 rfl (by decide) k_1_46 rfl (D_180 W_prog_1_method_4_code_0 14 rfl rfl rfl) ?_
      refine lv_iload_n hx hb (D_27 W_prog_1_method_4_code_0 17 rfl rfl) rfl (lv_at hl 1 rfl) ?_
      refine zadd hx hb (D_96 W_prog_1_method_4_code_0 18 rfl rfl) ?_
      refine lv_sipush (v := iI 3000) hx hb (D_17 W_prog_1_method_4_code_0 19 rfl rfl rfl) (by decide) ?_
      obtain ⟨g6, hf⟩ := gif hf
      refine zle (tgt := 27) hx hb g6 (by decide) (D_164 W_prog_1_method_4_code_0 22 rfl rfl rfl) (by decide) (fun h7 => ?_) (fun h7 => ?_)
      · replace hf := gpos hf h7
        refine lv_iconst (v := iI 0) hx hb (D_3 W_prog_1_method_4_code_0 27 rfl rfl) rfl ?_
        refine lv_istore_n (lv' := [(2, .int (iI 0)), (0, .ref (ad 12 l0 0)), (1, .int (iI l1))]) hx hb (D_61 W_prog_1_method_4_code_0 28 rfl rfl) rfl hl (by decide) rfl (fun ls hl => ?_)
        exact b_S_end_29 X hf hZ hS (lv_sub hl [0, 1, 2] rfl)
      · replace hf := gneg hf h7
        exact b_S_end_25 X hf hZ hS (lv_sub hl [] rfl)

abbrev Q_Tokens_isRunByte (K : zK) (D : va_G) (ca : Nat → ClassId) (ad : Nat → Int → Nat → Nat) (L : List Nat) (r : Int) (F : zF) (B : zB) (A : Nat → Prop) : Array Value → State → Outcome → State → Prop := va_Qi (S := Unit) (fun p _ => p = iI r) (fun _ => zPo D ca ad lnC K.2 L F B A) A
def f_Tokens_isRunByte_25 (K : zK) (s0 : Int) (F : zF) (B : zB) : zO := if (s0 = 0 ∨ s0 = 1) then some (s0, F, B) else none
set_option maxHeartbeats 4000000 in
set_option maxRecDepth 100000 in
theorem b_Tokens_isRunByte_25 {D : va_G} {ca : Nat → ClassId} {ad : Nat → Int → Nat → Nat} {L : List Nat} {aS vS : Nat → Nat} {A : Nat → Prop} {p : Program} {l : Launch} {e : Env} {s : State} {m : MethodId} {args : Array Value} {below : List Frame} {meth : Method} {c : Code} {K : zK} {r : Int} {F9 : zF} {B9 : zB} (X : zX D ca L aS vS A p s m args meth c prog_12_method_14_code 1 (Option.some Jvm.ClassFile.FieldType.boolean) "StaveHouse$Tokens") {s0 : Int} {F : zF} {B : zB} {H : Heap} {locs : List Loc} {ls : Array Slot} (hf : f_Tokens_isRunByte_25 K s0 F B = some (r, F9, B9)) (hZ : zH D ca ad lnC K.2 L F B A H) (hS : va_S A s.heap H locs) (hl : lv_has ls 1 []) : W p l e ({ frames := 1, cells := 0, slots := 0, locals := 20 } : Room) s m args below meth c H locs 0 0 (MQ below (Q_Tokens_isRunByte K D ca ad L r F9 B9 A) args s 0 0 A) (F0 m 25 ls [.int (iI s0)]) := by
  obtain ⟨hx, hb, hr, hml, hown, hts, hlk, hK, hA, hL, hX⟩ := id X
  replace hf : (if (s0 = 0 ∨ s0 = 1) then some (s0, F, B) else none) = some (r, F9, B9) := hf
  obtain ⟨g9, hf⟩ := gif hf
  cases hf
  exact W.zret hx hb hr (zbool g9) (fun t ht hW => ⟨⟨_, (), rfl, rfl, by rw [ht]; exact hZ, va_K.moved hW.alike hK⟩, hS.F ht⟩) hS.2.2 (D_172 W_prog_12_method_14_code_0 25 rfl rfl) hlk

def f_Tokens_isRunByte_20 (K : zK)  (F : zF) (B : zB) : zO := f_Tokens_isRunByte_25 K 1 F B
set_option maxHeartbeats 4000000 in
set_option maxRecDepth 100000 in
theorem b_Tokens_isRunByte_20 {D : va_G} {ca : Nat → ClassId} {ad : Nat → Int → Nat → Nat} {L : List Nat} {aS vS : Nat → Nat} {A : Nat → Prop} {p : Program} {l : Launch} {e : Env} {s : State} {m : MethodId} {args : Array Value} {below : List Frame} {meth : Method} {c : Code} {K : zK} {r : Int} {F9 : zF} {B9 : zB} (X : zX D ca L aS vS A p s m args meth c prog_12_method_14_code 1 (Option.some Jvm.ClassFile.FieldType.boolean) "StaveHouse$Tokens")  {F : zF} {B : zB} {H : Heap} {locs : List Loc} {ls : Array Slot} (hf : f_Tokens_isRunByte_20 K  F B = some (r, F9, B9)) (hZ : zH D ca ad lnC K.2 L F B A H) (hS : va_S A s.heap H locs) (hl : lv_has ls 1 []) : W p l e ({ frames := 1, cells := 0, slots := 0, locals := 20 } : Room) s m args below meth c H locs 0 0 (MQ below (Q_Tokens_isRunByte K D ca ad L r F9 B9 A) args s 0 0 A) (F0 m 20 ls []) := by
  obtain ⟨hx, hb, hr, hml, hown, hts, hlk, hK, hA, hL, hX⟩ := id X
  replace hf : (f_Tokens_isRunByte_25 K 1 F B) = some (r, F9, B9) := hf
  refine lv_iconst (v := iI 1) hx hb (D_4 W_prog_12_method_14_code_0 20 rfl rfl) rfl ?_
  refine lv_goto (tgt := 25) hx hb (D_167 W_prog_12_method_14_code_0 21 rfl rfl rfl) (by decide) ?_
  exact b_Tokens_isRunByte_25 X hf hZ hS (lv_sub hl [] rfl)

def f_Tokens_isRunByte (K : zK) (l0 : Int) (F : zF) (B : zB) : zO := zbind (f_Tokens_isLetter K l0 F B) (fun r1 F1 B1 => if r32 r1 then (if r1 = 0 then zbind (f_Tokens_isDigit K l0 F1 B1) (fun r4 F4 B4 => if r32 r4 then (if r4 = 0 then if r32 l0 then (if l0 = 35 then f_Tokens_isRunByte_20 K F4 B4 else f_Tokens_isRunByte_25 K 0 F4 B4) else none else f_Tokens_isRunByte_20 K F4 B4) else none) else f_Tokens_isRunByte_20 K F1 B1) else none)
set_option maxHeartbeats 4000000 in
set_option maxRecDepth 100000 in
theorem c_Tokens_isRunByte {l : Launch} {D : va_G} {ca : Nat → ClassId} {ad : Nat → Int → Nat → Nat} {L : List Nat} {aS vS : Nat → Nat} {sz : Nat} {K : zK}  {l0 : Int} {F F9 : zF} {B B9 : zB} {r : Int} (hf : f_Tokens_isRunByte K l0 F B = some (r, F9, B9)) : Met l ({ cls := "StaveHouse$Tokens", name := "isRunByte", desc := "(I)Z" } : Jvm.MethodName) (Cond.code ({ cls := "StaveHouse$Tokens", name := "isRunByte", desc := "(I)Z" } : Jvm.MethodName) prog_12_method_14_code 1 (Option.some Jvm.ClassFile.FieldType.boolean) :: wAll) ({ frames := 1, cells := 0, slots := 0, locals := 20 } : Room) (va_Pc [.int (iI l0)] (zPre D ca ad lnC K.2 L aS vS F B sz)) (Q_Tokens_isRunByte K D ca ad L r F9 B9 (zA L sz)) 0 0 (zA L sz) := by
  refine zMet (Qc := Q_Tokens_isRunByte K D ca ad L r F9 B9) (lv := [(0, .int (iI l0))]) (by decide) (Nat.le_of_ble_eq_true rfl) rfl (fun A p e s m below meth c ls X hZ hS hl => ?_)
  obtain ⟨hx, hb, hr, hml, hown, hts, hlk, hK, hA, hL, hX⟩ := id X
  replace hf : (zbind (f_Tokens_isLetter K l0 F B) (fun r1 F1 B1 => if r32 r1 then (if r1 = 0 then zbind (f_Tokens_isDigit K l0 F1 B1) (fun r4 F4 B4 => if r32 r4 then (if r4 = 0 then if r32 l0 then (if l0 = 35 then f_Tokens_isRunByte_20 K F4 B4 else f_Tokens_isRunByte_25 K 0 F4 B4) else none else f_Tokens_isRunByte_20 K F4 B4) else none) else f_Tokens_isRunByte_20 K F1 B1) else none)) = some (r, F9, B9) := hf
  refine lv_iload_n hx hb (D_26 W_prog_12_method_14_code_0 0 rfl rfl) rfl (lv_at hl 0 rfl) ?_
  obtain ⟨r1, F1, B1, hc1, hf⟩ := gbind hf
  refine va_calli (va_runS (As := [.int (iI l0)]) (rest := []) ⟨hx, hb, hml, hown, hts⟩ (c_Tokens_isLetter (l := l) hc1) (va_cwS 1 hts (gdS k_3_44 k_3_45 k_1_5 k_3_46) rfl rfl rfl (by decide +kernel) ⟨Nat.le_of_ble_eq_true rfl, Nat.le_of_ble_eq_true rfl⟩) (zPS X hZ hS [.int (iI l0)]) rfl rfl hl.1 rfl (lv_room (Nat.le_of_ble_eq_true rfl)) (D_184 W_prog_12_method_14_code_0 1 rfl rfl rfl) ⟨Nat.le_of_ble_eq_true rfl, Nat.le_of_ble_eq_true rfl⟩) hS (fun q _ h => zAin X hS q h) (zAin X hS) (fun p1 u1 t1 H1 locs1 ht1 hv1 hw1 hB1 hz1 hk1 hS1 => ?_)
  have hZ1 := zBack X ht1 hB1
  subst hw1
  obtain ⟨g2, hf⟩ := gif hf
  refine z0ne (tgt := 20) hx hb g2 (D_154 W_prog_12_method_14_code_0 4 rfl rfl rfl) (by decide) (fun h3 => ?_) (fun h3 => ?_)
  · replace hf := gneg hf h3
    exact b_Tokens_isRunByte_20 X hf hZ1 hS1 (lv_sub hl [] rfl)
  · replace hf := gpos hf h3
    refine lv_iload_n hx hb (D_26 W_prog_12_method_14_code_0 7 rfl rfl) rfl (lv_at hl 0 rfl) ?_
    obtain ⟨r4, F4, B4, hc4, hf⟩ := gbind hf
    refine va_calli (va_runS (As := [.int (iI l0)]) (rest := []) ⟨hx, hb, hml, hown, hts⟩ (c_Tokens_isDigit (l := l) hc4) (va_cwS 1 hts (gdS k_3_47 k_3_48 k_1_5 k_3_49) rfl rfl rfl (by decide +kernel) ⟨Nat.le_of_ble_eq_true rfl, Nat.le_of_ble_eq_true rfl⟩) (zPS X hZ1 hS1 [.int (iI l0)]) rfl rfl hl.1 rfl (lv_room (Nat.le_of_ble_eq_true rfl)) (D_184 W_prog_12_method_14_code_0 8 rfl rfl rfl) ⟨Nat.le_of_ble_eq_true rfl, Nat.le_of_ble_eq_true rfl⟩) hS1 (fun q _ h => zAin X hS1 q h) (zAin X hS1) (fun p4 u4 t4 H4 locs4 ht4 hv4 hw4 hB4 hz4 hk4 hS4 => ?_)
    have hZ4 := zBack X ht4 hB4
    subst hw4
    obtain ⟨g5, hf⟩ := gif hf
    refine z0ne (tgt := 20) hx hb g5 (D_154 W_prog_12_method_14_code_0 11 rfl rfl rfl) (by decide) (fun h6 => ?_) (fun h6 => ?_)
    · replace hf := gneg hf h6
      exact b_Tokens_isRunByte_20 X hf hZ4 hS4 (lv_sub hl [] rfl)
    · replace hf := gpos hf h6
      refine lv_iload_n hx hb (D_26 W_prog_12_method_14_code_0 14 rfl rfl) rfl (lv_at hl 0 rfl) ?_
      refine lv_bipush (v := iI 35) hx hb (D_16 W_prog_12_method_14_code_0 15 rfl rfl rfl) (by decide) ?_
      obtain ⟨g7, hf⟩ := gif hf
      refine zne (tgt := 24) hx hb g7 (by decide) (D_160 W_prog_12_method_14_code_0 17 rfl rfl rfl) (by decide) (fun h8 => ?_) (fun h8 => ?_)
      · replace hf := gneg hf h8
        refine lv_iconst (v := iI 0) hx hb (D_3 W_prog_12_method_14_code_0 24 rfl rfl) rfl ?_
        exact b_Tokens_isRunByte_25 X hf hZ4 hS4 (lv_sub hl [] rfl)
      · replace hf := gpos hf h8
        exact b_Tokens_isRunByte_20 X hf hZ4 hS4 (lv_sub hl [] rfl)

abbrev Q_Tokens_runEnd (K : zK) (D : va_G) (ca : Nat → ClassId) (ad : Nat → Int → Nat → Nat) (L : List Nat) (r : Int) (F : zF) (B : zB) (A : Nat → Prop) : Array Value → State → Outcome → State → Prop := va_Qi (S := Unit) (fun p _ => p = iI r) (fun _ => zPo D ca ad lnC K.2 L F B A) A
def f_Tokens_runEnd_27 (K : zK) (l2 : Int) (F : zF) (B : zB) : zO := some (l2, F, B)
set_option maxHeartbeats 4000000 in
set_option maxRecDepth 100000 in
theorem b_Tokens_runEnd_27 {D : va_G} {ca : Nat → ClassId} {ad : Nat → Int → Nat → Nat} {L : List Nat} {aS vS : Nat → Nat} {A : Nat → Prop} {p : Program} {l : Launch} {e : Env} {s : State} {m : MethodId} {args : Array Value} {below : List Frame} {meth : Method} {c : Code} {K : zK} {r : Int} {F9 : zF} {B9 : zB} (X : zX D ca L aS vS A p s m args meth c prog_12_method_6_code 3 (Option.some Jvm.ClassFile.FieldType.int) "StaveHouse$Tokens") {l2 : Int} {F : zF} {B : zB} {H : Heap} {locs : List Loc} {ls : Array Slot} (hf : f_Tokens_runEnd_27 K l2 F B = some (r, F9, B9)) (hZ : zH D ca ad lnC K.2 L F B A H) (hS : va_S A s.heap H locs) (hl : lv_has ls 3 [(2, .int (iI l2))]) : W p l e ({ frames := 2, cells := 0, slots := 0, locals := 40 } : Room) s m args below meth c H locs 0 0 (MQ below (Q_Tokens_runEnd K D ca ad L r F9 B9 A) args s 0 0 A) (F0 m 27 ls []) := by
  obtain ⟨hx, hb, hr, hml, hown, hts, hlk, hK, hA, hL, hX⟩ := id X
  replace hf : (some (l2, F, B)) = some (r, F9, B9) := hf
  refine lv_iload_n hx hb (D_28 W_prog_12_method_6_code_0 27 rfl rfl) rfl (lv_at hl 0 rfl) ?_
  cases hf
  exact W.iret hx hb hr (fun t ht hW => ⟨⟨_, (), rfl, rfl, by rw [ht]; exact hZ, va_K.moved hW.alike hK⟩, hS.F ht⟩) hS.2.2 (D_172 W_prog_12_method_6_code_0 28 rfl rfl) hlk

def f_Tokens_runEnd_2 (K : zK) : Nat → Int → Int → zF → zB → zO
  | 0, _, _, _, _ => none
  | n + 1, l2, l0, F, B => if 0 ≤ l0 ∧ l0 < K.2 0 then if r32 l2 then if r32 (F 0 l0 1) then (if (F 0 l0 1) ≤ l2 then f_Tokens_runEnd_27 K l2 F B else zbind (f_ByteRow_at K l0 l2 F B) (fun r5 F5 B5 => zbind (f_Tokens_isRunByte K r5 F5 B5) (fun r6 F6 B6 => if r32 r6 then (if r6 = 0 then f_Tokens_runEnd_27 K l2 F6 B6 else f_Tokens_runEnd_2 K n (l2 + 1) l0 F6 B6) else none))) else none else none else none
set_option maxHeartbeats 4000000 in
set_option maxRecDepth 100000 in
theorem b_Tokens_runEnd_2 {D : va_G} {ca : Nat → ClassId} {ad : Nat → Int → Nat → Nat} {L : List Nat} {aS vS : Nat → Nat} {A : Nat → Prop} {p : Program} {l : Launch} {e : Env} {s : State} {m : MethodId} {args : Array Value} {below : List Frame} {meth : Method} {c : Code} {K : zK} {r : Int} {F9 : zF} {B9 : zB} (X : zX D ca L aS vS A p s m args meth c prog_12_method_6_code 3 (Option.some Jvm.ClassFile.FieldType.int) "StaveHouse$Tokens") : ∀ {n : Nat} {l2 : Int} {l0 : Int} {F : zF} {B : zB} {H : Heap} {locs : List Loc} {ls : Array Slot}, f_Tokens_runEnd_2 K n l2 l0 F B = some (r, F9, B9) → zH D ca ad lnC K.2 L F B A H → va_S A s.heap H locs → lv_has ls 3 [(2, .int (iI l2)), (0, .ref (ad 0 l0 0))] → W p l e ({ frames := 2, cells := 0, slots := 0, locals := 40 } : Room) s m args below meth c H locs 0 0 (MQ below (Q_Tokens_runEnd K D ca ad L r F9 B9 A) args s 0 0 A) (F0 m 2 ls []) := by
  obtain ⟨hx, hb, hr, hml, hown, hts, hlk, hK, hA, hL, hX⟩ := id X
  intro n
  induction n with
  | zero =>
    intros
    rename_i hf _ _ _
    cases hf
  | succ n ih =>
    intro l2 l0 F B H locs ls hf hZ hS hl
    replace hf : (if 0 ≤ l0 ∧ l0 < K.2 0 then if r32 l2 then if r32 (F 0 l0 1) then (if (F 0 l0 1) ≤ l2 then f_Tokens_runEnd_27 K l2 F B else zbind (f_ByteRow_at K l0 l2 F B) (fun r5 F5 B5 => zbind (f_Tokens_isRunByte K r5 F5 B5) (fun r6 F6 B6 => if r32 r6 then (if r6 = 0 then f_Tokens_runEnd_27 K l2 F6 B6 else f_Tokens_runEnd_2 K n (l2 + 1) l0 F6 B6) else none))) else none else none else none) = some (r, F9, B9) := hf
    refine lv_iload_n hx hb (D_28 W_prog_12_method_6_code_0 2 rfl rfl) rfl (lv_at hl 0 rfl) ?_
    refine lv_aload_n hx hb (D_42 W_prog_12_method_6_code_0 3 rfl rfl) rfl (lv_at hl 1 rfl) ?_
    obtain ⟨g1, hf⟩ := gif hf
    refine zget (ci := 0) (C := RX0) (T := TX0) (v := .int (iI (F 0 l0 1))) (k := 1) hx hb hts inW_0 hown hK hZ g1.1 g1.2 rfl (by decide) k_1_44 rfl (D_180 W_prog_12_method_6_code_0 4 rfl rfl rfl) ?_
    obtain ⟨g2, hf⟩ := gif hf
    obtain ⟨g3, hf⟩ := gif hf
    refine zge (tgt := 27) hx hb g2 g3 (D_162 W_prog_12_method_6_code_0 7 rfl rfl rfl) (by decide) (fun h4 => ?_) (fun h4 => ?_)
    · replace hf := gpos hf h4
      exact b_Tokens_runEnd_27 X hf hZ hS (lv_sub hl [0] rfl)
    · replace hf := gneg hf h4
      refine lv_aload_n hx hb (D_42 W_prog_12_method_6_code_0 10 rfl rfl) rfl (lv_at hl 1 rfl) ?_
      refine lv_iload_n hx hb (D_28 W_prog_12_method_6_code_0 11 rfl rfl) rfl (lv_at hl 0 rfl) ?_
      obtain ⟨r5, F5, B5, hc5, hf⟩ := gbind hf
      refine va_calli (va_runV (As := [.int (iI l2)]) (rest := []) ⟨hx, hb, hml, hown, hts⟩ (c_ByteRow_at (l := l) hc5) (cwV 1 hts (gdV k_3_34 k_3_35 k_3_36 k_1_2 k_3_37) rfl rfl rfl (by decide +kernel) ⟨Nat.le_of_ble_eq_true rfl, Nat.le_of_ble_eq_true rfl⟩) (zPV X hZ hS (ci := 0) g1.1 g1.2 (r := (RX0, TX0, 3)) rfl [.int (iI l2)]) rfl rfl hl.1 rfl (lv_room (Nat.le_of_ble_eq_true rfl)) (D_182 W_prog_12_method_6_code_0 12 rfl rfl rfl) ⟨Nat.le_of_ble_eq_true rfl, Nat.le_of_ble_eq_true rfl⟩) hS (fun q _ h => zAin X hS q h) (zAin X hS) (fun p5 u5 t5 H5 locs5 ht5 hv5 hw5 hB5 hz5 hk5 hS5 => ?_)
      have hZ5 := zBack X ht5 hB5
      subst hw5
      obtain ⟨r6, F6, B6, hc6, hf⟩ := gbind hf
      refine va_calli (va_runS (As := [.int (iI r5)]) (rest := []) ⟨hx, hb, hml, hown, hts⟩ (c_Tokens_isRunByte (l := l) hc6) (va_cwS 1 hts (gdS k_3_41 k_3_42 k_1_5 k_3_43) rfl rfl rfl (by decide +kernel) ⟨Nat.le_of_ble_eq_true rfl, Nat.le_of_ble_eq_true rfl⟩) (zPS X hZ5 hS5 [.int (iI r5)]) rfl rfl hl.1 rfl (lv_room (Nat.le_of_ble_eq_true rfl)) (D_184 W_prog_12_method_6_code_0 15 rfl rfl rfl) ⟨Nat.le_of_ble_eq_true rfl, Nat.le_of_ble_eq_true rfl⟩) hS5 (fun q _ h => zAin X hS5 q h) (zAin X hS5) (fun p6 u6 t6 H6 locs6 ht6 hv6 hw6 hB6 hz6 hk6 hS6 => ?_)
      have hZ6 := zBack X ht6 hB6
      subst hw6
      obtain ⟨g7, hf⟩ := gif hf
      refine z0eq (tgt := 27) hx hb g7 (D_153 W_prog_12_method_6_code_0 18 rfl rfl rfl) (by decide) (fun h8 => ?_) (fun h8 => ?_)
      · replace hf := gpos hf h8
        exact b_Tokens_runEnd_27 X hf hZ6 hS6 (lv_sub hl [0] rfl)
      · replace hf := gneg hf h8
        refine lv_iinc (v := iI (l2 + 1)) (lv' := [(2, .int (iI (l2 + 1))), (0, .ref (ad 0 l0 0))]) hx hb d_12_6_21 hl (k := 0) rfl (iI_add _ 1) (by decide) rfl (fun ls hl => ?_)
        refine lv_goto (tgt := 2) hx hb (D_167 W_prog_12_method_6_code_0 24 rfl rfl rfl) (by decide) ?_
        exact ih hf hZ6 hS6 (lv_sub hl [0, 1] rfl)

def f_Tokens_runEnd (K : zK) (l0 : Int) (l1 : Int) (F : zF) (B : zB) : zO := f_Tokens_runEnd_2 K K.1 l1 l0 F B
set_option maxHeartbeats 4000000 in
set_option maxRecDepth 100000 in
theorem c_Tokens_runEnd {l : Launch} {D : va_G} {ca : Nat → ClassId} {ad : Nat → Int → Nat → Nat} {L : List Nat} {aS vS : Nat → Nat} {sz : Nat} {K : zK}  {l0 : Int} {l1 : Int} {F F9 : zF} {B B9 : zB} {r : Int} (hf : f_Tokens_runEnd K l0 l1 F B = some (r, F9, B9)) : Met l ({ cls := "StaveHouse$Tokens", name := "runEnd", desc := "(LStaveHouse$ByteRow;I)I" } : Jvm.MethodName) (Cond.code ({ cls := "StaveHouse$Tokens", name := "runEnd", desc := "(LStaveHouse$ByteRow;I)I" } : Jvm.MethodName) prog_12_method_6_code 3 (Option.some Jvm.ClassFile.FieldType.int) :: wAll) ({ frames := 2, cells := 0, slots := 0, locals := 40 } : Room) (va_Pc [.ref (ad 0 l0 0), .int (iI l1)] (zPre D ca ad lnC K.2 L aS vS F B sz)) (Q_Tokens_runEnd K D ca ad L r F9 B9 (zA L sz)) 0 0 (zA L sz) := by
  refine zMet (Qc := Q_Tokens_runEnd K D ca ad L r F9 B9) (lv := [(0, .ref (ad 0 l0 0)), (1, .int (iI l1))]) (by decide) (Nat.le_of_ble_eq_true rfl) rfl (fun A p e s m below meth c ls X hZ hS hl => ?_)
  obtain ⟨hx, hb, hr, hml, hown, hts, hlk, hK, hA, hL, hX⟩ := id X
  replace hf : (f_Tokens_runEnd_2 K K.1 l1 l0 F B) = some (r, F9, B9) := hf
  refine lv_iload_n hx hb (D_27 W_prog_12_method_6_code_0 0 rfl rfl) rfl (lv_at hl 1 rfl) ?_
  refine lv_istore_n (lv' := [(2, .int (iI l1)), (0, .ref (ad 0 l0 0)), (1, .int (iI l1))]) hx hb (D_61 W_prog_12_method_6_code_0 1 rfl rfl) rfl hl (by decide) rfl (fun ls hl => ?_)
  exact b_Tokens_runEnd_2 X hf hZ hS (lv_sub hl [0, 1] rfl)

abbrev Q_Tokens_keepRun (K : zK) (D : va_G) (ca : Nat → ClassId) (ad : Nat → Int → Nat → Nat) (L : List Nat) (r : Int) (F : zF) (B : zB) (A : Nat → Prop) : Array Value → State → Outcome → State → Prop := va_Qv (S := Unit) (fun _ => True) (fun _ => zPo D ca ad lnC K.2 L F B A) A
def f_Tokens_keepRun_197 (K : zK)  (F : zF) (B : zB) : zO := some (0, F, B)
set_option maxHeartbeats 4000000 in
set_option maxRecDepth 100000 in
theorem b_Tokens_keepRun_197 {D : va_G} {ca : Nat → ClassId} {ad : Nat → Int → Nat → Nat} {L : List Nat} {aS vS : Nat → Nat} {A : Nat → Prop} {p : Program} {l : Launch} {e : Env} {s : State} {m : MethodId} {args : Array Value} {below : List Frame} {meth : Method} {c : Code} {K : zK} {r : Int} {F9 : zF} {B9 : zB} (X : zX D ca L aS vS A p s m args meth c prog_12_method_7_code 8 (Option.none : Option Jvm.ClassFile.FieldType) "StaveHouse$Tokens")  {F : zF} {B : zB} {H : Heap} {locs : List Loc} {ls : Array Slot} (hf : f_Tokens_keepRun_197 K  F B = some (r, F9, B9)) (hZ : zH D ca ad lnC K.2 L F B A H) (hS : va_S A s.heap H locs) (hl : lv_has ls 8 []) : W p l e ({ frames := 2, cells := 0, slots := 0, locals := 48 } : Room) s m args below meth c H locs 0 0 (MQ below (Q_Tokens_keepRun K D ca ad L r F9 B9 A) args s 0 0 A) (F0 m 197 ls []) := by
  obtain ⟨hx, hb, hr, hml, hown, hts, hlk, hK, hA, hL, hX⟩ := id X
  replace hf : (some (0, F, B)) = some (r, F9, B9) := hf
  cases hf
  exact W.vret hx hb hr (fun t ht hW => ⟨⟨(), rfl, trivial, by rw [ht]; exact hZ, va_K.moved hW.alike hK⟩, hS.F ht⟩) hS.2.2 (D_177 W_prog_12_method_7_code_192 5 rfl rfl) hlk

def f_Tokens_keepRun_159 (K : zK) (l7 : Int) (l5 : Int) (l0 : Int) (l1 : Int) (l2 : Int) (l3 : Int) (F : zF) (B : zB) : zO := if r32 l5 then if r32 l7 then (if l5 = l7 then (if 8 < l7 then f_Tokens_keepRun_197 K F B else if 0 ≤ l0 ∧ l0 < K.2 10 then if 0 ≤ l2 ∧ l2 < 3001 then zbind (f_Tokens_joined K l1 l3 l7 256 0 F (zup4 B 10 l0 5 l2 4)) (fun r39 F39 B39 => f_Tokens_keepRun_197 K F39 (zup4 B39 10 l0 7 l2 r39)) else none else none) else f_Tokens_keepRun_197 K F B) else none else none
set_option maxHeartbeats 4000000 in
set_option maxRecDepth 100000 in
theorem b_Tokens_keepRun_159 {D : va_G} {ca : Nat → ClassId} {ad : Nat → Int → Nat → Nat} {L : List Nat} {aS vS : Nat → Nat} {A : Nat → Prop} {p : Program} {l : Launch} {e : Env} {s : State} {m : MethodId} {args : Array Value} {below : List Frame} {meth : Method} {c : Code} {K : zK} {r : Int} {F9 : zF} {B9 : zB} (X : zX D ca L aS vS A p s m args meth c prog_12_method_7_code 8 (Option.none : Option Jvm.ClassFile.FieldType) "StaveHouse$Tokens") {l7 : Int} {l5 : Int} {l0 : Int} {l1 : Int} {l2 : Int} {l3 : Int} {F : zF} {B : zB} {H : Heap} {locs : List Loc} {ls : Array Slot} (hf : f_Tokens_keepRun_159 K l7 l5 l0 l1 l2 l3 F B = some (r, F9, B9)) (hZ : zH D ca ad lnC K.2 L F B A H) (hS : va_S A s.heap H locs) (hl : lv_has ls 8 [(7, .int (iI l7)), (5, .int (iI l5)), (0, .ref (ad 10 l0 0)), (1, .ref (ad 0 l1 0)), (2, .int (iI l2)), (3, .int (iI l3))]) : W p l e ({ frames := 2, cells := 0, slots := 0, locals := 48 } : Room) s m args below meth c H locs 0 0 (MQ below (Q_Tokens_keepRun K D ca ad L r F9 B9 A) args s 0 0 A) (F0 m 159 ls []) := by
  obtain ⟨hx, hb, hr, hml, hown, hts, hlk, hK, hA, hL, hX⟩ := id X
  replace hf : (if r32 l5 then if r32 l7 then (if l5 = l7 then (if 8 < l7 then f_Tokens_keepRun_197 K F B else if 0 ≤ l0 ∧ l0 < K.2 10 then if 0 ≤ l2 ∧ l2 < 3001 then zbind (f_Tokens_joined K l1 l3 l7 256 0 F (zup4 B 10 l0 5 l2 4)) (fun r39 F39 B39 => f_Tokens_keepRun_197 K F39 (zup4 B39 10 l0 7 l2 r39)) else none else none) else f_Tokens_keepRun_197 K F B) else none else none) = some (r, F9, B9) := hf
  refine lv_iload hx hb (D_21 W_prog_12_method_7_code_128 31 rfl rfl) (lv_at hl 1 rfl) ?_
  refine lv_iload hx hb (D_21 W_prog_12_method_7_code_160 1 rfl rfl) (lv_at hl 0 rfl) ?_
  obtain ⟨g31, hf⟩ := gif hf
  obtain ⟨g33, hf⟩ := gif hf
  refine zne (tgt := 197) hx hb g31 g33 (D_160 W_prog_12_method_7_code_160 3 rfl rfl rfl) (by decide) (fun h34 => ?_) (fun h34 => ?_)
  · replace hf := gneg hf h34
    exact b_Tokens_keepRun_197 X hf hZ hS (lv_sub hl [] rfl)
  · replace hf := gpos hf h34
    refine lv_iload hx hb (D_21 W_prog_12_method_7_code_160 6 rfl rfl) (lv_at hl 0 rfl) ?_
    refine lv_bipush (v := iI 8) hx hb (D_16 W_prog_12_method_7_code_160 8 rfl rfl rfl) (by decide) ?_
    refine zgt (tgt := 197) hx hb g33 (by decide) (D_163 W_prog_12_method_7_code_160 10 rfl rfl rfl) (by decide) (fun h35 => ?_) (fun h35 => ?_)
    · replace hf := gpos hf h35
      exact b_Tokens_keepRun_197 X hf hZ hS (lv_sub hl [] rfl)
    · replace hf := gneg hf h35
      refine lv_aload_n hx hb (D_42 W_prog_12_method_7_code_160 13 rfl rfl) rfl (lv_at hl 2 rfl) ?_
      obtain ⟨g36, hf⟩ := gif hf
      refine zget (ci := 10) (C := RX10) (T := TX10) (v := .ref (ad 10 l0 (5 + 1))) (k := 5) hx hb hts inW_10 hown hK hZ g36.1 g36.2 rfl (by decide) k_1_82 rfl (D_180 W_prog_12_method_7_code_160 14 rfl rfl rfl) ?_
      refine lv_iload_n hx hb (D_28 W_prog_12_method_7_code_160 17 rfl rfl) rfl (lv_at hl 4 rfl) ?_
      refine lv_iconst (v := iI 4) hx hb (D_7 W_prog_12_method_7_code_160 18 rfl rfl) rfl ?_
      obtain ⟨g37, hf⟩ := gif hf
      refine zast (ci := 10) (k := 5) hx hb hK rfl hZ hS g36.1 g36.2 rfl (Nat.le_of_ble_eq_true rfl) g37.1 g37.2 (D_79 W_prog_12_method_7_code_160 19 rfl rfl) (fun H38 locs38 hZ38 hS38 => ?_)
      refine lv_aload_n hx hb (D_42 W_prog_12_method_7_code_160 20 rfl rfl) rfl (lv_at hl 2 rfl) ?_
      refine zget (ci := 10) (C := RX10) (T := TX10) (v := .ref (ad 10 l0 (7 + 1))) (k := 7) hx hb hts inW_10 hown hK hZ38 g36.1 g36.2 rfl (by decide) k_1_84 rfl (D_180 W_prog_12_method_7_code_160 21 rfl rfl rfl) ?_
      refine lv_iload_n hx hb (D_28 W_prog_12_method_7_code_160 24 rfl rfl) rfl (lv_at hl 4 rfl) ?_
      refine lv_aload_n hx hb (D_43 W_prog_12_method_7_code_160 25 rfl rfl) rfl (lv_at hl 3 rfl) ?_
      refine lv_iload_n hx hb (D_29 W_prog_12_method_7_code_160 26 rfl rfl) rfl (lv_at hl 5 rfl) ?_
      refine lv_iload hx hb (D_21 W_prog_12_method_7_code_160 27 rfl rfl) (lv_at hl 0 rfl) ?_
      refine lv_sipush (v := iI 256) hx hb (D_17 W_prog_12_method_7_code_160 29 rfl rfl rfl) (by decide) ?_
      refine lv_iconst (v := iI 0) hx hb (D_3 W_prog_12_method_7_code_192 0 rfl rfl) rfl ?_
      obtain ⟨r39, F39, B39, hc39, hf⟩ := gbind hf
      refine va_calll (va_runS (As := [.ref (ad 0 l1 0), .int (iI l3), .int (iI l7), .int (iI 256), .int (iI 0)]) (rest := [.int (iI l2), .ref (ad 10 l0 (7 + 1))]) ⟨hx, hb, hml, hown, hts⟩ (c_Tokens_joined (l := l) hc39) (va_cwS 5 hts (gdS k_3_63 k_3_64 k_1_5 k_3_65) rfl rfl rfl (by decide +kernel) ⟨Nat.le_of_ble_eq_true rfl, Nat.le_of_ble_eq_true rfl⟩) (zPS X hZ38 hS38 [.ref (ad 0 l1 0), .int (iI l3), .int (iI l7), .int (iI 256), .int (iI 0)]) rfl rfl hl.1 rfl (lv_room (Nat.le_of_ble_eq_true rfl)) (D_184 W_prog_12_method_7_code_192 1 rfl rfl rfl) ⟨Nat.le_of_ble_eq_true rfl, Nat.le_of_ble_eq_true rfl⟩) hS38 (fun q _ h => zAin X hS38 q h) (zAin X hS38) (fun p39 u39 t39 H39 locs39 ht39 hv39 hw39 hB39 hz39 hk39 hS39 => ?_)
      have hZ39 := zBack X ht39 hB39
      subst hw39
      refine zlast (ci := 10) (k := 7) hx hb hK rfl hZ39 hS39 g36.1 g36.2 rfl (Nat.le_of_ble_eq_true rfl) g37.1 g37.2 (D_80 W_prog_12_method_7_code_192 4 rfl rfl) (fun H40 locs40 hZ40 hS40 => ?_)
      exact b_Tokens_keepRun_197 X hf hZ40 hS40 (lv_sub hl [] rfl)

def f_Tokens_keepRun_57 (rec9 : Int → Int → Int → Int → Int → Int → Int → Int → zF → zB → zO) (K : zK) (l5 : Int) (l7 : Int) (l0 : Int) (l1 : Int) (l2 : Int) (l3 : Int) (l4 : Int) (s0 : Int) (s1 : Int) (F : zF) (B : zB) : zO := rec9 (l7 + 1) (s0 + s1) l5 l0 l1 l2 l3 l4 F B
set_option maxHeartbeats 4000000 in
set_option maxRecDepth 100000 in
theorem b_Tokens_keepRun_57 {D : va_G} {ca : Nat → ClassId} {ad : Nat → Int → Nat → Nat} {L : List Nat} {aS vS : Nat → Nat} {A : Nat → Prop} {p : Program} {l : Launch} {e : Env} {s : State} {m : MethodId} {args : Array Value} {below : List Frame} {meth : Method} {c : Code} {K : zK} {r : Int} {F9 : zF} {B9 : zB} (X : zX D ca L aS vS A p s m args meth c prog_12_method_7_code 8 (Option.none : Option Jvm.ClassFile.FieldType) "StaveHouse$Tokens") {rec9 : Int → Int → Int → Int → Int → Int → Int → Int → zF → zB → zO} (hrec9 : ∀ {l7 : Int} {l6 : Int} {l5 : Int} {l0 : Int} {l1 : Int} {l2 : Int} {l3 : Int} {l4 : Int} {F : zF} {B : zB} {H : Heap} {locs : List Loc} {ls : Array Slot}, rec9 l7 l6 l5 l0 l1 l2 l3 l4 F B = some (r, F9, B9) → zH D ca ad lnC K.2 L F B A H → va_S A s.heap H locs → lv_has ls 8 [(7, .int (iI l7)), (6, .int (iI l6)), (5, .int (iI l5)), (0, .ref (ad 10 l0 0)), (1, .ref (ad 0 l1 0)), (2, .int (iI l2)), (3, .int (iI l3)), (4, .int (iI l4))] → W p l e ({ frames := 2, cells := 0, slots := 0, locals := 48 } : Room) s m args below meth c H locs 0 0 (MQ below (Q_Tokens_keepRun K D ca ad L r F9 B9 A) args s 0 0 A) (F0 m 9 ls [])) {l5 : Int} {l7 : Int} {l0 : Int} {l1 : Int} {l2 : Int} {l3 : Int} {l4 : Int} {s0 : Int} {s1 : Int} {F : zF} {B : zB} {H : Heap} {locs : List Loc} {ls : Array Slot} (hf : f_Tokens_keepRun_57 rec9 K l5 l7 l0 l1 l2 l3 l4 s0 s1 F B = some (r, F9, B9)) (hZ : zH D ca ad lnC K.2 L F B A H) (hS : va_S A s.heap H locs) (hl : lv_has ls 8 [(5, .int (iI l5)), (7, .int (iI l7)), (0, .ref (ad 10 l0 0)), (1, .ref (ad 0 l1 0)), (2, .int (iI l2)), (3, .int (iI l3)), (4, .int (iI l4))]) : W p l e ({ frames := 2, cells := 0, slots := 0, locals := 48 } : Room) s m args below meth c H locs 0 0 (MQ below (Q_Tokens_keepRun K D ca ad L r F9 B9 A) args s 0 0 A) (F0 m 57 ls [.int (iI s1), .int (iI s0)]) := by
  obtain ⟨hx, hb, hr, hml, hown, hts, hlk, hK, hA, hL, hX⟩ := id X
  replace hf : (rec9 (l7 + 1) (s0 + s1) l5 l0 l1 l2 l3 l4 F B) = some (r, F9, B9) := hf
  refine zadd hx hb (D_96 W_prog_12_method_7_code_32 25 rfl rfl) ?_
  refine lv_istore (lv' := [(6, .int (iI (s0 + s1))), (5, .int (iI l5)), (7, .int (iI l7)), (0, .ref (ad 10 l0 0)), (1, .ref (ad 0 l1 0)), (2, .int (iI l2)), (3, .int (iI l3)), (4, .int (iI l4))]) hx hb (D_54 W_prog_12_method_7_code_32 26 rfl rfl) hl (by decide) rfl (fun ls hl => ?_)
  refine lv_iinc (v := iI (l7 + 1)) (lv' := [(7, .int (iI (l7 + 1))), (6, .int (iI (s0 + s1))), (5, .int (iI l5)), (0, .ref (ad 10 l0 0)), (1, .ref (ad 0 l1 0)), (2, .int (iI l2)), (3, .int (iI l3)), (4, .int (iI l4))]) hx hb d_12_7_60 hl (k := 2) rfl (iI_add _ 1) (by decide) rfl (fun ls hl => ?_)
  refine lv_goto (tgt := 9) hx hb (D_167 W_prog_12_method_7_code_32 31 rfl rfl rfl) (by decide) ?_
  exact hrec9 hf hZ hS (lv_sub hl [0, 1, 2, 3, 4, 5, 6, 7] rfl)

def f_Tokens_keepRun_35 (rec9 : Int → Int → Int → Int → Int → Int → Int → Int → zF → zB → zO) (K : zK) (l7 : Int) (l6 : Int) (l0 : Int) (l1 : Int) (l2 : Int) (l3 : Int) (l4 : Int) (s0 : Int) (s1 : Int) (F : zF) (B : zB) : zO := if 0 ≤ l1 ∧ l1 < K.2 0 then zbind (f_ByteRow_at K l1 l7 F B) (fun r27 F27 B27 => zbind (f_Tokens_isDigit K r27 F27 B27) (fun r28 F28 B28 => if r32 r28 then (if r28 = 0 then f_Tokens_keepRun_57 rec9 K (s0 + s1) l7 l0 l1 l2 l3 l4 l6 0 F28 B28 else f_Tokens_keepRun_57 rec9 K (s0 + s1) l7 l0 l1 l2 l3 l4 l6 1 F28 B28) else none)) else none
set_option maxHeartbeats 4000000 in
set_option maxRecDepth 100000 in
theorem b_Tokens_keepRun_35 {D : va_G} {ca : Nat → ClassId} {ad : Nat → Int → Nat → Nat} {L : List Nat} {aS vS : Nat → Nat} {A : Nat → Prop} {p : Program} {l : Launch} {e : Env} {s : State} {m : MethodId} {args : Array Value} {below : List Frame} {meth : Method} {c : Code} {K : zK} {r : Int} {F9 : zF} {B9 : zB} (X : zX D ca L aS vS A p s m args meth c prog_12_method_7_code 8 (Option.none : Option Jvm.ClassFile.FieldType) "StaveHouse$Tokens") {rec9 : Int → Int → Int → Int → Int → Int → Int → Int → zF → zB → zO} (hrec9 : ∀ {l7 : Int} {l6 : Int} {l5 : Int} {l0 : Int} {l1 : Int} {l2 : Int} {l3 : Int} {l4 : Int} {F : zF} {B : zB} {H : Heap} {locs : List Loc} {ls : Array Slot}, rec9 l7 l6 l5 l0 l1 l2 l3 l4 F B = some (r, F9, B9) → zH D ca ad lnC K.2 L F B A H → va_S A s.heap H locs → lv_has ls 8 [(7, .int (iI l7)), (6, .int (iI l6)), (5, .int (iI l5)), (0, .ref (ad 10 l0 0)), (1, .ref (ad 0 l1 0)), (2, .int (iI l2)), (3, .int (iI l3)), (4, .int (iI l4))] → W p l e ({ frames := 2, cells := 0, slots := 0, locals := 48 } : Room) s m args below meth c H locs 0 0 (MQ below (Q_Tokens_keepRun K D ca ad L r F9 B9 A) args s 0 0 A) (F0 m 9 ls [])) {l7 : Int} {l6 : Int} {l0 : Int} {l1 : Int} {l2 : Int} {l3 : Int} {l4 : Int} {s0 : Int} {s1 : Int} {F : zF} {B : zB} {H : Heap} {locs : List Loc} {ls : Array Slot} (hf : f_Tokens_keepRun_35 rec9 K l7 l6 l0 l1 l2 l3 l4 s0 s1 F B = some (r, F9, B9)) (hZ : zH D ca ad lnC K.2 L F B A H) (hS : va_S A s.heap H locs) (hl : lv_has ls 8 [(7, .int (iI l7)), (6, .int (iI l6)), (0, .ref (ad 10 l0 0)), (1, .ref (ad 0 l1 0)), (2, .int (iI l2)), (3, .int (iI l3)), (4, .int (iI l4))]) : W p l e ({ frames := 2, cells := 0, slots := 0, locals := 48 } : Room) s m args below meth c H locs 0 0 (MQ below (Q_Tokens_keepRun K D ca ad L r F9 B9 A) args s 0 0 A) (F0 m 35 ls [.int (iI s1), .int (iI s0)]) := by
  obtain ⟨hx, hb, hr, hml, hown, hts, hlk, hK, hA, hL, hX⟩ := id X
  replace hf : (if 0 ≤ l1 ∧ l1 < K.2 0 then zbind (f_ByteRow_at K l1 l7 F B) (fun r27 F27 B27 => zbind (f_Tokens_isDigit K r27 F27 B27) (fun r28 F28 B28 => if r32 r28 then (if r28 = 0 then f_Tokens_keepRun_57 rec9 K (s0 + s1) l7 l0 l1 l2 l3 l4 l6 0 F28 B28 else f_Tokens_keepRun_57 rec9 K (s0 + s1) l7 l0 l1 l2 l3 l4 l6 1 F28 B28) else none)) else none) = some (r, F9, B9) := hf
  refine zadd hx hb (D_96 W_prog_12_method_7_code_32 3 rfl rfl) ?_
  refine lv_istore (lv' := [(5, .int (iI (s0 + s1))), (7, .int (iI l7)), (6, .int (iI l6)), (0, .ref (ad 10 l0 0)), (1, .ref (ad 0 l1 0)), (2, .int (iI l2)), (3, .int (iI l3)), (4, .int (iI l4))]) hx hb (D_54 W_prog_12_method_7_code_32 4 rfl rfl) hl (by decide) rfl (fun ls hl => ?_)
  refine lv_iload hx hb (D_21 W_prog_12_method_7_code_32 6 rfl rfl) (lv_at hl 2 rfl) ?_
  refine lv_aload_n hx hb (D_43 W_prog_12_method_7_code_32 8 rfl rfl) rfl (lv_at hl 4 rfl) ?_
  refine lv_iload hx hb (D_21 W_prog_12_method_7_code_32 9 rfl rfl) (lv_at hl 1 rfl) ?_
  obtain ⟨g26, hf⟩ := gif hf
  obtain ⟨r27, F27, B27, hc27, hf⟩ := gbind hf
  refine va_calli (va_runV (As := [.int (iI l7)]) (rest := [.int (iI l6)]) ⟨hx, hb, hml, hown, hts⟩ (c_ByteRow_at (l := l) hc27) (cwV 1 hts (gdV k_3_34 k_3_35 k_3_36 k_1_2 k_3_37) rfl rfl rfl (by decide +kernel) ⟨Nat.le_of_ble_eq_true rfl, Nat.le_of_ble_eq_true rfl⟩) (zPV X hZ hS (ci := 0) g26.1 g26.2 (r := (RX0, TX0, 3)) rfl [.int (iI l7)]) rfl rfl hl.1 rfl (lv_room (Nat.le_of_ble_eq_true rfl)) (D_182 W_prog_12_method_7_code_32 11 rfl rfl rfl) ⟨Nat.le_of_ble_eq_true rfl, Nat.le_of_ble_eq_true rfl⟩) hS (fun q _ h => zAin X hS q h) (zAin X hS) (fun p27 u27 t27 H27 locs27 ht27 hv27 hw27 hB27 hz27 hk27 hS27 => ?_)
  have hZ27 := zBack X ht27 hB27
  subst hw27
  obtain ⟨r28, F28, B28, hc28, hf⟩ := gbind hf
  refine va_calli (va_runS (As := [.int (iI r27)]) (rest := [.int (iI l6)]) ⟨hx, hb, hml, hown, hts⟩ (c_Tokens_isDigit (l := l) hc28) (va_cwS 1 hts (gdS k_3_47 k_3_48 k_1_5 k_3_49) rfl rfl rfl (by decide +kernel) ⟨Nat.le_of_ble_eq_true rfl, Nat.le_of_ble_eq_true rfl⟩) (zPS X hZ27 hS27 [.int (iI r27)]) rfl rfl hl.1 rfl (lv_room (Nat.le_of_ble_eq_true rfl)) (D_184 W_prog_12_method_7_code_32 14 rfl rfl rfl) ⟨Nat.le_of_ble_eq_true rfl, Nat.le_of_ble_eq_true rfl⟩) hS27 (fun q _ h => zAin X hS27 q h) (zAin X hS27) (fun p28 u28 t28 H28 locs28 ht28 hv28 hw28 hB28 hz28 hk28 hS28 => ?_)
  have hZ28 := zBack X ht28 hB28
  subst hw28
  obtain ⟨g29, hf⟩ := gif hf
  refine z0eq (tgt := 56) hx hb g29 (D_153 W_prog_12_method_7_code_32 17 rfl rfl rfl) (by decide) (fun h30 => ?_) (fun h30 => ?_)
  · replace hf := gpos hf h30
    refine lv_iconst (v := iI 0) hx hb (D_3 W_prog_12_method_7_code_32 24 rfl rfl) rfl ?_
    exact b_Tokens_keepRun_57 X hrec9 hf hZ28 hS28 (lv_sub hl [0, 1, 3, 4, 5, 6, 7] rfl)
  · replace hf := gneg hf h30
    refine lv_iconst (v := iI 1) hx hb (D_4 W_prog_12_method_7_code_32 20 rfl rfl) rfl ?_
    refine lv_goto (tgt := 57) hx hb (D_167 W_prog_12_method_7_code_32 21 rfl rfl rfl) (by decide) ?_
    exact b_Tokens_keepRun_57 X hrec9 hf hZ28 hS28 (lv_sub hl [0, 1, 3, 4, 5, 6, 7] rfl)

def f_Tokens_keepRun_9 (K : zK) : Nat → Int → Int → Int → Int → Int → Int → Int → Int → zF → zB → zO
  | 0, _, _, _, _, _, _, _, _, _, _ => none
  | n + 1, l7, l6, l5, l0, l1, l2, l3, l4, F, B => if r32 l7 then if r32 l4 then (if l4 ≤ l7 then if 0 ≤ l0 ∧ l0 < K.2 10 then if 0 ≤ l2 ∧ l2 < 3001 then zbind (f_Tokens_isPitch K l1 l3 (l4 - l3) F (zup4 (zup4 B 10 l0 5 l2 1) 10 l0 7 l2 0)) (fun r8 F8 B8 => if r32 r8 then (if r8 = 0 then if r32 l6 then if r32 (l4 - l3) then (if l6 = (l4 - l3) then (if 4 < (l4 - l3) then f_Tokens_keepRun_159 K (l4 - l3) l5 l0 l1 l2 l3 F8 B8 else zbind (f_Tokens_joined K l1 l3 (l4 - l3) 10 48 F8 (zup4 B8 10 l0 5 l2 3)) (fun r16 F16 B16 => f_Tokens_keepRun_197 K F16 (zup4 B16 10 l0 7 l2 r16))) else f_Tokens_keepRun_159 K (l4 - l3) l5 l0 l1 l2 l3 F8 B8) else none else none else zbind (f_Tokens_pitchValue K l1 l3 (l4 - l3) F8 (zup4 B8 10 l0 5 l2 2)) (fun r19 F19 B19 => f_Tokens_keepRun_197 K F19 (zup4 B19 10 l0 7 l2 r19))) else none) else none else none else if 0 ≤ l1 ∧ l1 < K.2 0 then zbind (f_ByteRow_at K l1 l7 F B) (fun r22 F22 B22 => zbind (f_Tokens_isLetter K r22 F22 B22) (fun r23 F23 B23 => if r32 r23 then (if r23 = 0 then f_Tokens_keepRun_35 (f_Tokens_keepRun_9 K n) K l7 l6 l0 l1 l2 l3 l4 l5 0 F23 B23 else f_Tokens_keepRun_35 (f_Tokens_keepRun_9 K n) K l7 l6 l0 l1 l2 l3 l4 l5 1 F23 B23) else none)) else none) else none else none
set_option maxHeartbeats 4000000 in
set_option maxRecDepth 100000 in
theorem b_Tokens_keepRun_9 {D : va_G} {ca : Nat → ClassId} {ad : Nat → Int → Nat → Nat} {L : List Nat} {aS vS : Nat → Nat} {A : Nat → Prop} {p : Program} {l : Launch} {e : Env} {s : State} {m : MethodId} {args : Array Value} {below : List Frame} {meth : Method} {c : Code} {K : zK} {r : Int} {F9 : zF} {B9 : zB} (X : zX D ca L aS vS A p s m args meth c prog_12_method_7_code 8 (Option.none : Option Jvm.ClassFile.FieldType) "StaveHouse$Tokens") : ∀ {n : Nat} {l7 : Int} {l6 : Int} {l5 : Int} {l0 : Int} {l1 : Int} {l2 : Int} {l3 : Int} {l4 : Int} {F : zF} {B : zB} {H : Heap} {locs : List Loc} {ls : Array Slot}, f_Tokens_keepRun_9 K n l7 l6 l5 l0 l1 l2 l3 l4 F B = some (r, F9, B9) → zH D ca ad lnC K.2 L F B A H → va_S A s.heap H locs → lv_has ls 8 [(7, .int (iI l7)), (6, .int (iI l6)), (5, .int (iI l5)), (0, .ref (ad 10 l0 0)), (1, .ref (ad 0 l1 0)), (2, .int (iI l2)), (3, .int (iI l3)), (4, .int (iI l4))] → W p l e ({ frames := 2, cells := 0, slots := 0, locals := 48 } : Room) s m args below meth c H locs 0 0 (MQ below (Q_Tokens_keepRun K D ca ad L r F9 B9 A) args s 0 0 A) (F0 m 9 ls []) := by
  obtain ⟨hx, hb, hr, hml, hown, hts, hlk, hK, hA, hL, hX⟩ := id X
  intro n
  induction n with
  | zero =>
    intros
    rename_i hf _ _ _
    cases hf
  | succ n ih =>
    intro l7 l6 l5 l0 l1 l2 l3 l4 F B H locs ls hf hZ hS hl
    replace hf : (if r32 l7 then if r32 l4 then (if l4 ≤ l7 then if 0 ≤ l0 ∧ l0 < K.2 10 then if 0 ≤ l2 ∧ l2 < 3001 then zbind (f_Tokens_isPitch K l1 l3 (l4 - l3) F (zup4 (zup4 B 10 l0 5 l2 1) 10 l0 7 l2 0)) (fun r8 F8 B8 => if r32 r8 then (if r8 = 0 then if r32 l6 then if r32 (l4 - l3) then (if l6 = (l4 - l3) then (if 4 < (l4 - l3) then f_Tokens_keepRun_159 K (l4 - l3) l5 l0 l1 l2 l3 F8 B8 else zbind (f_Tokens_joined K l1 l3 (l4 - l3) 10 48 F8 (zup4 B8 10 l0 5 l2 3)) (fun r16 F16 B16 => f_Tokens_keepRun_197 K F16 (zup4 B16 10 l0 7 l2 r16))) else f_Tokens_keepRun_159 K (l4 - l3) l5 l0 l1 l2 l3 F8 B8) else none else none else zbind (f_Tokens_pitchValue K l1 l3 (l4 - l3) F8 (zup4 B8 10 l0 5 l2 2)) (fun r19 F19 B19 => f_Tokens_keepRun_197 K F19 (zup4 B19 10 l0 7 l2 r19))) else none) else none else none else if 0 ≤ l1 ∧ l1 < K.2 0 then zbind (f_ByteRow_at K l1 l7 F B) (fun r22 F22 B22 => zbind (f_Tokens_isLetter K r22 F22 B22) (fun r23 F23 B23 => if r32 r23 then (if r23 = 0 then f_Tokens_keepRun_35 (f_Tokens_keepRun_9 K n) K l7 l6 l0 l1 l2 l3 l4 l5 0 F23 B23 else f_Tokens_keepRun_35 (f_Tokens_keepRun_9 K n) K l7 l6 l0 l1 l2 l3 l4 l5 1 F23 B23) else none)) else none) else none else none) = some (r, F9, B9) := hf
    refine lv_iload hx hb (D_21 W_prog_12_method_7_code_0 9 rfl rfl) (lv_at hl 0 rfl) ?_
    refine lv_iload hx hb (D_21 W_prog_12_method_7_code_0 11 rfl rfl) (lv_at hl 7 rfl) ?_
    obtain ⟨g1, hf⟩ := gif hf
    obtain ⟨g2, hf⟩ := gif hf
    refine zge (tgt := 66) hx hb g1 g2 (D_162 W_prog_12_method_7_code_0 13 rfl rfl rfl) (by decide) (fun h3 => ?_) (fun h3 => ?_)
    · replace hf := gpos hf h3
      refine lv_iload hx hb (D_21 W_prog_12_method_7_code_64 2 rfl rfl) (lv_at hl 7 rfl) ?_
      refine lv_iload_n hx hb (D_29 W_prog_12_method_7_code_64 4 rfl rfl) rfl (lv_at hl 6 rfl) ?_
      refine zsub hx hb (D_100 W_prog_12_method_7_code_64 5 rfl rfl) ?_
      refine lv_istore (lv' := [(7, .int (iI (l4 - l3))), (6, .int (iI l6)), (5, .int (iI l5)), (0, .ref (ad 10 l0 0)), (1, .ref (ad 0 l1 0)), (2, .int (iI l2)), (3, .int (iI l3)), (4, .int (iI l4))]) hx hb (D_54 W_prog_12_method_7_code_64 6 rfl rfl) hl (by decide) rfl (fun ls hl => ?_)
      refine lv_aload_n hx hb (D_42 W_prog_12_method_7_code_64 8 rfl rfl) rfl (lv_at hl 3 rfl) ?_
      obtain ⟨g4, hf⟩ := gif hf
      refine zget (ci := 10) (C := RX10) (T := TX10) (v := .ref (ad 10 l0 (5 + 1))) (k := 5) hx hb hts inW_10 hown hK hZ g4.1 g4.2 rfl (by decide) k_1_82 rfl (D_180 W_prog_12_method_7_code_64 9 rfl rfl rfl) ?_
      refine lv_iload_n hx hb (D_28 W_prog_12_method_7_code_64 12 rfl rfl) rfl (lv_at hl 5 rfl) ?_
      refine lv_iconst (v := iI 1) hx hb (D_4 W_prog_12_method_7_code_64 13 rfl rfl) rfl ?_
      obtain ⟨g5, hf⟩ := gif hf
      refine zast (ci := 10) (k := 5) hx hb hK rfl hZ hS g4.1 g4.2 rfl (Nat.le_of_ble_eq_true rfl) g5.1 g5.2 (D_79 W_prog_12_method_7_code_64 14 rfl rfl) (fun H6 locs6 hZ6 hS6 => ?_)
      refine lv_aload_n hx hb (D_42 W_prog_12_method_7_code_64 15 rfl rfl) rfl (lv_at hl 3 rfl) ?_
      refine zget (ci := 10) (C := RX10) (T := TX10) (v := .ref (ad 10 l0 (7 + 1))) (k := 7) hx hb hts inW_10 hown hK hZ6 g4.1 g4.2 rfl (by decide) k_1_84 rfl (D_180 W_prog_12_method_7_code_64 16 rfl rfl rfl) ?_
      refine lv_iload_n hx hb (D_28 W_prog_12_method_7_code_64 19 rfl rfl) rfl (lv_at hl 5 rfl) ?_
      refine lv_lconst (v := lI 0) hx hb (D_9 W_prog_12_method_7_code_64 20 rfl rfl) (by decide) ?_
      refine zlast (ci := 10) (k := 7) hx hb hK rfl hZ6 hS6 g4.1 g4.2 rfl (Nat.le_of_ble_eq_true rfl) g5.1 g5.2 (D_80 W_prog_12_method_7_code_64 21 rfl rfl) (fun H7 locs7 hZ7 hS7 => ?_)
      refine lv_aload_n hx hb (D_43 W_prog_12_method_7_code_64 22 rfl rfl) rfl (lv_at hl 4 rfl) ?_
      refine lv_iload_n hx hb (D_29 W_prog_12_method_7_code_64 23 rfl rfl) rfl (lv_at hl 6 rfl) ?_
      refine lv_iload hx hb (D_21 W_prog_12_method_7_code_64 24 rfl rfl) (lv_at hl 0 rfl) ?_
      obtain ⟨r8, F8, B8, hc8, hf⟩ := gbind hf
      refine va_calli (va_runS (As := [.ref (ad 0 l1 0), .int (iI l3), .int (iI (l4 - l3))]) (rest := []) ⟨hx, hb, hml, hown, hts⟩ (c_Tokens_isPitch (l := l) hc8) (va_cwS 3 hts (gdS k_3_57 k_3_58 k_1_5 k_3_59) rfl rfl rfl (by decide +kernel) ⟨Nat.le_of_ble_eq_true rfl, Nat.le_of_ble_eq_true rfl⟩) (zPS X hZ7 hS7 [.ref (ad 0 l1 0), .int (iI l3), .int (iI (l4 - l3))]) rfl rfl hl.1 rfl (lv_room (Nat.le_of_ble_eq_true rfl)) (D_184 W_prog_12_method_7_code_64 26 rfl rfl rfl) ⟨Nat.le_of_ble_eq_true rfl, Nat.le_of_ble_eq_true rfl⟩) hS7 (fun q _ h => zAin X hS7 q h) (zAin X hS7) (fun p8 u8 t8 H8 locs8 ht8 hv8 hw8 hB8 hz8 hk8 hS8 => ?_)
      have hZ8 := zBack X ht8 hB8
      subst hw8
      obtain ⟨g9, hf⟩ := gif hf
      refine z0eq (tgt := 119) hx hb g9 (D_153 W_prog_12_method_7_code_64 29 rfl rfl rfl) (by decide) (fun h10 => ?_) (fun h10 => ?_)
      · replace hf := gpos hf h10
        refine lv_iload hx hb (D_21 W_prog_12_method_7_code_96 23 rfl rfl) (lv_at hl 1 rfl) ?_
        refine lv_iload hx hb (D_21 W_prog_12_method_7_code_96 25 rfl rfl) (lv_at hl 0 rfl) ?_
        obtain ⟨g11, hf⟩ := gif hf
        obtain ⟨g12, hf⟩ := gif hf
        refine zne (tgt := 159) hx hb g11 g12 (D_160 W_prog_12_method_7_code_96 27 rfl rfl rfl) (by decide) (fun h13 => ?_) (fun h13 => ?_)
        · replace hf := gneg hf h13
          exact b_Tokens_keepRun_159 X hf hZ8 hS8 (lv_sub hl [0, 2, 3, 4, 5, 6] rfl)
        · replace hf := gpos hf h13
          refine lv_iload hx hb (D_21 W_prog_12_method_7_code_96 30 rfl rfl) (lv_at hl 0 rfl) ?_
          refine lv_iconst (v := iI 4) hx hb (D_7 W_prog_12_method_7_code_128 0 rfl rfl) rfl ?_
          refine zgt (tgt := 159) hx hb g12 (by decide) (D_163 W_prog_12_method_7_code_128 1 rfl rfl rfl) (by decide) (fun h14 => ?_) (fun h14 => ?_)
          · replace hf := gpos hf h14
            exact b_Tokens_keepRun_159 X hf hZ8 hS8 (lv_sub hl [0, 2, 3, 4, 5, 6] rfl)
          · replace hf := gneg hf h14
            refine lv_aload_n hx hb (D_42 W_prog_12_method_7_code_128 4 rfl rfl) rfl (lv_at hl 3 rfl) ?_
            refine zget (ci := 10) (C := RX10) (T := TX10) (v := .ref (ad 10 l0 (5 + 1))) (k := 5) hx hb hts inW_10 hown hK hZ8 g4.1 g4.2 rfl (by decide) k_1_82 rfl (D_180 W_prog_12_method_7_code_128 5 rfl rfl rfl) ?_
            refine lv_iload_n hx hb (D_28 W_prog_12_method_7_code_128 8 rfl rfl) rfl (lv_at hl 5 rfl) ?_
            refine lv_iconst (v := iI 3) hx hb (D_6 W_prog_12_method_7_code_128 9 rfl rfl) rfl ?_
            refine zast (ci := 10) (k := 5) hx hb hK rfl hZ8 hS8 g4.1 g4.2 rfl (Nat.le_of_ble_eq_true rfl) g5.1 g5.2 (D_79 W_prog_12_method_7_code_128 10 rfl rfl) (fun H15 locs15 hZ15 hS15 => ?_)
            refine lv_aload_n hx hb (D_42 W_prog_12_method_7_code_128 11 rfl rfl) rfl (lv_at hl 3 rfl) ?_
            refine zget (ci := 10) (C := RX10) (T := TX10) (v := .ref (ad 10 l0 (7 + 1))) (k := 7) hx hb hts inW_10 hown hK hZ15 g4.1 g4.2 rfl (by decide) k_1_84 rfl (D_180 W_prog_12_method_7_code_128 12 rfl rfl rfl) ?_
            refine lv_iload_n hx hb (D_28 W_prog_12_method_7_code_128 15 rfl rfl) rfl (lv_at hl 5 rfl) ?_
            refine lv_aload_n hx hb (D_43 W_prog_12_method_7_code_128 16 rfl rfl) rfl (lv_at hl 4 rfl) ?_
            refine lv_iload_n hx hb (D_29 W_prog_12_method_7_code_128 17 rfl rfl) rfl (lv_at hl 6 rfl) ?_
            refine lv_iload hx hb (D_21 W_prog_12_method_7_code_128 18 rfl rfl) (lv_at hl 0 rfl) ?_
            refine lv_bipush (v := iI 10) hx hb (D_16 W_prog_12_method_7_code_128 20 rfl rfl rfl) (by decide) ?_
            refine lv_bipush (v := iI 48) hx hb (D_16 W_prog_12_method_7_code_128 22 rfl rfl rfl) (by decide) ?_
            obtain ⟨r16, F16, B16, hc16, hf⟩ := gbind hf
            refine va_calll (va_runS (As := [.ref (ad 0 l1 0), .int (iI l3), .int (iI (l4 - l3)), .int (iI 10), .int (iI 48)]) (rest := [.int (iI l2), .ref (ad 10 l0 (7 + 1))]) ⟨hx, hb, hml, hown, hts⟩ (c_Tokens_joined (l := l) hc16) (va_cwS 5 hts (gdS k_3_63 k_3_64 k_1_5 k_3_65) rfl rfl rfl (by decide +kernel) ⟨Nat.le_of_ble_eq_true rfl, Nat.le_of_ble_eq_true rfl⟩) (zPS X hZ15 hS15 [.ref (ad 0 l1 0), .int (iI l3), .int (iI (l4 - l3)), .int (iI 10), .int (iI 48)]) rfl rfl hl.1 rfl (lv_room (Nat.le_of_ble_eq_true rfl)) (D_184 W_prog_12_method_7_code_128 24 rfl rfl rfl) ⟨Nat.le_of_ble_eq_true rfl, Nat.le_of_ble_eq_true rfl⟩) hS15 (fun q _ h => zAin X hS15 q h) (zAin X hS15) (fun p16 u16 t16 H16 locs16 ht16 hv16 hw16 hB16 hz16 hk16 hS16 => ?_)
            have hZ16 := zBack X ht16 hB16
            subst hw16
            refine zlast (ci := 10) (k := 7) hx hb hK rfl hZ16 hS16 g4.1 g4.2 rfl (Nat.le_of_ble_eq_true rfl) g5.1 g5.2 (D_80 W_prog_12_method_7_code_128 27 rfl rfl) (fun H17 locs17 hZ17 hS17 => ?_)
            refine lv_goto (tgt := 197) hx hb (D_167 W_prog_12_method_7_code_128 28 rfl rfl rfl) (by decide) ?_
            exact b_Tokens_keepRun_197 X hf hZ17 hS17 (lv_sub hl [] rfl)
      · replace hf := gneg hf h10
        refine lv_aload_n hx hb (D_42 W_prog_12_method_7_code_96 0 rfl rfl) rfl (lv_at hl 3 rfl) ?_
        refine zget (ci := 10) (C := RX10) (T := TX10) (v := .ref (ad 10 l0 (5 + 1))) (k := 5) hx hb hts inW_10 hown hK hZ8 g4.1 g4.2 rfl (by decide) k_1_82 rfl (D_180 W_prog_12_method_7_code_96 1 rfl rfl rfl) ?_
        refine lv_iload_n hx hb (D_28 W_prog_12_method_7_code_96 4 rfl rfl) rfl (lv_at hl 5 rfl) ?_
        refine lv_iconst (v := iI 2) hx hb (D_5 W_prog_12_method_7_code_96 5 rfl rfl) rfl ?_
        refine zast (ci := 10) (k := 5) hx hb hK rfl hZ8 hS8 g4.1 g4.2 rfl (Nat.le_of_ble_eq_true rfl) g5.1 g5.2 (D_79 W_prog_12_method_7_code_96 6 rfl rfl) (fun H18 locs18 hZ18 hS18 => ?_)
        refine lv_aload_n hx hb (D_42 W_prog_12_method_7_code_96 7 rfl rfl) rfl (lv_at hl 3 rfl) ?_
        refine zget (ci := 10) (C := RX10) (T := TX10) (v := .ref (ad 10 l0 (7 + 1))) (k := 7) hx hb hts inW_10 hown hK hZ18 g4.1 g4.2 rfl (by decide) k_1_84 rfl (D_180 W_prog_12_method_7_code_96 8 rfl rfl rfl) ?_
        refine lv_iload_n hx hb (D_28 W_prog_12_method_7_code_96 11 rfl rfl) rfl (lv_at hl 5 rfl) ?_
        refine lv_aload_n hx hb (D_43 W_prog_12_method_7_code_96 12 rfl rfl) rfl (lv_at hl 4 rfl) ?_
        refine lv_iload_n hx hb (D_29 W_prog_12_method_7_code_96 13 rfl rfl) rfl (lv_at hl 6 rfl) ?_
        refine lv_iload hx hb (D_21 W_prog_12_method_7_code_96 14 rfl rfl) (lv_at hl 0 rfl) ?_
        obtain ⟨r19, F19, B19, hc19, hf⟩ := gbind hf
        refine va_calll (va_runS (As := [.ref (ad 0 l1 0), .int (iI l3), .int (iI (l4 - l3))]) (rest := [.int (iI l2), .ref (ad 10 l0 (7 + 1))]) ⟨hx, hb, hml, hown, hts⟩ (c_Tokens_pitchValue (l := l) hc19) (va_cwS 3 hts (gdS k_3_60 k_3_61 k_1_5 k_3_62) rfl rfl rfl (by decide +kernel) ⟨Nat.le_of_ble_eq_true rfl, Nat.le_of_ble_eq_true rfl⟩) (zPS X hZ18 hS18 [.ref (ad 0 l1 0), .int (iI l3), .int (iI (l4 - l3))]) rfl rfl hl.1 rfl (lv_room (Nat.le_of_ble_eq_true rfl)) (D_184 W_prog_12_method_7_code_96 16 rfl rfl rfl) ⟨Nat.le_of_ble_eq_true rfl, Nat.le_of_ble_eq_true rfl⟩) hS18 (fun q _ h => zAin X hS18 q h) (zAin X hS18) (fun p19 u19 t19 H19 locs19 ht19 hv19 hw19 hB19 hz19 hk19 hS19 => ?_)
        have hZ19 := zBack X ht19 hB19
        subst hw19
        refine zlast (ci := 10) (k := 7) hx hb hK rfl hZ19 hS19 g4.1 g4.2 rfl (Nat.le_of_ble_eq_true rfl) g5.1 g5.2 (D_80 W_prog_12_method_7_code_96 19 rfl rfl) (fun H20 locs20 hZ20 hS20 => ?_)
        refine lv_goto (tgt := 197) hx hb (D_167 W_prog_12_method_7_code_96 20 rfl rfl rfl) (by decide) ?_
        exact b_Tokens_keepRun_197 X hf hZ20 hS20 (lv_sub hl [] rfl)
    · replace hf := gneg hf h3
      refine lv_iload hx hb (D_21 W_prog_12_method_7_code_0 16 rfl rfl) (lv_at hl 2 rfl) ?_
      refine lv_aload_n hx hb (D_43 W_prog_12_method_7_code_0 18 rfl rfl) rfl (lv_at hl 4 rfl) ?_
      refine lv_iload hx hb (D_21 W_prog_12_method_7_code_0 19 rfl rfl) (lv_at hl 0 rfl) ?_
      obtain ⟨g21, hf⟩ := gif hf
      obtain ⟨r22, F22, B22, hc22, hf⟩ := gbind hf
      refine va_calli (va_runV (As := [.int (iI l7)]) (rest := [.int (iI l5)]) ⟨hx, hb, hml, hown, hts⟩ (c_ByteRow_at (l := l) hc22) (cwV 1 hts (gdV k_3_34 k_3_35 k_3_36 k_1_2 k_3_37) rfl rfl rfl (by decide +kernel) ⟨Nat.le_of_ble_eq_true rfl, Nat.le_of_ble_eq_true rfl⟩) (zPV X hZ hS (ci := 0) g21.1 g21.2 (r := (RX0, TX0, 3)) rfl [.int (iI l7)]) rfl rfl hl.1 rfl (lv_room (Nat.le_of_ble_eq_true rfl)) (D_182 W_prog_12_method_7_code_0 21 rfl rfl rfl) ⟨Nat.le_of_ble_eq_true rfl, Nat.le_of_ble_eq_true rfl⟩) hS (fun q _ h => zAin X hS q h) (zAin X hS) (fun p22 u22 t22 H22 locs22 ht22 hv22 hw22 hB22 hz22 hk22 hS22 => ?_)
      have hZ22 := zBack X ht22 hB22
      subst hw22
      obtain ⟨r23, F23, B23, hc23, hf⟩ := gbind hf
      refine va_calli (va_runS (As := [.int (iI r22)]) (rest := [.int (iI l5)]) ⟨hx, hb, hml, hown, hts⟩ (c_Tokens_isLetter (l := l) hc23) (va_cwS 1 hts (gdS k_3_44 k_3_45 k_1_5 k_3_46) rfl rfl rfl (by decide +kernel) ⟨Nat.le_of_ble_eq_true rfl, Nat.le_of_ble_eq_true rfl⟩) (zPS X hZ22 hS22 [.int (iI r22)]) rfl rfl hl.1 rfl (lv_room (Nat.le_of_ble_eq_true rfl)) (D_184 W_prog_12_method_7_code_0 24 rfl rfl rfl) ⟨Nat.le_of_ble_eq_true rfl, Nat.le_of_ble_eq_true rfl⟩) hS22 (fun q _ h => zAin X hS22 q h) (zAin X hS22) (fun p23 u23 t23 H23 locs23 ht23 hv23 hw23 hB23 hz23 hk23 hS23 => ?_)
      have hZ23 := zBack X ht23 hB23
      subst hw23
      obtain ⟨g24, hf⟩ := gif hf
      refine z0eq (tgt := 34) hx hb g24 (D_153 W_prog_12_method_7_code_0 27 rfl rfl rfl) (by decide) (fun h25 => ?_) (fun h25 => ?_)
      · replace hf := gpos hf h25
        refine lv_iconst (v := iI 0) hx hb (D_3 W_prog_12_method_7_code_32 2 rfl rfl) rfl ?_
        exact b_Tokens_keepRun_35 X ih hf hZ23 hS23 (lv_sub hl [0, 1, 3, 4, 5, 6, 7] rfl)
      · replace hf := gneg hf h25
        refine lv_iconst (v := iI 1) hx hb (D_4 W_prog_12_method_7_code_0 30 rfl rfl) rfl ?_
        refine lv_goto (tgt := 35) hx hb (D_167 W_prog_12_method_7_code_0 31 rfl rfl rfl) (by decide) ?_
        exact b_Tokens_keepRun_35 X ih hf hZ23 hS23 (lv_sub hl [0, 1, 3, 4, 5, 6, 7] rfl)

def f_Tokens_keepRun (K : zK) (l0 : Int) (l1 : Int) (l2 : Int) (l3 : Int) (l4 : Int) (F : zF) (B : zB) : zO := f_Tokens_keepRun_9 K K.1 l3 0 0 l0 l1 l2 l3 l4 F B
set_option maxHeartbeats 4000000 in
set_option maxRecDepth 100000 in
theorem c_Tokens_keepRun {l : Launch} {D : va_G} {ca : Nat → ClassId} {ad : Nat → Int → Nat → Nat} {L : List Nat} {aS vS : Nat → Nat} {sz : Nat} {K : zK}  {l0 : Int} {l1 : Int} {l2 : Int} {l3 : Int} {l4 : Int} {F F9 : zF} {B B9 : zB} {r : Int} (hf : f_Tokens_keepRun K l0 l1 l2 l3 l4 F B = some (r, F9, B9)) : Met l ({ cls := "StaveHouse$Tokens", name := "keepRun", desc := "(LStaveHouse$ByteRow;III)V" } : Jvm.MethodName) (Cond.code ({ cls := "StaveHouse$Tokens", name := "keepRun", desc := "(LStaveHouse$ByteRow;III)V" } : Jvm.MethodName) prog_12_method_7_code 8 (Option.none : Option Jvm.ClassFile.FieldType) :: wAll) ({ frames := 2, cells := 0, slots := 0, locals := 48 } : Room) (va_Pc [.ref (ad 10 l0 0), .ref (ad 0 l1 0), .int (iI l2), .int (iI l3), .int (iI l4)] (zPre D ca ad lnC K.2 L aS vS F B sz)) (Q_Tokens_keepRun K D ca ad L r F9 B9 (zA L sz)) 0 0 (zA L sz) := by
  refine zMet (Qc := Q_Tokens_keepRun K D ca ad L r F9 B9) (lv := [(0, .ref (ad 10 l0 0)), (1, .ref (ad 0 l1 0)), (2, .int (iI l2)), (3, .int (iI l3)), (4, .int (iI l4))]) (by decide) (Nat.le_of_ble_eq_true rfl) rfl (fun A p e s m below meth c ls X hZ hS hl => ?_)
  obtain ⟨hx, hb, hr, hml, hown, hts, hlk, hK, hA, hL, hX⟩ := id X
  replace hf : (f_Tokens_keepRun_9 K K.1 l3 0 0 l0 l1 l2 l3 l4 F B) = some (r, F9, B9) := hf
  refine lv_iconst (v := iI 0) hx hb (D_3 W_prog_12_method_7_code_0 0 rfl rfl) rfl ?_
  refine lv_istore (lv' := [(5, .int (iI 0)), (0, .ref (ad 10 l0 0)), (1, .ref (ad 0 l1 0)), (2, .int (iI l2)), (3, .int (iI l3)), (4, .int (iI l4))]) hx hb (D_54 W_prog_12_method_7_code_0 1 rfl rfl) hl (by decide) rfl (fun ls hl => ?_)
  refine lv_iconst (v := iI 0) hx hb (D_3 W_prog_12_method_7_code_0 3 rfl rfl) rfl ?_
  refine lv_istore (lv' := [(6, .int (iI 0)), (5, .int (iI 0)), (0, .ref (ad 10 l0 0)), (1, .ref (ad 0 l1 0)), (2, .int (iI l2)), (3, .int (iI l3)), (4, .int (iI l4))]) hx hb (D_54 W_prog_12_method_7_code_0 4 rfl rfl) hl (by decide) rfl (fun ls hl => ?_)
  refine lv_iload_n hx hb (D_29 W_prog_12_method_7_code_0 6 rfl rfl) rfl (lv_at hl 5 rfl) ?_
  refine lv_istore (lv' := [(7, .int (iI l3)), (6, .int (iI 0)), (5, .int (iI 0)), (0, .ref (ad 10 l0 0)), (1, .ref (ad 0 l1 0)), (2, .int (iI l2)), (3, .int (iI l3)), (4, .int (iI l4))]) hx hb (D_54 W_prog_12_method_7_code_0 7 rfl rfl) hl (by decide) rfl (fun ls hl => ?_)
  exact b_Tokens_keepRun_9 X hf hZ hS (lv_sub hl [0, 1, 2, 3, 4, 5, 6, 7] rfl)

abbrev Q_CString_length (K : zK) (D : va_G) (ca : Nat → ClassId) (ad : Nat → Int → Nat → Nat) (L : List Nat) (r : Int) (F : zF) (B : zB) (A : Nat → Prop) : Array Value → State → Outcome → State → Prop := va_Qi (S := Unit) (fun p _ => p = iI r) (fun _ => zPo D ca ad lnC K.2 L F B A) A
def f_CString_length (K : zK) (l0 : Nat) (F : zF) (B : zB) : zO := if l0 < strL.length then zbind (f_CString_coder K l0 F B) (fun r2 F2 B2 => some (zshr (zsl l0) r2, F2, B2)) else none
set_option maxHeartbeats 4000000 in
set_option maxRecDepth 100000 in
theorem c_CString_length {l : Launch} {D : va_G} {ca : Nat → ClassId} {ad : Nat → Int → Nat → Nat} {L : List Nat} {aS vS : Nat → Nat} {sz : Nat} {K : zK}  {l0 : Nat} {F F9 : zF} {B B9 : zB} {r : Int} (hf : f_CString_length K l0 F B = some (r, F9, B9)) : Met l ({ cls := "java/lang/String", name := "length", desc := "()I" } : Jvm.MethodName) (Cond.code ({ cls := "java/lang/String", name := "length", desc := "()I" } : Jvm.MethodName) prog_21_method_54_code 1 (Option.some Jvm.ClassFile.FieldType.int) :: wAll) ({ frames := 1, cells := 0, slots := 0, locals := 20 } : Room) (va_Pc [.ref (aS l0)] (zPre D ca ad lnC K.2 L aS vS F B sz)) (Q_CString_length K D ca ad L r F9 B9 (zA L sz)) 0 0 (zA L sz) := by
  refine zMet (Qc := Q_CString_length K D ca ad L r F9 B9) (lv := [(0, .ref (aS l0))]) (by decide) (Nat.le_of_ble_eq_true rfl) rfl (fun A p e s m below meth c ls X hZ hS hl => ?_)
  obtain ⟨hx, hb, hr, hml, hown, hts, hlk, hK, hA, hL, hX⟩ := id X
  replace hf : (if l0 < strL.length then zbind (f_CString_coder K l0 F B) (fun r2 F2 B2 => some (zshr (zsl l0) r2, F2, B2)) else none) = some (r, F9, B9) := hf
  refine lv_aload_n hx hb d_21_54_0 rfl (lv_at hl 0 rfl) ?_
  obtain ⟨g1, hf⟩ := gif hf
  refine vk_getf hx hb (zstr hX g1).2.1 hS hown (hts _ k_15_170) (fun _ h => h) d_21_54_1 ?_
  refine W.eq (g2 := F0 m 4 ls [.ref (vS l0)]) rfl ?_
  refine va_tlen (v := iI (zsl l0)) hx hb (zstr hX g1).2.2.1 hS (zsl_n _) d_21_54_4 ?_
  refine lv_aload_n hx hb d_21_54_5 rfl (lv_at hl 0 rfl) ?_
  obtain ⟨r2, F2, B2, hc2, hf⟩ := gbind hf
  refine va_calli (va_runV (As := []) (rest := [.int (iI (zsl l0))]) ⟨hx, hb, hml, hown, hts⟩ (c_CString_coder (l := l) hc2) (cwV 0 hts (gdV k_3_85 k_3_86 k_3_87 k_1_11 k_3_88) rfl rfl rfl (by decide +kernel) ⟨Nat.le_of_ble_eq_true rfl, Nat.le_of_ble_eq_true rfl⟩) ⟨zBlind, zsrecv hX g1 hS, zAt X hZ hS [.ref (aS l0)]⟩ rfl rfl hl.1 rfl (lv_room (Nat.le_of_ble_eq_true rfl)) d_21_54_6 ⟨Nat.le_of_ble_eq_true rfl, Nat.le_of_ble_eq_true rfl⟩) hS (fun q _ h => zAin X hS q h) (zAin X hS) (fun p2 u2 t2 H2 locs2 ht2 hv2 hw2 hB2 hz2 hk2 hS2 => ?_)
  have hZ2 := zBack X ht2 hB2
  subst hw2
  refine zshr_r hx hb d_21_54_9 ?_
  cases hf
  exact W.iret hx hb hr (fun t ht hW => ⟨⟨_, (), rfl, rfl, by rw [ht]; exact hZ2, va_K.moved hW.alike hK⟩, hS2.F ht⟩) hS2.2.2 d_21_54_10 hlk

abbrev Q_CStringLatin1_indexOf (K : zK) (D : va_G) (ca : Nat → ClassId) (ad : Nat → Int → Nat → Nat) (L : List Nat) (r : Int) (F : zF) (B : zB) (A : Nat → Prop) : Array Value → State → Outcome → State → Prop := va_Qi (S := Unit) (fun p _ => p = iI r) (fun _ => zPo D ca ad lnC K.2 L F B A) A
def f_CStringLatin1_indexOf (K : zK) (l0 : Nat) (l1 : Int) (l2 : Int) (l3 : Int) (F : zF) (B : zB) : zO := zbind (f_CStringLatin1_canEncode K l1 F B) (fun r1 F1 B1 => if r32 r1 then (if r1 = 0 then some ((-1), F1, B1) else if r32 l2 then if l0 < strL.length then if r32 l3 then if r32 (zsl l0) then if r32 (zmax l2 0) then if r32 (zmin l3 (zsl l0)) then (if (zmax l2 0) < (zmin l3 (zsl l0)) then zbind (f_CStringLatin1_indexOfChar K l0 l1 (zmax l2 0) (zmin l3 (zsl l0)) F1 B1) (fun r11 F11 B11 => some (r11, F11, B11)) else some ((-1), F1, B1)) else none else none else none else none else none else none) else none)
set_option maxHeartbeats 4000000 in
set_option maxRecDepth 100000 in
theorem c_CStringLatin1_indexOf {l : Launch} {D : va_G} {ca : Nat → ClassId} {ad : Nat → Int → Nat → Nat} {L : List Nat} {aS vS : Nat → Nat} {sz : Nat} {K : zK}  {l0 : Nat} {l1 : Int} {l2 : Int} {l3 : Int} {F F9 : zF} {B B9 : zB} {r : Int} (hf : f_CStringLatin1_indexOf K l0 l1 l2 l3 F B = some (r, F9, B9)) : Met l ({ cls := "java/lang/StringLatin1", name := "indexOf", desc := "([BIII)I" } : Jvm.MethodName) (Cond.code ({ cls := "java/lang/StringLatin1", name := "indexOf", desc := "([BIII)I" } : Jvm.MethodName) prog_22_method_22_code 4 (Option.some Jvm.ClassFile.FieldType.int) :: wAll) ({ frames := 1, cells := 0, slots := 0, locals := 25 } : Room) (va_Pc [.ref (vS l0), .int (iI l1), .int (iI l2), .int (iI l3)] (zPre D ca ad lnC K.2 L aS vS F B sz)) (Q_CStringLatin1_indexOf K D ca ad L r F9 B9 (zA L sz)) 0 0 (zA L sz) := by
  refine zMet (Qc := Q_CStringLatin1_indexOf K D ca ad L r F9 B9) (lv := [(0, .ref (vS l0)), (1, .int (iI l1)), (2, .int (iI l2)), (3, .int (iI l3))]) (by decide) (Nat.le_of_ble_eq_true rfl) rfl (fun A p e s m below meth c ls X hZ hS hl => ?_)
  obtain ⟨hx, hb, hr, hml, hown, hts, hlk, hK, hA, hL, hX⟩ := id X
  replace hf : (zbind (f_CStringLatin1_canEncode K l1 F B) (fun r1 F1 B1 => if r32 r1 then (if r1 = 0 then some ((-1), F1, B1) else if r32 l2 then if l0 < strL.length then if r32 l3 then if r32 (zsl l0) then if r32 (zmax l2 0) then if r32 (zmin l3 (zsl l0)) then (if (zmax l2 0) < (zmin l3 (zsl l0)) then zbind (f_CStringLatin1_indexOfChar K l0 l1 (zmax l2 0) (zmin l3 (zsl l0)) F1 B1) (fun r11 F11 B11 => some (r11, F11, B11)) else some ((-1), F1, B1)) else none else none else none else none else none else none) else none)) = some (r, F9, B9) := hf
  refine lv_iload_n hx hb (D_27 W_prog_22_method_22_code_0 0 rfl rfl) rfl (lv_at hl 1 rfl) ?_
  obtain ⟨r1, F1, B1, hc1, hf⟩ := gbind hf
  refine va_calli (va_runS (As := [.int (iI l1)]) (rest := []) ⟨hx, hb, hml, hown, hts⟩ (c_CStringLatin1_canEncode (l := l) hc1) (va_cwS 1 hts (gdS k_3_92 k_3_93 k_1_12 k_3_94) rfl rfl rfl (by decide +kernel) ⟨Nat.le_of_ble_eq_true rfl, Nat.le_of_ble_eq_true rfl⟩) (zPS X hZ hS [.int (iI l1)]) rfl rfl hl.1 rfl (lv_room (Nat.le_of_ble_eq_true rfl)) (D_184 W_prog_22_method_22_code_0 1 rfl rfl rfl) ⟨Nat.le_of_ble_eq_true rfl, Nat.le_of_ble_eq_true rfl⟩) hS (fun q _ h => zAin X hS q h) (zAin X hS) (fun p1 u1 t1 H1 locs1 ht1 hv1 hw1 hB1 hz1 hk1 hS1 => ?_)
  have hZ1 := zBack X ht1 hB1
  subst hw1
  obtain ⟨g2, hf⟩ := gif hf
  refine z0ne (tgt := 9) hx hb g2 (D_154 W_prog_22_method_22_code_0 4 rfl rfl rfl) (by decide) (fun h3 => ?_) (fun h3 => ?_)
  · replace hf := gneg hf h3
    refine lv_iload_n hx hb (D_28 W_prog_22_method_22_code_0 9 rfl rfl) rfl (lv_at hl 2 rfl) ?_
    refine lv_iconst (v := iI 0) hx hb (D_3 W_prog_22_method_22_code_0 10 rfl rfl) rfl ?_
    obtain ⟨g4, hf⟩ := gif hf
    refine va_mmax hx hb (by rw [hml]; exact hl.1.symm) hown (hts _ k_3_95) (hts _ k_1_39) (hts _ k_1_3) (hts _ k_1_40) (Nat.le_of_ble_eq_true rfl) (Nat.le_of_ble_eq_true rfl) (Nat.le_of_ble_eq_true rfl) (Nat.le_of_ble_eq_true rfl) (D_184 W_prog_22_method_22_code_0 11 rfl rfl rfl) ?_
    rw [zmax_e g4 (by decide)]
    refine lv_istore_n (lv' := [(2, .int (iI (zmax l2 0))), (0, .ref (vS l0)), (1, .int (iI l1)), (3, .int (iI l3))]) hx hb (D_61 W_prog_22_method_22_code_0 14 rfl rfl) rfl hl (by decide) rfl (fun ls hl => ?_)
    refine lv_iload_n hx hb (D_29 W_prog_22_method_22_code_0 15 rfl rfl) rfl (lv_at hl 3 rfl) ?_
    refine lv_aload_n hx hb (D_42 W_prog_22_method_22_code_0 16 rfl rfl) rfl (lv_at hl 1 rfl) ?_
    obtain ⟨g5, hf⟩ := gif hf
    refine va_tlen (v := iI (zsl l0)) hx hb (zstr hX g5).2.2.1 hS1 (zsl_n _) (D_190 W_prog_22_method_22_code_0 17 rfl rfl) ?_
    obtain ⟨g6, hf⟩ := gif hf
    obtain ⟨g7, hf⟩ := gif hf
    refine va_mmin hx hb (by rw [hml]; exact hl.1.symm) hown (hts _ k_3_96) (hts _ k_3_97) (hts _ k_1_3) (hts _ k_3_98) (Nat.le_of_ble_eq_true rfl) (Nat.le_of_ble_eq_true rfl) (Nat.le_of_ble_eq_true rfl) (Nat.le_of_ble_eq_true rfl) (D_184 W_prog_22_method_22_code_0 18 rfl rfl rfl) ?_
    rw [zmin_e g6 g7]
    refine lv_istore_n (lv' := [(3, .int (iI (zmin l3 (zsl l0)))), (2, .int (iI (zmax l2 0))), (0, .ref (vS l0)), (1, .int (iI l1))]) hx hb (D_62 W_prog_22_method_22_code_0 21 rfl rfl) rfl hl (by decide) rfl (fun ls hl => ?_)
    refine lv_iload_n hx hb (D_28 W_prog_22_method_22_code_0 22 rfl rfl) rfl (lv_at hl 1 rfl) ?_
    refine lv_iload_n hx hb (D_29 W_prog_22_method_22_code_0 23 rfl rfl) rfl (lv_at hl 0 rfl) ?_
    obtain ⟨g8, hf⟩ := gif hf
    obtain ⟨g9, hf⟩ := gif hf
    refine zlt (tgt := 29) hx hb g8 g9 (D_161 W_prog_22_method_22_code_0 24 rfl rfl rfl) (by decide) (fun h10 => ?_) (fun h10 => ?_)
    · replace hf := gpos hf h10
      refine lv_aload_n hx hb (D_42 W_prog_22_method_22_code_0 29 rfl rfl) rfl (lv_at hl 2 rfl) ?_
      refine lv_iload_n hx hb (D_27 W_prog_22_method_22_code_0 30 rfl rfl) rfl (lv_at hl 3 rfl) ?_
      refine lv_iload_n hx hb (D_28 W_prog_22_method_22_code_0 31 rfl rfl) rfl (lv_at hl 1 rfl) ?_
      refine lv_iload_n hx hb (D_29 W_prog_22_method_22_code_32 0 rfl rfl) rfl (lv_at hl 0 rfl) ?_
      obtain ⟨r11, F11, B11, hc11, hf⟩ := gbind hf
      refine va_calli (va_runS (As := [.ref (vS l0), .int (iI l1), .int (iI (zmax l2 0)), .int (iI (zmin l3 (zsl l0)))]) (rest := []) ⟨hx, hb, hml, hown, hts⟩ (c_CStringLatin1_indexOfChar (l := l) hc11) (va_cwS 4 hts (gdS k_3_99 k_3_100 k_1_12 k_3_101) rfl rfl rfl (by decide +kernel) ⟨Nat.le_of_ble_eq_true rfl, Nat.le_of_ble_eq_true rfl⟩) (zPS X hZ1 hS1 [.ref (vS l0), .int (iI l1), .int (iI (zmax l2 0)), .int (iI (zmin l3 (zsl l0)))]) rfl rfl hl.1 rfl (lv_room (Nat.le_of_ble_eq_true rfl)) (D_184 W_prog_22_method_22_code_32 1 rfl rfl rfl) ⟨Nat.le_of_ble_eq_true rfl, Nat.le_of_ble_eq_true rfl⟩) hS1 (fun q _ h => zAin X hS1 q h) (zAin X hS1) (fun p11 u11 t11 H11 locs11 ht11 hv11 hw11 hB11 hz11 hk11 hS11 => ?_)
      have hZ11 := zBack X ht11 hB11
      subst hw11
      cases hf
      exact W.iret hx hb hr (fun t ht hW => ⟨⟨_, (), rfl, rfl, by rw [ht]; exact hZ11, va_K.moved hW.alike hK⟩, hS11.F ht⟩) hS11.2.2 (D_172 W_prog_22_method_22_code_32 4 rfl rfl) hlk
    · replace hf := gneg hf h10
      refine lv_iconst (v := iI (-1)) hx hb (D_2 W_prog_22_method_22_code_0 27 rfl rfl) rfl ?_
      cases hf
      exact W.iret hx hb hr (fun t ht hW => ⟨⟨_, (), rfl, rfl, by rw [ht]; exact hZ1, va_K.moved hW.alike hK⟩, hS1.F ht⟩) hS1.2.2 (D_172 W_prog_22_method_22_code_0 28 rfl rfl) hlk
  · replace hf := gpos hf h3
    refine lv_iconst (v := iI (-1)) hx hb (D_2 W_prog_22_method_22_code_0 7 rfl rfl) rfl ?_
    cases hf
    exact W.iret hx hb hr (fun t ht hW => ⟨⟨_, (), rfl, rfl, by rw [ht]; exact hZ1, va_K.moved hW.alike hK⟩, hS1.F ht⟩) hS1.2.2 (D_172 W_prog_22_method_22_code_0 8 rfl rfl) hlk

abbrev Q_Parser_beginsHead (K : zK) (D : va_G) (ca : Nat → ClassId) (ad : Nat → Int → Nat → Nat) (L : List Nat) (r : Int) (F : zF) (B : zB) (A : Nat → Prop) : Array Value → State → Outcome → State → Prop := va_Qi (S := Unit) (fun p _ => p = iI r) (fun _ => zPo D ca ad lnC K.2 L F B A) A
def f_Parser_beginsHead_52 (K : zK) (s0 : Int) (F : zF) (B : zB) : zO := if (s0 = 0 ∨ s0 = 1) then some (s0, F, B) else none
set_option maxHeartbeats 4000000 in
set_option maxRecDepth 100000 in
theorem b_Parser_beginsHead_52 {D : va_G} {ca : Nat → ClassId} {ad : Nat → Int → Nat → Nat} {L : List Nat} {aS vS : Nat → Nat} {A : Nat → Prop} {p : Program} {l : Launch} {e : Env} {s : State} {m : MethodId} {args : Array Value} {below : List Frame} {meth : Method} {c : Code} {K : zK} {r : Int} {F9 : zF} {B9 : zB} (X : zX D ca L aS vS A p s m args meth c prog_5_method_4_code 1 (Option.some Jvm.ClassFile.FieldType.boolean) "StaveHouse$Parser") {s0 : Int} {F : zF} {B : zB} {H : Heap} {locs : List Loc} {ls : Array Slot} (hf : f_Parser_beginsHead_52 K s0 F B = some (r, F9, B9)) (hZ : zH D ca ad lnC K.2 L F B A H) (hS : va_S A s.heap H locs) (hl : lv_has ls 1 []) : W p l e ({ frames := 2, cells := 0, slots := 0, locals := 42 } : Room) s m args below meth c H locs 0 0 (MQ below (Q_Parser_beginsHead K D ca ad L r F9 B9 A) args s 0 0 A) (F0 m 52 ls [.int (iI s0)]) := by
  obtain ⟨hx, hb, hr, hml, hown, hts, hlk, hK, hA, hL, hX⟩ := id X
  replace hf : (if (s0 = 0 ∨ s0 = 1) then some (s0, F, B) else none) = some (r, F9, B9) := hf
  obtain ⟨g15, hf⟩ := gif hf
  cases hf
  exact W.zret hx hb hr (zbool g15) (fun t ht hW => ⟨⟨_, (), rfl, rfl, by rw [ht]; exact hZ, va_K.moved hW.alike hK⟩, hS.F ht⟩) hS.2.2 (D_172 W_prog_5_method_4_code_32 20 rfl rfl) hlk

def f_Parser_beginsHead_51 (K : zK)  (F : zF) (B : zB) : zO := f_Parser_beginsHead_52 K 0 F B
set_option maxHeartbeats 4000000 in
set_option maxRecDepth 100000 in
theorem b_Parser_beginsHead_51 {D : va_G} {ca : Nat → ClassId} {ad : Nat → Int → Nat → Nat} {L : List Nat} {aS vS : Nat → Nat} {A : Nat → Prop} {p : Program} {l : Launch} {e : Env} {s : State} {m : MethodId} {args : Array Value} {below : List Frame} {meth : Method} {c : Code} {K : zK} {r : Int} {F9 : zF} {B9 : zB} (X : zX D ca L aS vS A p s m args meth c prog_5_method_4_code 1 (Option.some Jvm.ClassFile.FieldType.boolean) "StaveHouse$Parser")  {F : zF} {B : zB} {H : Heap} {locs : List Loc} {ls : Array Slot} (hf : f_Parser_beginsHead_51 K  F B = some (r, F9, B9)) (hZ : zH D ca ad lnC K.2 L F B A H) (hS : va_S A s.heap H locs) (hl : lv_has ls 1 []) : W p l e ({ frames := 2, cells := 0, slots := 0, locals := 42 } : Room) s m args below meth c H locs 0 0 (MQ below (Q_Parser_beginsHead K D ca ad L r F9 B9 A) args s 0 0 A) (F0 m 51 ls []) := by
  obtain ⟨hx, hb, hr, hml, hown, hts, hlk, hK, hA, hL, hX⟩ := id X
  replace hf : (f_Parser_beginsHead_52 K 0 F B) = some (r, F9, B9) := hf
  refine lv_iconst (v := iI 0) hx hb (D_3 W_prog_5_method_4_code_32 19 rfl rfl) rfl ?_
  exact b_Parser_beginsHead_52 X hf hZ hS (lv_sub hl [] rfl)

def f_Parser_beginsHead_27 (K : zK) (s0 : Int) (F : zF) (B : zB) : zO := if (s0 = 0 ∨ s0 = 1) then some (s0, F, B) else none
set_option maxHeartbeats 4000000 in
set_option maxRecDepth 100000 in
theorem b_Parser_beginsHead_27 {D : va_G} {ca : Nat → ClassId} {ad : Nat → Int → Nat → Nat} {L : List Nat} {aS vS : Nat → Nat} {A : Nat → Prop} {p : Program} {l : Launch} {e : Env} {s : State} {m : MethodId} {args : Array Value} {below : List Frame} {meth : Method} {c : Code} {K : zK} {r : Int} {F9 : zF} {B9 : zB} (X : zX D ca L aS vS A p s m args meth c prog_5_method_4_code 1 (Option.some Jvm.ClassFile.FieldType.boolean) "StaveHouse$Parser") {s0 : Int} {F : zF} {B : zB} {H : Heap} {locs : List Loc} {ls : Array Slot} (hf : f_Parser_beginsHead_27 K s0 F B = some (r, F9, B9)) (hZ : zH D ca ad lnC K.2 L F B A H) (hS : va_S A s.heap H locs) (hl : lv_has ls 1 []) : W p l e ({ frames := 2, cells := 0, slots := 0, locals := 42 } : Room) s m args below meth c H locs 0 0 (MQ below (Q_Parser_beginsHead K D ca ad L r F9 B9 A) args s 0 0 A) (F0 m 27 ls [.int (iI s0)]) := by
  obtain ⟨hx, hb, hr, hml, hown, hts, hlk, hK, hA, hL, hX⟩ := id X
  replace hf : (if (s0 = 0 ∨ s0 = 1) then some (s0, F, B) else none) = some (r, F9, B9) := hf
  obtain ⟨g14, hf⟩ := gif hf
  cases hf
  exact W.zret hx hb hr (zbool g14) (fun t ht hW => ⟨⟨_, (), rfl, rfl, by rw [ht]; exact hZ, va_K.moved hW.alike hK⟩, hS.F ht⟩) hS.2.2 (D_172 W_prog_5_method_4_code_0 27 rfl rfl) hlk

def f_Parser_beginsHead (K : zK) (l0 : Int) (F : zF) (B : zB) : zO := if 0 ≤ l0 ∧ l0 < K.2 3 then if 0 ≤ (F 3 l0 11) ∧ (F 3 l0 11) < K.2 10 then zbind (f_Tokens_isWord K (F 3 l0 11) 7103860 F B) (fun r3 F3 B3 => if r32 r3 then (if r3 = 0 then zbind (f_Parser_headSort K l0 F3 B3) (fun r6 F6 B6 => if r32 r6 then (if r6 = 0 then f_Parser_beginsHead_51 K F6 B6 else zbind (f_Parser_headSort K l0 F6 B6) (fun r9 F9 B9 => if r32 (zand (F6 3 l0 17) r9) then (if (zand (F6 3 l0 17) r9) = 0 then f_Parser_beginsHead_52 K 1 F9 B9 else f_Parser_beginsHead_51 K F9 B9) else none)) else none) else if r32 (F3 3 l0 16) then (if 6 ≤ (F3 3 l0 16) then f_Parser_beginsHead_27 K 0 F3 B3 else f_Parser_beginsHead_27 K 1 F3 B3) else none) else none) else none else none
set_option maxHeartbeats 4000000 in
set_option maxRecDepth 100000 in
theorem c_Parser_beginsHead {l : Launch} {D : va_G} {ca : Nat → ClassId} {ad : Nat → Int → Nat → Nat} {L : List Nat} {aS vS : Nat → Nat} {sz : Nat} {K : zK}  {l0 : Int} {F F9 : zF} {B B9 : zB} {r : Int} (hf : f_Parser_beginsHead K l0 F B = some (r, F9, B9)) : Met l ({ cls := "StaveHouse$Parser", name := "beginsHead", desc := "()Z" } : Jvm.MethodName) (Cond.code ({ cls := "StaveHouse$Parser", name := "beginsHead", desc := "()Z" } : Jvm.MethodName) prog_5_method_4_code 1 (Option.some Jvm.ClassFile.FieldType.boolean) :: wAll) ({ frames := 2, cells := 0, slots := 0, locals := 42 } : Room) (va_Pc [.ref (ad 3 l0 0)] (zPre D ca ad lnC K.2 L aS vS F B sz)) (Q_Parser_beginsHead K D ca ad L r F9 B9 (zA L sz)) 0 0 (zA L sz) := by
  refine zMet (Qc := Q_Parser_beginsHead K D ca ad L r F9 B9) (lv := [(0, .ref (ad 3 l0 0))]) (by decide) (Nat.le_of_ble_eq_true rfl) rfl (fun A p e s m below meth c ls X hZ hS hl => ?_)
  obtain ⟨hx, hb, hr, hml, hown, hts, hlk, hK, hA, hL, hX⟩ := id X
  replace hf : (if 0 ≤ l0 ∧ l0 < K.2 3 then if 0 ≤ (F 3 l0 11) ∧ (F 3 l0 11) < K.2 10 then zbind (f_Tokens_isWord K (F 3 l0 11) 7103860 F B) (fun r3 F3 B3 => if r32 r3 then (if r3 = 0 then zbind (f_Parser_headSort K l0 F3 B3) (fun r6 F6 B6 => if r32 r6 then (if r6 = 0 then f_Parser_beginsHead_51 K F6 B6 else zbind (f_Parser_headSort K l0 F6 B6) (fun r9 F9 B9 => if r32 (zand (F6 3 l0 17) r9) then (if (zand (F6 3 l0 17) r9) = 0 then f_Parser_beginsHead_52 K 1 F9 B9 else f_Parser_beginsHead_51 K F9 B9) else none)) else none) else if r32 (F3 3 l0 16) then (if 6 ≤ (F3 3 l0 16) then f_Parser_beginsHead_27 K 0 F3 B3 else f_Parser_beginsHead_27 K 1 F3 B3) else none) else none) else none else none) = some (r, F9, B9) := hf
  refine lv_aload_n hx hb (D_42 W_prog_5_method_4_code_0 0 rfl rfl) rfl (lv_at hl 0 rfl) ?_
  obtain ⟨g1, hf⟩ := gif hf
  refine zget (ci := 3) (C := RX3) (T := TX3) (v := va_rf (zrf ad 10 (F 3 l0 11))) (k := 11) hx hb hts inW_3 hown hK hZ g1.1 g1.2 rfl (by decide) k_1_128 rfl (D_180 W_prog_5_method_4_code_0 1 rfl rfl rfl) ?_
  refine lv_ldc2 hx hb hown (hts _ k_3_159) (D_20 W_prog_5_method_4_code_0 4 rfl rfl rfl) ?_
  refine W.eq (g2 := F0 m 7 ls [.long (lI 7103860), va_rf (zrf ad 10 (F 3 l0 11))]) rfl ?_
  obtain ⟨g2, hf⟩ := gif hf
  refine W.eq (g2 := F0 m 7 ls [.long (lI 7103860), .ref (ad 10 (F 3 l0 11) 0)]) (by rw [zrf_pos (ad := ad) (t := 10) g2.1]; try rfl) ?_
  obtain ⟨r3, F3, B3, hc3, hf⟩ := gbind hf
  refine va_calli (va_runV (As := [.long (lI 7103860)]) (rest := []) ⟨hx, hb, hml, hown, hts⟩ (c_Tokens_isWord (l := l) hc3) (cwV 1 hts (gdV k_3_160 k_3_161 k_3_162 k_1_5 k_3_163) rfl rfl rfl (by decide +kernel) ⟨Nat.le_of_ble_eq_true rfl, Nat.le_of_ble_eq_true rfl⟩) (zPV X hZ hS (ci := 10) g2.1 g2.2 (r := (RX10, TX10, 9)) rfl [.long (lI 7103860)]) rfl rfl hl.1 rfl (lv_room (Nat.le_of_ble_eq_true rfl)) (D_182 W_prog_5_method_4_code_0 7 rfl rfl rfl) ⟨Nat.le_of_ble_eq_true rfl, Nat.le_of_ble_eq_true rfl⟩) hS (fun q _ h => zAin X hS q h) (zAin X hS) (fun p3 u3 t3 H3 locs3 ht3 hv3 hw3 hB3 hz3 hk3 hS3 => ?_)
  have hZ3 := zBack X ht3 hB3
  subst hw3
  obtain ⟨g4, hf⟩ := gif hf
  refine z0eq (tgt := 28) hx hb g4 (D_153 W_prog_5_method_4_code_0 10 rfl rfl rfl) (by decide) (fun h5 => ?_) (fun h5 => ?_)
  · replace hf := gpos hf h5
    refine lv_aload_n hx hb (D_42 W_prog_5_method_4_code_0 28 rfl rfl) rfl (lv_at hl 0 rfl) ?_
    obtain ⟨r6, F6, B6, hc6, hf⟩ := gbind hf
    refine va_calli (va_runV (As := []) (rest := []) ⟨hx, hb, hml, hown, hts⟩ (c_Parser_headSort (l := l) hc6) (cwV 0 hts (gdV k_3_164 k_3_166 ks_3 k_1_4 k_3_167) rfl rfl rfl (by decide +kernel) ⟨Nat.le_of_ble_eq_true rfl, Nat.le_of_ble_eq_true rfl⟩) (zPV X hZ3 hS3 (ci := 3) g1.1 g1.2 (r := (RX3, TX3, 22)) rfl []) rfl rfl hl.1 rfl (lv_room (Nat.le_of_ble_eq_true rfl)) (D_182 W_prog_5_method_4_code_0 29 rfl rfl rfl) ⟨Nat.le_of_ble_eq_true rfl, Nat.le_of_ble_eq_true rfl⟩) hS3 (fun q _ h => zAin X hS3 q h) (zAin X hS3) (fun p6 u6 t6 H6 locs6 ht6 hv6 hw6 hB6 hz6 hk6 hS6 => ?_)
    have hZ6 := zBack X ht6 hB6
    subst hw6
    obtain ⟨g7, hf⟩ := gif hf
    refine z0eq (tgt := 51) hx hb g7 (D_153 W_prog_5_method_4_code_32 0 rfl rfl rfl) (by decide) (fun h8 => ?_) (fun h8 => ?_)
    · replace hf := gpos hf h8
      exact b_Parser_beginsHead_51 X hf hZ6 hS6 (lv_sub hl [] rfl)
    · replace hf := gneg hf h8
      refine lv_aload_n hx hb (D_42 W_prog_5_method_4_code_32 3 rfl rfl) rfl (lv_at hl 0 rfl) ?_
      refine zget (ci := 3) (C := RX3) (T := TX3) (v := .int (iI (F6 3 l0 17))) (k := 17) hx hb hts inW_3 hown hK hZ6 g1.1 g1.2 rfl (by decide) k_1_134 rfl (D_180 W_prog_5_method_4_code_32 4 rfl rfl rfl) ?_
      refine lv_aload_n hx hb (D_42 W_prog_5_method_4_code_32 7 rfl rfl) rfl (lv_at hl 0 rfl) ?_
      obtain ⟨r9, F9, B9, hc9, hf⟩ := gbind hf
      refine va_calli (va_runV (As := []) (rest := [.int (iI (F6 3 l0 17))]) ⟨hx, hb, hml, hown, hts⟩ (c_Parser_headSort (l := l) hc9) (cwV 0 hts (gdV k_3_164 k_3_166 ks_3 k_1_4 k_3_167) rfl rfl rfl (by decide +kernel) ⟨Nat.le_of_ble_eq_true rfl, Nat.le_of_ble_eq_true rfl⟩) (zPV X hZ6 hS6 (ci := 3) g1.1 g1.2 (r := (RX3, TX3, 22)) rfl []) rfl rfl hl.1 rfl (lv_room (Nat.le_of_ble_eq_true rfl)) (D_182 W_prog_5_method_4_code_32 8 rfl rfl rfl) ⟨Nat.le_of_ble_eq_true rfl, Nat.le_of_ble_eq_true rfl⟩) hS6 (fun q _ h => zAin X hS6 q h) (zAin X hS6) (fun p9 u9 t9 H9 locs9 ht9 hv9 hw9 hB9 hz9 hk9 hS9 => ?_)
      have hZ9 := zBack X ht9 hB9
      subst hw9
      refine zand_r hx hb (D_126 W_prog_5_method_4_code_32 11 rfl rfl) ?_
      obtain ⟨g10, hf⟩ := gif hf
      refine z0ne (tgt := 51) hx hb g10 (D_154 W_prog_5_method_4_code_32 12 rfl rfl rfl) (by decide) (fun h11 => ?_) (fun h11 => ?_)
      · replace hf := gneg hf h11
        exact b_Parser_beginsHead_51 X hf hZ9 hS9 (lv_sub hl [] rfl)
      · replace hf := gpos hf h11
        refine lv_iconst (v := iI 1) hx hb (D_4 W_prog_5_method_4_code_32 15 rfl rfl) rfl ?_
        refine lv_goto (tgt := 52) hx hb (D_167 W_prog_5_method_4_code_32 16 rfl rfl rfl) (by decide) ?_
        exact b_Parser_beginsHead_52 X hf hZ9 hS9 (lv_sub hl [] rfl)
  · replace hf := gneg hf h5
    refine lv_aload_n hx hb (D_42 W_prog_5_method_4_code_0 13 rfl rfl) rfl (lv_at hl 0 rfl) ?_
    refine zget (ci := 3) (C := RX3) (T := TX3) (v := .int (iI (F3 3 l0 16))) (k := 16) hx hb hts inW_3 hown hK hZ3 g1.1 g1.2 rfl (by decide) k_1_133 rfl (D_180 W_prog_5_method_4_code_0 14 rfl rfl rfl) ?_
    refine lv_bipush (v := iI 6) hx hb (D_16 W_prog_5_method_4_code_0 17 rfl rfl rfl) (by decide) ?_
    obtain ⟨g12, hf⟩ := gif hf
    refine zge (tgt := 26) hx hb g12 (by decide) (D_162 W_prog_5_method_4_code_0 19 rfl rfl rfl) (by decide) (fun h13 => ?_) (fun h13 => ?_)
    · replace hf := gpos hf h13
      refine lv_iconst (v := iI 0) hx hb (D_3 W_prog_5_method_4_code_0 26 rfl rfl) rfl ?_
      exact b_Parser_beginsHead_27 X hf hZ3 hS3 (lv_sub hl [] rfl)
    · replace hf := gneg hf h13
      refine lv_iconst (v := iI 1) hx hb (D_4 W_prog_5_method_4_code_0 22 rfl rfl) rfl ?_
      refine lv_goto (tgt := 27) hx hb (D_167 W_prog_5_method_4_code_0 23 rfl rfl rfl) (by decide) ?_
      exact b_Parser_beginsHead_27 X hf hZ3 hS3 (lv_sub hl [] rfl)

abbrev Q_Parser_isName (K : zK) (D : va_G) (ca : Nat → ClassId) (ad : Nat → Int → Nat → Nat) (L : List Nat) (r : Int) (F : zF) (B : zB) (A : Nat → Prop) : Array Value → State → Outcome → State → Prop := va_Qi (S := Unit) (fun p _ => p = iI r) (fun _ => zPo D ca ad lnC K.2 L F B A) A
def f_Parser_isName_68 (K : zK) (s0 : Int) (F : zF) (B : zB) : zO := if (s0 = 0 ∨ s0 = 1) then some (s0, F, B) else none
set_option maxHeartbeats 4000000 in
set_option maxRecDepth 100000 in
theorem b_Parser_isName_68 {D : va_G} {ca : Nat → ClassId} {ad : Nat → Int → Nat → Nat} {L : List Nat} {aS vS : Nat → Nat} {A : Nat → Prop} {p : Program} {l : Launch} {e : Env} {s : State} {m : MethodId} {args : Array Value} {below : List Frame} {meth : Method} {c : Code} {K : zK} {r : Int} {F9 : zF} {B9 : zB} (X : zX D ca L aS vS A p s m args meth c prog_5_method_12_code 3 (Option.some Jvm.ClassFile.FieldType.boolean) "StaveHouse$Parser") {s0 : Int} {F : zF} {B : zB} {H : Heap} {locs : List Loc} {ls : Array Slot} (hf : f_Parser_isName_68 K s0 F B = some (r, F9, B9)) (hZ : zH D ca ad lnC K.2 L F B A H) (hS : va_S A s.heap H locs) (hl : lv_has ls 3 []) : W p l e ({ frames := 1, cells := 0, slots := 0, locals := 23 } : Room) s m args below meth c H locs 0 0 (MQ below (Q_Parser_isName K D ca ad L r F9 B9 A) args s 0 0 A) (F0 m 68 ls [.int (iI s0)]) := by
  obtain ⟨hx, hb, hr, hml, hown, hts, hlk, hK, hA, hL, hX⟩ := id X
  replace hf : (if (s0 = 0 ∨ s0 = 1) then some (s0, F, B) else none) = some (r, F9, B9) := hf
  obtain ⟨g17, hf⟩ := gif hf
  cases hf
  exact W.zret hx hb hr (zbool g17) (fun t ht hW => ⟨⟨_, (), rfl, rfl, by rw [ht]; exact hZ, va_K.moved hW.alike hK⟩, hS.F ht⟩) hS.2.2 (D_172 W_prog_5_method_12_code_64 4 rfl rfl) hlk

def f_Parser_isName_67 (K : zK)  (F : zF) (B : zB) : zO := f_Parser_isName_68 K 0 F B
set_option maxHeartbeats 4000000 in
set_option maxRecDepth 100000 in
theorem b_Parser_isName_67 {D : va_G} {ca : Nat → ClassId} {ad : Nat → Int → Nat → Nat} {L : List Nat} {aS vS : Nat → Nat} {A : Nat → Prop} {p : Program} {l : Launch} {e : Env} {s : State} {m : MethodId} {args : Array Value} {below : List Frame} {meth : Method} {c : Code} {K : zK} {r : Int} {F9 : zF} {B9 : zB} (X : zX D ca L aS vS A p s m args meth c prog_5_method_12_code 3 (Option.some Jvm.ClassFile.FieldType.boolean) "StaveHouse$Parser")  {F : zF} {B : zB} {H : Heap} {locs : List Loc} {ls : Array Slot} (hf : f_Parser_isName_67 K  F B = some (r, F9, B9)) (hZ : zH D ca ad lnC K.2 L F B A H) (hS : va_S A s.heap H locs) (hl : lv_has ls 3 []) : W p l e ({ frames := 1, cells := 0, slots := 0, locals := 23 } : Room) s m args below meth c H locs 0 0 (MQ below (Q_Parser_isName K D ca ad L r F9 B9 A) args s 0 0 A) (F0 m 67 ls []) := by
  obtain ⟨hx, hb, hr, hml, hown, hts, hlk, hK, hA, hL, hX⟩ := id X
  replace hf : (f_Parser_isName_68 K 0 F B) = some (r, F9, B9) := hf
  refine lv_iconst (v := iI 0) hx hb (D_3 W_prog_5_method_12_code_64 3 rfl rfl) rfl ?_
  exact b_Parser_isName_68 X hf hZ hS (lv_sub hl [] rfl)

def f_Parser_isName (K : zK) (l0 : Int) (F : zF) (B : zB) : zO := if 0 ≤ l0 ∧ l0 < K.2 3 then if 0 ≤ (F 3 l0 11) ∧ (F 3 l0 11) < K.2 10 then if r32 (F 10 (F 3 l0 11) 0) then (if (F 10 (F 3 l0 11) 0) = 4 then zbind (f_Parser_indexOf K 0 (F 10 (F 3 l0 11) 2) F B) (fun r5 F5 B5 => if r32 r5 then (if r5 = (-1) then zbind (f_Parser_indexOf K 1 (F 10 (F 3 l0 11) 2) F5 B5) (fun r8 F8 B8 => if r32 r8 then (if r8 = (-1) then zbind (f_Parser_indexOf K 2 (F 10 (F 3 l0 11) 2) F8 B8) (fun r11 F11 B11 => if r32 r11 then (if r11 = (-1) then zbind (f_Parser_indexOf K 3 (F 10 (F 3 l0 11) 2) F11 B11) (fun r14 F14 B14 => if r32 r14 then (if r14 = (-1) then f_Parser_isName_68 K 1 F14 B14 else f_Parser_isName_67 K F14 B14) else none) else f_Parser_isName_67 K F11 B11) else none) else f_Parser_isName_67 K F8 B8) else none) else f_Parser_isName_67 K F5 B5) else none) else f_Parser_isName_67 K F B) else none else none else none
set_option maxHeartbeats 4000000 in
set_option maxRecDepth 100000 in
theorem c_Parser_isName {l : Launch} {D : va_G} {ca : Nat → ClassId} {ad : Nat → Int → Nat → Nat} {L : List Nat} {aS vS : Nat → Nat} {sz : Nat} {K : zK}  {l0 : Int} {F F9 : zF} {B B9 : zB} {r : Int} (hf : f_Parser_isName K l0 F B = some (r, F9, B9)) : Met l ({ cls := "StaveHouse$Parser", name := "isName", desc := "()Z" } : Jvm.MethodName) (Cond.code ({ cls := "StaveHouse$Parser", name := "isName", desc := "()Z" } : Jvm.MethodName) prog_5_method_12_code 3 (Option.some Jvm.ClassFile.FieldType.boolean) :: wAll) ({ frames := 1, cells := 0, slots := 0, locals := 23 } : Room) (va_Pc [.ref (ad 3 l0 0)] (zPre D ca ad lnC K.2 L aS vS F B sz)) (Q_Parser_isName K D ca ad L r F9 B9 (zA L sz)) 0 0 (zA L sz) := by
  refine zMet (Qc := Q_Parser_isName K D ca ad L r F9 B9) (lv := [(0, .ref (ad 3 l0 0))]) (by decide) (Nat.le_of_ble_eq_true rfl) rfl (fun A p e s m below meth c ls X hZ hS hl => ?_)
  obtain ⟨hx, hb, hr, hml, hown, hts, hlk, hK, hA, hL, hX⟩ := id X
  replace hf : (if 0 ≤ l0 ∧ l0 < K.2 3 then if 0 ≤ (F 3 l0 11) ∧ (F 3 l0 11) < K.2 10 then if r32 (F 10 (F 3 l0 11) 0) then (if (F 10 (F 3 l0 11) 0) = 4 then zbind (f_Parser_indexOf K 0 (F 10 (F 3 l0 11) 2) F B) (fun r5 F5 B5 => if r32 r5 then (if r5 = (-1) then zbind (f_Parser_indexOf K 1 (F 10 (F 3 l0 11) 2) F5 B5) (fun r8 F8 B8 => if r32 r8 then (if r8 = (-1) then zbind (f_Parser_indexOf K 2 (F 10 (F 3 l0 11) 2) F8 B8) (fun r11 F11 B11 => if r32 r11 then (if r11 = (-1) then zbind (f_Parser_indexOf K 3 (F 10 (F 3 l0 11) 2) F11 B11) (fun r14 F14 B14 => if r32 r14 then (if r14 = (-1) then f_Parser_isName_68 K 1 F14 B14 else f_Parser_isName_67 K F14 B14) else none) else f_Parser_isName_67 K F11 B11) else none) else f_Parser_isName_67 K F8 B8) else none) else f_Parser_isName_67 K F5 B5) else none) else f_Parser_isName_67 K F B) else none else none else none) = some (r, F9, B9) := hf
  refine lv_aload_n hx hb (D_42 W_prog_5_method_12_code_0 0 rfl rfl) rfl (lv_at hl 0 rfl) ?_
  obtain ⟨g1, hf⟩ := gif hf
  refine zget (ci := 3) (C := RX3) (T := TX3) (v := va_rf (zrf ad 10 (F 3 l0 11))) (k := 11) hx hb hts inW_3 hown hK hZ g1.1 g1.2 rfl (by decide) k_1_128 rfl (D_180 W_prog_5_method_12_code_0 1 rfl rfl rfl) ?_
  obtain ⟨g2, hf⟩ := gif hf
  refine zunrf g2.1 ?_
  refine zget (ci := 10) (C := RX10) (T := TX10) (v := .long (lI (F 10 (F 3 l0 11) 2))) (k := 2) hx hb hts inW_10 hown hK hZ g2.1 g2.2 rfl (by decide) k_1_77 rfl (D_180 W_prog_5_method_12_code_0 4 rfl rfl rfl) ?_
  refine lv_lstore_n (lv' := [(1, .long (lI (F 10 (F 3 l0 11) 2))), (0, .ref (ad 3 l0 0))]) hx hb (D_64 W_prog_5_method_12_code_0 7 rfl rfl) rfl hl (by decide) rfl (fun ls hl => ?_)
  refine lv_aload_n hx hb (D_42 W_prog_5_method_12_code_0 8 rfl rfl) rfl (lv_at hl 1 rfl) ?_
  refine zget (ci := 3) (C := RX3) (T := TX3) (v := va_rf (zrf ad 10 (F 3 l0 11))) (k := 11) hx hb hts inW_3 hown hK hZ g1.1 g1.2 rfl (by decide) k_1_128 rfl (D_180 W_prog_5_method_12_code_0 9 rfl rfl rfl) ?_
  refine zunrf g2.1 ?_
  refine zget (ci := 10) (C := RX10) (T := TX10) (v := .int (iI (F 10 (F 3 l0 11) 0))) (k := 0) hx hb hts inW_10 hown hK hZ g2.1 g2.2 rfl (by decide) k_1_72 rfl (D_180 W_prog_5_method_12_code_0 12 rfl rfl rfl) ?_
  refine lv_iconst (v := iI 4) hx hb (D_7 W_prog_5_method_12_code_0 15 rfl rfl) rfl ?_
  obtain ⟨g3, hf⟩ := gif hf
  refine zne (tgt := 67) hx hb g3 (by decide) (D_160 W_prog_5_method_12_code_0 16 rfl rfl rfl) (by decide) (fun h4 => ?_) (fun h4 => ?_)
  · replace hf := gneg hf h4
    exact b_Parser_isName_67 X hf hZ hS (lv_sub hl [] rfl)
  · replace hf := gpos hf h4
    refine va_gets hx hb (hX.2.2.2.2.2.2 0 _ rfl).1 hS hown (hts _ k_3_185) (fun _ h => h) (D_178 W_prog_5_method_12_code_0 19 rfl rfl rfl) ?_
    refine W.eq (g2 := F0 m 22 ls [.ref (vS (1000 + 0))]) rfl ?_
    refine lv_lload_n hx hb (D_31 W_prog_5_method_12_code_0 22 rfl rfl) rfl (lv_at hl 0 rfl) ?_
    obtain ⟨r5, F5, B5, hc5, hf⟩ := gbind hf
    refine va_calli (va_runS (As := [.ref (vS (1000 + 0)), .long (lI (F 10 (F 3 l0 11) 2))]) (rest := []) ⟨hx, hb, hml, hown, hts⟩ (c_Parser_indexOf (l := l) hc5) (va_cwS 2 hts (gdS k_3_187 k_3_188 k_1_4 k_3_189) rfl rfl rfl (by decide +kernel) ⟨Nat.le_of_ble_eq_true rfl, Nat.le_of_ble_eq_true rfl⟩) (zPS X hZ hS [.ref (vS (1000 + 0)), .long (lI (F 10 (F 3 l0 11) 2))]) rfl rfl hl.1 rfl (lv_room (Nat.le_of_ble_eq_true rfl)) (D_184 W_prog_5_method_12_code_0 23 rfl rfl rfl) ⟨Nat.le_of_ble_eq_true rfl, Nat.le_of_ble_eq_true rfl⟩) hS (fun q _ h => zAin X hS q h) (zAin X hS) (fun p5 u5 t5 H5 locs5 ht5 hv5 hw5 hB5 hz5 hk5 hS5 => ?_)
    have hZ5 := zBack X ht5 hB5
    subst hw5
    refine lv_iconst (v := iI (-1)) hx hb (D_2 W_prog_5_method_12_code_0 26 rfl rfl) rfl ?_
    obtain ⟨g6, hf⟩ := gif hf
    refine zne (tgt := 67) hx hb g6 (by decide) (D_160 W_prog_5_method_12_code_0 27 rfl rfl rfl) (by decide) (fun h7 => ?_) (fun h7 => ?_)
    · replace hf := gneg hf h7
      exact b_Parser_isName_67 X hf hZ5 hS5 (lv_sub hl [] rfl)
    · replace hf := gpos hf h7
      refine va_gets hx hb (hX.2.2.2.2.2.2 1 _ rfl).1 hS5 hown (hts _ k_3_190) (fun _ h => h) (D_178 W_prog_5_method_12_code_0 30 rfl rfl rfl) ?_
      refine W.eq (g2 := F0 m 33 ls [.ref (vS (1000 + 1))]) rfl ?_
      refine lv_lload_n hx hb (D_31 W_prog_5_method_12_code_32 1 rfl rfl) rfl (lv_at hl 0 rfl) ?_
      obtain ⟨r8, F8, B8, hc8, hf⟩ := gbind hf
      refine va_calli (va_runS (As := [.ref (vS (1000 + 1)), .long (lI (F 10 (F 3 l0 11) 2))]) (rest := []) ⟨hx, hb, hml, hown, hts⟩ (c_Parser_indexOf (l := l) hc8) (va_cwS 2 hts (gdS k_3_187 k_3_188 k_1_4 k_3_189) rfl rfl rfl (by decide +kernel) ⟨Nat.le_of_ble_eq_true rfl, Nat.le_of_ble_eq_true rfl⟩) (zPS X hZ5 hS5 [.ref (vS (1000 + 1)), .long (lI (F 10 (F 3 l0 11) 2))]) rfl rfl hl.1 rfl (lv_room (Nat.le_of_ble_eq_true rfl)) (D_184 W_prog_5_method_12_code_32 2 rfl rfl rfl) ⟨Nat.le_of_ble_eq_true rfl, Nat.le_of_ble_eq_true rfl⟩) hS5 (fun q _ h => zAin X hS5 q h) (zAin X hS5) (fun p8 u8 t8 H8 locs8 ht8 hv8 hw8 hB8 hz8 hk8 hS8 => ?_)
      have hZ8 := zBack X ht8 hB8
      subst hw8
      refine lv_iconst (v := iI (-1)) hx hb (D_2 W_prog_5_method_12_code_32 5 rfl rfl) rfl ?_
      obtain ⟨g9, hf⟩ := gif hf
      refine zne (tgt := 67) hx hb g9 (by decide) (D_160 W_prog_5_method_12_code_32 6 rfl rfl rfl) (by decide) (fun h10 => ?_) (fun h10 => ?_)
      · replace hf := gneg hf h10
        exact b_Parser_isName_67 X hf hZ8 hS8 (lv_sub hl [] rfl)
      · replace hf := gpos hf h10
        refine va_gets hx hb (hX.2.2.2.2.2.2 2 _ rfl).1 hS8 hown (hts _ k_3_192) (fun _ h => h) (D_178 W_prog_5_method_12_code_32 9 rfl rfl rfl) ?_
        refine W.eq (g2 := F0 m 44 ls [.ref (vS (1000 + 2))]) rfl ?_
        refine lv_lload_n hx hb (D_31 W_prog_5_method_12_code_32 12 rfl rfl) rfl (lv_at hl 0 rfl) ?_
        obtain ⟨r11, F11, B11, hc11, hf⟩ := gbind hf
        refine va_calli (va_runS (As := [.ref (vS (1000 + 2)), .long (lI (F 10 (F 3 l0 11) 2))]) (rest := []) ⟨hx, hb, hml, hown, hts⟩ (c_Parser_indexOf (l := l) hc11) (va_cwS 2 hts (gdS k_3_187 k_3_188 k_1_4 k_3_189) rfl rfl rfl (by decide +kernel) ⟨Nat.le_of_ble_eq_true rfl, Nat.le_of_ble_eq_true rfl⟩) (zPS X hZ8 hS8 [.ref (vS (1000 + 2)), .long (lI (F 10 (F 3 l0 11) 2))]) rfl rfl hl.1 rfl (lv_room (Nat.le_of_ble_eq_true rfl)) (D_184 W_prog_5_method_12_code_32 13 rfl rfl rfl) ⟨Nat.le_of_ble_eq_true rfl, Nat.le_of_ble_eq_true rfl⟩) hS8 (fun q _ h => zAin X hS8 q h) (zAin X hS8) (fun p11 u11 t11 H11 locs11 ht11 hv11 hw11 hB11 hz11 hk11 hS11 => ?_)
        have hZ11 := zBack X ht11 hB11
        subst hw11
        refine lv_iconst (v := iI (-1)) hx hb (D_2 W_prog_5_method_12_code_32 16 rfl rfl) rfl ?_
        obtain ⟨g12, hf⟩ := gif hf
        refine zne (tgt := 67) hx hb g12 (by decide) (D_160 W_prog_5_method_12_code_32 17 rfl rfl rfl) (by decide) (fun h13 => ?_) (fun h13 => ?_)
        · replace hf := gneg hf h13
          exact b_Parser_isName_67 X hf hZ11 hS11 (lv_sub hl [] rfl)
        · replace hf := gpos hf h13
          refine va_gets hx hb (hX.2.2.2.2.2.2 3 _ rfl).1 hS11 hown (hts _ k_3_194) (fun _ h => h) (D_178 W_prog_5_method_12_code_32 20 rfl rfl rfl) ?_
          refine W.eq (g2 := F0 m 55 ls [.ref (vS (1000 + 3))]) rfl ?_
          refine lv_lload_n hx hb (D_31 W_prog_5_method_12_code_32 23 rfl rfl) rfl (lv_at hl 0 rfl) ?_
          obtain ⟨r14, F14, B14, hc14, hf⟩ := gbind hf
          refine va_calli (va_runS (As := [.ref (vS (1000 + 3)), .long (lI (F 10 (F 3 l0 11) 2))]) (rest := []) ⟨hx, hb, hml, hown, hts⟩ (c_Parser_indexOf (l := l) hc14) (va_cwS 2 hts (gdS k_3_187 k_3_188 k_1_4 k_3_189) rfl rfl rfl (by decide +kernel) ⟨Nat.le_of_ble_eq_true rfl, Nat.le_of_ble_eq_true rfl⟩) (zPS X hZ11 hS11 [.ref (vS (1000 + 3)), .long (lI (F 10 (F 3 l0 11) 2))]) rfl rfl hl.1 rfl (lv_room (Nat.le_of_ble_eq_true rfl)) (D_184 W_prog_5_method_12_code_32 24 rfl rfl rfl) ⟨Nat.le_of_ble_eq_true rfl, Nat.le_of_ble_eq_true rfl⟩) hS11 (fun q _ h => zAin X hS11 q h) (zAin X hS11) (fun p14 u14 t14 H14 locs14 ht14 hv14 hw14 hB14 hz14 hk14 hS14 => ?_)
          have hZ14 := zBack X ht14 hB14
          subst hw14
          refine lv_iconst (v := iI (-1)) hx hb (D_2 W_prog_5_method_12_code_32 27 rfl rfl) rfl ?_
          obtain ⟨g15, hf⟩ := gif hf
          refine zne (tgt := 67) hx hb g15 (by decide) (D_160 W_prog_5_method_12_code_32 28 rfl rfl rfl) (by decide) (fun h16 => ?_) (fun h16 => ?_)
          · replace hf := gneg hf h16
            exact b_Parser_isName_67 X hf hZ14 hS14 (lv_sub hl [] rfl)
          · replace hf := gpos hf h16
            refine lv_iconst (v := iI 1) hx hb (D_4 W_prog_5_method_12_code_32 31 rfl rfl) rfl ?_
            refine lv_goto (tgt := 68) hx hb (D_167 W_prog_5_method_12_code_64 0 rfl rfl rfl) (by decide) ?_
            exact b_Parser_isName_68 X hf hZ14 hS14 (lv_sub hl [] rfl)

abbrev Q_Parser_takeSign (K : zK) (D : va_G) (ca : Nat → ClassId) (ad : Nat → Int → Nat → Nat) (L : List Nat) (r : Int) (F : zF) (B : zB) (A : Nat → Prop) : Array Value → State → Outcome → State → Prop := va_Qi (S := Unit) (fun p _ => p = iI r) (fun _ => zPo D ca ad lnC K.2 L F B A) A
def f_Parser_takeSign (K : zK) (l0 : Int) (l1 : Int) (F : zF) (B : zB) : zO := if 0 ≤ l0 ∧ l0 < K.2 3 then if 0 ≤ (F 3 l0 11) ∧ (F 3 l0 11) < K.2 10 then zbind (f_Tokens_isSign K (F 3 l0 11) l1 F B) (fun r3 F3 B3 => if r32 r3 then (if r3 = 0 then zbind (f_Parser_refuse K l0 2 F3 B3) (fun r8 F8 B8 => if (r8 = 0 ∨ r8 = 1) then some (r8, F8, B8) else none) else if 0 ≤ (F3 3 l0 11) ∧ (F3 3 l0 11) < K.2 10 then zbind (f_Tokens_advance K (F3 3 l0 11) F3 B3) (fun r7 F7 B7 => some (1, F7, B7)) else none) else none) else none else none
set_option maxHeartbeats 4000000 in
set_option maxRecDepth 100000 in
theorem c_Parser_takeSign {l : Launch} {D : va_G} {ca : Nat → ClassId} {ad : Nat → Int → Nat → Nat} {L : List Nat} {aS vS : Nat → Nat} {sz : Nat} {K : zK}  {l0 : Int} {l1 : Int} {F F9 : zF} {B B9 : zB} {r : Int} (hf : f_Parser_takeSign K l0 l1 F B = some (r, F9, B9)) : Met l ({ cls := "StaveHouse$Parser", name := "takeSign", desc := "(C)Z" } : Jvm.MethodName) (Cond.code ({ cls := "StaveHouse$Parser", name := "takeSign", desc := "(C)Z" } : Jvm.MethodName) prog_5_method_14_code 2 (Option.some Jvm.ClassFile.FieldType.boolean) :: wAll) ({ frames := 1, cells := 0, slots := 0, locals := 21 } : Room) (va_Pc [.ref (ad 3 l0 0), .int (iI l1)] (zPre D ca ad lnC K.2 L aS vS F B sz)) (Q_Parser_takeSign K D ca ad L r F9 B9 (zA L sz)) 0 0 (zA L sz) := by
  refine zMet (Qc := Q_Parser_takeSign K D ca ad L r F9 B9) (lv := [(0, .ref (ad 3 l0 0)), (1, .int (iI l1))]) (by decide) (Nat.le_of_ble_eq_true rfl) rfl (fun A p e s m below meth c ls X hZ hS hl => ?_)
  obtain ⟨hx, hb, hr, hml, hown, hts, hlk, hK, hA, hL, hX⟩ := id X
  replace hf : (if 0 ≤ l0 ∧ l0 < K.2 3 then if 0 ≤ (F 3 l0 11) ∧ (F 3 l0 11) < K.2 10 then zbind (f_Tokens_isSign K (F 3 l0 11) l1 F B) (fun r3 F3 B3 => if r32 r3 then (if r3 = 0 then zbind (f_Parser_refuse K l0 2 F3 B3) (fun r8 F8 B8 => if (r8 = 0 ∨ r8 = 1) then some (r8, F8, B8) else none) else if 0 ≤ (F3 3 l0 11) ∧ (F3 3 l0 11) < K.2 10 then zbind (f_Tokens_advance K (F3 3 l0 11) F3 B3) (fun r7 F7 B7 => some (1, F7, B7)) else none) else none) else none else none) = some (r, F9, B9) := hf
  refine lv_aload_n hx hb (D_42 W_prog_5_method_14_code_0 0 rfl rfl) rfl (lv_at hl 0 rfl) ?_
  obtain ⟨g1, hf⟩ := gif hf
  refine zget (ci := 3) (C := RX3) (T := TX3) (v := va_rf (zrf ad 10 (F 3 l0 11))) (k := 11) hx hb hts inW_3 hown hK hZ g1.1 g1.2 rfl (by decide) k_1_128 rfl (D_180 W_prog_5_method_14_code_0 1 rfl rfl rfl) ?_
  refine lv_iload_n hx hb (D_27 W_prog_5_method_14_code_0 4 rfl rfl) rfl (lv_at hl 1 rfl) ?_
  obtain ⟨g2, hf⟩ := gif hf
  refine W.eq (g2 := F0 m 5 ls [.int (iI l1), .ref (ad 10 (F 3 l0 11) 0)]) (by rw [zrf_pos (ad := ad) (t := 10) g2.1]; try rfl) ?_
  obtain ⟨r3, F3, B3, hc3, hf⟩ := gbind hf
  refine va_calli (va_runV (As := [.int (iI l1)]) (rest := []) ⟨hx, hb, hml, hown, hts⟩ (c_Tokens_isSign (l := l) hc3) (cwV 1 hts (gdV k_3_208 k_3_209 k_3_210 k_1_5 k_3_211) rfl rfl rfl (by decide +kernel) ⟨Nat.le_of_ble_eq_true rfl, Nat.le_of_ble_eq_true rfl⟩) (zPV X hZ hS (ci := 10) g2.1 g2.2 (r := (RX10, TX10, 9)) rfl [.int (iI l1)]) rfl rfl hl.1 rfl (lv_room (Nat.le_of_ble_eq_true rfl)) (D_182 W_prog_5_method_14_code_0 5 rfl rfl rfl) ⟨Nat.le_of_ble_eq_true rfl, Nat.le_of_ble_eq_true rfl⟩) hS (fun q _ h => zAin X hS q h) (zAin X hS) (fun p3 u3 t3 H3 locs3 ht3 hv3 hw3 hB3 hz3 hk3 hS3 => ?_)
  have hZ3 := zBack X ht3 hB3
  subst hw3
  obtain ⟨g4, hf⟩ := gif hf
  refine z0ne (tgt := 17) hx hb g4 (D_154 W_prog_5_method_14_code_0 8 rfl rfl rfl) (by decide) (fun h5 => ?_) (fun h5 => ?_)
  · replace hf := gneg hf h5
    refine lv_aload_n hx hb (D_42 W_prog_5_method_14_code_0 17 rfl rfl) rfl (lv_at hl 0 rfl) ?_
    refine zget (ci := 3) (C := RX3) (T := TX3) (v := va_rf (zrf ad 10 (F3 3 l0 11))) (k := 11) hx hb hts inW_3 hown hK hZ3 g1.1 g1.2 rfl (by decide) k_1_128 rfl (D_180 W_prog_5_method_14_code_0 18 rfl rfl rfl) ?_
    obtain ⟨g6, hf⟩ := gif hf
    refine W.eq (g2 := F0 m 21 ls [.ref (ad 10 (F3 3 l0 11) 0)]) (by rw [zrf_pos (ad := ad) (t := 10) g6.1]; try rfl) ?_
    obtain ⟨r7, F7, B7, hc7, hf⟩ := gbind hf
    refine va_callv (va_runV (As := []) (rest := []) ⟨hx, hb, hml, hown, hts⟩ (c_Tokens_advance (l := l) hc7) (cwV 0 hts (gdV k_3_180 k_3_152 k_3_153 k_1_5 k_3_154) rfl rfl rfl (by decide +kernel) ⟨Nat.le_of_ble_eq_true rfl, Nat.le_of_ble_eq_true rfl⟩) (zPV X hZ3 hS3 (ci := 10) g6.1 g6.2 (r := (RX10, TX10, 9)) rfl []) rfl rfl hl.1 rfl (lv_room (Nat.le_of_ble_eq_true rfl)) (D_182 W_prog_5_method_14_code_0 21 rfl rfl rfl) ⟨Nat.le_of_ble_eq_true rfl, Nat.le_of_ble_eq_true rfl⟩) hS3 (fun q _ h => zAin X hS3 q h) (zAin X hS3) (fun u7 t7 H7 locs7 ht7 hv7 hw7 hB7 hz7 hk7 hS7 => ?_)
    have hZ7 := zBack X ht7 hB7
    refine lv_iconst (v := iI 1) hx hb (D_4 W_prog_5_method_14_code_0 24 rfl rfl) rfl ?_
    cases hf
    exact W.zret hx hb hr rfl (fun t ht hW => ⟨⟨_, (), rfl, rfl, by rw [ht]; exact hZ7, va_K.moved hW.alike hK⟩, hS7.F ht⟩) hS7.2.2 (D_172 W_prog_5_method_14_code_0 25 rfl rfl) hlk
  · replace hf := gpos hf h5
    refine lv_aload_n hx hb (D_42 W_prog_5_method_14_code_0 11 rfl rfl) rfl (lv_at hl 0 rfl) ?_
    refine lv_iconst (v := iI 2) hx hb (D_5 W_prog_5_method_14_code_0 12 rfl rfl) rfl ?_
    obtain ⟨r8, F8, B8, hc8, hf⟩ := gbind hf
    refine va_calli (va_runV (As := [.int (iI 2)]) (rest := []) ⟨hx, hb, hml, hown, hts⟩ (c_Parser_refuse (l := l) hc8) (cwV 1 hts (gdV k_3_196 k_3_198 ks_7 k_1_4 k_3_199) rfl rfl rfl (by decide +kernel) ⟨Nat.le_of_ble_eq_true rfl, Nat.le_of_ble_eq_true rfl⟩) (zPV X hZ3 hS3 (ci := 3) g1.1 g1.2 (r := (RX3, TX3, 22)) rfl [.int (iI 2)]) rfl rfl hl.1 rfl (lv_room (Nat.le_of_ble_eq_true rfl)) (D_182 W_prog_5_method_14_code_0 13 rfl rfl rfl) ⟨Nat.le_of_ble_eq_true rfl, Nat.le_of_ble_eq_true rfl⟩) hS3 (fun q _ h => zAin X hS3 q h) (zAin X hS3) (fun p8 u8 t8 H8 locs8 ht8 hv8 hw8 hB8 hz8 hk8 hS8 => ?_)
    have hZ8 := zBack X ht8 hB8
    subst hw8
    obtain ⟨g9, hf⟩ := gif hf
    cases hf
    exact W.zret hx hb hr (zbool g9) (fun t ht hW => ⟨⟨_, (), rfl, rfl, by rw [ht]; exact hZ8, va_K.moved hW.alike hK⟩, hS8.F ht⟩) hS8.2.2 (D_172 W_prog_5_method_14_code_0 16 rfl rfl) hlk

abbrev Q_Parser_takeChord (K : zK) (D : va_G) (ca : Nat → ClassId) (ad : Nat → Int → Nat → Nat) (L : List Nat) (r : Int) (F : zF) (B : zB) (A : Nat → Prop) : Array Value → State → Outcome → State → Prop := va_Qi (S := Unit) (fun p _ => p = iI r) (fun _ => zPo D ca ad lnC K.2 L F B A) A
def f_Parser_takeChord_61 (K : zK) (s0 : Int) (F : zF) (B : zB) : zO := if (s0 = 0 ∨ s0 = 1) then some (s0, F, B) else none
set_option maxHeartbeats 4000000 in
set_option maxRecDepth 100000 in
theorem b_Parser_takeChord_61 {D : va_G} {ca : Nat → ClassId} {ad : Nat → Int → Nat → Nat} {L : List Nat} {aS vS : Nat → Nat} {A : Nat → Prop} {p : Program} {l : Launch} {e : Env} {s : State} {m : MethodId} {args : Array Value} {below : List Frame} {meth : Method} {c : Code} {K : zK} {r : Int} {F9 : zF} {B9 : zB} (X : zX D ca L aS vS A p s m args meth c prog_5_method_25_code 3 (Option.some Jvm.ClassFile.FieldType.boolean) "StaveHouse$Parser") {s0 : Int} {F : zF} {B : zB} {H : Heap} {locs : List Loc} {ls : Array Slot} (hf : f_Parser_takeChord_61 K s0 F B = some (r, F9, B9)) (hZ : zH D ca ad lnC K.2 L F B A H) (hS : va_S A s.heap H locs) (hl : lv_has ls 3 []) : W p l e ({ frames := 2, cells := 0, slots := 0, locals := 42 } : Room) s m args below meth c H locs 0 0 (MQ below (Q_Parser_takeChord K D ca ad L r F9 B9 A) args s 0 0 A) (F0 m 61 ls [.int (iI s0)]) := by
  obtain ⟨hx, hb, hr, hml, hown, hts, hlk, hK, hA, hL, hX⟩ := id X
  replace hf : (if (s0 = 0 ∨ s0 = 1) then some (s0, F, B) else none) = some (r, F9, B9) := hf
  obtain ⟨g17, hf⟩ := gif hf
  cases hf
  exact W.zret hx hb hr (zbool g17) (fun t ht hW => ⟨⟨_, (), rfl, rfl, by rw [ht]; exact hZ, va_K.moved hW.alike hK⟩, hS.F ht⟩) hS.2.2 (D_172 W_prog_5_method_25_code_32 29 rfl rfl) hlk

def f_Parser_takeChord_37 (K : zK) (l0 : Int) (l1 : Int) (F : zF) (B : zB) : zO := if 0 ≤ l0 ∧ l0 < K.2 3 then if 0 ≤ l1 ∧ l1 < 3000 then if r32 (B 3 l0 6 l1) then (if 2 ≤ (B 3 l0 6 l1) then zbind (f_Parser_takeSign K l0 62 F B) (fun r15 F15 B15 => f_Parser_takeChord_61 K r15 F15 B15) else zbind (f_Parser_refuse K l0 2 F B) (fun r16 F16 B16 => f_Parser_takeChord_61 K r16 F16 B16)) else none else none else none
set_option maxHeartbeats 4000000 in
set_option maxRecDepth 100000 in
theorem b_Parser_takeChord_37 {D : va_G} {ca : Nat → ClassId} {ad : Nat → Int → Nat → Nat} {L : List Nat} {aS vS : Nat → Nat} {A : Nat → Prop} {p : Program} {l : Launch} {e : Env} {s : State} {m : MethodId} {args : Array Value} {below : List Frame} {meth : Method} {c : Code} {K : zK} {r : Int} {F9 : zF} {B9 : zB} (X : zX D ca L aS vS A p s m args meth c prog_5_method_25_code 3 (Option.some Jvm.ClassFile.FieldType.boolean) "StaveHouse$Parser") {l0 : Int} {l1 : Int} {F : zF} {B : zB} {H : Heap} {locs : List Loc} {ls : Array Slot} (hf : f_Parser_takeChord_37 K l0 l1 F B = some (r, F9, B9)) (hZ : zH D ca ad lnC K.2 L F B A H) (hS : va_S A s.heap H locs) (hl : lv_has ls 3 [(0, .ref (ad 3 l0 0)), (1, .int (iI l1))]) : W p l e ({ frames := 2, cells := 0, slots := 0, locals := 42 } : Room) s m args below meth c H locs 0 0 (MQ below (Q_Parser_takeChord K D ca ad L r F9 B9 A) args s 0 0 A) (F0 m 37 ls []) := by
  obtain ⟨hx, hb, hr, hml, hown, hts, hlk, hK, hA, hL, hX⟩ := id X
  replace hf : (if 0 ≤ l0 ∧ l0 < K.2 3 then if 0 ≤ l1 ∧ l1 < 3000 then if r32 (B 3 l0 6 l1) then (if 2 ≤ (B 3 l0 6 l1) then zbind (f_Parser_takeSign K l0 62 F B) (fun r15 F15 B15 => f_Parser_takeChord_61 K r15 F15 B15) else zbind (f_Parser_refuse K l0 2 F B) (fun r16 F16 B16 => f_Parser_takeChord_61 K r16 F16 B16)) else none else none else none) = some (r, F9, B9) := hf
  refine lv_aload_n hx hb (D_42 W_prog_5_method_25_code_32 5 rfl rfl) rfl (lv_at hl 0 rfl) ?_
  obtain ⟨g11, hf⟩ := gif hf
  refine zget (ci := 3) (C := RX3) (T := TX3) (v := .ref (ad 3 l0 (6 + 1))) (k := 6) hx hb hts inW_3 hown hK hZ g11.1 g11.2 rfl (by decide) k_1_118 rfl (D_180 W_prog_5_method_25_code_32 6 rfl rfl rfl) ?_
  refine lv_iload_n hx hb (D_27 W_prog_5_method_25_code_32 9 rfl rfl) rfl (lv_at hl 1 rfl) ?_
  obtain ⟨g12, hf⟩ := gif hf
  refine zald (ci := 3) (k := 6) hx hb hK rfl hZ g11.1 g11.2 rfl (Nat.le_of_ble_eq_true rfl) g12.1 g12.2 (D_46 W_prog_5_method_25_code_32 10 rfl rfl) ?_
  refine lv_iconst (v := iI 2) hx hb (D_5 W_prog_5_method_25_code_32 11 rfl rfl) rfl ?_
  obtain ⟨g13, hf⟩ := gif hf
  refine zge (tgt := 55) hx hb g13 (by decide) (D_162 W_prog_5_method_25_code_32 12 rfl rfl rfl) (by decide) (fun h14 => ?_) (fun h14 => ?_)
  · replace hf := gpos hf h14
    refine lv_aload_n hx hb (D_42 W_prog_5_method_25_code_32 23 rfl rfl) rfl (lv_at hl 0 rfl) ?_
    refine lv_bipush (v := iI 62) hx hb (D_16 W_prog_5_method_25_code_32 24 rfl rfl rfl) (by decide) ?_
    obtain ⟨r15, F15, B15, hc15, hf⟩ := gbind hf
    refine va_calli (va_runV (As := [.int (iI 62)]) (rest := []) ⟨hx, hb, hml, hown, hts⟩ (c_Parser_takeSign (l := l) hc15) (cwV 1 hts (gdV k_3_204 k_3_206 ks_9 k_1_4 k_3_207) rfl rfl rfl (by decide +kernel) ⟨Nat.le_of_ble_eq_true rfl, Nat.le_of_ble_eq_true rfl⟩) (zPV X hZ hS (ci := 3) g11.1 g11.2 (r := (RX3, TX3, 22)) rfl [.int (iI 62)]) rfl rfl hl.1 rfl (lv_room (Nat.le_of_ble_eq_true rfl)) (D_182 W_prog_5_method_25_code_32 26 rfl rfl rfl) ⟨Nat.le_of_ble_eq_true rfl, Nat.le_of_ble_eq_true rfl⟩) hS (fun q _ h => zAin X hS q h) (zAin X hS) (fun p15 u15 t15 H15 locs15 ht15 hv15 hw15 hB15 hz15 hk15 hS15 => ?_)
    have hZ15 := zBack X ht15 hB15
    subst hw15
    exact b_Parser_takeChord_61 X hf hZ15 hS15 (lv_sub hl [] rfl)
  · replace hf := gneg hf h14
    refine lv_aload_n hx hb (D_42 W_prog_5_method_25_code_32 15 rfl rfl) rfl (lv_at hl 0 rfl) ?_
    refine lv_iconst (v := iI 2) hx hb (D_5 W_prog_5_method_25_code_32 16 rfl rfl) rfl ?_
    obtain ⟨r16, F16, B16, hc16, hf⟩ := gbind hf
    refine va_calli (va_runV (As := [.int (iI 2)]) (rest := []) ⟨hx, hb, hml, hown, hts⟩ (c_Parser_refuse (l := l) hc16) (cwV 1 hts (gdV k_3_196 k_3_198 ks_7 k_1_4 k_3_199) rfl rfl rfl (by decide +kernel) ⟨Nat.le_of_ble_eq_true rfl, Nat.le_of_ble_eq_true rfl⟩) (zPV X hZ hS (ci := 3) g11.1 g11.2 (r := (RX3, TX3, 22)) rfl [.int (iI 2)]) rfl rfl hl.1 rfl (lv_room (Nat.le_of_ble_eq_true rfl)) (D_182 W_prog_5_method_25_code_32 17 rfl rfl rfl) ⟨Nat.le_of_ble_eq_true rfl, Nat.le_of_ble_eq_true rfl⟩) hS (fun q _ h => zAin X hS q h) (zAin X hS) (fun p16 u16 t16 H16 locs16 ht16 hv16 hw16 hB16 hz16 hk16 hS16 => ?_)
    have hZ16 := zBack X ht16 hB16
    subst hw16
    refine lv_goto (tgt := 61) hx hb (D_167 W_prog_5_method_25_code_32 20 rfl rfl rfl) (by decide) ?_
    exact b_Parser_takeChord_61 X hf hZ16 hS16 (lv_sub hl [] rfl)

def f_Parser_takeChord_9 (K : zK) : Nat → Int → Int → Int → zF → zB → zO
  | 0, _, _, _, _, _ => none
  | n + 1, l2, l0, l1, F, B => if r32 l2 then (if 6 ≤ l2 then f_Parser_takeChord_37 K l0 l1 F B else if 0 ≤ l0 ∧ l0 < K.2 3 then if 0 ≤ (F 3 l0 11) ∧ (F 3 l0 11) < K.2 10 then if r32 (F 10 (F 3 l0 11) 0) then (if (F 10 (F 3 l0 11) 0) = 2 then zbind (f_Parser_takePitch K l0 l1 F B) (fun r10 F10 B10 => f_Parser_takeChord_9 K n (l2 + 1) l0 l1 F10 B10) else f_Parser_takeChord_37 K l0 l1 F B) else none else none else none) else none
set_option maxHeartbeats 4000000 in
set_option maxRecDepth 100000 in
theorem b_Parser_takeChord_9 {D : va_G} {ca : Nat → ClassId} {ad : Nat → Int → Nat → Nat} {L : List Nat} {aS vS : Nat → Nat} {A : Nat → Prop} {p : Program} {l : Launch} {e : Env} {s : State} {m : MethodId} {args : Array Value} {below : List Frame} {meth : Method} {c : Code} {K : zK} {r : Int} {F9 : zF} {B9 : zB} (X : zX D ca L aS vS A p s m args meth c prog_5_method_25_code 3 (Option.some Jvm.ClassFile.FieldType.boolean) "StaveHouse$Parser") : ∀ {n : Nat} {l2 : Int} {l0 : Int} {l1 : Int} {F : zF} {B : zB} {H : Heap} {locs : List Loc} {ls : Array Slot}, f_Parser_takeChord_9 K n l2 l0 l1 F B = some (r, F9, B9) → zH D ca ad lnC K.2 L F B A H → va_S A s.heap H locs → lv_has ls 3 [(2, .int (iI l2)), (0, .ref (ad 3 l0 0)), (1, .int (iI l1))] → W p l e ({ frames := 2, cells := 0, slots := 0, locals := 42 } : Room) s m args below meth c H locs 0 0 (MQ below (Q_Parser_takeChord K D ca ad L r F9 B9 A) args s 0 0 A) (F0 m 9 ls []) := by
  obtain ⟨hx, hb, hr, hml, hown, hts, hlk, hK, hA, hL, hX⟩ := id X
  intro n
  induction n with
  | zero =>
    intros
    rename_i hf _ _ _
    cases hf
  | succ n ih =>
    intro l2 l0 l1 F B H locs ls hf hZ hS hl
    replace hf : (if r32 l2 then (if 6 ≤ l2 then f_Parser_takeChord_37 K l0 l1 F B else if 0 ≤ l0 ∧ l0 < K.2 3 then if 0 ≤ (F 3 l0 11) ∧ (F 3 l0 11) < K.2 10 then if r32 (F 10 (F 3 l0 11) 0) then (if (F 10 (F 3 l0 11) 0) = 2 then zbind (f_Parser_takePitch K l0 l1 F B) (fun r10 F10 B10 => f_Parser_takeChord_9 K n (l2 + 1) l0 l1 F10 B10) else f_Parser_takeChord_37 K l0 l1 F B) else none else none else none) else none) = some (r, F9, B9) := hf
    refine lv_iload_n hx hb (D_28 W_prog_5_method_25_code_0 9 rfl rfl) rfl (lv_at hl 0 rfl) ?_
    refine lv_bipush (v := iI 6) hx hb (D_16 W_prog_5_method_25_code_0 10 rfl rfl rfl) (by decide) ?_
    obtain ⟨g4, hf⟩ := gif hf
    refine zge (tgt := 37) hx hb g4 (by decide) (D_162 W_prog_5_method_25_code_0 12 rfl rfl rfl) (by decide) (fun h5 => ?_) (fun h5 => ?_)
    · replace hf := gpos hf h5
      exact b_Parser_takeChord_37 X hf hZ hS (lv_sub hl [1, 2] rfl)
    · replace hf := gneg hf h5
      refine lv_aload_n hx hb (D_42 W_prog_5_method_25_code_0 15 rfl rfl) rfl (lv_at hl 1 rfl) ?_
      obtain ⟨g6, hf⟩ := gif hf
      refine zget (ci := 3) (C := RX3) (T := TX3) (v := va_rf (zrf ad 10 (F 3 l0 11))) (k := 11) hx hb hts inW_3 hown hK hZ g6.1 g6.2 rfl (by decide) k_1_128 rfl (D_180 W_prog_5_method_25_code_0 16 rfl rfl rfl) ?_
      obtain ⟨g7, hf⟩ := gif hf
      refine zunrf g7.1 ?_
      refine zget (ci := 10) (C := RX10) (T := TX10) (v := .int (iI (F 10 (F 3 l0 11) 0))) (k := 0) hx hb hts inW_10 hown hK hZ g7.1 g7.2 rfl (by decide) k_1_72 rfl (D_180 W_prog_5_method_25_code_0 19 rfl rfl rfl) ?_
      refine lv_iconst (v := iI 2) hx hb (D_5 W_prog_5_method_25_code_0 22 rfl rfl) rfl ?_
      obtain ⟨g8, hf⟩ := gif hf
      refine zne (tgt := 37) hx hb g8 (by decide) (D_160 W_prog_5_method_25_code_0 23 rfl rfl rfl) (by decide) (fun h9 => ?_) (fun h9 => ?_)
      · replace hf := gneg hf h9
        exact b_Parser_takeChord_37 X hf hZ hS (lv_sub hl [1, 2] rfl)
      · replace hf := gpos hf h9
        refine lv_aload_n hx hb (D_42 W_prog_5_method_25_code_0 26 rfl rfl) rfl (lv_at hl 1 rfl) ?_
        refine lv_iload_n hx hb (D_27 W_prog_5_method_25_code_0 27 rfl rfl) rfl (lv_at hl 2 rfl) ?_
        obtain ⟨r10, F10, B10, hc10, hf⟩ := gbind hf
        refine va_callv (va_runV (As := [.int (iI l1)]) (rest := []) ⟨hx, hb, hml, hown, hts⟩ (c_Parser_takePitch (l := l) hc10) (cwV 1 hts (gdV k_3_237 k_3_239 ks_16 k_1_4 k_4_0) rfl rfl rfl (by decide +kernel) ⟨Nat.le_of_ble_eq_true rfl, Nat.le_of_ble_eq_true rfl⟩) (zPV X hZ hS (ci := 3) g6.1 g6.2 (r := (RX3, TX3, 22)) rfl [.int (iI l1)]) rfl rfl hl.1 rfl (lv_room (Nat.le_of_ble_eq_true rfl)) (D_182 W_prog_5_method_25_code_0 28 rfl rfl rfl) ⟨Nat.le_of_ble_eq_true rfl, Nat.le_of_ble_eq_true rfl⟩) hS (fun q _ h => zAin X hS q h) (zAin X hS) (fun u10 t10 H10 locs10 ht10 hv10 hw10 hB10 hz10 hk10 hS10 => ?_)
        have hZ10 := zBack X ht10 hB10
        refine lv_iinc (v := iI (l2 + 1)) (lv' := [(2, .int (iI (l2 + 1))), (0, .ref (ad 3 l0 0)), (1, .int (iI l1))]) hx hb d_5_25_31 hl (k := 0) rfl (iI_add _ 1) (by decide) rfl (fun ls hl => ?_)
        refine lv_goto (tgt := 9) hx hb (D_167 W_prog_5_method_25_code_32 2 rfl rfl rfl) (by decide) ?_
        exact ih hf hZ10 hS10 (lv_sub hl [0, 1, 2] rfl)

def f_Parser_takeChord (K : zK) (l0 : Int) (l1 : Int) (F : zF) (B : zB) : zO := if 0 ≤ l0 ∧ l0 < K.2 3 then if 0 ≤ (F 3 l0 11) ∧ (F 3 l0 11) < K.2 10 then zbind (f_Tokens_advance K (F 3 l0 11) F B) (fun r3 F3 B3 => f_Parser_takeChord_9 K K.1 0 l0 l1 F3 B3) else none else none
set_option maxHeartbeats 4000000 in
set_option maxRecDepth 100000 in
theorem c_Parser_takeChord {l : Launch} {D : va_G} {ca : Nat → ClassId} {ad : Nat → Int → Nat → Nat} {L : List Nat} {aS vS : Nat → Nat} {sz : Nat} {K : zK}  {l0 : Int} {l1 : Int} {F F9 : zF} {B B9 : zB} {r : Int} (hf : f_Parser_takeChord K l0 l1 F B = some (r, F9, B9)) : Met l ({ cls := "StaveHouse$Parser", name := "takeChord", desc := "(I)Z" } : Jvm.MethodName) (Cond.code ({ cls := "StaveHouse$Parser", name := "takeChord", desc := "(I)Z" } : Jvm.MethodName) prog_5_method_25_code 3 (Option.some Jvm.ClassFile.FieldType.boolean) :: wAll) ({ frames := 2, cells := 0, slots := 0, locals := 42 } : Room) (va_Pc [.ref (ad 3 l0 0), .int (iI l1)] (zPre D ca ad lnC K.2 L aS vS F B sz)) (Q_Parser_takeChord K D ca ad L r F9 B9 (zA L sz)) 0 0 (zA L sz) := by
  refine zMet (Qc := Q_Parser_takeChord K D ca ad L r F9 B9) (lv := [(0, .ref (ad 3 l0 0)), (1, .int (iI l1))]) (by decide) (Nat.le_of_ble_eq_true rfl) rfl (fun A p e s m below meth c ls X hZ hS hl => ?_)
  obtain ⟨hx, hb, hr, hml, hown, hts, hlk, hK, hA, hL, hX⟩ := id X
  replace hf : (if 0 ≤ l0 ∧ l0 < K.2 3 then if 0 ≤ (F 3 l0 11) ∧ (F 3 l0 11) < K.2 10 then zbind (f_Tokens_advance K (F 3 l0 11) F B) (fun r3 F3 B3 => f_Parser_takeChord_9 K K.1 0 l0 l1 F3 B3) else none else none) = some (r, F9, B9) := hf
  refine lv_aload_n hx hb (D_42 W_prog_5_method_25_code_0 0 rfl rfl) rfl (lv_at hl 0 rfl) ?_
  obtain ⟨g1, hf⟩ := gif hf
  refine zget (ci := 3) (C := RX3) (T := TX3) (v := va_rf (zrf ad 10 (F 3 l0 11))) (k := 11) hx hb hts inW_3 hown hK hZ g1.1 g1.2 rfl (by decide) k_1_128 rfl (D_180 W_prog_5_method_25_code_0 1 rfl rfl rfl) ?_
  obtain ⟨g2, hf⟩ := gif hf
  refine W.eq (g2 := F0 m 4 ls [.ref (ad 10 (F 3 l0 11) 0)]) (by rw [zrf_pos (ad := ad) (t := 10) g2.1]; try rfl) ?_
  obtain ⟨r3, F3, B3, hc3, hf⟩ := gbind hf
  refine va_callv (va_runV (As := []) (rest := []) ⟨hx, hb, hml, hown, hts⟩ (c_Tokens_advance (l := l) hc3) (cwV 0 hts (gdV k_3_180 k_3_152 k_3_153 k_1_5 k_3_154) rfl rfl rfl (by decide +kernel) ⟨Nat.le_of_ble_eq_true rfl, Nat.le_of_ble_eq_true rfl⟩) (zPV X hZ hS (ci := 10) g2.1 g2.2 (r := (RX10, TX10, 9)) rfl []) rfl rfl hl.1 rfl (lv_room (Nat.le_of_ble_eq_true rfl)) (D_182 W_prog_5_method_25_code_0 4 rfl rfl rfl) ⟨Nat.le_of_ble_eq_true rfl, Nat.le_of_ble_eq_true rfl⟩) hS (fun q _ h => zAin X hS q h) (zAin X hS) (fun u3 t3 H3 locs3 ht3 hv3 hw3 hB3 hz3 hk3 hS3 => ?_)
  have hZ3 := zBack X ht3 hB3
  refine lv_iconst (v := iI 0) hx hb (D_3 W_prog_5_method_25_code_0 7 rfl rfl) rfl ?_
  refine lv_istore_n (lv' := [(2, .int (iI 0)), (0, .ref (ad 3 l0 0)), (1, .int (iI l1))]) hx hb (D_61 W_prog_5_method_25_code_0 8 rfl rfl) rfl hl (by decide) rfl (fun ls hl => ?_)
  exact b_Parser_takeChord_9 X hf hZ3 hS3 (lv_sub hl [0, 1, 2] rfl)

abbrev Q_Parser_takeNumber (K : zK) (D : va_G) (ca : Nat → ClassId) (ad : Nat → Int → Nat → Nat) (L : List Nat) (r : Int) (F : zF) (B : zB) (A : Nat → Prop) : Array Value → State → Outcome → State → Prop := va_Qi (S := Unit) (fun p _ => p = iI r) (fun _ => zPo D ca ad lnC K.2 L F B A) A
def f_Parser_takeNumber_79 (K : zK) (l0 : Int) (F : zF) (B : zB) : zO := if 0 ≤ l0 ∧ l0 < K.2 3 then if 0 ≤ (F 3 l0 11) ∧ (F 3 l0 11) < K.2 10 then zbind (f_Tokens_advance K (F 3 l0 11) (zup3 F 3 l0 19 (F 10 (F 3 l0 11) 2)) B) (fun r29 F29 B29 => some (1, F29, B29)) else none else none
set_option maxHeartbeats 4000000 in
set_option maxRecDepth 100000 in
theorem b_Parser_takeNumber_79 {D : va_G} {ca : Nat → ClassId} {ad : Nat → Int → Nat → Nat} {L : List Nat} {aS vS : Nat → Nat} {A : Nat → Prop} {p : Program} {l : Launch} {e : Env} {s : State} {m : MethodId} {args : Array Value} {below : List Frame} {meth : Method} {c : Code} {K : zK} {r : Int} {F9 : zF} {B9 : zB} (X : zX D ca L aS vS A p s m args meth c prog_5_method_15_code 5 (Option.some Jvm.ClassFile.FieldType.boolean) "StaveHouse$Parser") {l0 : Int} {F : zF} {B : zB} {H : Heap} {locs : List Loc} {ls : Array Slot} (hf : f_Parser_takeNumber_79 K l0 F B = some (r, F9, B9)) (hZ : zH D ca ad lnC K.2 L F B A H) (hS : va_S A s.heap H locs) (hl : lv_has ls 5 [(0, .ref (ad 3 l0 0))]) : W p l e ({ frames := 1, cells := 0, slots := 0, locals := 21 } : Room) s m args below meth c H locs 0 0 (MQ below (Q_Parser_takeNumber K D ca ad L r F9 B9 A) args s 0 0 A) (F0 m 79 ls []) := by
  obtain ⟨hx, hb, hr, hml, hown, hts, hlk, hK, hA, hL, hX⟩ := id X
  replace hf : (if 0 ≤ l0 ∧ l0 < K.2 3 then if 0 ≤ (F 3 l0 11) ∧ (F 3 l0 11) < K.2 10 then zbind (f_Tokens_advance K (F 3 l0 11) (zup3 F 3 l0 19 (F 10 (F 3 l0 11) 2)) B) (fun r29 F29 B29 => some (1, F29, B29)) else none else none) = some (r, F9, B9) := hf
  refine lv_aload_n hx hb (D_42 W_prog_5_method_15_code_64 15 rfl rfl) rfl (lv_at hl 0 rfl) ?_
  refine lv_aload_n hx hb (D_42 W_prog_5_method_15_code_64 16 rfl rfl) rfl (lv_at hl 0 rfl) ?_
  obtain ⟨g26, hf⟩ := gif hf
  refine zget (ci := 3) (C := RX3) (T := TX3) (v := va_rf (zrf ad 10 (F 3 l0 11))) (k := 11) hx hb hts inW_3 hown hK hZ g26.1 g26.2 rfl (by decide) k_1_128 rfl (D_180 W_prog_5_method_15_code_64 17 rfl rfl rfl) ?_
  obtain ⟨g27, hf⟩ := gif hf
  refine zunrf g27.1 ?_
  refine zget (ci := 10) (C := RX10) (T := TX10) (v := .long (lI (F 10 (F 3 l0 11) 2))) (k := 2) hx hb hts inW_10 hown hK hZ g27.1 g27.2 rfl (by decide) k_1_77 rfl (D_180 W_prog_5_method_15_code_64 20 rfl rfl rfl) ?_
  refine zl2iw hx hb (D_136 W_prog_5_method_15_code_64 23 rfl rfl) ?_
  refine zput (ci := 3) (C := RX3) (T := TX3) (k := 19) (v := (F 10 (F 3 l0 11) 2)) (w := .int (iI (F 10 (F 3 l0 11) 2))) hx hb hts inW_3 tyX3 tyX3_ok nmX3 hown hK hZ hS g26.1 g26.2 rfl (by decide) k_1_136 rfl (fun G h => congrArg (fun q => Value.int (iI q)) h) rfl rfl (zno (by decide)) (D_181 W_prog_5_method_15_code_64 24 rfl rfl rfl) (fun H28 locs28 hZ28 hS28 => ?_)
  refine lv_aload_n hx hb (D_42 W_prog_5_method_15_code_64 27 rfl rfl) rfl (lv_at hl 0 rfl) ?_
  refine zget (ci := 3) (C := RX3) (T := TX3) (v := va_rf (zrf ad 10 (F 3 l0 11))) (k := 11) hx hb hts inW_3 hown hK hZ28 g26.1 g26.2 rfl (by decide) k_1_128 (congrArg (fun q : Int => va_rf (zrf ad 10 q)) (show (zup3 F 3 l0 19 (F 10 (F 3 l0 11) 2)) 3 l0 11 = F 3 l0 11 by simp [zup3])) (D_180 W_prog_5_method_15_code_64 28 rfl rfl rfl) ?_
  refine W.eq (g2 := F0 m 95 ls [.ref (ad 10 (F 3 l0 11) 0)]) (by rw [zrf_pos (ad := ad) (t := 10) g27.1]; try rfl) ?_
  obtain ⟨r29, F29, B29, hc29, hf⟩ := gbind hf
  refine va_callv (va_runV (As := []) (rest := []) ⟨hx, hb, hml, hown, hts⟩ (c_Tokens_advance (l := l) hc29) (cwV 0 hts (gdV k_3_180 k_3_152 k_3_153 k_1_5 k_3_154) rfl rfl rfl (by decide +kernel) ⟨Nat.le_of_ble_eq_true rfl, Nat.le_of_ble_eq_true rfl⟩) (zPV X hZ28 hS28 (ci := 10) g27.1 g27.2 (r := (RX10, TX10, 9)) rfl []) rfl rfl hl.1 rfl (lv_room (Nat.le_of_ble_eq_true rfl)) (D_182 W_prog_5_method_15_code_64 31 rfl rfl rfl) ⟨Nat.le_of_ble_eq_true rfl, Nat.le_of_ble_eq_true rfl⟩) hS28 (fun q _ h => zAin X hS28 q h) (zAin X hS28) (fun u29 t29 H29 locs29 ht29 hv29 hw29 hB29 hz29 hk29 hS29 => ?_)
  have hZ29 := zBack X ht29 hB29
  refine lv_iconst (v := iI 1) hx hb (D_4 W_prog_5_method_15_code_96 2 rfl rfl) rfl ?_
  cases hf
  exact W.zret hx hb hr rfl (fun t ht hW => ⟨⟨_, (), rfl, rfl, by rw [ht]; exact hZ29, va_K.moved hW.alike hK⟩, hS29.F ht⟩) hS29.2.2 (D_172 W_prog_5_method_15_code_96 3 rfl rfl) hlk

def f_Parser_takeNumber_73 (K : zK) (l0 : Int) (F : zF) (B : zB) : zO := if 0 ≤ l0 ∧ l0 < K.2 3 then zbind (f_Parser_refuse K l0 5 F B) (fun r24 F24 B24 => if (r24 = 0 ∨ r24 = 1) then some (r24, F24, B24) else none) else none
set_option maxHeartbeats 4000000 in
set_option maxRecDepth 100000 in
theorem b_Parser_takeNumber_73 {D : va_G} {ca : Nat → ClassId} {ad : Nat → Int → Nat → Nat} {L : List Nat} {aS vS : Nat → Nat} {A : Nat → Prop} {p : Program} {l : Launch} {e : Env} {s : State} {m : MethodId} {args : Array Value} {below : List Frame} {meth : Method} {c : Code} {K : zK} {r : Int} {F9 : zF} {B9 : zB} (X : zX D ca L aS vS A p s m args meth c prog_5_method_15_code 5 (Option.some Jvm.ClassFile.FieldType.boolean) "StaveHouse$Parser") {l0 : Int} {F : zF} {B : zB} {H : Heap} {locs : List Loc} {ls : Array Slot} (hf : f_Parser_takeNumber_73 K l0 F B = some (r, F9, B9)) (hZ : zH D ca ad lnC K.2 L F B A H) (hS : va_S A s.heap H locs) (hl : lv_has ls 5 [(0, .ref (ad 3 l0 0))]) : W p l e ({ frames := 1, cells := 0, slots := 0, locals := 21 } : Room) s m args below meth c H locs 0 0 (MQ below (Q_Parser_takeNumber K D ca ad L r F9 B9 A) args s 0 0 A) (F0 m 73 ls []) := by
  obtain ⟨hx, hb, hr, hml, hown, hts, hlk, hK, hA, hL, hX⟩ := id X
  replace hf : (if 0 ≤ l0 ∧ l0 < K.2 3 then zbind (f_Parser_refuse K l0 5 F B) (fun r24 F24 B24 => if (r24 = 0 ∨ r24 = 1) then some (r24, F24, B24) else none) else none) = some (r, F9, B9) := hf
  refine lv_aload_n hx hb (D_42 W_prog_5_method_15_code_64 9 rfl rfl) rfl (lv_at hl 0 rfl) ?_
  refine lv_iconst (v := iI 5) hx hb (D_8 W_prog_5_method_15_code_64 10 rfl rfl) rfl ?_
  obtain ⟨g23, hf⟩ := gif hf
  obtain ⟨r24, F24, B24, hc24, hf⟩ := gbind hf
  refine va_calli (va_runV (As := [.int (iI 5)]) (rest := []) ⟨hx, hb, hml, hown, hts⟩ (c_Parser_refuse (l := l) hc24) (cwV 1 hts (gdV k_3_196 k_3_198 ks_7 k_1_4 k_3_199) rfl rfl rfl (by decide +kernel) ⟨Nat.le_of_ble_eq_true rfl, Nat.le_of_ble_eq_true rfl⟩) (zPV X hZ hS (ci := 3) g23.1 g23.2 (r := (RX3, TX3, 22)) rfl [.int (iI 5)]) rfl rfl hl.1 rfl (lv_room (Nat.le_of_ble_eq_true rfl)) (D_182 W_prog_5_method_15_code_64 11 rfl rfl rfl) ⟨Nat.le_of_ble_eq_true rfl, Nat.le_of_ble_eq_true rfl⟩) hS (fun q _ h => zAin X hS q h) (zAin X hS) (fun p24 u24 t24 H24 locs24 ht24 hv24 hw24 hB24 hz24 hk24 hS24 => ?_)
  have hZ24 := zBack X ht24 hB24
  subst hw24
  obtain ⟨g25, hf⟩ := gif hf
  cases hf
  exact W.zret hx hb hr (zbool g25) (fun t ht hW => ⟨⟨_, (), rfl, rfl, by rw [ht]; exact hZ24, va_K.moved hW.alike hK⟩, hS24.F ht⟩) hS24.2.2 (D_172 W_prog_5_method_15_code_64 14 rfl rfl) hlk

def f_Parser_takeNumber_48 (K : zK) (l0 : Int) (l3 : Int) (s0 : Int) (F : zF) (B : zB) : zO := if r32 s0 then (if s0 = 0 then f_Parser_takeNumber_73 K l0 F B else if r32 l3 then (if l3 = 0 then f_Parser_takeNumber_79 K l0 F B else if 0 ≤ l0 ∧ l0 < K.2 3 then if 0 ≤ (F 3 l0 11) ∧ (F 3 l0 11) < K.2 10 then zbind (f_Long_bitCount K (F 10 (F 3 l0 11) 2) F B) (fun r20 F20 B20 => if r32 r20 then (if r20 = 1 then f_Parser_takeNumber_79 K l0 F20 B20 else f_Parser_takeNumber_73 K l0 F20 B20) else none) else none else none) else none) else none
set_option maxHeartbeats 4000000 in
set_option maxRecDepth 100000 in
theorem b_Parser_takeNumber_48 {D : va_G} {ca : Nat → ClassId} {ad : Nat → Int → Nat → Nat} {L : List Nat} {aS vS : Nat → Nat} {A : Nat → Prop} {p : Program} {l : Launch} {e : Env} {s : State} {m : MethodId} {args : Array Value} {below : List Frame} {meth : Method} {c : Code} {K : zK} {r : Int} {F9 : zF} {B9 : zB} (X : zX D ca L aS vS A p s m args meth c prog_5_method_15_code 5 (Option.some Jvm.ClassFile.FieldType.boolean) "StaveHouse$Parser") {l0 : Int} {l3 : Int} {s0 : Int} {F : zF} {B : zB} {H : Heap} {locs : List Loc} {ls : Array Slot} (hf : f_Parser_takeNumber_48 K l0 l3 s0 F B = some (r, F9, B9)) (hZ : zH D ca ad lnC K.2 L F B A H) (hS : va_S A s.heap H locs) (hl : lv_has ls 5 [(0, .ref (ad 3 l0 0)), (3, .int (iI l3))]) : W p l e ({ frames := 1, cells := 0, slots := 0, locals := 21 } : Room) s m args below meth c H locs 0 0 (MQ below (Q_Parser_takeNumber K D ca ad L r F9 B9 A) args s 0 0 A) (F0 m 48 ls [.int (iI s0)]) := by
  obtain ⟨hx, hb, hr, hml, hown, hts, hlk, hK, hA, hL, hX⟩ := id X
  replace hf : (if r32 s0 then (if s0 = 0 then f_Parser_takeNumber_73 K l0 F B else if r32 l3 then (if l3 = 0 then f_Parser_takeNumber_79 K l0 F B else if 0 ≤ l0 ∧ l0 < K.2 3 then if 0 ≤ (F 3 l0 11) ∧ (F 3 l0 11) < K.2 10 then zbind (f_Long_bitCount K (F 10 (F 3 l0 11) 2) F B) (fun r20 F20 B20 => if r32 r20 then (if r20 = 1 then f_Parser_takeNumber_79 K l0 F20 B20 else f_Parser_takeNumber_73 K l0 F20 B20) else none) else none else none) else none) else none) = some (r, F9, B9) := hf
  refine lv_istore (lv' := [(4, .int (iI s0)), (0, .ref (ad 3 l0 0)), (3, .int (iI l3))]) hx hb (D_54 W_prog_5_method_15_code_32 16 rfl rfl) hl (by decide) rfl (fun ls hl => ?_)
  refine lv_iload hx hb (D_21 W_prog_5_method_15_code_32 18 rfl rfl) (lv_at hl 0 rfl) ?_
  obtain ⟨g14, hf⟩ := gif hf
  refine z0eq (tgt := 73) hx hb g14 (D_153 W_prog_5_method_15_code_32 20 rfl rfl rfl) (by decide) (fun h15 => ?_) (fun h15 => ?_)
  · replace hf := gpos hf h15
    exact b_Parser_takeNumber_73 X hf hZ hS (lv_sub hl [1] rfl)
  · replace hf := gneg hf h15
    refine lv_iload_n hx hb (D_29 W_prog_5_method_15_code_32 23 rfl rfl) rfl (lv_at hl 2 rfl) ?_
    obtain ⟨g16, hf⟩ := gif hf
    refine z0eq (tgt := 79) hx hb g16 (D_153 W_prog_5_method_15_code_32 24 rfl rfl rfl) (by decide) (fun h17 => ?_) (fun h17 => ?_)
    · replace hf := gpos hf h17
      exact b_Parser_takeNumber_79 X hf hZ hS (lv_sub hl [1] rfl)
    · replace hf := gneg hf h17
      refine lv_aload_n hx hb (D_42 W_prog_5_method_15_code_32 27 rfl rfl) rfl (lv_at hl 1 rfl) ?_
      obtain ⟨g18, hf⟩ := gif hf
      refine zget (ci := 3) (C := RX3) (T := TX3) (v := va_rf (zrf ad 10 (F 3 l0 11))) (k := 11) hx hb hts inW_3 hown hK hZ g18.1 g18.2 rfl (by decide) k_1_128 rfl (D_180 W_prog_5_method_15_code_32 28 rfl rfl rfl) ?_
      obtain ⟨g19, hf⟩ := gif hf
      refine zunrf g19.1 ?_
      refine zget (ci := 10) (C := RX10) (T := TX10) (v := .long (lI (F 10 (F 3 l0 11) 2))) (k := 2) hx hb hts inW_10 hown hK hZ g19.1 g19.2 rfl (by decide) k_1_77 rfl (D_180 W_prog_5_method_15_code_32 31 rfl rfl rfl) ?_
      obtain ⟨r20, F20, B20, hc20, hf⟩ := gbind hf
      refine va_calli (va_runS (As := [.long (lI (F 10 (F 3 l0 11) 2))]) (rest := []) ⟨hx, hb, hml, hown, hts⟩ (c_Long_bitCount (l := l) hc20) (va_cwS 1 hts (gdS k_4_13 k_4_14 k_1_17 k_4_15) rfl rfl rfl (by decide +kernel) ⟨Nat.le_of_ble_eq_true rfl, Nat.le_of_ble_eq_true rfl⟩) (zPS X hZ hS [.long (lI (F 10 (F 3 l0 11) 2))]) rfl rfl hl.1 rfl (lv_room (Nat.le_of_ble_eq_true rfl)) (D_184 W_prog_5_method_15_code_64 2 rfl rfl rfl) ⟨Nat.le_of_ble_eq_true rfl, Nat.le_of_ble_eq_true rfl⟩) hS (fun q _ h => zAin X hS q h) (zAin X hS) (fun p20 u20 t20 H20 locs20 ht20 hv20 hw20 hB20 hz20 hk20 hS20 => ?_)
      have hZ20 := zBack X ht20 hB20
      subst hw20
      refine lv_iconst (v := iI 1) hx hb (D_4 W_prog_5_method_15_code_64 5 rfl rfl) rfl ?_
      obtain ⟨g21, hf⟩ := gif hf
      refine zeq (tgt := 79) hx hb g21 (by decide) (D_159 W_prog_5_method_15_code_64 6 rfl rfl rfl) (by decide) (fun h22 => ?_) (fun h22 => ?_)
      · replace hf := gpos hf h22
        exact b_Parser_takeNumber_79 X hf hZ20 hS20 (lv_sub hl [1] rfl)
      · replace hf := gneg hf h22
        exact b_Parser_takeNumber_73 X hf hZ20 hS20 (lv_sub hl [1] rfl)

def f_Parser_takeNumber_47 (K : zK) (l0 : Int) (l3 : Int) (F : zF) (B : zB) : zO := f_Parser_takeNumber_48 K l0 l3 0 F B
set_option maxHeartbeats 4000000 in
set_option maxRecDepth 100000 in
theorem b_Parser_takeNumber_47 {D : va_G} {ca : Nat → ClassId} {ad : Nat → Int → Nat → Nat} {L : List Nat} {aS vS : Nat → Nat} {A : Nat → Prop} {p : Program} {l : Launch} {e : Env} {s : State} {m : MethodId} {args : Array Value} {below : List Frame} {meth : Method} {c : Code} {K : zK} {r : Int} {F9 : zF} {B9 : zB} (X : zX D ca L aS vS A p s m args meth c prog_5_method_15_code 5 (Option.some Jvm.ClassFile.FieldType.boolean) "StaveHouse$Parser") {l0 : Int} {l3 : Int} {F : zF} {B : zB} {H : Heap} {locs : List Loc} {ls : Array Slot} (hf : f_Parser_takeNumber_47 K l0 l3 F B = some (r, F9, B9)) (hZ : zH D ca ad lnC K.2 L F B A H) (hS : va_S A s.heap H locs) (hl : lv_has ls 5 [(0, .ref (ad 3 l0 0)), (3, .int (iI l3))]) : W p l e ({ frames := 1, cells := 0, slots := 0, locals := 21 } : Room) s m args below meth c H locs 0 0 (MQ below (Q_Parser_takeNumber K D ca ad L r F9 B9 A) args s 0 0 A) (F0 m 47 ls []) := by
  obtain ⟨hx, hb, hr, hml, hown, hts, hlk, hK, hA, hL, hX⟩ := id X
  replace hf : (f_Parser_takeNumber_48 K l0 l3 0 F B) = some (r, F9, B9) := hf
  refine lv_iconst (v := iI 0) hx hb (D_3 W_prog_5_method_15_code_32 15 rfl rfl) rfl ?_
  exact b_Parser_takeNumber_48 X hf hZ hS (lv_sub hl [0, 1] rfl)

def f_Parser_takeNumber (K : zK) (l0 : Int) (l1 : Int) (l2 : Int) (l3 : Int) (F : zF) (B : zB) : zO := if 0 ≤ l0 ∧ l0 < K.2 3 then if 0 ≤ (F 3 l0 11) ∧ (F 3 l0 11) < K.2 10 then if r32 (F 10 (F 3 l0 11) 0) then (if (F 10 (F 3 l0 11) 0) = 3 then if r32 l1 then if r64 (F 10 (F 3 l0 11) 2) then if r64 l1 then (if (zcmp (F 10 (F 3 l0 11) 2) l1) < 0 then f_Parser_takeNumber_47 K l0 l3 F B else if r32 l2 then if r64 l2 then (if 0 < (zcmp (F 10 (F 3 l0 11) 2) l2) then f_Parser_takeNumber_47 K l0 l3 F B else f_Parser_takeNumber_48 K l0 l3 1 F B) else none else none) else none else none else none else zbind (f_Parser_refuse K l0 2 F B) (fun r12 F12 B12 => if (r12 = 0 ∨ r12 = 1) then some (r12, F12, B12) else none)) else none else none else none
set_option maxHeartbeats 4000000 in
set_option maxRecDepth 100000 in
theorem c_Parser_takeNumber {l : Launch} {D : va_G} {ca : Nat → ClassId} {ad : Nat → Int → Nat → Nat} {L : List Nat} {aS vS : Nat → Nat} {sz : Nat} {K : zK}  {l0 : Int} {l1 : Int} {l2 : Int} {l3 : Int} {F F9 : zF} {B B9 : zB} {r : Int} (hf : f_Parser_takeNumber K l0 l1 l2 l3 F B = some (r, F9, B9)) : Met l ({ cls := "StaveHouse$Parser", name := "takeNumber", desc := "(IIZ)Z" } : Jvm.MethodName) (Cond.code ({ cls := "StaveHouse$Parser", name := "takeNumber", desc := "(IIZ)Z" } : Jvm.MethodName) prog_5_method_15_code 5 (Option.some Jvm.ClassFile.FieldType.boolean) :: wAll) ({ frames := 1, cells := 0, slots := 0, locals := 21 } : Room) (va_Pc [.ref (ad 3 l0 0), .int (iI l1), .int (iI l2), .int (iI l3)] (zPre D ca ad lnC K.2 L aS vS F B sz)) (Q_Parser_takeNumber K D ca ad L r F9 B9 (zA L sz)) 0 0 (zA L sz) := by
  refine zMet (Qc := Q_Parser_takeNumber K D ca ad L r F9 B9) (lv := [(0, .ref (ad 3 l0 0)), (1, .int (iI l1)), (2, .int (iI l2)), (3, .int (iI l3))]) (by decide) (Nat.le_of_ble_eq_true rfl) rfl (fun A p e s m below meth c ls X hZ hS hl => ?_)
  obtain ⟨hx, hb, hr, hml, hown, hts, hlk, hK, hA, hL, hX⟩ := id X
  replace hf : (if 0 ≤ l0 ∧ l0 < K.2 3 then if 0 ≤ (F 3 l0 11) ∧ (F 3 l0 11) < K.2 10 then if r32 (F 10 (F 3 l0 11) 0) then (if (F 10 (F 3 l0 11) 0) = 3 then if r32 l1 then if r64 (F 10 (F 3 l0 11) 2) then if r64 l1 then (if (zcmp (F 10 (F 3 l0 11) 2) l1) < 0 then f_Parser_takeNumber_47 K l0 l3 F B else if r32 l2 then if r64 l2 then (if 0 < (zcmp (F 10 (F 3 l0 11) 2) l2) then f_Parser_takeNumber_47 K l0 l3 F B else f_Parser_takeNumber_48 K l0 l3 1 F B) else none else none) else none else none else none else zbind (f_Parser_refuse K l0 2 F B) (fun r12 F12 B12 => if (r12 = 0 ∨ r12 = 1) then some (r12, F12, B12) else none)) else none else none else none) = some (r, F9, B9) := hf
  refine lv_aload_n hx hb (D_42 W_prog_5_method_15_code_0 0 rfl rfl) rfl (lv_at hl 0 rfl) ?_
  obtain ⟨g1, hf⟩ := gif hf
  refine zget (ci := 3) (C := RX3) (T := TX3) (v := va_rf (zrf ad 10 (F 3 l0 11))) (k := 11) hx hb hts inW_3 hown hK hZ g1.1 g1.2 rfl (by decide) k_1_128 rfl (D_180 W_prog_5_method_15_code_0 1 rfl rfl rfl) ?_
  obtain ⟨g2, hf⟩ := gif hf
  refine zunrf g2.1 ?_
  refine zget (ci := 10) (C := RX10) (T := TX10) (v := .int (iI (F 10 (F 3 l0 11) 0))) (k := 0) hx hb hts inW_10 hown hK hZ g2.1 g2.2 rfl (by decide) k_1_72 rfl (D_180 W_prog_5_method_15_code_0 4 rfl rfl rfl) ?_
  refine lv_iconst (v := iI 3) hx hb (D_6 W_prog_5_method_15_code_0 7 rfl rfl) rfl ?_
  obtain ⟨g3, hf⟩ := gif hf
  refine zeq (tgt := 17) hx hb g3 (by decide) (D_159 W_prog_5_method_15_code_0 8 rfl rfl rfl) (by decide) (fun h4 => ?_) (fun h4 => ?_)
  · replace hf := gpos hf h4
    refine lv_aload_n hx hb (D_42 W_prog_5_method_15_code_0 17 rfl rfl) rfl (lv_at hl 0 rfl) ?_
    refine zget (ci := 3) (C := RX3) (T := TX3) (v := va_rf (zrf ad 10 (F 3 l0 11))) (k := 11) hx hb hts inW_3 hown hK hZ g1.1 g1.2 rfl (by decide) k_1_128 rfl (D_180 W_prog_5_method_15_code_0 18 rfl rfl rfl) ?_
    refine zunrf g2.1 ?_
    refine zget (ci := 10) (C := RX10) (T := TX10) (v := .long (lI (F 10 (F 3 l0 11) 2))) (k := 2) hx hb hts inW_10 hown hK hZ g2.1 g2.2 rfl (by decide) k_1_77 rfl (D_180 W_prog_5_method_15_code_0 21 rfl rfl rfl) ?_
    refine lv_iload_n hx hb (D_27 W_prog_5_method_15_code_0 24 rfl rfl) rfl (lv_at hl 1 rfl) ?_
    obtain ⟨g5, hf⟩ := gif hf
    refine zi2l hx hb g5 (D_133 W_prog_5_method_15_code_0 25 rfl rfl) ?_
    obtain ⟨g6, hf⟩ := gif hf
    obtain ⟨g7, hf⟩ := gif hf
    refine zcmp_r hx hb g6 g7 (D_148 W_prog_5_method_15_code_0 26 rfl rfl) ?_
    refine z0lt (tgt := 47) hx hb zcmp_32 (D_155 W_prog_5_method_15_code_0 27 rfl rfl rfl) (by decide) (fun h8 => ?_) (fun h8 => ?_)
    · replace hf := gpos hf h8
      exact b_Parser_takeNumber_47 X hf hZ hS (lv_sub hl [0, 3] rfl)
    · replace hf := gneg hf h8
      refine lv_aload_n hx hb (D_42 W_prog_5_method_15_code_0 30 rfl rfl) rfl (lv_at hl 0 rfl) ?_
      refine zget (ci := 3) (C := RX3) (T := TX3) (v := va_rf (zrf ad 10 (F 3 l0 11))) (k := 11) hx hb hts inW_3 hown hK hZ g1.1 g1.2 rfl (by decide) k_1_128 rfl (D_180 W_prog_5_method_15_code_0 31 rfl rfl rfl) ?_
      refine zunrf g2.1 ?_
      refine zget (ci := 10) (C := RX10) (T := TX10) (v := .long (lI (F 10 (F 3 l0 11) 2))) (k := 2) hx hb hts inW_10 hown hK hZ g2.1 g2.2 rfl (by decide) k_1_77 rfl (D_180 W_prog_5_method_15_code_32 2 rfl rfl rfl) ?_
      refine lv_iload_n hx hb (D_28 W_prog_5_method_15_code_32 5 rfl rfl) rfl (lv_at hl 2 rfl) ?_
      obtain ⟨g9, hf⟩ := gif hf
      refine zi2l hx hb g9 (D_133 W_prog_5_method_15_code_32 6 rfl rfl) ?_
      obtain ⟨g10, hf⟩ := gif hf
      refine zcmp_r hx hb g6 g10 (D_148 W_prog_5_method_15_code_32 7 rfl rfl) ?_
      refine z0gt (tgt := 47) hx hb zcmp_32 (D_157 W_prog_5_method_15_code_32 8 rfl rfl rfl) (by decide) (fun h11 => ?_) (fun h11 => ?_)
      · replace hf := gpos hf h11
        exact b_Parser_takeNumber_47 X hf hZ hS (lv_sub hl [0, 3] rfl)
      · replace hf := gneg hf h11
        refine lv_iconst (v := iI 1) hx hb (D_4 W_prog_5_method_15_code_32 11 rfl rfl) rfl ?_
        refine lv_goto (tgt := 48) hx hb (D_167 W_prog_5_method_15_code_32 12 rfl rfl rfl) (by decide) ?_
        exact b_Parser_takeNumber_48 X hf hZ hS (lv_sub hl [0, 3] rfl)
  · replace hf := gneg hf h4
    refine lv_aload_n hx hb (D_42 W_prog_5_method_15_code_0 11 rfl rfl) rfl (lv_at hl 0 rfl) ?_
    refine lv_iconst (v := iI 2) hx hb (D_5 W_prog_5_method_15_code_0 12 rfl rfl) rfl ?_
    obtain ⟨r12, F12, B12, hc12, hf⟩ := gbind hf
    refine va_calli (va_runV (As := [.int (iI 2)]) (rest := []) ⟨hx, hb, hml, hown, hts⟩ (c_Parser_refuse (l := l) hc12) (cwV 1 hts (gdV k_3_196 k_3_198 ks_7 k_1_4 k_3_199) rfl rfl rfl (by decide +kernel) ⟨Nat.le_of_ble_eq_true rfl, Nat.le_of_ble_eq_true rfl⟩) (zPV X hZ hS (ci := 3) g1.1 g1.2 (r := (RX3, TX3, 22)) rfl [.int (iI 2)]) rfl rfl hl.1 rfl (lv_room (Nat.le_of_ble_eq_true rfl)) (D_182 W_prog_5_method_15_code_0 13 rfl rfl rfl) ⟨Nat.le_of_ble_eq_true rfl, Nat.le_of_ble_eq_true rfl⟩) hS (fun q _ h => zAin X hS q h) (zAin X hS) (fun p12 u12 t12 H12 locs12 ht12 hv12 hw12 hB12 hz12 hk12 hS12 => ?_)
    have hZ12 := zBack X ht12 hB12
    subst hw12
    obtain ⟨g13, hf⟩ := gif hf
    cases hf
    exact W.zret hx hb hr (zbool g13) (fun t ht hW => ⟨⟨_, (), rfl, rfl, by rw [ht]; exact hZ12, va_K.moved hW.alike hK⟩, hS12.F ht⟩) hS12.2.2 (D_172 W_prog_5_method_15_code_0 16 rfl rfl) hlk

abbrev Q_Parser_takeFraction (K : zK) (D : va_G) (ca : Nat → ClassId) (ad : Nat → Int → Nat → Nat) (L : List Nat) (r : Int) (F : zF) (B : zB) (A : Nat → Prop) : Array Value → State → Outcome → State → Prop := va_Qi (S := Unit) (fun p _ => p = iI r) (fun _ => zPo D ca ad lnC K.2 L F B A) A
def f_Parser_takeFraction_41 (K : zK)  (F : zF) (B : zB) : zO := some (0, F, B)
set_option maxHeartbeats 4000000 in
set_option maxRecDepth 100000 in
theorem b_Parser_takeFraction_41 {D : va_G} {ca : Nat → ClassId} {ad : Nat → Int → Nat → Nat} {L : List Nat} {aS vS : Nat → Nat} {A : Nat → Prop} {p : Program} {l : Launch} {e : Env} {s : State} {m : MethodId} {args : Array Value} {below : List Frame} {meth : Method} {c : Code} {K : zK} {r : Int} {F9 : zF} {B9 : zB} (X : zX D ca L aS vS A p s m args meth c prog_5_method_29_code 4 (Option.some Jvm.ClassFile.FieldType.boolean) "StaveHouse$Parser")  {F : zF} {B : zB} {H : Heap} {locs : List Loc} {ls : Array Slot} (hf : f_Parser_takeFraction_41 K  F B = some (r, F9, B9)) (hZ : zH D ca ad lnC K.2 L F B A H) (hS : va_S A s.heap H locs) (hl : lv_has ls 4 []) : W p l e ({ frames := 2, cells := 0, slots := 0, locals := 45 } : Room) s m args below meth c H locs 0 0 (MQ below (Q_Parser_takeFraction K D ca ad L r F9 B9 A) args s 0 0 A) (F0 m 41 ls []) := by
  obtain ⟨hx, hb, hr, hml, hown, hts, hlk, hK, hA, hL, hX⟩ := id X
  replace hf : (some (0, F, B)) = some (r, F9, B9) := hf
  refine lv_iconst (v := iI 0) hx hb (D_3 W_prog_5_method_29_code_32 9 rfl rfl) rfl ?_
  cases hf
  exact W.zret hx hb hr rfl (fun t ht hW => ⟨⟨_, (), rfl, rfl, by rw [ht]; exact hZ, va_K.moved hW.alike hK⟩, hS.F ht⟩) hS.2.2 (D_172 W_prog_5_method_29_code_32 10 rfl rfl) hlk

def f_Parser_takeFraction (K : zK) (l0 : Int) (l1 : Int) (l2 : Int) (l3 : Int) (F : zF) (B : zB) : zO := if 0 ≤ l0 ∧ l0 < K.2 3 then zbind (f_Parser_takeNumber K l0 l2 l3 0 F B) (fun r2 F2 B2 => if r32 r2 then (if r2 = 0 then some (0, F2, B2) else if 0 ≤ l1 ∧ l1 < 3000 then zbind (f_Parser_takeSign K l0 47 F2 (zup4 B2 3 l0 2 l1 (F2 3 l0 19))) (fun r7 F7 B7 => if r32 r7 then (if r7 = 0 then f_Parser_takeFraction_41 K F7 B7 else zbind (f_Parser_takeNumber K l0 1 l3 0 F7 B7) (fun r10 F10 B10 => if r32 r10 then (if r10 = 0 then f_Parser_takeFraction_41 K F10 B10 else some (1, F10, (zup4 B10 3 l0 3 l1 (F10 3 l0 19)))) else none)) else none) else none) else none) else none
set_option maxHeartbeats 4000000 in
set_option maxRecDepth 100000 in
theorem c_Parser_takeFraction {l : Launch} {D : va_G} {ca : Nat → ClassId} {ad : Nat → Int → Nat → Nat} {L : List Nat} {aS vS : Nat → Nat} {sz : Nat} {K : zK}  {l0 : Int} {l1 : Int} {l2 : Int} {l3 : Int} {F F9 : zF} {B B9 : zB} {r : Int} (hf : f_Parser_takeFraction K l0 l1 l2 l3 F B = some (r, F9, B9)) : Met l ({ cls := "StaveHouse$Parser", name := "takeFraction", desc := "(III)Z" } : Jvm.MethodName) (Cond.code ({ cls := "StaveHouse$Parser", name := "takeFraction", desc := "(III)Z" } : Jvm.MethodName) prog_5_method_29_code 4 (Option.some Jvm.ClassFile.FieldType.boolean) :: wAll) ({ frames := 2, cells := 0, slots := 0, locals := 45 } : Room) (va_Pc [.ref (ad 3 l0 0), .int (iI l1), .int (iI l2), .int (iI l3)] (zPre D ca ad lnC K.2 L aS vS F B sz)) (Q_Parser_takeFraction K D ca ad L r F9 B9 (zA L sz)) 0 0 (zA L sz) := by
  refine zMet (Qc := Q_Parser_takeFraction K D ca ad L r F9 B9) (lv := [(0, .ref (ad 3 l0 0)), (1, .int (iI l1)), (2, .int (iI l2)), (3, .int (iI l3))]) (by decide) (Nat.le_of_ble_eq_true rfl) rfl (fun A p e s m below meth c ls X hZ hS hl => ?_)
  obtain ⟨hx, hb, hr, hml, hown, hts, hlk, hK, hA, hL, hX⟩ := id X
  replace hf : (if 0 ≤ l0 ∧ l0 < K.2 3 then zbind (f_Parser_takeNumber K l0 l2 l3 0 F B) (fun r2 F2 B2 => if r32 r2 then (if r2 = 0 then some (0, F2, B2) else if 0 ≤ l1 ∧ l1 < 3000 then zbind (f_Parser_takeSign K l0 47 F2 (zup4 B2 3 l0 2 l1 (F2 3 l0 19))) (fun r7 F7 B7 => if r32 r7 then (if r7 = 0 then f_Parser_takeFraction_41 K F7 B7 else zbind (f_Parser_takeNumber K l0 1 l3 0 F7 B7) (fun r10 F10 B10 => if r32 r10 then (if r10 = 0 then f_Parser_takeFraction_41 K F10 B10 else some (1, F10, (zup4 B10 3 l0 3 l1 (F10 3 l0 19)))) else none)) else none) else none) else none) else none) = some (r, F9, B9) := hf
  refine lv_aload_n hx hb (D_42 W_prog_5_method_29_code_0 0 rfl rfl) rfl (lv_at hl 0 rfl) ?_
  refine lv_iload_n hx hb (D_28 W_prog_5_method_29_code_0 1 rfl rfl) rfl (lv_at hl 2 rfl) ?_
  refine lv_iload_n hx hb (D_29 W_prog_5_method_29_code_0 2 rfl rfl) rfl (lv_at hl 3 rfl) ?_
  refine lv_iconst (v := iI 0) hx hb (D_3 W_prog_5_method_29_code_0 3 rfl rfl) rfl ?_
  obtain ⟨g1, hf⟩ := gif hf
  obtain ⟨r2, F2, B2, hc2, hf⟩ := gbind hf
  refine va_calli (va_runV (As := [.int (iI l2), .int (iI l3), .int (iI 0)]) (rest := []) ⟨hx, hb, hml, hown, hts⟩ (c_Parser_takeNumber (l := l) hc2) (cwV 3 hts (gdV k_4_9 k_4_11 ks_19 k_1_4 k_4_12) rfl rfl rfl (by decide +kernel) ⟨Nat.le_of_ble_eq_true rfl, Nat.le_of_ble_eq_true rfl⟩) (zPV X hZ hS (ci := 3) g1.1 g1.2 (r := (RX3, TX3, 22)) rfl [.int (iI l2), .int (iI l3), .int (iI 0)]) rfl rfl hl.1 rfl (lv_room (Nat.le_of_ble_eq_true rfl)) (D_182 W_prog_5_method_29_code_0 4 rfl rfl rfl) ⟨Nat.le_of_ble_eq_true rfl, Nat.le_of_ble_eq_true rfl⟩) hS (fun q _ h => zAin X hS q h) (zAin X hS) (fun p2 u2 t2 H2 locs2 ht2 hv2 hw2 hB2 hz2 hk2 hS2 => ?_)
  have hZ2 := zBack X ht2 hB2
  subst hw2
  obtain ⟨g3, hf⟩ := gif hf
  refine z0ne (tgt := 12) hx hb g3 (D_154 W_prog_5_method_29_code_0 7 rfl rfl rfl) (by decide) (fun h4 => ?_) (fun h4 => ?_)
  · replace hf := gneg hf h4
    refine lv_aload_n hx hb (D_42 W_prog_5_method_29_code_0 12 rfl rfl) rfl (lv_at hl 0 rfl) ?_
    refine zget (ci := 3) (C := RX3) (T := TX3) (v := .ref (ad 3 l0 (2 + 1))) (k := 2) hx hb hts inW_3 hown hK hZ2 g1.1 g1.2 rfl (by decide) k_1_110 rfl (D_180 W_prog_5_method_29_code_0 13 rfl rfl rfl) ?_
    refine lv_iload_n hx hb (D_27 W_prog_5_method_29_code_0 16 rfl rfl) rfl (lv_at hl 1 rfl) ?_
    refine lv_aload_n hx hb (D_42 W_prog_5_method_29_code_0 17 rfl rfl) rfl (lv_at hl 0 rfl) ?_
    refine zget (ci := 3) (C := RX3) (T := TX3) (v := .int (iI (F2 3 l0 19))) (k := 19) hx hb hts inW_3 hown hK hZ2 g1.1 g1.2 rfl (by decide) k_1_136 rfl (D_180 W_prog_5_method_29_code_0 18 rfl rfl rfl) ?_
    obtain ⟨g5, hf⟩ := gif hf
    refine zast (ci := 3) (k := 2) hx hb hK rfl hZ2 hS2 g1.1 g1.2 rfl (Nat.le_of_ble_eq_true rfl) g5.1 g5.2 (D_79 W_prog_5_method_29_code_0 21 rfl rfl) (fun H6 locs6 hZ6 hS6 => ?_)
    refine lv_aload_n hx hb (D_42 W_prog_5_method_29_code_0 22 rfl rfl) rfl (lv_at hl 0 rfl) ?_
    refine lv_bipush (v := iI 47) hx hb (D_16 W_prog_5_method_29_code_0 23 rfl rfl rfl) (by decide) ?_
    obtain ⟨r7, F7, B7, hc7, hf⟩ := gbind hf
    refine va_calli (va_runV (As := [.int (iI 47)]) (rest := []) ⟨hx, hb, hml, hown, hts⟩ (c_Parser_takeSign (l := l) hc7) (cwV 1 hts (gdV k_3_204 k_3_206 ks_9 k_1_4 k_3_207) rfl rfl rfl (by decide +kernel) ⟨Nat.le_of_ble_eq_true rfl, Nat.le_of_ble_eq_true rfl⟩) (zPV X hZ6 hS6 (ci := 3) g1.1 g1.2 (r := (RX3, TX3, 22)) rfl [.int (iI 47)]) rfl rfl hl.1 rfl (lv_room (Nat.le_of_ble_eq_true rfl)) (D_182 W_prog_5_method_29_code_0 25 rfl rfl rfl) ⟨Nat.le_of_ble_eq_true rfl, Nat.le_of_ble_eq_true rfl⟩) hS6 (fun q _ h => zAin X hS6 q h) (zAin X hS6) (fun p7 u7 t7 H7 locs7 ht7 hv7 hw7 hB7 hz7 hk7 hS7 => ?_)
    have hZ7 := zBack X ht7 hB7
    subst hw7
    obtain ⟨g8, hf⟩ := gif hf
    refine z0eq (tgt := 41) hx hb g8 (D_153 W_prog_5_method_29_code_0 28 rfl rfl rfl) (by decide) (fun h9 => ?_) (fun h9 => ?_)
    · replace hf := gpos hf h9
      exact b_Parser_takeFraction_41 X hf hZ7 hS7 (lv_sub hl [] rfl)
    · replace hf := gneg hf h9
      refine lv_aload_n hx hb (D_42 W_prog_5_method_29_code_0 31 rfl rfl) rfl (lv_at hl 0 rfl) ?_
      refine lv_iconst (v := iI 1) hx hb (D_4 W_prog_5_method_29_code_32 0 rfl rfl) rfl ?_
      refine lv_iload_n hx hb (D_29 W_prog_5_method_29_code_32 1 rfl rfl) rfl (lv_at hl 3 rfl) ?_
      refine lv_iconst (v := iI 0) hx hb (D_3 W_prog_5_method_29_code_32 2 rfl rfl) rfl ?_
      obtain ⟨r10, F10, B10, hc10, hf⟩ := gbind hf
      refine va_calli (va_runV (As := [.int (iI 1), .int (iI l3), .int (iI 0)]) (rest := []) ⟨hx, hb, hml, hown, hts⟩ (c_Parser_takeNumber (l := l) hc10) (cwV 3 hts (gdV k_4_9 k_4_11 ks_19 k_1_4 k_4_12) rfl rfl rfl (by decide +kernel) ⟨Nat.le_of_ble_eq_true rfl, Nat.le_of_ble_eq_true rfl⟩) (zPV X hZ7 hS7 (ci := 3) g1.1 g1.2 (r := (RX3, TX3, 22)) rfl [.int (iI 1), .int (iI l3), .int (iI 0)]) rfl rfl hl.1 rfl (lv_room (Nat.le_of_ble_eq_true rfl)) (D_182 W_prog_5_method_29_code_32 3 rfl rfl rfl) ⟨Nat.le_of_ble_eq_true rfl, Nat.le_of_ble_eq_true rfl⟩) hS7 (fun q _ h => zAin X hS7 q h) (zAin X hS7) (fun p10 u10 t10 H10 locs10 ht10 hv10 hw10 hB10 hz10 hk10 hS10 => ?_)
      have hZ10 := zBack X ht10 hB10
      subst hw10
      obtain ⟨g11, hf⟩ := gif hf
      refine z0ne (tgt := 43) hx hb g11 (D_154 W_prog_5_method_29_code_32 6 rfl rfl rfl) (by decide) (fun h12 => ?_) (fun h12 => ?_)
      · replace hf := gneg hf h12
        refine lv_aload_n hx hb (D_42 W_prog_5_method_29_code_32 11 rfl rfl) rfl (lv_at hl 0 rfl) ?_
        refine zget (ci := 3) (C := RX3) (T := TX3) (v := .ref (ad 3 l0 (3 + 1))) (k := 3) hx hb hts inW_3 hown hK hZ10 g1.1 g1.2 rfl (by decide) k_1_112 rfl (D_180 W_prog_5_method_29_code_32 12 rfl rfl rfl) ?_
        refine lv_iload_n hx hb (D_27 W_prog_5_method_29_code_32 15 rfl rfl) rfl (lv_at hl 1 rfl) ?_
        refine lv_aload_n hx hb (D_42 W_prog_5_method_29_code_32 16 rfl rfl) rfl (lv_at hl 0 rfl) ?_
        refine zget (ci := 3) (C := RX3) (T := TX3) (v := .int (iI (F10 3 l0 19))) (k := 19) hx hb hts inW_3 hown hK hZ10 g1.1 g1.2 rfl (by decide) k_1_136 rfl (D_180 W_prog_5_method_29_code_32 17 rfl rfl rfl) ?_
        refine zast (ci := 3) (k := 3) hx hb hK rfl hZ10 hS10 g1.1 g1.2 rfl (Nat.le_of_ble_eq_true rfl) g5.1 g5.2 (D_79 W_prog_5_method_29_code_32 20 rfl rfl) (fun H13 locs13 hZ13 hS13 => ?_)
        refine lv_iconst (v := iI 1) hx hb (D_4 W_prog_5_method_29_code_32 21 rfl rfl) rfl ?_
        cases hf
        exact W.zret hx hb hr rfl (fun t ht hW => ⟨⟨_, (), rfl, rfl, by rw [ht]; exact hZ13, va_K.moved hW.alike hK⟩, hS13.F ht⟩) hS13.2.2 (D_172 W_prog_5_method_29_code_32 22 rfl rfl) hlk
      · replace hf := gpos hf h12
        exact b_Parser_takeFraction_41 X hf hZ10 hS10 (lv_sub hl [] rfl)
  · replace hf := gpos hf h4
    refine lv_iconst (v := iI 0) hx hb (D_3 W_prog_5_method_29_code_0 10 rfl rfl) rfl ?_
    cases hf
    exact W.zret hx hb hr rfl (fun t ht hW => ⟨⟨_, (), rfl, rfl, by rw [ht]; exact hZ2, va_K.moved hW.alike hK⟩, hS2.F ht⟩) hS2.2.2 (D_172 W_prog_5_method_29_code_0 11 rfl rfl) hlk

