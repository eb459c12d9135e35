theorem k_1_44 : (Jvm.Cond.fieldLink "StaveHouse$Tokens" (22 : Nat) "StaveHouse$ByteRow" "size" "I") ∈ wAll := wA_1 (j := 44) rfl rfl
theorem k_3_159 : (Jvm.Cond.constantLong "StaveHouse$Parser" (86 : Nat) (7103860 : Int64)) ∈ wAll := wA_3 (j := 159) rfl rfl
theorem k_3_185 : (Jvm.Cond.fieldLink "StaveHouse$Parser" (190 : Nat) "StaveHouse$Parser" "CLEFS" "[J") ∈ wAll := wA_3 (j := 185) rfl rfl
theorem k_3_237 : (Jvm.Cond.methodLink "StaveHouse$Parser" (277 : Nat) ({ cls := "StaveHouse$Parser", name := "takePitch", desc := "(I)V" } : Jvm.MethodName)) ∈ wAll := wA_3 (j := 237) rfl rfl
theorem k_3_239 : (Jvm.Cond.instanceMethod ({ cls := "StaveHouse$Parser", name := "takePitch", desc := "(I)V" } : Jvm.MethodName)) ∈ wAll := wA_3 (j := 239) rfl rfl
theorem ks_16 : (Jvm.Cond.selects "StaveHouse$Parser" ({ cls := "StaveHouse$Parser", name := "takePitch", desc := "(I)V" } : Jvm.MethodName) ({ cls := "StaveHouse$Parser", name := "takePitch", desc := "(I)V" } : Jvm.MethodName)) ∈ wAll := wA_s (j := 16) rfl rfl
theorem k_4_0 : (Jvm.Cond.code ({ cls := "StaveHouse$Parser", name := "takePitch", desc := "(I)V" } : Jvm.MethodName) prog_5_method_24_code (2 : Nat) (Option.none : Option Jvm.ClassFile.FieldType)) ∈ wAll := wA_4 (j := 0) rfl rfl
theorem k_3_164 : (Jvm.Cond.methodLink "StaveHouse$Parser" (112 : Nat) ({ cls := "StaveHouse$Parser", name := "headSort", desc := "()I" } : Jvm.MethodName)) ∈ wAll := wA_3 (j := 164) rfl rfl
theorem k_3_166 : (Jvm.Cond.instanceMethod ({ cls := "StaveHouse$Parser", name := "headSort", desc := "()I" } : Jvm.MethodName)) ∈ wAll := wA_3 (j := 166) rfl rfl
theorem ks_3 : (Jvm.Cond.selects "StaveHouse$Parser" ({ cls := "StaveHouse$Parser", name := "headSort", desc := "()I" } : Jvm.MethodName) ({ cls := "StaveHouse$Parser", name := "headSort", desc := "()I" } : Jvm.MethodName)) ∈ wAll := wA_s (j := 3) rfl rfl
theorem k_3_167 : (Jvm.Cond.code ({ cls := "StaveHouse$Parser", name := "headSort", desc := "()I" } : Jvm.MethodName) prog_5_method_5_code (1 : Nat) (Option.some Jvm.ClassFile.FieldType.int)) ∈ wAll := wA_3 (j := 167) rfl rfl
theorem k_1_134 : (Jvm.Cond.fieldLink "StaveHouse$Parser" (69 : Nat) "StaveHouse$Parser" "headsTold" "I") ∈ wAll := wA_1 (j := 134) rfl rfl
theorem k_6_80 : (Jvm.Cond.fieldLink "StaveHouse$Performance" (162 : Nat) "StaveHouse$Performance" "heard" "I") ∈ wAll := wA_6 (j := 80) rfl rfl
theorem k_6_81 : (Jvm.Cond.fieldLink "StaveHouse$Performance" (165 : Nat) "StaveHouse$Performance" "predicted" "I") ∈ wAll := wA_6 (j := 81) rfl rfl
theorem k_6_82 : (Jvm.Cond.fieldLink "StaveHouse$Performance" (168 : Nat) "StaveHouse$Performance" "index" "I") ∈ wAll := wA_6 (j := 82) rfl rfl
theorem k_7_108 : (Jvm.Cond.methodLink "StaveHouse" (256 : Nat) ({ cls := "StaveHouse", name := "performanceOf", desc := "(I)LStaveHouse$Performance;" } : Jvm.MethodName)) ∈ wAll := wA_7 (j := 108) rfl rfl
theorem k_7_110 : (Jvm.Cond.instanceMethod ({ cls := "StaveHouse", name := "performanceOf", desc := "(I)LStaveHouse$Performance;" } : Jvm.MethodName)) ∈ wAll := wA_7 (j := 110) rfl rfl
theorem ks_89 : (Jvm.Cond.selects "StaveHouse" ({ cls := "StaveHouse", name := "performanceOf", desc := "(I)LStaveHouse$Performance;" } : Jvm.MethodName) ({ cls := "StaveHouse", name := "performanceOf", desc := "(I)LStaveHouse$Performance;" } : Jvm.MethodName)) ∈ wAll := wA_s (j := 89) rfl rfl
theorem k_7_111 : (Jvm.Cond.code ({ cls := "StaveHouse", name := "performanceOf", desc := "(I)LStaveHouse$Performance;" } : Jvm.MethodName) prog_1_method_9_code (3 : Nat) (Option.some (Jvm.ClassFile.FieldType.object "StaveHouse$Performance"))) ∈ wAll := wA_7 (j := 111) rfl rfl
theorem k_5_79 : (Jvm.Cond.instanceMethod ({ cls := "StaveHouse$Event", name := "isRest", desc := "()Z" } : Jvm.MethodName)) ∈ wAll := wA_5 (j := 79) rfl rfl
theorem k_5_80 : (Jvm.Cond.selects "StaveHouse$Event" ({ cls := "StaveHouse$Event", name := "isRest", desc := "()Z" } : Jvm.MethodName) ({ cls := "StaveHouse$Event", name := "isRest", desc := "()Z" } : Jvm.MethodName)) ∈ wAll := wA_5 (j := 80) rfl rfl
theorem k_5_81 : (Jvm.Cond.code ({ cls := "StaveHouse$Event", name := "isRest", desc := "()Z" } : Jvm.MethodName) prog_3_method_2_code (1 : Nat) (Option.some Jvm.ClassFile.FieldType.boolean)) ∈ wAll := wA_5 (j := 81) rfl rfl
theorem k_9_10 : (Jvm.Cond.fieldLink "StaveHouse$Performance" (298 : Nat) "StaveHouse$Performance" "TURNS" "[J") ∈ wAll := wA_9 (j := 10) rfl rfl
theorem k_9_15 : (Jvm.Cond.methodLink "StaveHouse$Performance" (301 : Nat) ({ cls := "java/lang/Math", name := "abs", desc := "(I)I" } : Jvm.MethodName)) ∈ wAll := wA_9 (j := 15) rfl rfl
theorem k_9_26 : (Jvm.Cond.fieldLink "StaveHouse$Performance" (307 : Nat) "StaveHouse$Performance" "CODE_STEPS" "[I") ∈ wAll := wA_9 (j := 26) rfl rfl
theorem k_9_28 : (Jvm.Cond.fieldLink "StaveHouse$Performance" (310 : Nat) "StaveHouse$Performance" "INDEX_MOVES" "[I") ∈ wAll := wA_9 (j := 28) rfl rfl
theorem k_6_70 : (Jvm.Cond.fieldLink "StaveHouse" (300 : Nat) "StaveHouse$Performance" "latest" "I") ∈ wAll := wA_6 (j := 70) rfl rfl
theorem k_6_72 : (Jvm.Cond.fieldLink "StaveHouse" (303 : Nat) "StaveHouse$Performance" "heardRow" "[I") ∈ wAll := wA_6 (j := 72) rfl rfl
theorem k_6_74 : (Jvm.Cond.fieldLink "StaveHouse" (306 : Nat) "StaveHouse$Performance" "codeRow" "[I") ∈ wAll := wA_6 (j := 74) rfl rfl
theorem k_5_211 : (Jvm.Cond.fieldLink "StaveHouse$Study" (40 : Nat) "StaveHouse$Study" "letters" "[I") ∈ wAll := wA_5 (j := 211) rfl rfl
theorem k_6_13 : (Jvm.Cond.methodLink "StaveHouse$Study" (98 : Nat) ({ cls := "StaveHouse$Study", name := "eventOf", desc := "(LStaveHouse$Piece;II)LStaveHouse$Event;" } : Jvm.MethodName)) ∈ wAll := wA_6 (j := 13) rfl rfl
theorem k_6_15 : (Jvm.Cond.instanceMethod ({ cls := "StaveHouse$Study", name := "eventOf", desc := "(LStaveHouse$Piece;II)LStaveHouse$Event;" } : Jvm.MethodName)) ∈ wAll := wA_6 (j := 15) rfl rfl
theorem ks_69 : (Jvm.Cond.selects "StaveHouse$Study" ({ cls := "StaveHouse$Study", name := "eventOf", desc := "(LStaveHouse$Piece;II)LStaveHouse$Event;" } : Jvm.MethodName) ({ cls := "StaveHouse$Study", name := "eventOf", desc := "(LStaveHouse$Piece;II)LStaveHouse$Event;" } : Jvm.MethodName)) ∈ wAll := wA_s (j := 69) rfl rfl
theorem k_1_19 : (Jvm.Cond.initialized "StaveHouse$Study") ∈ wAll := wA_1 (j := 19) rfl rfl
theorem k_6_16 : (Jvm.Cond.code ({ cls := "StaveHouse$Study", name := "eventOf", desc := "(LStaveHouse$Piece;II)LStaveHouse$Event;" } : Jvm.MethodName) prog_11_method_5_code (5 : Nat) (Option.some (Jvm.ClassFile.FieldType.object "StaveHouse$Event"))) ∈ wAll := wA_6 (j := 16) rfl rfl
theorem k_2_51 : (Jvm.Cond.fieldLink "StaveHouse$Study" (165 : Nat) "StaveHouse$Event" "count" "I") ∈ wAll := wA_2 (j := 51) rfl rfl
theorem k_2_58 : (Jvm.Cond.fieldLink "StaveHouse$Study" (106 : Nat) "StaveHouse$Event" "steps" "[I") ∈ wAll := wA_2 (j := 58) rfl rfl
theorem k_2_66 : (Jvm.Cond.fieldLink "StaveHouse$Study" (168 : Nat) "StaveHouse$Event" "alterations" "[I") ∈ wAll := wA_2 (j := 66) rfl rfl
theorem k_9_47 : (Jvm.Cond.methodLink "StaveHouse$Study" (142 : Nat) ({ cls := "java/lang/Integer", name := "bitCount", desc := "(I)I" } : Jvm.MethodName)) ∈ wAll := wA_9 (j := 47) rfl rfl
theorem k_7_170 : (Jvm.Cond.static ({ cls := "java/lang/Integer", name := "bitCount", desc := "(I)I" } : Jvm.MethodName)) ∈ wAll := wA_7 (j := 170) rfl rfl
theorem k_1_22 : (Jvm.Cond.initialized "java/lang/Integer") ∈ wAll := wA_1 (j := 22) rfl rfl
theorem k_7_171 : (Jvm.Cond.code ({ cls := "java/lang/Integer", name := "bitCount", desc := "(I)I" } : Jvm.MethodName) prog_18_method_49_code (1 : Nat) (Option.some Jvm.ClassFile.FieldType.int)) ∈ wAll := wA_7 (j := 171) rfl rfl
theorem k_2_201 : (Jvm.Cond.fieldLink "StaveHouse$Study" (183 : Nat) "StaveHouse$Piece" "fifths" "I") ∈ wAll := wA_2 (j := 201) rfl rfl
theorem k_2_205 : (Jvm.Cond.fieldLink "StaveHouse$Study" (186 : Nat) "StaveHouse$Piece" "minor" "I") ∈ wAll := wA_2 (j := 205) rfl rfl
theorem k_5_118 : (Jvm.Cond.code ({ cls := "StaveHouse", name := "keyAlteration", desc := "(II)I" } : Jvm.MethodName) prog_1_method_38_code (3 : Nat) (Option.some Jvm.ClassFile.FieldType.int)) ∈ wAll := wA_5 (j := 118) rfl rfl
theorem k_5_117 : (Jvm.Cond.static ({ cls := "StaveHouse", name := "keyAlteration", desc := "(II)I" } : Jvm.MethodName)) ∈ wAll := wA_5 (j := 117) rfl rfl
theorem k_5_78 : (Jvm.Cond.methodLink "StaveHouse$Part" (146 : Nat) ({ cls := "StaveHouse$Event", name := "isRest", desc := "()Z" } : Jvm.MethodName)) ∈ wAll := wA_5 (j := 78) rfl rfl
theorem k_9_111 : (Jvm.Cond.methodLink "StaveHouse$Part" (238 : Nat) ({ cls := "java/lang/Math", name := "max", desc := "(JJ)J" } : Jvm.MethodName)) ∈ wAll := wA_9 (j := 111) rfl rfl
theorem k_2_162 : (Jvm.Cond.methodLink "StaveHouse" (52 : Nat) ({ cls := "StaveHouse", name := "waitWord", desc := "(II)V" } : Jvm.MethodName)) ∈ wAll := wA_2 (j := 162) rfl rfl
theorem k_2_164 : (Jvm.Cond.instanceMethod ({ cls := "StaveHouse", name := "waitWord", desc := "(II)V" } : Jvm.MethodName)) ∈ wAll := wA_2 (j := 164) rfl rfl
theorem ks_0 : (Jvm.Cond.selects "StaveHouse" ({ cls := "StaveHouse", name := "waitWord", desc := "(II)V" } : Jvm.MethodName) ({ cls := "StaveHouse", name := "waitWord", desc := "(II)V" } : Jvm.MethodName)) ∈ wAll := wA_s (j := 0) rfl rfl
theorem k_2_165 : (Jvm.Cond.code ({ cls := "StaveHouse", name := "waitWord", desc := "(II)V" } : Jvm.MethodName) prog_1_method_3_code (4 : Nat) (Option.none : Option Jvm.ClassFile.FieldType)) ∈ wAll := wA_2 (j := 165) rfl rfl
theorem k_3_44 : (Jvm.Cond.methodLink "StaveHouse$Tokens" (76 : Nat) ({ cls := "StaveHouse$Tokens", name := "isLetter", desc := "(I)Z" } : Jvm.MethodName)) ∈ wAll := wA_3 (j := 44) rfl rfl
theorem k_3_45 : (Jvm.Cond.static ({ cls := "StaveHouse$Tokens", name := "isLetter", desc := "(I)Z" } : Jvm.MethodName)) ∈ wAll := wA_3 (j := 45) rfl rfl
theorem k_3_46 : (Jvm.Cond.code ({ cls := "StaveHouse$Tokens", name := "isLetter", desc := "(I)Z" } : Jvm.MethodName) prog_12_method_12_code (1 : Nat) (Option.some Jvm.ClassFile.FieldType.boolean)) ∈ wAll := wA_3 (j := 46) rfl rfl
theorem k_3_47 : (Jvm.Cond.methodLink "StaveHouse$Tokens" (79 : Nat) ({ cls := "StaveHouse$Tokens", name := "isDigit", desc := "(I)Z" } : Jvm.MethodName)) ∈ wAll := wA_3 (j := 47) rfl rfl
theorem k_3_48 : (Jvm.Cond.static ({ cls := "StaveHouse$Tokens", name := "isDigit", desc := "(I)Z" } : Jvm.MethodName)) ∈ wAll := wA_3 (j := 48) rfl rfl
theorem k_3_49 : (Jvm.Cond.code ({ cls := "StaveHouse$Tokens", name := "isDigit", desc := "(I)Z" } : Jvm.MethodName) prog_12_method_13_code (1 : Nat) (Option.some Jvm.ClassFile.FieldType.boolean)) ∈ wAll := wA_3 (j := 49) rfl rfl
theorem k_3_41 : (Jvm.Cond.methodLink "StaveHouse$Tokens" (36 : Nat) ({ cls := "StaveHouse$Tokens", name := "isRunByte", desc := "(I)Z" } : Jvm.MethodName)) ∈ wAll := wA_3 (j := 41) rfl rfl
theorem k_3_42 : (Jvm.Cond.static ({ cls := "StaveHouse$Tokens", name := "isRunByte", desc := "(I)Z" } : Jvm.MethodName)) ∈ wAll := wA_3 (j := 42) rfl rfl
theorem k_3_43 : (Jvm.Cond.code ({ cls := "StaveHouse$Tokens", name := "isRunByte", desc := "(I)Z" } : Jvm.MethodName) prog_12_method_14_code (1 : Nat) (Option.some Jvm.ClassFile.FieldType.boolean)) ∈ wAll := wA_3 (j := 43) rfl rfl
theorem k_3_57 : (Jvm.Cond.methodLink "StaveHouse$Tokens" (82 : Nat) ({ cls := "StaveHouse$Tokens", name := "isPitch", desc := "(LStaveHouse$ByteRow;II)Z" } : Jvm.MethodName)) ∈ wAll := wA_3 (j := 57) rfl rfl
theorem k_3_58 : (Jvm.Cond.static ({ cls := "StaveHouse$Tokens", name := "isPitch", desc := "(LStaveHouse$ByteRow;II)Z" } : Jvm.MethodName)) ∈ wAll := wA_3 (j := 58) rfl rfl
theorem k_3_59 : (Jvm.Cond.code ({ cls := "StaveHouse$Tokens", name := "isPitch", desc := "(LStaveHouse$ByteRow;II)Z" } : Jvm.MethodName) prog_12_method_9_code (8 : Nat) (Option.some Jvm.ClassFile.FieldType.boolean)) ∈ wAll := wA_3 (j := 59) rfl rfl
theorem k_3_63 : (Jvm.Cond.methodLink "StaveHouse$Tokens" (90 : Nat) ({ cls := "StaveHouse$Tokens", name := "joined", desc := "(LStaveHouse$ByteRow;IIII)J" } : Jvm.MethodName)) ∈ wAll := wA_3 (j := 63) rfl rfl
theorem k_3_64 : (Jvm.Cond.static ({ cls := "StaveHouse$Tokens", name := "joined", desc := "(LStaveHouse$ByteRow;IIII)J" } : Jvm.MethodName)) ∈ wAll := wA_3 (j := 64) rfl rfl
theorem k_3_65 : (Jvm.Cond.code ({ cls := "StaveHouse$Tokens", name := "joined", desc := "(LStaveHouse$ByteRow;IIII)J" } : Jvm.MethodName) prog_12_method_8_code (8 : Nat) (Option.some Jvm.ClassFile.FieldType.long)) ∈ wAll := wA_3 (j := 65) rfl rfl
theorem k_3_60 : (Jvm.Cond.methodLink "StaveHouse$Tokens" (86 : Nat) ({ cls := "StaveHouse$Tokens", name := "pitchValue", desc := "(LStaveHouse$ByteRow;II)J" } : Jvm.MethodName)) ∈ wAll := wA_3 (j := 60) rfl rfl
theorem k_3_61 : (Jvm.Cond.static ({ cls := "StaveHouse$Tokens", name := "pitchValue", desc := "(LStaveHouse$ByteRow;II)J" } : Jvm.MethodName)) ∈ wAll := wA_3 (j := 61) rfl rfl
theorem k_3_62 : (Jvm.Cond.code ({ cls := "StaveHouse$Tokens", name := "pitchValue", desc := "(LStaveHouse$ByteRow;II)J" } : Jvm.MethodName) prog_12_method_10_code (6 : Nat) (Option.some Jvm.ClassFile.FieldType.long)) ∈ wAll := wA_3 (j := 62) rfl rfl
theorem k_3_92 : (Jvm.Cond.methodLink "java/lang/StringLatin1" (88 : Nat) ({ cls := "java/lang/StringLatin1", name := "canEncode", desc := "(I)Z" } : Jvm.MethodName)) ∈ wAll := wA_3 (j := 92) rfl rfl
theorem k_3_93 : (Jvm.Cond.static ({ cls := "java/lang/StringLatin1", name := "canEncode", desc := "(I)Z" } : Jvm.MethodName)) ∈ wAll := wA_3 (j := 93) rfl rfl
theorem k_3_94 : (Jvm.Cond.code ({ cls := "java/lang/StringLatin1", name := "canEncode", desc := "(I)Z" } : Jvm.MethodName) prog_22_method_4_code (1 : Nat) (Option.some Jvm.ClassFile.FieldType.boolean)) ∈ wAll := wA_3 (j := 94) rfl rfl
theorem k_3_95 : (Jvm.Cond.methodLink "java/lang/StringLatin1" (92 : Nat) ({ cls := "java/lang/Math", name := "max", desc := "(II)I" } : Jvm.MethodName)) ∈ wAll := wA_3 (j := 95) rfl rfl
theorem k_3_96 : (Jvm.Cond.methodLink "java/lang/StringLatin1" (38 : Nat) ({ cls := "java/lang/Math", name := "min", desc := "(II)I" } : Jvm.MethodName)) ∈ wAll := wA_3 (j := 96) rfl rfl
theorem k_3_99 : (Jvm.Cond.methodLink "java/lang/StringLatin1" (95 : Nat) ({ cls := "java/lang/StringLatin1", name := "indexOfChar", desc := "([BIII)I" } : Jvm.MethodName)) ∈ wAll := wA_3 (j := 99) rfl rfl
theorem k_3_100 : (Jvm.Cond.static ({ cls := "java/lang/StringLatin1", name := "indexOfChar", desc := "([BIII)I" } : Jvm.MethodName)) ∈ wAll := wA_3 (j := 100) rfl rfl
theorem k_3_101 : (Jvm.Cond.code ({ cls := "java/lang/StringLatin1", name := "indexOfChar", desc := "([BIII)I" } : Jvm.MethodName) prog_22_method_23_code (6 : Nat) (Option.some Jvm.ClassFile.FieldType.int)) ∈ wAll := wA_3 (j := 101) rfl rfl
theorem k_3_194 : (Jvm.Cond.fieldLink "StaveHouse$Parser" (221 : Nat) "StaveHouse$Parser" "OTHER_WORDS" "[J") ∈ wAll := wA_3 (j := 194) rfl rfl
theorem k_3_204 : (Jvm.Cond.methodLink "StaveHouse$Parser" (146 : Nat) ({ cls := "StaveHouse$Parser", name := "takeSign", desc := "(C)Z" } : Jvm.MethodName)) ∈ wAll := wA_3 (j := 204) rfl rfl
theorem k_3_206 : (Jvm.Cond.instanceMethod ({ cls := "StaveHouse$Parser", name := "takeSign", desc := "(C)Z" } : Jvm.MethodName)) ∈ wAll := wA_3 (j := 206) rfl rfl
theorem ks_9 : (Jvm.Cond.selects "StaveHouse$Parser" ({ cls := "StaveHouse$Parser", name := "takeSign", desc := "(C)Z" } : Jvm.MethodName) ({ cls := "StaveHouse$Parser", name := "takeSign", desc := "(C)Z" } : Jvm.MethodName)) ∈ wAll := wA_s (j := 9) rfl rfl
theorem k_3_207 : (Jvm.Cond.code ({ cls := "StaveHouse$Parser", name := "takeSign", desc := "(C)Z" } : Jvm.MethodName) prog_5_method_14_code (2 : Nat) (Option.some Jvm.ClassFile.FieldType.boolean)) ∈ wAll := wA_3 (j := 207) rfl rfl
theorem k_4_13 : (Jvm.Cond.methodLink "StaveHouse$Parser" (224 : Nat) ({ cls := "java/lang/Long", name := "bitCount", desc := "(J)I" } : Jvm.MethodName)) ∈ wAll := wA_4 (j := 13) rfl rfl
theorem k_4_14 : (Jvm.Cond.static ({ cls := "java/lang/Long", name := "bitCount", desc := "(J)I" } : Jvm.MethodName)) ∈ wAll := wA_4 (j := 14) rfl rfl
theorem k_1_17 : (Jvm.Cond.initialized "java/lang/Long") ∈ wAll := wA_1 (j := 17) rfl rfl
theorem k_4_15 : (Jvm.Cond.code ({ cls := "java/lang/Long", name := "bitCount", desc := "(J)I" } : Jvm.MethodName) prog_19_method_50_code (2 : Nat) (Option.some Jvm.ClassFile.FieldType.int)) ∈ wAll := wA_4 (j := 15) rfl rfl
theorem k_1_136 : (Jvm.Cond.fieldLink "StaveHouse$Parser" (135 : Nat) "StaveHouse$Parser" "number" "I") ∈ wAll := wA_1 (j := 136) rfl rfl
theorem k_4_9 : (Jvm.Cond.methodLink "StaveHouse$Parser" (131 : Nat) ({ cls := "StaveHouse$Parser", name := "takeNumber", desc := "(IIZ)Z" } : Jvm.MethodName)) ∈ wAll := wA_4 (j := 9) rfl rfl
theorem k_4_11 : (Jvm.Cond.instanceMethod ({ cls := "StaveHouse$Parser", name := "takeNumber", desc := "(IIZ)Z" } : Jvm.MethodName)) ∈ wAll := wA_4 (j := 11) rfl rfl
theorem ks_19 : (Jvm.Cond.selects "StaveHouse$Parser" ({ cls := "StaveHouse$Parser", name := "takeNumber", desc := "(IIZ)Z" } : Jvm.MethodName) ({ cls := "StaveHouse$Parser", name := "takeNumber", desc := "(IIZ)Z" } : Jvm.MethodName)) ∈ wAll := wA_s (j := 19) rfl rfl
theorem k_4_12 : (Jvm.Cond.code ({ cls := "StaveHouse$Parser", name := "takeNumber", desc := "(IIZ)Z" } : Jvm.MethodName) prog_5_method_15_code (5 : Nat) (Option.some Jvm.ClassFile.FieldType.boolean)) ∈ wAll := wA_4 (j := 12) rfl rfl
theorem W_prog_1_method_2_code_0 : chW prog_1_method_2_code 0 [42, 3, 27, 182, 0, 52, 42, 7, 28, 182, 0, 52, 42, 16, 8, 29, 182, 0, 52, 42, 16, 12, 21, 4, 182, 0, 52, 42, 16, 16, 21, 5, 182, 0, 52, 177] := chW_of (by decide +kernel)
theorem d_1_2_0 : decode prog_1_method_2_code 0 = .ok (.aload_n 0, 1) := D_42 W_prog_1_method_2_code_0 0 rfl rfl
theorem d_1_2_1 : decode prog_1_method_2_code 1 = .ok (.iconst 0, 1) := D_3 W_prog_1_method_2_code_0 1 rfl rfl
theorem d_1_2_2 : decode prog_1_method_2_code 2 = .ok (.iload_n 1, 1) := D_27 W_prog_1_method_2_code_0 2 rfl rfl
theorem d_1_2_3 : decode prog_1_method_2_code 3 = .ok (.invokevirtual 52, 3) := D_182 W_prog_1_method_2_code_0 3 rfl rfl rfl
theorem W_prog_1_method_4_code_0 : chW prog_1_method_4_code 0 [27, 155, 0, 24, 27, 16, 20, 163, 0, 18, 42, 180, 0, 14, 180, 0, 56, 27, 96, 17, 11, 184, 164, 0, 5, 2, 172, 3, 61, 28, 27, 162, 0, 22, 42, 180] := chW_of (by decide +kernel)
theorem d_1_4_0 : decode prog_1_method_4_code 0 = .ok (.iload_n 1, 1) := D_27 W_prog_1_method_4_code_0 0 rfl rfl
theorem d_1_4_1 : decode prog_1_method_4_code 1 = .ok (.ifCond .lt 24, 3) := D_155 W_prog_1_method_4_code_0 1 rfl rfl rfl
theorem d_1_4_4 : decode prog_1_method_4_code 4 = .ok (.iload_n 1, 1) := D_27 W_prog_1_method_4_code_0 4 rfl rfl
theorem d_1_4_5 : decode prog_1_method_4_code 5 = .ok (.bipush 20, 2) := D_16 W_prog_1_method_4_code_0 5 rfl rfl rfl
theorem d_1_4_7 : decode prog_1_method_4_code 7 = .ok (.if_icmp .gt 18, 3) := D_163 W_prog_1_method_4_code_0 7 rfl rfl rfl
theorem d_1_4_10 : decode prog_1_method_4_code 10 = .ok (.aload_n 0, 1) := D_42 W_prog_1_method_4_code_0 10 rfl rfl
theorem d_1_4_11 : decode prog_1_method_4_code 11 = .ok (.getfield 14, 3) := D_180 W_prog_1_method_4_code_0 11 rfl rfl rfl
theorem d_1_4_14 : decode prog_1_method_4_code 14 = .ok (.getfield 56, 3) := D_180 W_prog_1_method_4_code_0 14 rfl rfl rfl
theorem d_1_4_17 : decode prog_1_method_4_code 17 = .ok (.iload_n 1, 1) := D_27 W_prog_1_method_4_code_0 17 rfl rfl
theorem d_1_4_18 : decode prog_1_method_4_code 18 = .ok (.iadd, 1) := D_96 W_prog_1_method_4_code_0 18 rfl rfl
theorem d_1_4_19 : decode prog_1_method_4_code 19 = .ok (.sipush 3000, 3) := D_17 W_prog_1_method_4_code_0 19 rfl rfl rfl
theorem d_1_4_22 : decode prog_1_method_4_code 22 = .ok (.if_icmp .le 5, 3) := D_164 W_prog_1_method_4_code_0 22 rfl rfl rfl
theorem d_1_4_27 : decode prog_1_method_4_code 27 = .ok (.iconst 0, 1) := D_3 W_prog_1_method_4_code_0 27 rfl rfl
theorem d_1_4_28 : decode prog_1_method_4_code 28 = .ok (.istore_n 2, 1) := D_61 W_prog_1_method_4_code_0 28 rfl rfl
theorem d_1_4_25 : decode prog_1_method_4_code 25 = .ok (.iconst (-1), 1) := D_2 W_prog_1_method_4_code_0 25 rfl rfl
theorem d_1_4_26 : decode prog_1_method_4_code 26 = .ok (.ireturn, 1) := D_172 W_prog_1_method_4_code_0 26 rfl rfl
theorem d_1_4_29 : decode prog_1_method_4_code 29 = .ok (.iload_n 2, 1) := D_28 W_prog_1_method_4_code_0 29 rfl rfl
theorem d_1_4_30 : decode prog_1_method_4_code 30 = .ok (.iload_n 1, 1) := D_27 W_prog_1_method_4_code_0 30 rfl rfl
theorem d_1_4_31 : decode prog_1_method_4_code 31 = .ok (.if_icmp .ge 22, 3) := D_162 W_prog_1_method_4_code_0 31 rfl rfl rfl
theorem W_prog_1_method_4_code_32 : chW prog_1_method_4_code 32 [0, 22, 42, 180, 0, 14, 42, 180, 0, 18, 28, 46, 182, 0, 60, 132, 2, 1, 167, 255, 235, 42, 180, 0, 14, 180, 0, 56, 172] := chW_of (by decide +kernel)
theorem d_1_4_53 : decode prog_1_method_4_code 53 = .ok (.aload_n 0, 1) := D_42 W_prog_1_method_4_code_32 21 rfl rfl
theorem d_1_4_54 : decode prog_1_method_4_code 54 = .ok (.getfield 14, 3) := D_180 W_prog_1_method_4_code_32 22 rfl rfl rfl
theorem d_1_4_57 : decode prog_1_method_4_code 57 = .ok (.getfield 56, 3) := D_180 W_prog_1_method_4_code_32 25 rfl rfl rfl
theorem d_1_4_60 : decode prog_1_method_4_code 60 = .ok (.ireturn, 1) := D_172 W_prog_1_method_4_code_32 28 rfl rfl
theorem d_1_4_34 : decode prog_1_method_4_code 34 = .ok (.aload_n 0, 1) := D_42 W_prog_1_method_4_code_32 2 rfl rfl
theorem d_1_4_35 : decode prog_1_method_4_code 35 = .ok (.getfield 14, 3) := D_180 W_prog_1_method_4_code_32 3 rfl rfl rfl
theorem d_1_4_38 : decode prog_1_method_4_code 38 = .ok (.aload_n 0, 1) := D_42 W_prog_1_method_4_code_32 6 rfl rfl
theorem d_1_4_39 : decode prog_1_method_4_code 39 = .ok (.getfield 18, 3) := D_180 W_prog_1_method_4_code_32 7 rfl rfl rfl
theorem d_1_4_42 : decode prog_1_method_4_code 42 = .ok (.iload_n 2, 1) := D_28 W_prog_1_method_4_code_32 10 rfl rfl
theorem d_1_4_43 : decode prog_1_method_4_code 43 = .ok (.iaload, 1) := D_46 W_prog_1_method_4_code_32 11 rfl rfl
theorem d_1_4_44 : decode prog_1_method_4_code 44 = .ok (.invokevirtual 60, 3) := D_182 W_prog_1_method_4_code_32 12 rfl rfl rfl
theorem W_prog_12_method_14_code_0 : chW prog_12_method_14_code 0 [26, 184, 0, 76, 154, 0, 16, 26, 184, 0, 79, 154, 0, 9, 26, 16, 35, 160, 0, 7, 4, 167, 0, 4, 3, 172] := chW_of (by decide +kernel)
theorem d_12_14_0 : decode prog_12_method_14_code 0 = .ok (.iload_n 0, 1) := D_26 W_prog_12_method_14_code_0 0 rfl rfl
theorem d_12_14_1 : decode prog_12_method_14_code 1 = .ok (.invokestatic 76, 3) := D_184 W_prog_12_method_14_code_0 1 rfl rfl rfl
theorem W_prog_12_method_6_code_0 : chW prog_12_method_6_code 0 [27, 61, 28, 42, 180, 0, 22, 162, 0, 20, 42, 28, 182, 0, 28, 184, 0, 36, 153, 0, 9, 132, 2, 1, 167, 255, 234, 28, 172] := chW_of (by decide +kernel)
theorem d_12_6_0 : decode prog_12_method_6_code 0 = .ok (.iload_n 1, 1) := D_27 W_prog_12_method_6_code_0 0 rfl rfl
theorem d_12_6_1 : decode prog_12_method_6_code 1 = .ok (.istore_n 2, 1) := D_61 W_prog_12_method_6_code_0 1 rfl rfl
theorem d_12_6_2 : decode prog_12_method_6_code 2 = .ok (.iload_n 2, 1) := D_28 W_prog_12_method_6_code_0 2 rfl rfl
theorem d_12_6_3 : decode prog_12_method_6_code 3 = .ok (.aload_n 0, 1) := D_42 W_prog_12_method_6_code_0 3 rfl rfl
theorem d_12_6_4 : decode prog_12_method_6_code 4 = .ok (.getfield 22, 3) := D_180 W_prog_12_method_6_code_0 4 rfl rfl rfl
theorem d_12_6_7 : decode prog_12_method_6_code 7 = .ok (.if_icmp .ge 20, 3) := D_162 W_prog_12_method_6_code_0 7 rfl rfl rfl
theorem d_12_6_10 : decode prog_12_method_6_code 10 = .ok (.aload_n 0, 1) := D_42 W_prog_12_method_6_code_0 10 rfl rfl
theorem d_12_6_11 : decode prog_12_method_6_code 11 = .ok (.iload_n 2, 1) := D_28 W_prog_12_method_6_code_0 11 rfl rfl
theorem d_12_6_12 : decode prog_12_method_6_code 12 = .ok (.invokevirtual 28, 3) := D_182 W_prog_12_method_6_code_0 12 rfl rfl rfl
theorem d_12_6_15 : decode prog_12_method_6_code 15 = .ok (.invokestatic 36, 3) := D_184 W_prog_12_method_6_code_0 15 rfl rfl rfl
theorem W_prog_12_method_7_code_0 : chW prog_12_method_7_code 0 [3, 54, 5, 3, 54, 6, 29, 54, 7, 21, 7, 21, 4, 162, 0, 53, 21, 5, 43, 21, 7, 182, 0, 28, 184, 0, 76, 153, 0, 7, 4, 167, 0, 4, 3, 96] := chW_of (by decide +kernel)
theorem d_12_7_0 : decode prog_12_method_7_code 0 = .ok (.iconst 0, 1) := D_3 W_prog_12_method_7_code_0 0 rfl rfl
theorem d_12_7_1 : decode prog_12_method_7_code 1 = .ok (.istore 5, 2) := D_54 W_prog_12_method_7_code_0 1 rfl rfl
theorem d_12_7_3 : decode prog_12_method_7_code 3 = .ok (.iconst 0, 1) := D_3 W_prog_12_method_7_code_0 3 rfl rfl
theorem d_12_7_4 : decode prog_12_method_7_code 4 = .ok (.istore 6, 2) := D_54 W_prog_12_method_7_code_0 4 rfl rfl
theorem d_12_7_6 : decode prog_12_method_7_code 6 = .ok (.iload_n 3, 1) := D_29 W_prog_12_method_7_code_0 6 rfl rfl
theorem d_12_7_7 : decode prog_12_method_7_code 7 = .ok (.istore 7, 2) := D_54 W_prog_12_method_7_code_0 7 rfl rfl
theorem d_12_7_9 : decode prog_12_method_7_code 9 = .ok (.iload 7, 2) := D_21 W_prog_12_method_7_code_0 9 rfl rfl
theorem d_12_7_11 : decode prog_12_method_7_code 11 = .ok (.iload 4, 2) := D_21 W_prog_12_method_7_code_0 11 rfl rfl
theorem d_12_7_13 : decode prog_12_method_7_code 13 = .ok (.if_icmp .ge 53, 3) := D_162 W_prog_12_method_7_code_0 13 rfl rfl rfl
theorem W_prog_12_method_7_code_64 : chW prog_12_method_7_code 64 [255, 202, 21, 4, 29, 100, 54, 7, 42, 180, 0, 9, 28, 4, 79, 42, 180, 0, 18, 28, 9, 80, 43, 29, 21, 7, 184, 0, 82, 153, 0, 26, 42, 180, 0, 9] := chW_of (by decide +kernel)
theorem d_12_7_66 : decode prog_12_method_7_code 66 = .ok (.iload 4, 2) := D_21 W_prog_12_method_7_code_64 2 rfl rfl
theorem d_12_7_68 : decode prog_12_method_7_code 68 = .ok (.iload_n 3, 1) := D_29 W_prog_12_method_7_code_64 4 rfl rfl
theorem d_12_7_69 : decode prog_12_method_7_code 69 = .ok (.isub, 1) := D_100 W_prog_12_method_7_code_64 5 rfl rfl
theorem d_12_7_70 : decode prog_12_method_7_code 70 = .ok (.istore 7, 2) := D_54 W_prog_12_method_7_code_64 6 rfl rfl
theorem d_12_7_72 : decode prog_12_method_7_code 72 = .ok (.aload_n 0, 1) := D_42 W_prog_12_method_7_code_64 8 rfl rfl
theorem d_12_7_73 : decode prog_12_method_7_code 73 = .ok (.getfield 9, 3) := D_180 W_prog_12_method_7_code_64 9 rfl rfl rfl
theorem d_12_7_76 : decode prog_12_method_7_code 76 = .ok (.iload_n 2, 1) := D_28 W_prog_12_method_7_code_64 12 rfl rfl
theorem d_12_7_77 : decode prog_12_method_7_code 77 = .ok (.iconst 1, 1) := D_4 W_prog_12_method_7_code_64 13 rfl rfl
theorem d_12_7_78 : decode prog_12_method_7_code 78 = .ok (.iastore, 1) := D_79 W_prog_12_method_7_code_64 14 rfl rfl
theorem d_12_7_79 : decode prog_12_method_7_code 79 = .ok (.aload_n 0, 1) := D_42 W_prog_12_method_7_code_64 15 rfl rfl
theorem d_12_7_80 : decode prog_12_method_7_code 80 = .ok (.getfield 18, 3) := D_180 W_prog_12_method_7_code_64 16 rfl rfl rfl
theorem d_12_7_83 : decode prog_12_method_7_code 83 = .ok (.iload_n 2, 1) := D_28 W_prog_12_method_7_code_64 19 rfl rfl
theorem d_12_7_84 : decode prog_12_method_7_code 84 = .ok (.lconst 0, 1) := D_9 W_prog_12_method_7_code_64 20 rfl rfl
theorem d_12_7_85 : decode prog_12_method_7_code 85 = .ok (.lastore, 1) := D_80 W_prog_12_method_7_code_64 21 rfl rfl
theorem d_12_7_86 : decode prog_12_method_7_code 86 = .ok (.aload_n 1, 1) := D_43 W_prog_12_method_7_code_64 22 rfl rfl
theorem d_12_7_87 : decode prog_12_method_7_code 87 = .ok (.iload_n 3, 1) := D_29 W_prog_12_method_7_code_64 23 rfl rfl
theorem d_12_7_88 : decode prog_12_method_7_code 88 = .ok (.iload 7, 2) := D_21 W_prog_12_method_7_code_64 24 rfl rfl
theorem d_12_7_90 : decode prog_12_method_7_code 90 = .ok (.invokestatic 82, 3) := D_184 W_prog_12_method_7_code_64 26 rfl rfl rfl
theorem W_prog_22_method_22_code_0 : chW prog_22_method_22_code 0 [27, 184, 0, 88, 154, 0, 5, 2, 172, 28, 3, 184, 0, 92, 61, 29, 42, 190, 184, 0, 38, 62, 28, 29, 161, 0, 5, 2, 172, 42, 27, 28, 29, 184, 0, 95] := chW_of (by decide +kernel)
theorem d_22_22_0 : decode prog_22_method_22_code 0 = .ok (.iload_n 1, 1) := D_27 W_prog_22_method_22_code_0 0 rfl rfl
theorem d_22_22_1 : decode prog_22_method_22_code 1 = .ok (.invokestatic 88, 3) := D_184 W_prog_22_method_22_code_0 1 rfl rfl rfl
theorem W_prog_5_method_4_code_0 : chW prog_5_method_4_code 0 [42, 180, 0, 48, 20, 0, 86, 182, 0, 88, 153, 0, 18, 42, 180, 0, 66, 16, 6, 162, 0, 7, 4, 167, 0, 4, 3, 172, 42, 182, 0, 112, 153, 0, 19, 42] := chW_of (by decide +kernel)
theorem d_5_4_0 : decode prog_5_method_4_code 0 = .ok (.aload_n 0, 1) := D_42 W_prog_5_method_4_code_0 0 rfl rfl
theorem d_5_4_1 : decode prog_5_method_4_code 1 = .ok (.getfield 48, 3) := D_180 W_prog_5_method_4_code_0 1 rfl rfl rfl
theorem d_5_4_4 : decode prog_5_method_4_code 4 = .ok (.ldc2_w 86, 3) := D_20 W_prog_5_method_4_code_0 4 rfl rfl rfl
theorem d_5_4_7 : decode prog_5_method_4_code 7 = .ok (.invokevirtual 88, 3) := D_182 W_prog_5_method_4_code_0 7 rfl rfl rfl
theorem W_prog_5_method_12_code_0 : chW prog_5_method_12_code 0 [42, 180, 0, 48, 180, 0, 173, 64, 42, 180, 0, 48, 180, 0, 108, 7, 160, 0, 51, 178, 0, 190, 31, 184, 0, 193, 2, 160, 0, 40, 178, 0, 215, 31, 184, 0] := chW_of (by decide +kernel)
theorem d_5_12_0 : decode prog_5_method_12_code 0 = .ok (.aload_n 0, 1) := D_42 W_prog_5_method_12_code_0 0 rfl rfl
theorem d_5_12_1 : decode prog_5_method_12_code 1 = .ok (.getfield 48, 3) := D_180 W_prog_5_method_12_code_0 1 rfl rfl rfl
theorem d_5_12_4 : decode prog_5_method_12_code 4 = .ok (.getfield 173, 3) := D_180 W_prog_5_method_12_code_0 4 rfl rfl rfl
theorem d_5_12_7 : decode prog_5_method_12_code 7 = .ok (.lstore_n 1, 1) := D_64 W_prog_5_method_12_code_0 7 rfl rfl
theorem d_5_12_8 : decode prog_5_method_12_code 8 = .ok (.aload_n 0, 1) := D_42 W_prog_5_method_12_code_0 8 rfl rfl
theorem d_5_12_9 : decode prog_5_method_12_code 9 = .ok (.getfield 48, 3) := D_180 W_prog_5_method_12_code_0 9 rfl rfl rfl
theorem d_5_12_12 : decode prog_5_method_12_code 12 = .ok (.getfield 108, 3) := D_180 W_prog_5_method_12_code_0 12 rfl rfl rfl
theorem d_5_12_15 : decode prog_5_method_12_code 15 = .ok (.iconst 4, 1) := D_7 W_prog_5_method_12_code_0 15 rfl rfl
theorem d_5_12_16 : decode prog_5_method_12_code 16 = .ok (.if_icmp .ne 51, 3) := D_160 W_prog_5_method_12_code_0 16 rfl rfl rfl
theorem d_5_12_19 : decode prog_5_method_12_code 19 = .ok (.getstatic 190, 3) := D_178 W_prog_5_method_12_code_0 19 rfl rfl rfl
theorem d_5_12_22 : decode prog_5_method_12_code 22 = .ok (.lload_n 1, 1) := D_31 W_prog_5_method_12_code_0 22 rfl rfl
theorem d_5_12_23 : decode prog_5_method_12_code 23 = .ok (.invokestatic 193, 3) := D_184 W_prog_5_method_12_code_0 23 rfl rfl rfl
theorem W_prog_5_method_14_code_0 : chW prog_5_method_14_code 0 [42, 180, 0, 48, 27, 182, 0, 153, 154, 0, 9, 42, 5, 182, 0, 101, 172, 42, 180, 0, 48, 182, 0, 122, 4, 172] := chW_of (by decide +kernel)
theorem d_5_14_0 : decode prog_5_method_14_code 0 = .ok (.aload_n 0, 1) := D_42 W_prog_5_method_14_code_0 0 rfl rfl
theorem d_5_14_1 : decode prog_5_method_14_code 1 = .ok (.getfield 48, 3) := D_180 W_prog_5_method_14_code_0 1 rfl rfl rfl
theorem d_5_14_4 : decode prog_5_method_14_code 4 = .ok (.iload_n 1, 1) := D_27 W_prog_5_method_14_code_0 4 rfl rfl
theorem d_5_14_5 : decode prog_5_method_14_code 5 = .ok (.invokevirtual 153, 3) := D_182 W_prog_5_method_14_code_0 5 rfl rfl rfl
theorem W_prog_5_method_25_code_0 : chW prog_5_method_25_code 0 [42, 180, 0, 48, 182, 0, 122, 3, 61, 28, 16, 6, 162, 0, 25, 42, 180, 0, 48, 180, 0, 108, 5, 160, 0, 14, 42, 27, 182, 1, 21, 132, 2, 1, 167, 255] := chW_of (by decide +kernel)
theorem d_5_25_0 : decode prog_5_method_25_code 0 = .ok (.aload_n 0, 1) := D_42 W_prog_5_method_25_code_0 0 rfl rfl
theorem d_5_25_1 : decode prog_5_method_25_code 1 = .ok (.getfield 48, 3) := D_180 W_prog_5_method_25_code_0 1 rfl rfl rfl
theorem d_5_25_4 : decode prog_5_method_25_code 4 = .ok (.invokevirtual 122, 3) := D_182 W_prog_5_method_25_code_0 4 rfl rfl rfl
theorem d_5_25_7 : decode prog_5_method_25_code 7 = .ok (.iconst 0, 1) := D_3 W_prog_5_method_25_code_0 7 rfl rfl
theorem d_5_25_8 : decode prog_5_method_25_code 8 = .ok (.istore_n 2, 1) := D_61 W_prog_5_method_25_code_0 8 rfl rfl
theorem d_5_25_9 : decode prog_5_method_25_code 9 = .ok (.iload_n 2, 1) := D_28 W_prog_5_method_25_code_0 9 rfl rfl
theorem d_5_25_10 : decode prog_5_method_25_code 10 = .ok (.bipush 6, 2) := D_16 W_prog_5_method_25_code_0 10 rfl rfl rfl
theorem d_5_25_12 : decode prog_5_method_25_code 12 = .ok (.if_icmp .ge 25, 3) := D_162 W_prog_5_method_25_code_0 12 rfl rfl rfl
theorem d_5_25_15 : decode prog_5_method_25_code 15 = .ok (.aload_n 0, 1) := D_42 W_prog_5_method_25_code_0 15 rfl rfl
theorem d_5_25_16 : decode prog_5_method_25_code 16 = .ok (.getfield 48, 3) := D_180 W_prog_5_method_25_code_0 16 rfl rfl rfl
theorem d_5_25_19 : decode prog_5_method_25_code 19 = .ok (.getfield 108, 3) := D_180 W_prog_5_method_25_code_0 19 rfl rfl rfl
theorem d_5_25_22 : decode prog_5_method_25_code 22 = .ok (.iconst 2, 1) := D_5 W_prog_5_method_25_code_0 22 rfl rfl
theorem d_5_25_23 : decode prog_5_method_25_code 23 = .ok (.if_icmp .ne 14, 3) := D_160 W_prog_5_method_25_code_0 23 rfl rfl rfl
theorem d_5_25_26 : decode prog_5_method_25_code 26 = .ok (.aload_n 0, 1) := D_42 W_prog_5_method_25_code_0 26 rfl rfl
theorem d_5_25_27 : decode prog_5_method_25_code 27 = .ok (.iload_n 1, 1) := D_27 W_prog_5_method_25_code_0 27 rfl rfl
theorem d_5_25_28 : decode prog_5_method_25_code 28 = .ok (.invokevirtual 277, 3) := D_182 W_prog_5_method_25_code_0 28 rfl rfl rfl
theorem d_5_25_31 : decode prog_5_method_25_code 31 = .ok (.iinc 2 1, 3) := D_132 W_prog_5_method_25_code_0 31 rfl rfl rfl
theorem W_prog_5_method_25_code_32 : chW prog_5_method_25_code 32 [2, 1, 167, 255, 231, 42, 180, 0, 30, 27, 46, 5, 162, 0, 11, 42, 5, 182, 0, 101, 167, 0, 9, 42, 16, 62, 182, 0, 146, 172] := chW_of (by decide +kernel)
theorem d_5_25_34 : decode prog_5_method_25_code 34 = .ok (.goto (-25), 3) := D_167 W_prog_5_method_25_code_32 2 rfl rfl rfl
theorem d_5_25_37 : decode prog_5_method_25_code 37 = .ok (.aload_n 0, 1) := D_42 W_prog_5_method_25_code_32 5 rfl rfl
theorem d_5_25_38 : decode prog_5_method_25_code 38 = .ok (.getfield 30, 3) := D_180 W_prog_5_method_25_code_32 6 rfl rfl rfl
theorem d_5_25_41 : decode prog_5_method_25_code 41 = .ok (.iload_n 1, 1) := D_27 W_prog_5_method_25_code_32 9 rfl rfl
theorem d_5_25_42 : decode prog_5_method_25_code 42 = .ok (.iaload, 1) := D_46 W_prog_5_method_25_code_32 10 rfl rfl
theorem d_5_25_43 : decode prog_5_method_25_code 43 = .ok (.iconst 2, 1) := D_5 W_prog_5_method_25_code_32 11 rfl rfl
theorem d_5_25_44 : decode prog_5_method_25_code 44 = .ok (.if_icmp .ge 11, 3) := D_162 W_prog_5_method_25_code_32 12 rfl rfl rfl
theorem d_5_25_55 : decode prog_5_method_25_code 55 = .ok (.aload_n 0, 1) := D_42 W_prog_5_method_25_code_32 23 rfl rfl
theorem d_5_25_56 : decode prog_5_method_25_code 56 = .ok (.bipush 62, 2) := D_16 W_prog_5_method_25_code_32 24 rfl rfl rfl
theorem d_5_25_58 : decode prog_5_method_25_code 58 = .ok (.invokevirtual 146, 3) := D_182 W_prog_5_method_25_code_32 26 rfl rfl rfl
theorem W_prog_5_method_15_code_0 : chW prog_5_method_15_code 0 [42, 180, 0, 48, 180, 0, 108, 6, 159, 0, 9, 42, 5, 182, 0, 101, 172, 42, 180, 0, 48, 180, 0, 173, 27, 133, 148, 155, 0, 20, 42, 180, 0, 48, 180, 0] := chW_of (by decide +kernel)
theorem d_5_15_0 : decode prog_5_method_15_code 0 = .ok (.aload_n 0, 1) := D_42 W_prog_5_method_15_code_0 0 rfl rfl
theorem d_5_15_1 : decode prog_5_method_15_code 1 = .ok (.getfield 48, 3) := D_180 W_prog_5_method_15_code_0 1 rfl rfl rfl
theorem d_5_15_4 : decode prog_5_method_15_code 4 = .ok (.getfield 108, 3) := D_180 W_prog_5_method_15_code_0 4 rfl rfl rfl
theorem d_5_15_7 : decode prog_5_method_15_code 7 = .ok (.iconst 3, 1) := D_6 W_prog_5_method_15_code_0 7 rfl rfl
theorem d_5_15_8 : decode prog_5_method_15_code 8 = .ok (.if_icmp .eq 9, 3) := D_159 W_prog_5_method_15_code_0 8 rfl rfl rfl
theorem d_5_15_17 : decode prog_5_method_15_code 17 = .ok (.aload_n 0, 1) := D_42 W_prog_5_method_15_code_0 17 rfl rfl
theorem d_5_15_18 : decode prog_5_method_15_code 18 = .ok (.getfield 48, 3) := D_180 W_prog_5_method_15_code_0 18 rfl rfl rfl
theorem d_5_15_21 : decode prog_5_method_15_code 21 = .ok (.getfield 173, 3) := D_180 W_prog_5_method_15_code_0 21 rfl rfl rfl
theorem d_5_15_24 : decode prog_5_method_15_code 24 = .ok (.iload_n 1, 1) := D_27 W_prog_5_method_15_code_0 24 rfl rfl
theorem d_5_15_25 : decode prog_5_method_15_code 25 = .ok (.i2l, 1) := D_133 W_prog_5_method_15_code_0 25 rfl rfl
theorem d_5_15_26 : decode prog_5_method_15_code 26 = .ok (.lcmp, 1) := D_148 W_prog_5_method_15_code_0 26 rfl rfl
theorem d_5_15_27 : decode prog_5_method_15_code 27 = .ok (.ifCond .lt 20, 3) := D_155 W_prog_5_method_15_code_0 27 rfl rfl rfl
theorem d_5_15_30 : decode prog_5_method_15_code 30 = .ok (.aload_n 0, 1) := D_42 W_prog_5_method_15_code_0 30 rfl rfl
theorem d_5_15_31 : decode prog_5_method_15_code 31 = .ok (.getfield 48, 3) := D_180 W_prog_5_method_15_code_0 31 rfl rfl rfl
theorem W_prog_5_method_15_code_32 : chW prog_5_method_15_code 32 [0, 48, 180, 0, 173, 28, 133, 148, 157, 0, 7, 4, 167, 0, 4, 3, 54, 4, 21, 4, 153, 0, 21, 29, 153, 0, 23, 42, 180, 0, 48, 180, 0, 173, 184, 0] := chW_of (by decide +kernel)
theorem d_5_15_34 : decode prog_5_method_15_code 34 = .ok (.getfield 173, 3) := D_180 W_prog_5_method_15_code_32 2 rfl rfl rfl
theorem d_5_15_37 : decode prog_5_method_15_code 37 = .ok (.iload_n 2, 1) := D_28 W_prog_5_method_15_code_32 5 rfl rfl
theorem d_5_15_38 : decode prog_5_method_15_code 38 = .ok (.i2l, 1) := D_133 W_prog_5_method_15_code_32 6 rfl rfl
theorem d_5_15_39 : decode prog_5_method_15_code 39 = .ok (.lcmp, 1) := D_148 W_prog_5_method_15_code_32 7 rfl rfl
theorem d_5_15_40 : decode prog_5_method_15_code 40 = .ok (.ifCond .gt 7, 3) := D_157 W_prog_5_method_15_code_32 8 rfl rfl rfl
theorem d_5_15_43 : decode prog_5_method_15_code 43 = .ok (.iconst 1, 1) := D_4 W_prog_5_method_15_code_32 11 rfl rfl
theorem d_5_15_44 : decode prog_5_method_15_code 44 = .ok (.goto 4, 3) := D_167 W_prog_5_method_15_code_32 12 rfl rfl rfl
theorem d_5_15_11 : decode prog_5_method_15_code 11 = .ok (.aload_n 0, 1) := D_42 W_prog_5_method_15_code_0 11 rfl rfl
theorem d_5_15_12 : decode prog_5_method_15_code 12 = .ok (.iconst 2, 1) := D_5 W_prog_5_method_15_code_0 12 rfl rfl
theorem d_5_15_13 : decode prog_5_method_15_code 13 = .ok (.invokevirtual 101, 3) := D_182 W_prog_5_method_15_code_0 13 rfl rfl rfl
theorem d_5_15_16 : decode prog_5_method_15_code 16 = .ok (.ireturn, 1) := D_172 W_prog_5_method_15_code_0 16 rfl rfl
theorem d_5_15_48 : decode prog_5_method_15_code 48 = .ok (.istore 4, 2) := D_54 W_prog_5_method_15_code_32 16 rfl rfl
theorem d_5_15_50 : decode prog_5_method_15_code 50 = .ok (.iload 4, 2) := D_21 W_prog_5_method_15_code_32 18 rfl rfl
theorem d_5_15_52 : decode prog_5_method_15_code 52 = .ok (.ifCond .eq 21, 3) := D_153 W_prog_5_method_15_code_32 20 rfl rfl rfl
theorem d_5_15_55 : decode prog_5_method_15_code 55 = .ok (.iload_n 3, 1) := D_29 W_prog_5_method_15_code_32 23 rfl rfl
theorem d_5_15_56 : decode prog_5_method_15_code 56 = .ok (.ifCond .eq 23, 3) := D_153 W_prog_5_method_15_code_32 24 rfl rfl rfl
theorem d_5_15_59 : decode prog_5_method_15_code 59 = .ok (.aload_n 0, 1) := D_42 W_prog_5_method_15_code_32 27 rfl rfl
theorem d_5_15_60 : decode prog_5_method_15_code 60 = .ok (.getfield 48, 3) := D_180 W_prog_5_method_15_code_32 28 rfl rfl rfl
theorem d_5_15_63 : decode prog_5_method_15_code 63 = .ok (.getfield 173, 3) := D_180 W_prog_5_method_15_code_32 31 rfl rfl rfl
theorem W_prog_5_method_15_code_64 : chW prog_5_method_15_code 64 [0, 173, 184, 0, 224, 4, 159, 0, 9, 42, 8, 182, 0, 101, 172, 42, 42, 180, 0, 48, 180, 0, 173, 136, 181, 0, 135, 42, 180, 0, 48, 182, 0, 122, 4, 172] := chW_of (by decide +kernel)
theorem d_5_15_66 : decode prog_5_method_15_code 66 = .ok (.invokestatic 224, 3) := D_184 W_prog_5_method_15_code_64 2 rfl rfl rfl
theorem W_prog_5_method_29_code_0 : chW prog_5_method_29_code 0 [42, 28, 29, 3, 182, 0, 131, 154, 0, 5, 3, 172, 42, 180, 0, 18, 27, 42, 180, 0, 135, 79, 42, 16, 47, 182, 0, 146, 153, 0, 13, 42, 4, 29, 3, 182] := chW_of (by decide +kernel)
theorem d_5_29_0 : decode prog_5_method_29_code 0 = .ok (.aload_n 0, 1) := D_42 W_prog_5_method_29_code_0 0 rfl rfl
theorem d_5_29_1 : decode prog_5_method_29_code 1 = .ok (.iload_n 2, 1) := D_28 W_prog_5_method_29_code_0 1 rfl rfl
theorem d_5_29_2 : decode prog_5_method_29_code 2 = .ok (.iload_n 3, 1) := D_29 W_prog_5_method_29_code_0 2 rfl rfl
theorem d_5_29_3 : decode prog_5_method_29_code 3 = .ok (.iconst 0, 1) := D_3 W_prog_5_method_29_code_0 3 rfl rfl
theorem d_5_29_4 : decode prog_5_method_29_code 4 = .ok (.invokevirtual 131, 3) := D_182 W_prog_5_method_29_code_0 4 rfl rfl rfl
theorem W_prog_7_method_26_code_0 : chW prog_7_method_26_code 0 [26, 16, 12, 108, 60, 178, 1, 42, 26, 16, 12, 112, 47, 65, 27, 16, 9, 163, 0, 12, 32, 16, 9, 27, 100, 123, 167, 0, 9, 32, 27, 16, 9, 100, 121, 173] := chW_of (by decide +kernel)
theorem d_7_26_0 : decode prog_7_method_26_code 0 = .ok (.iload_n 0, 1) := D_26 W_prog_7_method_26_code_0 0 rfl rfl
theorem d_7_26_1 : decode prog_7_method_26_code 1 = .ok (.bipush 12, 2) := D_16 W_prog_7_method_26_code_0 1 rfl rfl rfl
theorem d_7_26_3 : decode prog_7_method_26_code 3 = .ok (.idiv, 1) := D_108 W_prog_7_method_26_code_0 3 rfl rfl
theorem d_7_26_4 : decode prog_7_method_26_code 4 = .ok (.istore_n 1, 1) := D_60 W_prog_7_method_26_code_0 4 rfl rfl
theorem d_7_26_5 : decode prog_7_method_26_code 5 = .ok (.getstatic 298, 3) := D_178 W_prog_7_method_26_code_0 5 rfl rfl rfl
theorem d_7_26_8 : decode prog_7_method_26_code 8 = .ok (.iload_n 0, 1) := D_26 W_prog_7_method_26_code_0 8 rfl rfl
theorem d_7_26_9 : decode prog_7_method_26_code 9 = .ok (.bipush 12, 2) := D_16 W_prog_7_method_26_code_0 9 rfl rfl rfl
theorem d_7_26_11 : decode prog_7_method_26_code 11 = .ok (.irem, 1) := D_112 W_prog_7_method_26_code_0 11 rfl rfl
theorem d_7_26_12 : decode prog_7_method_26_code 12 = .ok (.laload, 1) := D_47 W_prog_7_method_26_code_0 12 rfl rfl
theorem d_7_26_13 : decode prog_7_method_26_code 13 = .ok (.lstore_n 2, 1) := D_65 W_prog_7_method_26_code_0 13 rfl rfl
theorem d_7_26_14 : decode prog_7_method_26_code 14 = .ok (.iload_n 1, 1) := D_27 W_prog_7_method_26_code_0 14 rfl rfl
theorem d_7_26_15 : decode prog_7_method_26_code 15 = .ok (.bipush 9, 2) := D_16 W_prog_7_method_26_code_0 15 rfl rfl rfl
theorem d_7_26_17 : decode prog_7_method_26_code 17 = .ok (.if_icmp .gt 12, 3) := D_163 W_prog_7_method_26_code_0 17 rfl rfl rfl
theorem d_7_26_29 : decode prog_7_method_26_code 29 = .ok (.lload_n 2, 1) := D_32 W_prog_7_method_26_code_0 29 rfl rfl
theorem d_7_26_30 : decode prog_7_method_26_code 30 = .ok (.iload_n 1, 1) := D_27 W_prog_7_method_26_code_0 30 rfl rfl
theorem d_7_26_31 : decode prog_7_method_26_code 31 = .ok (.bipush 9, 2) := D_16 W_prog_7_method_26_code_0 31 rfl rfl rfl
theorem W_prog_7_method_26_code_32 : chW prog_7_method_26_code 32 [9, 100, 121, 173] := chW_of (by decide +kernel)
theorem d_7_26_33 : decode prog_7_method_26_code 33 = .ok (.isub, 1) := D_100 W_prog_7_method_26_code_32 1 rfl rfl
theorem d_7_26_34 : decode prog_7_method_26_code 34 = .ok (.lshl, 1) := D_121 W_prog_7_method_26_code_32 2 rfl rfl
theorem d_7_26_20 : decode prog_7_method_26_code 20 = .ok (.lload_n 2, 1) := D_32 W_prog_7_method_26_code_0 20 rfl rfl
theorem d_7_26_21 : decode prog_7_method_26_code 21 = .ok (.bipush 9, 2) := D_16 W_prog_7_method_26_code_0 21 rfl rfl rfl
theorem d_7_26_23 : decode prog_7_method_26_code 23 = .ok (.iload_n 1, 1) := D_27 W_prog_7_method_26_code_0 23 rfl rfl
theorem d_7_26_24 : decode prog_7_method_26_code 24 = .ok (.isub, 1) := D_100 W_prog_7_method_26_code_0 24 rfl rfl
theorem d_7_26_25 : decode prog_7_method_26_code 25 = .ok (.lshr, 1) := D_123 W_prog_7_method_26_code_0 25 rfl rfl
theorem d_7_26_26 : decode prog_7_method_26_code 26 = .ok (.goto 9, 3) := D_167 W_prog_7_method_26_code_0 26 rfl rfl rfl
theorem d_7_26_35 : decode prog_7_method_26_code 35 = .ok (.lreturn, 1) := D_173 W_prog_7_method_26_code_32 3 rfl rfl
theorem W_prog_7_method_27_code_0 : chW prog_7_method_27_code 0 [27, 17, 0, 128, 162, 0, 13, 5, 27, 104, 17, 0, 128, 100, 167, 0, 10, 17, 1, 127, 5, 27, 104, 100, 61, 26, 170, 0, 0, 0, 0, 49, 0, 0, 0, 0] := chW_of (by decide +kernel)
theorem d_7_27_0 : decode prog_7_method_27_code 0 = .ok (.iload_n 1, 1) := D_27 W_prog_7_method_27_code_0 0 rfl rfl
theorem d_7_27_1 : decode prog_7_method_27_code 1 = .ok (.sipush 128, 3) := D_17 W_prog_7_method_27_code_0 1 rfl rfl rfl
theorem d_7_27_4 : decode prog_7_method_27_code 4 = .ok (.if_icmp .ge 13, 3) := D_162 W_prog_7_method_27_code_0 4 rfl rfl rfl
theorem d_7_27_17 : decode prog_7_method_27_code 17 = .ok (.sipush 383, 3) := D_17 W_prog_7_method_27_code_0 17 rfl rfl rfl
theorem d_7_27_20 : decode prog_7_method_27_code 20 = .ok (.iconst 2, 1) := D_5 W_prog_7_method_27_code_0 20 rfl rfl
theorem d_7_27_21 : decode prog_7_method_27_code 21 = .ok (.iload_n 1, 1) := D_27 W_prog_7_method_27_code_0 21 rfl rfl
theorem d_7_27_22 : decode prog_7_method_27_code 22 = .ok (.imul, 1) := D_104 W_prog_7_method_27_code_0 22 rfl rfl
theorem d_7_27_23 : decode prog_7_method_27_code 23 = .ok (.isub, 1) := D_100 W_prog_7_method_27_code_0 23 rfl rfl
theorem d_7_27_7 : decode prog_7_method_27_code 7 = .ok (.iconst 2, 1) := D_5 W_prog_7_method_27_code_0 7 rfl rfl
theorem d_7_27_8 : decode prog_7_method_27_code 8 = .ok (.iload_n 1, 1) := D_27 W_prog_7_method_27_code_0 8 rfl rfl
theorem d_7_27_9 : decode prog_7_method_27_code 9 = .ok (.imul, 1) := D_104 W_prog_7_method_27_code_0 9 rfl rfl
theorem d_7_27_10 : decode prog_7_method_27_code 10 = .ok (.sipush 128, 3) := D_17 W_prog_7_method_27_code_0 10 rfl rfl rfl
theorem d_7_27_13 : decode prog_7_method_27_code 13 = .ok (.isub, 1) := D_100 W_prog_7_method_27_code_0 13 rfl rfl
theorem d_7_27_14 : decode prog_7_method_27_code 14 = .ok (.goto 10, 3) := D_167 W_prog_7_method_27_code_0 14 rfl rfl rfl
theorem d_7_27_24 : decode prog_7_method_27_code 24 = .ok (.istore_n 2, 1) := D_61 W_prog_7_method_27_code_0 24 rfl rfl
theorem d_7_27_25 : decode prog_7_method_27_code 25 = .ok (.iload_n 0, 1) := D_26 W_prog_7_method_27_code_0 25 rfl rfl
theorem d_7_27_26 : decode prog_7_method_27_code 26 = .ok (.tableswitch 49 0 2 #[26, 41, 47], 26) := by decide +kernel
theorem W_prog_7_method_27_code_32 : chW prog_7_method_27_code 32 [0, 0, 0, 0, 0, 0, 0, 2, 0, 0, 0, 26, 0, 0, 0, 41, 0, 0, 0, 47, 27, 17, 0, 128, 162, 0, 8, 16, 96, 167, 0, 5, 16, 160, 172, 27] := chW_of (by decide +kernel)
theorem d_7_27_52 : decode prog_7_method_27_code 52 = .ok (.iload_n 1, 1) := D_27 W_prog_7_method_27_code_32 20 rfl rfl
theorem d_7_27_53 : decode prog_7_method_27_code 53 = .ok (.sipush 128, 3) := D_17 W_prog_7_method_27_code_32 21 rfl rfl rfl
theorem d_7_27_56 : decode prog_7_method_27_code 56 = .ok (.if_icmp .ge 8, 3) := D_162 W_prog_7_method_27_code_32 24 rfl rfl rfl
theorem W_prog_7_method_27_code_64 : chW prog_7_method_27_code 64 [16, 160, 172, 27, 17, 0, 128, 100, 172, 28, 172, 28, 17, 0, 128, 28, 184, 1, 45, 100, 104, 16, 32, 108, 172] := chW_of (by decide +kernel)
theorem d_7_27_64 : decode prog_7_method_27_code 64 = .ok (.bipush (-96), 2) := D_16 W_prog_7_method_27_code_64 0 rfl rfl rfl
theorem d_7_27_59 : decode prog_7_method_27_code 59 = .ok (.bipush 96, 2) := D_16 W_prog_7_method_27_code_32 27 rfl rfl rfl
theorem d_7_27_61 : decode prog_7_method_27_code 61 = .ok (.goto 5, 3) := D_167 W_prog_7_method_27_code_32 29 rfl rfl rfl
theorem d_7_27_67 : decode prog_7_method_27_code 67 = .ok (.iload_n 1, 1) := D_27 W_prog_7_method_27_code_64 3 rfl rfl
theorem d_7_27_68 : decode prog_7_method_27_code 68 = .ok (.sipush 128, 3) := D_17 W_prog_7_method_27_code_64 4 rfl rfl rfl
theorem d_7_27_71 : decode prog_7_method_27_code 71 = .ok (.isub, 1) := D_100 W_prog_7_method_27_code_64 7 rfl rfl
theorem d_7_27_72 : decode prog_7_method_27_code 72 = .ok (.ireturn, 1) := D_172 W_prog_7_method_27_code_64 8 rfl rfl
theorem d_7_27_73 : decode prog_7_method_27_code 73 = .ok (.iload_n 2, 1) := D_28 W_prog_7_method_27_code_64 9 rfl rfl
theorem d_7_27_74 : decode prog_7_method_27_code 74 = .ok (.ireturn, 1) := D_172 W_prog_7_method_27_code_64 10 rfl rfl
theorem d_7_27_75 : decode prog_7_method_27_code 75 = .ok (.iload_n 2, 1) := D_28 W_prog_7_method_27_code_64 11 rfl rfl
theorem d_7_27_76 : decode prog_7_method_27_code 76 = .ok (.sipush 128, 3) := D_17 W_prog_7_method_27_code_64 12 rfl rfl rfl
theorem d_7_27_79 : decode prog_7_method_27_code 79 = .ok (.iload_n 2, 1) := D_28 W_prog_7_method_27_code_64 15 rfl rfl
theorem d_7_27_80 : decode prog_7_method_27_code 80 = .ok (.invokestatic 301, 3) := D_184 W_prog_7_method_27_code_64 16 rfl rfl rfl
theorem d_7_27_83 : decode prog_7_method_27_code 83 = .ok (.isub, 1) := D_100 W_prog_7_method_27_code_64 19 rfl rfl
theorem d_7_27_84 : decode prog_7_method_27_code 84 = .ok (.imul, 1) := D_104 W_prog_7_method_27_code_64 20 rfl rfl
theorem d_7_27_85 : decode prog_7_method_27_code 85 = .ok (.bipush 32, 2) := D_16 W_prog_7_method_27_code_64 21 rfl rfl rfl
theorem d_7_27_87 : decode prog_7_method_27_code 87 = .ok (.idiv, 1) := D_108 W_prog_7_method_27_code_64 23 rfl rfl
theorem d_7_27_88 : decode prog_7_method_27_code 88 = .ok (.ireturn, 1) := D_172 W_prog_7_method_27_code_64 24 rfl rfl
theorem d_7_27_66 : decode prog_7_method_27_code 66 = .ok (.ireturn, 1) := D_172 W_prog_7_method_27_code_64 2 rfl rfl
theorem W_prog_7_method_28_code_0 : chW prog_7_method_28_code 0 [26, 16, 40, 162, 0, 14, 17, 1, 0, 26, 104, 16, 40, 108, 167, 0, 20, 17, 1, 0, 26, 16, 40, 100, 16, 16, 108, 100, 17, 0, 128, 184, 0, 144, 172] := chW_of (by decide +kernel)
theorem d_7_28_0 : decode prog_7_method_28_code 0 = .ok (.iload_n 0, 1) := D_26 W_prog_7_method_28_code_0 0 rfl rfl
theorem d_7_28_1 : decode prog_7_method_28_code 1 = .ok (.bipush 40, 2) := D_16 W_prog_7_method_28_code_0 1 rfl rfl rfl
theorem d_7_28_3 : decode prog_7_method_28_code 3 = .ok (.if_icmp .ge 14, 3) := D_162 W_prog_7_method_28_code_0 3 rfl rfl rfl
theorem d_7_28_17 : decode prog_7_method_28_code 17 = .ok (.sipush 256, 3) := D_17 W_prog_7_method_28_code_0 17 rfl rfl rfl
theorem d_7_28_20 : decode prog_7_method_28_code 20 = .ok (.iload_n 0, 1) := D_26 W_prog_7_method_28_code_0 20 rfl rfl
theorem d_7_28_21 : decode prog_7_method_28_code 21 = .ok (.bipush 40, 2) := D_16 W_prog_7_method_28_code_0 21 rfl rfl rfl
theorem d_7_28_23 : decode prog_7_method_28_code 23 = .ok (.isub, 1) := D_100 W_prog_7_method_28_code_0 23 rfl rfl
theorem d_7_28_24 : decode prog_7_method_28_code 24 = .ok (.bipush 16, 2) := D_16 W_prog_7_method_28_code_0 24 rfl rfl rfl
theorem d_7_28_26 : decode prog_7_method_28_code 26 = .ok (.idiv, 1) := D_108 W_prog_7_method_28_code_0 26 rfl rfl
theorem d_7_28_27 : decode prog_7_method_28_code 27 = .ok (.isub, 1) := D_100 W_prog_7_method_28_code_0 27 rfl rfl
theorem d_7_28_28 : decode prog_7_method_28_code 28 = .ok (.sipush 128, 3) := D_17 W_prog_7_method_28_code_0 28 rfl rfl rfl
theorem d_7_28_31 : decode prog_7_method_28_code 31 = .ok (.invokestatic 144, 3) := D_184 W_prog_7_method_28_code_0 31 rfl rfl rfl
theorem d_7_28_6 : decode prog_7_method_28_code 6 = .ok (.sipush 256, 3) := D_17 W_prog_7_method_28_code_0 6 rfl rfl rfl
theorem d_7_28_9 : decode prog_7_method_28_code 9 = .ok (.iload_n 0, 1) := D_26 W_prog_7_method_28_code_0 9 rfl rfl
theorem d_7_28_10 : decode prog_7_method_28_code 10 = .ok (.imul, 1) := D_104 W_prog_7_method_28_code_0 10 rfl rfl
theorem d_7_28_11 : decode prog_7_method_28_code 11 = .ok (.bipush 40, 2) := D_16 W_prog_7_method_28_code_0 11 rfl rfl rfl
theorem d_7_28_13 : decode prog_7_method_28_code 13 = .ok (.idiv, 1) := D_108 W_prog_7_method_28_code_0 13 rfl rfl
theorem d_7_28_14 : decode prog_7_method_28_code 14 = .ok (.goto 20, 3) := D_167 W_prog_7_method_28_code_0 14 rfl rfl rfl
theorem W_prog_7_method_28_code_32 : chW prog_7_method_28_code 32 [0, 144, 172] := chW_of (by decide +kernel)
theorem d_7_28_34 : decode prog_7_method_28_code 34 = .ok (.ireturn, 1) := D_172 W_prog_7_method_28_code_32 2 rfl rfl
theorem W_prog_7_method_30_code_0 : chW prog_7_method_30_code 0 [178, 1, 51, 42, 180, 0, 168, 46, 60, 42, 180, 0, 162, 42, 180, 0, 165, 100, 61, 28, 156, 0, 8, 16, 8, 167, 0, 4, 3, 62, 28, 184, 1, 45, 61, 27] := chW_of (by decide +kernel)
theorem d_7_30_0 : decode prog_7_method_30_code 0 = .ok (.getstatic 307, 3) := D_178 W_prog_7_method_30_code_0 0 rfl rfl rfl
theorem d_7_30_3 : decode prog_7_method_30_code 3 = .ok (.aload_n 0, 1) := D_42 W_prog_7_method_30_code_0 3 rfl rfl
theorem d_7_30_4 : decode prog_7_method_30_code 4 = .ok (.getfield 168, 3) := D_180 W_prog_7_method_30_code_0 4 rfl rfl rfl
theorem d_7_30_7 : decode prog_7_method_30_code 7 = .ok (.iaload, 1) := D_46 W_prog_7_method_30_code_0 7 rfl rfl
theorem d_7_30_8 : decode prog_7_method_30_code 8 = .ok (.istore_n 1, 1) := D_60 W_prog_7_method_30_code_0 8 rfl rfl
theorem d_7_30_9 : decode prog_7_method_30_code 9 = .ok (.aload_n 0, 1) := D_42 W_prog_7_method_30_code_0 9 rfl rfl
theorem d_7_30_10 : decode prog_7_method_30_code 10 = .ok (.getfield 162, 3) := D_180 W_prog_7_method_30_code_0 10 rfl rfl rfl
theorem d_7_30_13 : decode prog_7_method_30_code 13 = .ok (.aload_n 0, 1) := D_42 W_prog_7_method_30_code_0 13 rfl rfl
theorem d_7_30_14 : decode prog_7_method_30_code 14 = .ok (.getfield 165, 3) := D_180 W_prog_7_method_30_code_0 14 rfl rfl rfl
theorem d_7_30_17 : decode prog_7_method_30_code 17 = .ok (.isub, 1) := D_100 W_prog_7_method_30_code_0 17 rfl rfl
theorem d_7_30_18 : decode prog_7_method_30_code 18 = .ok (.istore_n 2, 1) := D_61 W_prog_7_method_30_code_0 18 rfl rfl
theorem d_7_30_19 : decode prog_7_method_30_code 19 = .ok (.iload_n 2, 1) := D_28 W_prog_7_method_30_code_0 19 rfl rfl
theorem d_7_30_20 : decode prog_7_method_30_code 20 = .ok (.ifCond .ge 8, 3) := D_156 W_prog_7_method_30_code_0 20 rfl rfl rfl
theorem d_7_30_28 : decode prog_7_method_30_code 28 = .ok (.iconst 0, 1) := D_3 W_prog_7_method_30_code_0 28 rfl rfl
theorem d_7_30_23 : decode prog_7_method_30_code 23 = .ok (.bipush 8, 2) := D_16 W_prog_7_method_30_code_0 23 rfl rfl rfl
theorem d_7_30_25 : decode prog_7_method_30_code 25 = .ok (.goto 4, 3) := D_167 W_prog_7_method_30_code_0 25 rfl rfl rfl
theorem d_7_30_29 : decode prog_7_method_30_code 29 = .ok (.istore_n 3, 1) := D_62 W_prog_7_method_30_code_0 29 rfl rfl
theorem d_7_30_30 : decode prog_7_method_30_code 30 = .ok (.iload_n 2, 1) := D_28 W_prog_7_method_30_code_0 30 rfl rfl
theorem d_7_30_31 : decode prog_7_method_30_code 31 = .ok (.invokestatic 301, 3) := D_184 W_prog_7_method_30_code_0 31 rfl rfl rfl
theorem W_prog_7_method_30_code_32 : chW prog_7_method_30_code 32 [1, 45, 61, 27, 16, 8, 108, 54, 4, 27, 54, 5, 7, 54, 6, 21, 6, 158, 0, 52, 28, 21, 5, 161, 0, 20, 29, 21, 6, 128, 62, 28, 21, 5, 100, 61] := chW_of (by decide +kernel)
theorem d_7_30_34 : decode prog_7_method_30_code 34 = .ok (.istore_n 2, 1) := D_61 W_prog_7_method_30_code_32 2 rfl rfl
theorem d_7_30_35 : decode prog_7_method_30_code 35 = .ok (.iload_n 1, 1) := D_27 W_prog_7_method_30_code_32 3 rfl rfl
theorem d_7_30_36 : decode prog_7_method_30_code 36 = .ok (.bipush 8, 2) := D_16 W_prog_7_method_30_code_32 4 rfl rfl rfl
theorem d_7_30_38 : decode prog_7_method_30_code 38 = .ok (.idiv, 1) := D_108 W_prog_7_method_30_code_32 6 rfl rfl
theorem d_7_30_39 : decode prog_7_method_30_code 39 = .ok (.istore 4, 2) := D_54 W_prog_7_method_30_code_32 7 rfl rfl
theorem d_7_30_41 : decode prog_7_method_30_code 41 = .ok (.iload_n 1, 1) := D_27 W_prog_7_method_30_code_32 9 rfl rfl
theorem d_7_30_42 : decode prog_7_method_30_code 42 = .ok (.istore 5, 2) := D_54 W_prog_7_method_30_code_32 10 rfl rfl
theorem d_7_30_44 : decode prog_7_method_30_code 44 = .ok (.iconst 4, 1) := D_7 W_prog_7_method_30_code_32 12 rfl rfl
theorem d_7_30_45 : decode prog_7_method_30_code 45 = .ok (.istore 6, 2) := D_54 W_prog_7_method_30_code_32 13 rfl rfl
theorem d_7_30_47 : decode prog_7_method_30_code 47 = .ok (.iload 6, 2) := D_21 W_prog_7_method_30_code_32 15 rfl rfl
theorem d_7_30_49 : decode prog_7_method_30_code 49 = .ok (.ifCond .le 52, 3) := D_158 W_prog_7_method_30_code_32 17 rfl rfl rfl
theorem W_prog_7_method_30_code_96 : chW prog_7_method_30_code 96 [54, 6, 167, 255, 205, 29, 16, 8, 161, 0, 13, 42, 180, 0, 165, 21, 4, 100, 167, 0, 10, 42, 180, 0, 165, 21, 4, 96, 54, 6, 42, 17, 128, 0, 17, 127] := chW_of (by decide +kernel)
theorem d_7_30_101 : decode prog_7_method_30_code 101 = .ok (.iload_n 3, 1) := D_29 W_prog_7_method_30_code_96 5 rfl rfl
theorem d_7_30_102 : decode prog_7_method_30_code 102 = .ok (.bipush 8, 2) := D_16 W_prog_7_method_30_code_96 6 rfl rfl rfl
theorem d_7_30_104 : decode prog_7_method_30_code 104 = .ok (.if_icmp .lt 13, 3) := D_161 W_prog_7_method_30_code_96 8 rfl rfl rfl
theorem d_7_30_117 : decode prog_7_method_30_code 117 = .ok (.aload_n 0, 1) := D_42 W_prog_7_method_30_code_96 21 rfl rfl
theorem d_7_30_118 : decode prog_7_method_30_code 118 = .ok (.getfield 165, 3) := D_180 W_prog_7_method_30_code_96 22 rfl rfl rfl
theorem d_7_30_121 : decode prog_7_method_30_code 121 = .ok (.iload 4, 2) := D_21 W_prog_7_method_30_code_96 25 rfl rfl
theorem d_7_30_123 : decode prog_7_method_30_code 123 = .ok (.iadd, 1) := D_96 W_prog_7_method_30_code_96 27 rfl rfl
theorem d_7_30_107 : decode prog_7_method_30_code 107 = .ok (.aload_n 0, 1) := D_42 W_prog_7_method_30_code_96 11 rfl rfl
theorem d_7_30_108 : decode prog_7_method_30_code 108 = .ok (.getfield 165, 3) := D_180 W_prog_7_method_30_code_96 12 rfl rfl rfl
theorem d_7_30_111 : decode prog_7_method_30_code 111 = .ok (.iload 4, 2) := D_21 W_prog_7_method_30_code_96 15 rfl rfl
theorem d_7_30_113 : decode prog_7_method_30_code 113 = .ok (.isub, 1) := D_100 W_prog_7_method_30_code_96 17 rfl rfl
theorem d_7_30_114 : decode prog_7_method_30_code 114 = .ok (.goto 10, 3) := D_167 W_prog_7_method_30_code_96 18 rfl rfl rfl
theorem d_7_30_52 : decode prog_7_method_30_code 52 = .ok (.iload_n 2, 1) := D_28 W_prog_7_method_30_code_32 20 rfl rfl
theorem d_7_30_53 : decode prog_7_method_30_code 53 = .ok (.iload 5, 2) := D_21 W_prog_7_method_30_code_32 21 rfl rfl
theorem d_7_30_55 : decode prog_7_method_30_code 55 = .ok (.if_icmp .lt 20, 3) := D_161 W_prog_7_method_30_code_32 23 rfl rfl rfl
theorem d_7_30_58 : decode prog_7_method_30_code 58 = .ok (.iload_n 3, 1) := D_29 W_prog_7_method_30_code_32 26 rfl rfl
theorem d_7_30_59 : decode prog_7_method_30_code 59 = .ok (.iload 6, 2) := D_21 W_prog_7_method_30_code_32 27 rfl rfl
theorem d_7_30_61 : decode prog_7_method_30_code 61 = .ok (.ior, 1) := D_128 W_prog_7_method_30_code_32 29 rfl rfl
theorem d_7_30_62 : decode prog_7_method_30_code 62 = .ok (.istore_n 3, 1) := D_62 W_prog_7_method_30_code_32 30 rfl rfl
theorem d_7_30_63 : decode prog_7_method_30_code 63 = .ok (.iload_n 2, 1) := D_28 W_prog_7_method_30_code_32 31 rfl rfl
theorem W_prog_7_method_30_code_64 : chW prog_7_method_30_code 64 [21, 5, 100, 61, 21, 4, 21, 5, 96, 54, 4, 21, 6, 7, 160, 0, 9, 27, 5, 108, 167, 0, 6, 27, 7, 108, 54, 5, 21, 6, 5, 108, 54, 6, 167, 255] := chW_of (by decide +kernel)
theorem d_7_30_64 : decode prog_7_method_30_code 64 = .ok (.iload 5, 2) := D_21 W_prog_7_method_30_code_64 0 rfl rfl
theorem d_7_30_66 : decode prog_7_method_30_code 66 = .ok (.isub, 1) := D_100 W_prog_7_method_30_code_64 2 rfl rfl
theorem d_7_30_67 : decode prog_7_method_30_code 67 = .ok (.istore_n 2, 1) := D_61 W_prog_7_method_30_code_64 3 rfl rfl
theorem d_7_30_68 : decode prog_7_method_30_code 68 = .ok (.iload 4, 2) := D_21 W_prog_7_method_30_code_64 4 rfl rfl
theorem d_7_30_70 : decode prog_7_method_30_code 70 = .ok (.iload 5, 2) := D_21 W_prog_7_method_30_code_64 6 rfl rfl
theorem d_7_30_72 : decode prog_7_method_30_code 72 = .ok (.iadd, 1) := D_96 W_prog_7_method_30_code_64 8 rfl rfl
theorem d_7_30_73 : decode prog_7_method_30_code 73 = .ok (.istore 4, 2) := D_54 W_prog_7_method_30_code_64 9 rfl rfl
theorem d_7_30_75 : decode prog_7_method_30_code 75 = .ok (.iload 6, 2) := D_21 W_prog_7_method_30_code_64 11 rfl rfl
theorem d_7_30_77 : decode prog_7_method_30_code 77 = .ok (.iconst 4, 1) := D_7 W_prog_7_method_30_code_64 13 rfl rfl
