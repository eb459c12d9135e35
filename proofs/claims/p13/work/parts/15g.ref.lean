theorem k_11_13 : (Jvm.Cond.fieldLink "StaveHouseModel" (144 : Nat) "StaveHouseModel" "others" "[J") ∈ wAll := wA_11 (j := 13) rfl rfl
theorem k_14_156 : (Jvm.Cond.methodLink "StaveHouseModel" (372 : Nat) ({ cls := "StaveHouseModel", name := "find", desc := "([JIJ)I" } : Jvm.MethodName)) ∈ wAll := wA_14 (j := 156) rfl rfl
theorem k_14_157 : (Jvm.Cond.static ({ cls := "StaveHouseModel", name := "find", desc := "([JIJ)I" } : Jvm.MethodName)) ∈ wAll := wA_14 (j := 157) rfl rfl
theorem k_14_158 : (Jvm.Cond.code ({ cls := "StaveHouseModel", name := "find", desc := "([JIJ)I" } : Jvm.MethodName) prog_15_method_34_code (5 : Nat) (Option.some Jvm.ClassFile.FieldType.int)) ∈ wAll := wA_14 (j := 158) rfl rfl
theorem k_11_11 : (Jvm.Cond.fieldLink "StaveHouseModel" (77 : Nat) "StaveHouseModel" "clefs" "[J") ∈ wAll := wA_11 (j := 11) rfl rfl
theorem k_11_12 : (Jvm.Cond.fieldLink "StaveHouseModel" (96 : Nat) "StaveHouseModel" "louds" "[J") ∈ wAll := wA_11 (j := 12) rfl rfl
theorem k_14_223 : (Jvm.Cond.methodLink "StaveHouseModel" (621 : Nat) ({ cls := "StaveHouseModel", name := "valueOf", desc := "(I)I" } : Jvm.MethodName)) ∈ wAll := wA_14 (j := 223) rfl rfl
theorem k_14_225 : (Jvm.Cond.instanceMethod ({ cls := "StaveHouseModel", name := "valueOf", desc := "(I)I" } : Jvm.MethodName)) ∈ wAll := wA_14 (j := 225) rfl rfl
theorem ks_227 : (Jvm.Cond.selects "StaveHouseModel" ({ cls := "StaveHouseModel", name := "valueOf", desc := "(I)I" } : Jvm.MethodName) ({ cls := "StaveHouseModel", name := "valueOf", desc := "(I)I" } : Jvm.MethodName)) ∈ wAll := wA_s (j := 227) rfl rfl
theorem k_14_226 : (Jvm.Cond.code ({ cls := "StaveHouseModel", name := "valueOf", desc := "(I)I" } : Jvm.MethodName) prog_15_method_67_code (8 : Nat) (Option.some Jvm.ClassFile.FieldType.int)) ∈ wAll := wA_14 (j := 226) rfl rfl
theorem k_11_46 : (Jvm.Cond.fieldLink "StaveHouseModel" (506 : Nat) "StaveHouseModel" "brackets" "I") ∈ wAll := wA_11 (j := 46) rfl rfl
theorem k_11_36 : (Jvm.Cond.fieldLink "StaveHouseModel" (491 : Nat) "StaveHouseModel" "comeUp" "J") ∈ wAll := wA_11 (j := 36) rfl rfl
theorem k_11_37 : (Jvm.Cond.fieldLink "StaveHouseModel" (494 : Nat) "StaveHouseModel" "comeDown" "J") ∈ wAll := wA_11 (j := 37) rfl rfl
theorem k_11_34 : (Jvm.Cond.fieldLink "StaveHouseModel" (485 : Nat) "StaveHouseModel" "made" "I") ∈ wAll := wA_11 (j := 34) rfl rfl
theorem k_13_103 : (Jvm.Cond.constantLong "StaveHouseModel" (626 : Nat) (100 : Int64)) ∈ wAll := wA_13 (j := 103) rfl rfl
theorem k_11_33 : (Jvm.Cond.fieldLink "StaveHouseModel" (482 : Nat) "StaveHouseModel" "v" "I") ∈ wAll := wA_11 (j := 33) rfl rfl
theorem k_14_228 : (Jvm.Cond.methodLink "StaveHouseModel" (628 : Nat) ({ cls := "StaveHouseModel", name := "behindPitches", desc := "(I)I" } : Jvm.MethodName)) ∈ wAll := wA_14 (j := 228) rfl rfl
theorem k_14_230 : (Jvm.Cond.instanceMethod ({ cls := "StaveHouseModel", name := "behindPitches", desc := "(I)I" } : Jvm.MethodName)) ∈ wAll := wA_14 (j := 230) rfl rfl
theorem ks_228 : (Jvm.Cond.selects "StaveHouseModel" ({ cls := "StaveHouseModel", name := "behindPitches", desc := "(I)I" } : Jvm.MethodName) ({ cls := "StaveHouseModel", name := "behindPitches", desc := "(I)I" } : Jvm.MethodName)) ∈ wAll := wA_s (j := 228) rfl rfl
theorem k_14_231 : (Jvm.Cond.code ({ cls := "StaveHouseModel", name := "behindPitches", desc := "(I)I" } : Jvm.MethodName) prog_15_method_69_code (3 : Nat) (Option.some Jvm.ClassFile.FieldType.int)) ∈ wAll := wA_14 (j := 231) rfl rfl
theorem k_11_45 : (Jvm.Cond.fieldLink "StaveHouseModel" (187 : Nat) "StaveHouseModel" "seconds" "[I") ∈ wAll := wA_11 (j := 45) rfl rfl
theorem k_11_44 : (Jvm.Cond.fieldLink "StaveHouseModel" (184 : Nat) "StaveHouseModel" "firsts" "[I") ∈ wAll := wA_11 (j := 44) rfl rfl
theorem k_14_232 : (Jvm.Cond.methodLink "StaveHouseModel" (631 : Nat) ({ cls := "StaveHouseModel", name := "pitchOf", desc := "(II)V" } : Jvm.MethodName)) ∈ wAll := wA_14 (j := 232) rfl rfl
theorem k_14_234 : (Jvm.Cond.instanceMethod ({ cls := "StaveHouseModel", name := "pitchOf", desc := "(II)V" } : Jvm.MethodName)) ∈ wAll := wA_14 (j := 234) rfl rfl
theorem ks_229 : (Jvm.Cond.selects "StaveHouseModel" ({ cls := "StaveHouseModel", name := "pitchOf", desc := "(II)V" } : Jvm.MethodName) ({ cls := "StaveHouseModel", name := "pitchOf", desc := "(II)V" } : Jvm.MethodName)) ∈ wAll := wA_s (j := 229) rfl rfl
theorem k_14_235 : (Jvm.Cond.code ({ cls := "StaveHouseModel", name := "pitchOf", desc := "(II)V" } : Jvm.MethodName) prog_15_method_70_code (8 : Nat) (Option.none : Option Jvm.ClassFile.FieldType)) ∈ wAll := wA_14 (j := 235) rfl rfl
theorem k_11_32 : (Jvm.Cond.fieldLink "StaveHouseModel" (171 : Nat) "StaveHouseModel" "marksOf" "[I") ∈ wAll := wA_11 (j := 32) rfl rfl
theorem k_11_38 : (Jvm.Cond.fieldLink "StaveHouseModel" (497 : Nat) "StaveHouseModel" "loud" "I") ∈ wAll := wA_11 (j := 38) rfl rfl
theorem k_9_162 : (Jvm.Cond.fieldLink "StaveHouseModel" (601 : Nat) "StaveHouseModel$Piece" "inside" "[I") ∈ wAll := wA_9 (j := 162) rfl rfl
theorem k_9_164 : (Jvm.Cond.fieldLink "StaveHouseModel" (604 : Nat) "StaveHouseModel$Piece" "ratioUp" "[I") ∈ wAll := wA_9 (j := 164) rfl rfl
theorem k_9_166 : (Jvm.Cond.fieldLink "StaveHouseModel" (607 : Nat) "StaveHouseModel$Piece" "ratioDown" "[I") ∈ wAll := wA_9 (j := 166) rfl rfl
theorem k_11_48 : (Jvm.Cond.fieldLink "StaveHouseModel" (509 : Nat) "StaveHouseModel" "outerTimes" "I") ∈ wAll := wA_11 (j := 48) rfl rfl
theorem k_9_170 : (Jvm.Cond.fieldLink "StaveHouseModel" (613 : Nat) "StaveHouseModel$Piece" "outerToken" "[I") ∈ wAll := wA_9 (j := 170) rfl rfl
theorem k_11_47 : (Jvm.Cond.fieldLink "StaveHouseModel" (572 : Nat) "StaveHouseModel" "outerToken" "I") ∈ wAll := wA_11 (j := 47) rfl rfl
theorem k_15_20 : (Jvm.Cond.methodLink "StaveHouseModel" (586 : Nat) ({ cls := "StaveHouseModel", name := "swap", desc := "([JII)V" } : Jvm.MethodName)) ∈ wAll := wA_15 (j := 20) rfl rfl
theorem k_15_21 : (Jvm.Cond.static ({ cls := "StaveHouseModel", name := "swap", desc := "([JII)V" } : Jvm.MethodName)) ∈ wAll := wA_15 (j := 21) rfl rfl
theorem k_15_22 : (Jvm.Cond.code ({ cls := "StaveHouseModel", name := "swap", desc := "([JII)V" } : Jvm.MethodName) prog_15_method_65_code (5 : Nat) (Option.none : Option Jvm.ClassFile.FieldType)) ∈ wAll := wA_15 (j := 22) rfl rfl
theorem k_15_23 : (Jvm.Cond.methodLink "StaveHouseModel" (590 : Nat) ({ cls := "StaveHouseModel", name := "swap", desc := "([III)V" } : Jvm.MethodName)) ∈ wAll := wA_15 (j := 23) rfl rfl
theorem k_15_24 : (Jvm.Cond.static ({ cls := "StaveHouseModel", name := "swap", desc := "([III)V" } : Jvm.MethodName)) ∈ wAll := wA_15 (j := 24) rfl rfl
theorem k_15_25 : (Jvm.Cond.code ({ cls := "StaveHouseModel", name := "swap", desc := "([III)V" } : Jvm.MethodName) prog_15_method_64_code (4 : Nat) (Option.none : Option Jvm.ClassFile.FieldType)) ∈ wAll := wA_15 (j := 25) rfl rfl
theorem k_15_42 : (Jvm.Cond.methodLink "StaveHouseModel" (656 : Nat) ({ cls := "StaveHouseModel", name := "lastOuter", desc := "(LStaveHouseModel$Piece;II)I" } : Jvm.MethodName)) ∈ wAll := wA_15 (j := 42) rfl rfl
theorem k_15_43 : (Jvm.Cond.static ({ cls := "StaveHouseModel", name := "lastOuter", desc := "(LStaveHouseModel$Piece;II)I" } : Jvm.MethodName)) ∈ wAll := wA_15 (j := 43) rfl rfl
theorem k_15_44 : (Jvm.Cond.code ({ cls := "StaveHouseModel", name := "lastOuter", desc := "(LStaveHouseModel$Piece;II)I" } : Jvm.MethodName) prog_15_method_74_code (4 : Nat) (Option.some Jvm.ClassFile.FieldType.int)) ∈ wAll := wA_15 (j := 44) rfl rfl
theorem k_15_85 : (Jvm.Cond.methodLink "StaveHouseModel" (802 : Nat) ({ cls := "StaveHouseModel", name := "isBeamed", desc := "(LStaveHouseModel$Piece;II)Z" } : Jvm.MethodName)) ∈ wAll := wA_15 (j := 85) rfl rfl
theorem k_15_87 : (Jvm.Cond.instanceMethod ({ cls := "StaveHouseModel", name := "isBeamed", desc := "(LStaveHouseModel$Piece;II)Z" } : Jvm.MethodName)) ∈ wAll := wA_15 (j := 87) rfl rfl
theorem ks_247 : (Jvm.Cond.selects "StaveHouseModel" ({ cls := "StaveHouseModel", name := "isBeamed", desc := "(LStaveHouseModel$Piece;II)Z" } : Jvm.MethodName) ({ cls := "StaveHouseModel", name := "isBeamed", desc := "(LStaveHouseModel$Piece;II)Z" } : Jvm.MethodName)) ∈ wAll := wA_s (j := 247) rfl rfl
theorem k_15_88 : (Jvm.Cond.code ({ cls := "StaveHouseModel", name := "isBeamed", desc := "(LStaveHouseModel$Piece;II)Z" } : Jvm.MethodName) prog_15_method_99_code (4 : Nat) (Option.some Jvm.ClassFile.FieldType.boolean)) ∈ wAll := wA_15 (j := 88) rfl rfl
theorem k_9_132 : (Jvm.Cond.fieldLink "StaveHouseModel" (728 : Nat) "StaveHouseModel$Piece" "bars" "I") ∈ wAll := wA_9 (j := 132) rfl rfl
theorem k_15_93 : (Jvm.Cond.methodLink "StaveHouseModel" (821 : Nat) ({ cls := "StaveHouseModel", name := "column", desc := "(LStaveHouseModel$Piece;IIJJ)I" } : Jvm.MethodName)) ∈ wAll := wA_15 (j := 93) rfl rfl
theorem k_15_95 : (Jvm.Cond.instanceMethod ({ cls := "StaveHouseModel", name := "column", desc := "(LStaveHouseModel$Piece;IIJJ)I" } : Jvm.MethodName)) ∈ wAll := wA_15 (j := 95) rfl rfl
theorem ks_249 : (Jvm.Cond.selects "StaveHouseModel" ({ cls := "StaveHouseModel", name := "column", desc := "(LStaveHouseModel$Piece;IIJJ)I" } : Jvm.MethodName) ({ cls := "StaveHouseModel", name := "column", desc := "(LStaveHouseModel$Piece;IIJJ)I" } : Jvm.MethodName)) ∈ wAll := wA_s (j := 249) rfl rfl
theorem k_15_96 : (Jvm.Cond.code ({ cls := "StaveHouseModel", name := "column", desc := "(LStaveHouseModel$Piece;IIJJ)I" } : Jvm.MethodName) prog_15_method_103_code (10 : Nat) (Option.some Jvm.ClassFile.FieldType.int)) ∈ wAll := wA_15 (j := 96) rfl rfl
theorem k_15_97 : (Jvm.Cond.methodLink "StaveHouseModel" (831 : Nat) ({ cls := "StaveHouseModel", name := "wide", desc := "(LStaveHouseModel$Piece;II)I" } : Jvm.MethodName)) ∈ wAll := wA_15 (j := 97) rfl rfl
theorem k_15_99 : (Jvm.Cond.instanceMethod ({ cls := "StaveHouseModel", name := "wide", desc := "(LStaveHouseModel$Piece;II)I" } : Jvm.MethodName)) ∈ wAll := wA_15 (j := 99) rfl rfl
theorem ks_250 : (Jvm.Cond.selects "StaveHouseModel" ({ cls := "StaveHouseModel", name := "wide", desc := "(LStaveHouseModel$Piece;II)I" } : Jvm.MethodName) ({ cls := "StaveHouseModel", name := "wide", desc := "(LStaveHouseModel$Piece;II)I" } : Jvm.MethodName)) ∈ wAll := wA_s (j := 250) rfl rfl
theorem k_15_100 : (Jvm.Cond.code ({ cls := "StaveHouseModel", name := "wide", desc := "(LStaveHouseModel$Piece;II)I" } : Jvm.MethodName) prog_15_method_104_code (13 : Nat) (Option.some Jvm.ClassFile.FieldType.int)) ∈ wAll := wA_15 (j := 100) rfl rfl
theorem k_15_105 : (Jvm.Cond.methodLink "StaveHouseModel" (1178 : Nat) ({ cls := "StaveHouseModel", name := "moment", desc := "(LStaveHouseModel$Piece;JJ)V" } : Jvm.MethodName)) ∈ wAll := wA_15 (j := 105) rfl rfl
theorem k_15_106 : (Jvm.Cond.static ({ cls := "StaveHouseModel", name := "moment", desc := "(LStaveHouseModel$Piece;JJ)V" } : Jvm.MethodName)) ∈ wAll := wA_15 (j := 106) rfl rfl
theorem k_15_107 : (Jvm.Cond.code ({ cls := "StaveHouseModel", name := "moment", desc := "(LStaveHouseModel$Piece;JJ)V" } : Jvm.MethodName) prog_15_method_172_code (7 : Nat) (Option.none : Option Jvm.ClassFile.FieldType)) ∈ wAll := wA_15 (j := 107) rfl rfl
theorem k_15_115 : (Jvm.Cond.methodLink "StaveHouseModel" (1269 : Nat) ({ cls := "StaveHouseModel", name := "lineAt", desc := "(LStaveHouseModel$Piece;II)I" } : Jvm.MethodName)) ∈ wAll := wA_15 (j := 115) rfl rfl
theorem k_15_116 : (Jvm.Cond.static ({ cls := "StaveHouseModel", name := "lineAt", desc := "(LStaveHouseModel$Piece;II)I" } : Jvm.MethodName)) ∈ wAll := wA_15 (j := 116) rfl rfl
theorem k_15_117 : (Jvm.Cond.code ({ cls := "StaveHouseModel", name := "lineAt", desc := "(LStaveHouseModel$Piece;II)I" } : Jvm.MethodName) prog_15_method_183_code (3 : Nat) (Option.some Jvm.ClassFile.FieldType.int)) ∈ wAll := wA_15 (j := 117) rfl rfl
theorem k_15_118 : (Jvm.Cond.methodLink "StaveHouseModel" (1272 : Nat) ({ cls := "StaveHouseModel", name := "beginsAt", desc := "(LStaveHouseModel$Piece;II)Z" } : Jvm.MethodName)) ∈ wAll := wA_15 (j := 118) rfl rfl
theorem k_15_119 : (Jvm.Cond.static ({ cls := "StaveHouseModel", name := "beginsAt", desc := "(LStaveHouseModel$Piece;II)Z" } : Jvm.MethodName)) ∈ wAll := wA_15 (j := 119) rfl rfl
theorem k_15_120 : (Jvm.Cond.code ({ cls := "StaveHouseModel", name := "beginsAt", desc := "(LStaveHouseModel$Piece;II)Z" } : Jvm.MethodName) prog_15_method_185_code (3 : Nat) (Option.some Jvm.ClassFile.FieldType.boolean)) ∈ wAll := wA_15 (j := 120) rfl rfl
theorem k_15_124 : (Jvm.Cond.methodLink "StaveHouseModel" (1281 : Nat) ({ cls := "StaveHouseModel", name := "isPlainStep", desc := "(II)Z" } : Jvm.MethodName)) ∈ wAll := wA_15 (j := 124) rfl rfl
theorem k_15_125 : (Jvm.Cond.static ({ cls := "StaveHouseModel", name := "isPlainStep", desc := "(II)Z" } : Jvm.MethodName)) ∈ wAll := wA_15 (j := 125) rfl rfl
theorem k_15_126 : (Jvm.Cond.code ({ cls := "StaveHouseModel", name := "isPlainStep", desc := "(II)Z" } : Jvm.MethodName) prog_15_method_193_code (2 : Nat) (Option.some Jvm.ClassFile.FieldType.boolean)) ∈ wAll := wA_15 (j := 126) rfl rfl
theorem k_15_133 : (Jvm.Cond.methodLink "StaveHouseModel" (1278 : Nat) ({ cls := "StaveHouseModel", name := "isOver", desc := "(LStaveHouseModel$Piece;II)Z" } : Jvm.MethodName)) ∈ wAll := wA_15 (j := 133) rfl rfl
theorem k_15_134 : (Jvm.Cond.static ({ cls := "StaveHouseModel", name := "isOver", desc := "(LStaveHouseModel$Piece;II)Z" } : Jvm.MethodName)) ∈ wAll := wA_15 (j := 134) rfl rfl
theorem k_15_135 : (Jvm.Cond.code ({ cls := "StaveHouseModel", name := "isOver", desc := "(LStaveHouseModel$Piece;II)Z" } : Jvm.MethodName) prog_15_method_190_code (3 : Nat) (Option.some Jvm.ClassFile.FieldType.boolean)) ∈ wAll := wA_15 (j := 135) rfl rfl
theorem W_prog_15_method_30_code_0 : chW prog_15_method_30_code 0 [42, 27, 42, 180, 1, 106, 182, 1, 109, 177] := chW_of (by decide +kernel)
theorem W_prog_15_method_35_code_0 : chW prog_15_method_35_code 0 [42, 180, 0, 48, 42, 180, 1, 106, 46, 7, 160, 0, 69, 42, 180, 0, 144, 16, 15, 42, 180, 0, 61, 42, 180, 1, 106, 47, 184, 1, 116, 156, 0, 48, 42, 180] := chW_of (by decide +kernel)
theorem W_prog_15_method_35_code_32 : chW prog_15_method_35_code 32 [0, 48, 42, 180, 0, 77, 7, 42, 180, 0, 61, 42, 180, 1, 106, 47, 184, 1, 116, 156, 0, 28, 42, 180, 0, 96, 16, 8, 42, 180, 0, 61, 42, 180, 1, 106] := chW_of (by decide +kernel)
theorem W_prog_15_method_35_code_64 : chW prog_15_method_35_code 64 [42, 180, 1, 106, 47, 184, 1, 116, 156, 0, 7, 4, 167, 0, 4, 3, 172] := chW_of (by decide +kernel)
theorem W_prog_15_method_68_code_0 : chW prog_15_method_68_code 0 [42, 27, 182, 2, 109, 61, 28, 155, 0, 11, 42, 180, 1, 250, 5, 164, 0, 11, 42, 16, 12, 27, 182, 1, 109, 177, 4, 62, 4, 54, 4, 3, 54, 5, 21, 5] := chW_of (by decide +kernel)
theorem W_prog_15_method_68_code_32 : chW prog_15_method_68_code 32 [54, 5, 21, 5, 42, 180, 1, 250, 162, 0, 31, 29, 42, 180, 0, 187, 21, 5, 46, 104, 62, 21, 4, 42, 180, 0, 184, 21, 5, 46, 104, 54, 4, 132, 5, 1] := chW_of (by decide +kernel)
theorem W_prog_15_method_68_code_64 : chW prog_15_method_68_code 64 [4, 132, 5, 1, 167, 255, 222, 42, 28, 133, 29, 133, 105, 20, 2, 112, 21, 4, 133, 105, 182, 0, 16, 42, 180, 0, 9, 55, 5, 42, 180, 0, 13, 55, 7, 42] := chW_of (by decide +kernel)
theorem W_prog_15_method_68_code_96 : chW prog_15_method_68_code 96 [13, 55, 7, 42, 42, 180, 1, 235, 42, 180, 1, 238, 22, 5, 22, 7, 182, 2, 21, 42, 180, 1, 229, 17, 0, 200, 159, 0, 37, 42, 180, 0, 9, 42, 180, 0] := chW_of (by decide +kernel)
theorem W_prog_15_method_68_code_128 : chW prog_15_method_68_code 128 [9, 42, 180, 0, 13, 20, 2, 114, 42, 180, 0, 44, 180, 1, 148, 133, 105, 42, 180, 0, 44, 180, 1, 151, 133, 184, 2, 25, 158, 0, 11, 42, 16, 8, 27, 182] := chW_of (by decide +kernel)
theorem W_prog_15_method_68_code_160 : chW prog_15_method_68_code 160 [16, 8, 27, 182, 1, 109, 177, 17, 3, 232, 42, 180, 1, 226, 104, 42, 180, 1, 229, 96, 54, 9, 42, 180, 0, 44, 180, 2, 86, 21, 9, 3, 79, 42, 180, 0] := chW_of (by decide +kernel)
theorem W_prog_15_method_68_code_192 : chW prog_15_method_68_code 192 [79, 42, 180, 0, 48, 27, 46, 5, 160, 0, 9, 27, 4, 96, 167, 0, 22, 42, 180, 0, 48, 27, 46, 8, 160, 0, 11, 42, 27, 182, 2, 116, 167, 0, 4, 27] := chW_of (by decide +kernel)
theorem W_prog_15_method_68_code_224 : chW prog_15_method_68_code 224 [167, 0, 4, 27, 54, 10, 42, 180, 0, 48, 27, 46, 5, 160, 0, 7, 27, 167, 0, 6, 27, 4, 96, 54, 11, 21, 11, 21, 10, 162, 0, 24, 42, 182, 1, 120] := chW_of (by decide +kernel)
theorem d_15_68_65 : decode prog_15_method_68_code 65 = .ok (.iinc 5 1, 3) := D_132 W_prog_15_method_68_code_64 1 rfl rfl rfl
theorem W_prog_15_method_68_code_256 : chW prog_15_method_68_code 256 [42, 182, 1, 120, 153, 0, 17, 42, 21, 9, 21, 11, 182, 2, 119, 132, 11, 1, 167, 255, 231, 42, 182, 1, 120, 154, 0, 4, 177, 42, 42, 180, 1, 235, 42, 180] := chW_of (by decide +kernel)
theorem d_15_68_271 : decode prog_15_method_68_code 271 = .ok (.iinc 11 1, 3) := D_132 W_prog_15_method_68_code_256 15 rfl rfl rfl
theorem W_prog_15_method_68_code_288 : chW prog_15_method_68_code 288 [1, 235, 42, 180, 1, 238, 22, 5, 22, 7, 182, 2, 21, 42, 42, 180, 0, 9, 181, 1, 235, 42, 42, 180, 0, 13, 181, 1, 238, 42, 180, 0, 44, 180, 2, 15] := chW_of (by decide +kernel)
theorem W_prog_15_method_68_code_320 : chW prog_15_method_68_code 320 [44, 180, 2, 15, 21, 9, 22, 5, 80, 42, 180, 0, 44, 180, 2, 18, 21, 9, 22, 7, 80, 42, 180, 0, 44, 180, 2, 72, 21, 9, 42, 180, 0, 171, 27, 46] := chW_of (by decide +kernel)
theorem W_prog_15_method_68_code_352 : chW prog_15_method_68_code 352 [0, 171, 27, 46, 79, 42, 180, 0, 44, 180, 2, 81, 21, 9, 42, 180, 1, 241, 79, 42, 180, 0, 44, 180, 2, 83, 21, 9, 27, 79, 42, 180, 0, 44, 180, 2] := chW_of (by decide +kernel)
theorem W_prog_15_method_68_code_384 : chW prog_15_method_68_code 384 [0, 44, 180, 2, 89, 21, 9, 42, 180, 1, 250, 79, 42, 180, 0, 44, 180, 2, 92, 21, 9, 29, 79, 42, 180, 0, 44, 180, 2, 95, 21, 9, 21, 4, 79, 42] := chW_of (by decide +kernel)
theorem W_prog_15_method_68_code_416 : chW prog_15_method_68_code 416 [21, 4, 79, 42, 180, 0, 44, 180, 2, 98, 21, 9, 42, 180, 1, 250, 158, 0, 10, 42, 180, 1, 253, 167, 0, 4, 3, 79, 42, 180, 0, 44, 180, 2, 101, 21] := chW_of (by decide +kernel)
theorem W_prog_15_method_68_code_448 : chW prog_15_method_68_code 448 [180, 2, 101, 21, 9, 42, 180, 2, 60, 79, 42, 89, 180, 1, 229, 4, 96, 181, 1, 229, 177] := chW_of (by decide +kernel)
theorem W_prog_15_method_66_code_0 : chW prog_15_method_66_code 0 [42, 180, 0, 44, 180, 2, 15, 27, 28, 184, 2, 74, 42, 180, 0, 44, 180, 2, 18, 27, 28, 184, 2, 74, 42, 180, 0, 44, 180, 2, 72, 27, 28, 184, 2, 78] := chW_of (by decide +kernel)
theorem W_prog_15_method_66_code_32 : chW prog_15_method_66_code 32 [28, 184, 2, 78, 42, 180, 0, 44, 180, 2, 81, 27, 28, 184, 2, 78, 42, 180, 0, 44, 180, 2, 83, 27, 28, 184, 2, 78, 42, 180, 0, 44, 180, 2, 86, 27] := chW_of (by decide +kernel)
theorem W_prog_15_method_66_code_64 : chW prog_15_method_66_code 64 [180, 2, 86, 27, 28, 184, 2, 78, 42, 180, 0, 44, 180, 2, 89, 27, 28, 184, 2, 78, 42, 180, 0, 44, 180, 2, 92, 27, 28, 184, 2, 78, 42, 180, 0, 44] := chW_of (by decide +kernel)
theorem W_prog_15_method_66_code_96 : chW prog_15_method_66_code 96 [42, 180, 0, 44, 180, 2, 95, 27, 28, 184, 2, 78, 42, 180, 0, 44, 180, 2, 98, 27, 28, 184, 2, 78, 42, 180, 0, 44, 180, 2, 101, 27, 28, 184, 2, 78] := chW_of (by decide +kernel)
theorem W_prog_15_method_66_code_128 : chW prog_15_method_66_code 128 [28, 184, 2, 78, 3, 62, 29, 16, 6, 162, 0, 53, 42, 180, 0, 44, 180, 2, 103, 16, 6, 27, 104, 29, 96, 16, 6, 28, 104, 29, 96, 184, 2, 78, 42, 180] := chW_of (by decide +kernel)
theorem W_prog_15_method_66_code_160 : chW prog_15_method_66_code 160 [2, 78, 42, 180, 0, 44, 180, 2, 106, 16, 6, 27, 104, 29, 96, 16, 6, 28, 104, 29, 96, 184, 2, 78, 132, 3, 1, 167, 255, 203, 177] := chW_of (by decide +kernel)
theorem d_15_66_184 : decode prog_15_method_66_code 184 = .ok (.iinc 3 1, 3) := D_132 W_prog_15_method_66_code_160 24 rfl rfl rfl
theorem W_prog_15_method_75_code_0 : chW prog_15_method_75_code 0 [17, 3, 232, 42, 180, 1, 226, 104, 27, 96, 61, 42, 180, 0, 44, 28, 17, 3, 232, 42, 180, 1, 226, 104, 42, 180, 1, 229, 96, 184, 2, 144, 62, 42, 42, 180] := chW_of (by decide +kernel)
theorem W_prog_15_method_75_code_32 : chW prog_15_method_75_code 32 [62, 42, 42, 180, 0, 44, 180, 2, 9, 29, 47, 42, 180, 0, 44, 180, 2, 12, 29, 47, 42, 180, 0, 44, 180, 2, 15, 29, 47, 42, 180, 0, 44, 180, 2, 18] := chW_of (by decide +kernel)
theorem W_prog_15_method_75_code_64 : chW prog_15_method_75_code 64 [44, 180, 2, 18, 29, 47, 182, 2, 21, 42, 180, 0, 9, 55, 4, 42, 180, 0, 13, 55, 6, 42, 180, 0, 44, 180, 2, 9, 28, 47, 42, 180, 0, 44, 180, 2] := chW_of (by decide +kernel)
theorem W_prog_15_method_75_code_96 : chW prog_15_method_75_code 96 [0, 44, 180, 2, 12, 28, 47, 42, 180, 0, 44, 180, 1, 148, 133, 42, 180, 0, 44, 180, 1, 151, 133, 184, 2, 148, 55, 8, 22, 4, 22, 6, 22, 8, 10, 97] := chW_of (by decide +kernel)
theorem W_prog_15_method_75_code_128 : chW prog_15_method_75_code 128 [22, 8, 10, 97, 42, 180, 0, 44, 180, 1, 148, 133, 105, 42, 180, 0, 44, 180, 1, 151, 133, 184, 2, 25, 157, 0, 7, 4, 167, 0, 4, 3, 54, 10, 42, 22] := chW_of (by decide +kernel)
theorem W_prog_15_method_75_code_160 : chW prog_15_method_75_code 160 [54, 10, 42, 22, 4, 22, 6, 42, 180, 0, 44, 180, 2, 9, 28, 47, 42, 180, 0, 44, 180, 2, 12, 28, 47, 182, 2, 152, 21, 10, 153, 0, 16, 20, 2, 112] := chW_of (by decide +kernel)
theorem W_prog_15_method_75_code_192 : chW prog_15_method_75_code 192 [16, 20, 2, 112, 42, 180, 0, 13, 113, 9, 148, 153, 0, 18, 42, 16, 13, 42, 180, 0, 44, 180, 2, 101, 28, 46, 182, 1, 109, 177] := chW_of (by decide +kernel)
theorem W_prog_15_method_97_code_0 : chW prog_15_method_97_code 0 [42, 27, 42, 180, 2, 103, 16, 6, 28, 104, 42, 180, 2, 86, 28, 46, 96, 4, 100, 46, 184, 3, 25, 172] := chW_of (by decide +kernel)
theorem W_prog_15_method_100_code_0 : chW prog_15_method_100_code 0 [17, 3, 32, 28, 104, 29, 96, 54, 5, 17, 3, 32, 28, 104, 21, 4, 96, 54, 6, 42, 43, 28, 29, 182, 3, 34, 153, 0, 31, 42, 43, 28, 21, 4, 182, 3] := chW_of (by decide +kernel)
theorem W_prog_15_method_100_code_32 : chW prog_15_method_100_code 32 [21, 4, 182, 3, 34, 153, 0, 20, 43, 180, 2, 237, 21, 5, 46, 43, 180, 2, 237, 21, 6, 46, 159, 0, 5, 3, 172, 43, 180, 2, 240, 21, 5, 47, 43, 180] := chW_of (by decide +kernel)
theorem W_prog_15_method_100_code_64 : chW prog_15_method_100_code 64 [5, 47, 43, 180, 2, 243, 21, 5, 47, 43, 184, 2, 161, 133, 43, 180, 1, 151, 133, 184, 2, 148, 43, 180, 2, 240, 21, 6, 47, 43, 180, 2, 243, 21, 6, 47] := chW_of (by decide +kernel)
theorem W_prog_15_method_100_code_96 : chW prog_15_method_100_code 96 [243, 21, 6, 47, 43, 184, 2, 161, 133, 43, 180, 1, 151, 133, 184, 2, 148, 148, 154, 0, 7, 4, 167, 0, 4, 3, 172] := chW_of (by decide +kernel)
theorem W_prog_15_method_102_code_0 : chW prog_15_method_102_code 0 [3, 61, 3, 62, 29, 43, 180, 2, 216, 162, 0, 167, 43, 180, 3, 50, 29, 28, 79, 3, 54, 4, 21, 4, 43, 180, 1, 48, 162, 0, 74, 3, 54, 5, 21, 5] := chW_of (by decide +kernel)
theorem W_prog_15_method_102_code_160 : chW prog_15_method_102_code 160 [4, 46, 96, 79, 132, 4, 1, 167, 255, 216, 132, 3, 1, 167, 255, 87, 177] := chW_of (by decide +kernel)
theorem W_prog_15_method_102_code_96 : chW prog_15_method_102_code 96 [132, 4, 1, 167, 255, 179, 43, 180, 3, 50, 29, 4, 96, 28, 79, 43, 180, 3, 57, 29, 16, 6, 79, 43, 180, 3, 50, 29, 46, 54, 4, 21, 4, 28, 162, 0] := chW_of (by decide +kernel)
theorem W_prog_15_method_102_code_32 : chW prog_15_method_102_code 32 [54, 5, 21, 5, 43, 180, 2, 211, 21, 4, 46, 162, 0, 53, 17, 3, 32, 21, 4, 104, 21, 5, 96, 54, 6, 43, 180, 2, 237, 21, 6, 46, 29, 160, 0, 25] := chW_of (by decide +kernel)
theorem d_15_102_96 : decode prog_15_method_102_code 96 = .ok (.iinc 4 1, 3) := D_132 W_prog_15_method_102_code_96 0 rfl rfl rfl
theorem W_prog_15_method_102_code_64 : chW prog_15_method_102_code 64 [29, 160, 0, 25, 42, 43, 29, 28, 43, 180, 2, 240, 21, 6, 47, 43, 180, 2, 243, 21, 6, 47, 182, 3, 53, 61, 132, 5, 1, 167, 255, 197, 132, 4, 1, 167] := chW_of (by decide +kernel)
theorem d_15_102_90 : decode prog_15_method_102_code 90 = .ok (.iinc 5 1, 3) := D_132 W_prog_15_method_102_code_64 26 rfl rfl rfl
theorem W_prog_15_method_102_code_128 : chW prog_15_method_102_code 128 [4, 28, 162, 0, 40, 43, 180, 3, 60, 21, 4, 42, 43, 29, 21, 4, 182, 3, 63, 79, 43, 180, 3, 57, 29, 92, 46, 43, 180, 3, 60, 21, 4, 46, 96, 79] := chW_of (by decide +kernel)
theorem d_15_102_170 : decode prog_15_method_102_code 170 = .ok (.iinc 3 1, 3) := D_132 W_prog_15_method_102_code_160 10 rfl rfl rfl
theorem d_15_102_164 : decode prog_15_method_102_code 164 = .ok (.iinc 4 1, 3) := D_132 W_prog_15_method_102_code_160 4 rfl rfl rfl
theorem W_prog_15_method_171_code_0 : chW prog_15_method_171_code 0 [43, 3, 181, 4, 151, 3, 61, 28, 43, 180, 1, 48, 162, 0, 55, 3, 62, 29, 43, 180, 2, 3, 28, 46, 162, 0, 37, 43, 43, 180, 2, 9, 17, 3, 232, 28] := chW_of (by decide +kernel)
theorem W_prog_15_method_171_code_64 : chW prog_15_method_171_code 64 [167, 255, 199, 3, 61, 28, 43, 180, 1, 48, 162, 0, 107, 3, 62, 3, 54, 4, 21, 4, 43, 180, 4, 151, 162, 0, 87, 29, 4, 96, 43, 180, 2, 3, 28, 46] := chW_of (by decide +kernel)
theorem W_prog_15_method_171_code_32 : chW prog_15_method_171_code 32 [17, 3, 232, 28, 104, 29, 96, 47, 43, 180, 2, 12, 17, 3, 232, 28, 104, 29, 96, 47, 184, 4, 154, 132, 3, 1, 167, 255, 215, 132, 2, 1, 167, 255, 199, 3] := chW_of (by decide +kernel)
theorem d_15_171_61 : decode prog_15_method_171_code 61 = .ok (.iinc 2 1, 3) := D_132 W_prog_15_method_171_code_32 29 rfl rfl rfl
theorem d_15_171_55 : decode prog_15_method_171_code 55 = .ok (.iinc 3 1, 3) := D_132 W_prog_15_method_171_code_32 23 rfl rfl rfl
theorem W_prog_15_method_171_code_160 : chW prog_15_method_171_code 160 [164, 7, 21, 4, 104, 28, 96, 29, 79, 132, 4, 1, 167, 255, 166, 132, 2, 1, 167, 255, 147, 177] := chW_of (by decide +kernel)
theorem d_15_171_175 : decode prog_15_method_171_code 175 = .ok (.iinc 2 1, 3) := D_132 W_prog_15_method_171_code_160 15 rfl rfl rfl
theorem W_prog_15_method_171_code_96 : chW prog_15_method_171_code 96 [2, 3, 28, 46, 162, 0, 57, 43, 180, 2, 9, 17, 3, 232, 28, 104, 29, 96, 4, 96, 47, 43, 180, 2, 12, 17, 3, 232, 28, 104, 29, 96, 4, 96, 47, 43] := chW_of (by decide +kernel)
theorem W_prog_15_method_171_code_128 : chW prog_15_method_171_code 128 [4, 96, 47, 43, 180, 4, 158, 21, 4, 47, 43, 180, 4, 161, 21, 4, 47, 184, 2, 25, 157, 0, 9, 132, 3, 1, 167, 255, 193, 43, 180, 4, 164, 7, 21, 4] := chW_of (by decide +kernel)
theorem d_15_171_151 : decode prog_15_method_171_code 151 = .ok (.iinc 3 1, 3) := D_132 W_prog_15_method_171_code_128 23 rfl rfl rfl
theorem d_15_171_169 : decode prog_15_method_171_code 169 = .ok (.iinc 4 1, 3) := D_132 W_prog_15_method_171_code_160 9 rfl rfl rfl
theorem W_prog_15_method_192_code_0 : chW prog_15_method_192_code 0 [42, 27, 29, 184, 4, 245, 54, 4, 42, 27, 4, 100, 29, 184, 4, 245, 54, 5, 21, 4, 155, 0, 17, 21, 5, 155, 0, 12, 42, 27, 29, 184, 4, 248, 154, 0] := chW_of (by decide +kernel)
theorem W_prog_15_method_192_code_32 : chW prog_15_method_192_code 32 [4, 248, 154, 0, 5, 3, 172, 42, 180, 2, 103, 21, 4, 46, 42, 180, 2, 103, 21, 5, 46, 100, 54, 6, 21, 6, 156, 0, 9, 21, 6, 116, 167, 0, 5, 21] := chW_of (by decide +kernel)
theorem W_prog_15_method_192_code_64 : chW prog_15_method_192_code 64 [167, 0, 5, 21, 6, 54, 7, 28, 8, 160, 0, 16, 21, 7, 16, 7, 164, 0, 7, 4, 167, 0, 4, 3, 172, 42, 21, 4, 184, 4, 242, 42, 21, 5, 184, 4] := chW_of (by decide +kernel)
theorem W_prog_15_method_192_code_96 : chW prog_15_method_192_code 96 [21, 5, 184, 4, 242, 100, 54, 8, 21, 6, 155, 0, 13, 21, 6, 154, 0, 14, 21, 8, 156, 0, 9, 21, 8, 116, 167, 0, 5, 21, 8, 54, 9, 21, 7, 16] := chW_of (by decide +kernel)
theorem W_prog_15_method_192_code_128 : chW prog_15_method_192_code 128 [9, 21, 7, 16, 7, 112, 21, 9, 16, 12, 184, 1, 51, 184, 5, 1, 154, 0, 7, 4, 167, 0, 4, 3, 172] := chW_of (by decide +kernel)
theorem W_prog_15_method_191_code_0 : chW prog_15_method_191_code 0 [42, 42, 27, 28, 184, 4, 245, 42, 27, 29, 184, 4, 245, 184, 4, 254, 153, 0, 30, 42, 42, 27, 4, 100, 28, 184, 4, 245, 42, 27, 4, 100, 29, 184, 4, 245] := chW_of (by decide +kernel)
theorem W_prog_15_method_191_code_32 : chW prog_15_method_191_code 32 [29, 184, 4, 245, 184, 4, 254, 154, 0, 7, 4, 167, 0, 4, 3, 172] := chW_of (by decide +kernel)
theorem W_prog_15_method_188_code_0 : chW prog_15_method_188_code 0 [42, 27, 184, 4, 242, 42, 28, 184, 4, 242, 161, 0, 7, 4, 167, 0, 4, 3, 62, 29, 153, 0, 7, 27, 167, 0, 4, 28, 54, 4, 29, 153, 0, 7, 28, 167] := chW_of (by decide +kernel)
theorem W_prog_15_method_188_code_32 : chW prog_15_method_188_code 32 [0, 7, 28, 167, 0, 4, 27, 54, 5, 42, 180, 2, 103, 21, 4, 46, 42, 180, 2, 103, 21, 5, 46, 100, 16, 7, 184, 1, 51, 54, 6, 42, 21, 4, 184, 4] := chW_of (by decide +kernel)
theorem W_prog_15_method_188_code_64 : chW prog_15_method_188_code 64 [21, 4, 184, 4, 242, 42, 21, 5, 184, 4, 242, 100, 16, 12, 184, 1, 51, 54, 7, 21, 6, 154, 0, 12, 21, 7, 154, 0, 7, 4, 167, 0, 21, 21, 6, 7] := chW_of (by decide +kernel)
theorem W_prog_15_method_188_code_96 : chW prog_15_method_188_code 96 [21, 21, 6, 7, 160, 0, 14, 21, 7, 16, 7, 160, 0, 7, 5, 167, 0, 4, 3, 172] := chW_of (by decide +kernel)
abbrev Q_M_fail (D : va_G) (ca : Nat → ClassId) (ad : Nat → Int → Nat → Nat) (L : List Nat) (r : Int) (F : zF) (B : zB) (A : Nat → Prop) : Array Value → State → Outcome → State → Prop := va_Qv (S := Unit) (fun _ => True) (fun _ => zPo D ca ad lnM nM L F B A) A
def f_M_fail (K : Nat) (l1 : Int) (F : zF) (B : zB) : zO := zbind (f_M_failAt K l1 (F 14 0 16) F B) (fun r1 F1 B1 => some (0, F1, B1))
set_option maxHeartbeats 4000000 in
set_option maxRecDepth 100000 in
theorem c_M_fail {l : Launch} {D : va_G} {ca : Nat → ClassId} {ad : Nat → Int → Nat → Nat} {L : List Nat} {aS vS : Nat → Nat} {sz K : Nat}  {l1 : Int} {F F9 : zF} {B B9 : zB} {r : Int} (hf : f_M_fail K l1 F B = some (r, F9, B9)) : Met l ({ cls := "StaveHouseModel", name := "fail", desc := "(I)V" } : Jvm.MethodName) (Cond.code ({ cls := "StaveHouseModel", name := "fail", desc := "(I)V" } : Jvm.MethodName) prog_15_method_30_code 2 (Option.none : Option Jvm.ClassFile.FieldType) :: wAll) ({ frames := 1, cells := 0, slots := 0, locals := 22 } : Room) (va_Pc [.ref (ad 14 0 0), .int (iI l1)] (zPre D ca ad lnM nM L aS vS F B sz)) (Q_M_fail D ca ad L r F9 B9 (zA L sz)) 0 0 (zA L sz) := by
  refine zMet (Qc := Q_M_fail D ca ad L r F9 B9) (lv := [(0, .ref (ad 14 0 0)), (1, .int (iI l1))]) (by decide) (Nat.le_of_ble_eq_true rfl) rfl (fun A p e s m below meth c ls X hZ hS hl => ?_)
  obtain ⟨hx, hb, hr, hml, hown, hts, hlk, hK, hA, hL, hX⟩ := id X
  replace hf : (zbind (f_M_failAt K l1 (F 14 0 16) F B) (fun r1 F1 B1 => some (0, F1, B1))) = some (r, F9, B9) := hf
  refine lv_aload_n hx hb (D_42 W_prog_15_method_30_code_0 0 rfl rfl) rfl (lv_at hl 0 rfl) ?_
  refine lv_iload_n hx hb (D_27 W_prog_15_method_30_code_0 1 rfl rfl) rfl (lv_at hl 1 rfl) ?_
  refine lv_aload_n hx hb (D_42 W_prog_15_method_30_code_0 2 rfl rfl) rfl (lv_at hl 0 rfl) ?_
  refine zget (ci := 14) (C := RX14) (T := TX14) (v := .int (iI (F 14 0 16))) (k := 16) hx hb hts inW_14 hown hK hZ (by decide) (by decide) rfl (by decide) k_11_14 rfl (D_180 W_prog_15_method_30_code_0 3 rfl rfl rfl) ?_
  obtain ⟨r1, F1, B1, hc1, hf⟩ := gbind hf
  refine va_callv (va_runV (As := [.int (iI l1), .int (iI (F 14 0 16))]) (rest := []) ⟨hx, hb, hml, hown, hts⟩ (c_M_failAt (l := l) hc1) (cwV 2 hts (gdV k_14_132 k_14_134 ks_205 k_1_9 k_14_135) rfl rfl rfl (by decide +kernel) ⟨Nat.le_of_ble_eq_true rfl, Nat.le_of_ble_eq_true rfl⟩) (zPV X hZ hS (ci := 14) (by decide) (by decide) (r := (RX14, TX14, 107)) rfl [.int (iI l1), .int (iI (F 14 0 16))]) rfl rfl hl.1 rfl (lv_room (Nat.le_of_ble_eq_true rfl)) (D_182 W_prog_15_method_30_code_0 6 rfl rfl rfl) ⟨Nat.le_of_ble_eq_true rfl, Nat.le_of_ble_eq_true rfl⟩) hS (fun q _ h => zAin X hS q h) (zAin X hS) (fun u1 t1 H1 locs1 ht1 hv1 hw1 hB1 hz1 hk1 hS1 => ?_)
  have hZ1 := zBack X ht1 hB1
  cases hf
  exact W.vret hx hb hr (fun t ht hW => ⟨⟨(), rfl, trivial, by rw [ht]; exact hZ1, va_K.moved hW.alike hK⟩, hS1.F ht⟩) hS1.2.2 (D_177 W_prog_15_method_30_code_0 9 rfl rfl) hlk

abbrev Q_M_isName (D : va_G) (ca : Nat → ClassId) (ad : Nat → Int → Nat → Nat) (L : List Nat) (r : Int) (F : zF) (B : zB) (A : Nat → Prop) : Array Value → State → Outcome → State → Prop := va_Qi (S := Unit) (fun p _ => p = iI r) (fun _ => zPo D ca ad lnM nM L F B A) A
def f_M_isName_80 (K : Nat) (s0 : Int) (F : zF) (B : zB) : zO := if (s0 = 0 ∨ s0 = 1) then some (s0, F, B) else none
set_option maxHeartbeats 4000000 in
set_option maxRecDepth 100000 in
theorem b_M_isName_80 {D : va_G} {ca : Nat → ClassId} {ad : Nat → Int → Nat → Nat} {L : List Nat} {aS vS : Nat → Nat} {A : Nat → Prop} {p : Program} {l : Launch} {e : Env} {s : State} {m : MethodId} {args : Array Value} {below : List Frame} {meth : Method} {c : Code} {K : Nat} {r : Int} {F9 : zF} {B9 : zB} (X : zX D ca L aS vS A p s m args meth c prog_15_method_35_code 1 (Option.some Jvm.ClassFile.FieldType.boolean) "StaveHouseModel") {s0 : Int} {F : zF} {B : zB} {H : Heap} {locs : List Loc} {ls : Array Slot} (hf : f_M_isName_80 K s0 F B = some (r, F9, B9)) (hZ : zH D ca ad lnM nM L F B A H) (hS : va_S A s.heap H locs) (hl : lv_has ls 1 []) : W p l e ({ frames := 1, cells := 0, slots := 0, locals := 24 } : Room) s m args below meth c H locs 0 0 (MQ below (Q_M_isName D ca ad L r F9 B9 A) args s 0 0 A) (F0 m 80 ls [.int (iI s0)]) := by
  obtain ⟨hx, hb, hr, hml, hown, hts, hlk, hK, hA, hL, hX⟩ := id X
  replace hf : (if (s0 = 0 ∨ s0 = 1) then some (s0, F, B) else none) = some (r, F9, B9) := hf
  obtain ⟨g15, hf⟩ := gif hf
  cases hf
  exact W.zret hx hb hr (zbool g15) (fun t ht hW => ⟨⟨_, (), rfl, rfl, by rw [ht]; exact hZ, va_K.moved hW.alike hK⟩, hS.F ht⟩) hS.2.2 (D_172 W_prog_15_method_35_code_64 16 rfl rfl) hlk

def f_M_isName_79 (K : Nat)  (F : zF) (B : zB) : zO := f_M_isName_80 K 0 F B
set_option maxHeartbeats 4000000 in
set_option maxRecDepth 100000 in
theorem b_M_isName_79 {D : va_G} {ca : Nat → ClassId} {ad : Nat → Int → Nat → Nat} {L : List Nat} {aS vS : Nat → Nat} {A : Nat → Prop} {p : Program} {l : Launch} {e : Env} {s : State} {m : MethodId} {args : Array Value} {below : List Frame} {meth : Method} {c : Code} {K : Nat} {r : Int} {F9 : zF} {B9 : zB} (X : zX D ca L aS vS A p s m args meth c prog_15_method_35_code 1 (Option.some Jvm.ClassFile.FieldType.boolean) "StaveHouseModel")  {F : zF} {B : zB} {H : Heap} {locs : List Loc} {ls : Array Slot} (hf : f_M_isName_79 K  F B = some (r, F9, B9)) (hZ : zH D ca ad lnM nM L F B A H) (hS : va_S A s.heap H locs) (hl : lv_has ls 1 []) : W p l e ({ frames := 1, cells := 0, slots := 0, locals := 24 } : Room) s m args below meth c H locs 0 0 (MQ below (Q_M_isName D ca ad L r F9 B9 A) args s 0 0 A) (F0 m 79 ls []) := by
  obtain ⟨hx, hb, hr, hml, hown, hts, hlk, hK, hA, hL, hX⟩ := id X
  replace hf : (f_M_isName_80 K 0 F B) = some (r, F9, B9) := hf
  refine lv_iconst (v := iI 0) hx hb (D_3 W_prog_15_method_35_code_64 15 rfl rfl) rfl ?_
  exact b_M_isName_80 X hf hZ hS (lv_sub hl [] rfl)

def f_M_isName (K : Nat)  (F : zF) (B : zB) : zO := if 0 ≤ (F 14 0 16) ∧ (F 14 0 16) < 3001 then if r32 (B 14 0 7 (F 14 0 16)) then (if (B 14 0 7 (F 14 0 16)) = 4 then zbind (f_M_find K 14 0 15 15 (B 14 0 11 (F 14 0 16)) F B) (fun r4 F4 B4 => if r32 r4 then (if 0 ≤ r4 then f_M_isName_79 K F4 B4 else if 0 ≤ (F4 14 0 16) ∧ (F4 14 0 16) < 3001 then zbind (f_M_find K 14 0 13 4 (B4 14 0 11 (F4 14 0 16)) F4 B4) (fun r8 F8 B8 => if r32 r8 then (if 0 ≤ r8 then f_M_isName_79 K F8 B8 else if 0 ≤ (F8 14 0 16) ∧ (F8 14 0 16) < 3001 then zbind (f_M_find K 14 0 14 8 (B8 14 0 11 (F8 14 0 16)) F8 B8) (fun r12 F12 B12 => if r32 r12 then (if 0 ≤ r12 then f_M_isName_79 K F12 B12 else f_M_isName_80 K 1 F12 B12) else none) else none) else none) else none) else none) else f_M_isName_79 K F B) else none else none
set_option maxHeartbeats 4000000 in
set_option maxRecDepth 100000 in
theorem c_M_isName {l : Launch} {D : va_G} {ca : Nat → ClassId} {ad : Nat → Int → Nat → Nat} {L : List Nat} {aS vS : Nat → Nat} {sz K : Nat}   {F F9 : zF} {B B9 : zB} {r : Int} (hf : f_M_isName K  F B = some (r, F9, B9)) : Met l ({ cls := "StaveHouseModel", name := "isName", desc := "()Z" } : Jvm.MethodName) (Cond.code ({ cls := "StaveHouseModel", name := "isName", desc := "()Z" } : Jvm.MethodName) prog_15_method_35_code 1 (Option.some Jvm.ClassFile.FieldType.boolean) :: wAll) ({ frames := 1, cells := 0, slots := 0, locals := 24 } : Room) (va_Pc [.ref (ad 14 0 0)] (zPre D ca ad lnM nM L aS vS F B sz)) (Q_M_isName D ca ad L r F9 B9 (zA L sz)) 0 0 (zA L sz) := by
  refine zMet (Qc := Q_M_isName D ca ad L r F9 B9) (lv := [(0, .ref (ad 14 0 0))]) (by decide) (Nat.le_of_ble_eq_true rfl) rfl (fun A p e s m below meth c ls X hZ hS hl => ?_)
  obtain ⟨hx, hb, hr, hml, hown, hts, hlk, hK, hA, hL, hX⟩ := id X
  replace hf : (if 0 ≤ (F 14 0 16) ∧ (F 14 0 16) < 3001 then if r32 (B 14 0 7 (F 14 0 16)) then (if (B 14 0 7 (F 14 0 16)) = 4 then zbind (f_M_find K 14 0 15 15 (B 14 0 11 (F 14 0 16)) F B) (fun r4 F4 B4 => if r32 r4 then (if 0 ≤ r4 then f_M_isName_79 K F4 B4 else if 0 ≤ (F4 14 0 16) ∧ (F4 14 0 16) < 3001 then zbind (f_M_find K 14 0 13 4 (B4 14 0 11 (F4 14 0 16)) F4 B4) (fun r8 F8 B8 => if r32 r8 then (if 0 ≤ r8 then f_M_isName_79 K F8 B8 else if 0 ≤ (F8 14 0 16) ∧ (F8 14 0 16) < 3001 then zbind (f_M_find K 14 0 14 8 (B8 14 0 11 (F8 14 0 16)) F8 B8) (fun r12 F12 B12 => if r32 r12 then (if 0 ≤ r12 then f_M_isName_79 K F12 B12 else f_M_isName_80 K 1 F12 B12) else none) else none) else none) else none) else none) else f_M_isName_79 K F B) else none else none) = some (r, F9, B9) := hf
  refine lv_aload_n hx hb (D_42 W_prog_15_method_35_code_0 0 rfl rfl) rfl (lv_at hl 0 rfl) ?_
  refine zget (ci := 14) (C := RX14) (T := TX14) (v := .ref (ad 14 0 (7 + 1))) (k := 7) hx hb hts inW_14 hown hK hZ (by decide) (by decide) rfl (by decide) k_11_5 rfl (D_180 W_prog_15_method_35_code_0 1 rfl rfl rfl) ?_
  refine lv_aload_n hx hb (D_42 W_prog_15_method_35_code_0 4 rfl rfl) rfl (lv_at hl 0 rfl) ?_
  refine zget (ci := 14) (C := RX14) (T := TX14) (v := .int (iI (F 14 0 16))) (k := 16) hx hb hts inW_14 hown hK hZ (by decide) (by decide) rfl (by decide) k_11_14 rfl (D_180 W_prog_15_method_35_code_0 5 rfl rfl rfl) ?_
  obtain ⟨g1, hf⟩ := gif hf
  refine zald (ci := 14) (k := 7) hx hb hK rfl hZ (by decide) (by decide) rfl (Nat.le_of_ble_eq_true rfl) g1.1 g1.2 (D_46 W_prog_15_method_35_code_0 8 rfl rfl) ?_
  refine lv_iconst (v := iI 4) hx hb (D_7 W_prog_15_method_35_code_0 9 rfl rfl) rfl ?_
  obtain ⟨g2, hf⟩ := gif hf
  refine zne (tgt := 79) hx hb g2 (by decide) (D_160 W_prog_15_method_35_code_0 10 rfl rfl rfl) (by decide) (fun h3 => ?_) (fun h3 => ?_)
  · replace hf := gneg hf h3
    exact b_M_isName_79 X hf hZ hS (lv_sub hl [] rfl)
  · replace hf := gpos hf h3
    refine lv_aload_n hx hb (D_42 W_prog_15_method_35_code_0 13 rfl rfl) rfl (lv_at hl 0 rfl) ?_
    refine zget (ci := 14) (C := RX14) (T := TX14) (v := .ref (ad 14 0 (15 + 1))) (k := 15) hx hb hts inW_14 hown hK hZ (by decide) (by decide) rfl (by decide) k_11_13 rfl (D_180 W_prog_15_method_35_code_0 14 rfl rfl rfl) ?_
    refine lv_bipush (v := iI 15) hx hb (D_16 W_prog_15_method_35_code_0 17 rfl rfl rfl) (by decide) ?_
    refine lv_aload_n hx hb (D_42 W_prog_15_method_35_code_0 19 rfl rfl) rfl (lv_at hl 0 rfl) ?_
    refine zget (ci := 14) (C := RX14) (T := TX14) (v := .ref (ad 14 0 (11 + 1))) (k := 11) hx hb hts inW_14 hown hK hZ (by decide) (by decide) rfl (by decide) k_11_9 rfl (D_180 W_prog_15_method_35_code_0 20 rfl rfl rfl) ?_
    refine lv_aload_n hx hb (D_42 W_prog_15_method_35_code_0 23 rfl rfl) rfl (lv_at hl 0 rfl) ?_
    refine zget (ci := 14) (C := RX14) (T := TX14) (v := .int (iI (F 14 0 16))) (k := 16) hx hb hts inW_14 hown hK hZ (by decide) (by decide) rfl (by decide) k_11_14 rfl (D_180 W_prog_15_method_35_code_0 24 rfl rfl rfl) ?_
    refine zlald (ci := 14) (k := 11) hx hb hK rfl hZ (by decide) (by decide) rfl (Nat.le_of_ble_eq_true rfl) g1.1 g1.2 (D_47 W_prog_15_method_35_code_0 27 rfl rfl) ?_
    obtain ⟨r4, F4, B4, hc4, hf⟩ := gbind hf
    refine va_calli (va_runS (As := [.ref (ad 14 0 (15 + 1)), .int (iI 15), .long (lI (B 14 0 11 (F 14 0 16)))]) (rest := []) ⟨hx, hb, hml, hown, hts⟩ (c_M_find (l := l) hc4) (va_cwS 3 hts (gdS k_14_156 k_14_157 k_1_9 k_14_158) rfl rfl rfl (by decide +kernel) ⟨Nat.le_of_ble_eq_true rfl, Nat.le_of_ble_eq_true rfl⟩) (zPS X hZ hS [.ref (ad 14 0 (15 + 1)), .int (iI 15), .long (lI (B 14 0 11 (F 14 0 16)))]) rfl rfl hl.1 rfl (lv_room (Nat.le_of_ble_eq_true rfl)) (D_184 W_prog_15_method_35_code_0 28 rfl rfl rfl) ⟨Nat.le_of_ble_eq_true rfl, Nat.le_of_ble_eq_true rfl⟩) hS (fun q _ h => zAin X hS q h) (zAin X hS) (fun p4 u4 t4 H4 locs4 ht4 hv4 hw4 hB4 hz4 hk4 hS4 => ?_)
    have hZ4 := zBack X ht4 hB4
    subst hw4
    obtain ⟨g5, hf⟩ := gif hf
    refine z0ge (tgt := 79) hx hb g5 (D_156 W_prog_15_method_35_code_0 31 rfl rfl rfl) (by decide) (fun h6 => ?_) (fun h6 => ?_)
    · replace hf := gpos hf h6
      exact b_M_isName_79 X hf hZ4 hS4 (lv_sub hl [] rfl)
    · replace hf := gneg hf h6
      refine lv_aload_n hx hb (D_42 W_prog_15_method_35_code_32 2 rfl rfl) rfl (lv_at hl 0 rfl) ?_
      refine zget (ci := 14) (C := RX14) (T := TX14) (v := .ref (ad 14 0 (13 + 1))) (k := 13) hx hb hts inW_14 hown hK hZ4 (by decide) (by decide) rfl (by decide) k_11_11 rfl (D_180 W_prog_15_method_35_code_32 3 rfl rfl rfl) ?_
      refine lv_iconst (v := iI 4) hx hb (D_7 W_prog_15_method_35_code_32 6 rfl rfl) rfl ?_
      refine lv_aload_n hx hb (D_42 W_prog_15_method_35_code_32 7 rfl rfl) rfl (lv_at hl 0 rfl) ?_
      refine zget (ci := 14) (C := RX14) (T := TX14) (v := .ref (ad 14 0 (11 + 1))) (k := 11) hx hb hts inW_14 hown hK hZ4 (by decide) (by decide) rfl (by decide) k_11_9 rfl (D_180 W_prog_15_method_35_code_32 8 rfl rfl rfl) ?_
      refine lv_aload_n hx hb (D_42 W_prog_15_method_35_code_32 11 rfl rfl) rfl (lv_at hl 0 rfl) ?_
      refine zget (ci := 14) (C := RX14) (T := TX14) (v := .int (iI (F4 14 0 16))) (k := 16) hx hb hts inW_14 hown hK hZ4 (by decide) (by decide) rfl (by decide) k_11_14 rfl (D_180 W_prog_15_method_35_code_32 12 rfl rfl rfl) ?_
      obtain ⟨g7, hf⟩ := gif hf
      refine zlald (ci := 14) (k := 11) hx hb hK rfl hZ4 (by decide) (by decide) rfl (Nat.le_of_ble_eq_true rfl) g7.1 g7.2 (D_47 W_prog_15_method_35_code_32 15 rfl rfl) ?_
      obtain ⟨r8, F8, B8, hc8, hf⟩ := gbind hf
      refine va_calli (va_runS (As := [.ref (ad 14 0 (13 + 1)), .int (iI 4), .long (lI (B4 14 0 11 (F4 14 0 16)))]) (rest := []) ⟨hx, hb, hml, hown, hts⟩ (c_M_find (l := l) hc8) (va_cwS 3 hts (gdS k_14_156 k_14_157 k_1_9 k_14_158) rfl rfl rfl (by decide +kernel) ⟨Nat.le_of_ble_eq_true rfl, Nat.le_of_ble_eq_true rfl⟩) (zPS X hZ4 hS4 [.ref (ad 14 0 (13 + 1)), .int (iI 4), .long (lI (B4 14 0 11 (F4 14 0 16)))]) rfl rfl hl.1 rfl (lv_room (Nat.le_of_ble_eq_true rfl)) (D_184 W_prog_15_method_35_code_32 16 rfl rfl rfl) ⟨Nat.le_of_ble_eq_true rfl, Nat.le_of_ble_eq_true rfl⟩) hS4 (fun q _ h => zAin X hS4 q h) (zAin X hS4) (fun p8 u8 t8 H8 locs8 ht8 hv8 hw8 hB8 hz8 hk8 hS8 => ?_)
      have hZ8 := zBack X ht8 hB8
      subst hw8
      obtain ⟨g9, hf⟩ := gif hf
      refine z0ge (tgt := 79) hx hb g9 (D_156 W_prog_15_method_35_code_32 19 rfl rfl rfl) (by decide) (fun h10 => ?_) (fun h10 => ?_)
      · replace hf := gpos hf h10
        exact b_M_isName_79 X hf hZ8 hS8 (lv_sub hl [] rfl)
      · replace hf := gneg hf h10
        refine lv_aload_n hx hb (D_42 W_prog_15_method_35_code_32 22 rfl rfl) rfl (lv_at hl 0 rfl) ?_
        refine zget (ci := 14) (C := RX14) (T := TX14) (v := .ref (ad 14 0 (14 + 1))) (k := 14) hx hb hts inW_14 hown hK hZ8 (by decide) (by decide) rfl (by decide) k_11_12 rfl (D_180 W_prog_15_method_35_code_32 23 rfl rfl rfl) ?_
        refine lv_bipush (v := iI 8) hx hb (D_16 W_prog_15_method_35_code_32 26 rfl rfl rfl) (by decide) ?_
        refine lv_aload_n hx hb (D_42 W_prog_15_method_35_code_32 28 rfl rfl) rfl (lv_at hl 0 rfl) ?_
        refine zget (ci := 14) (C := RX14) (T := TX14) (v := .ref (ad 14 0 (11 + 1))) (k := 11) hx hb hts inW_14 hown hK hZ8 (by decide) (by decide) rfl (by decide) k_11_9 rfl (D_180 W_prog_15_method_35_code_32 29 rfl rfl rfl) ?_
        refine lv_aload_n hx hb (D_42 W_prog_15_method_35_code_64 0 rfl rfl) rfl (lv_at hl 0 rfl) ?_
        refine zget (ci := 14) (C := RX14) (T := TX14) (v := .int (iI (F8 14 0 16))) (k := 16) hx hb hts inW_14 hown hK hZ8 (by decide) (by decide) rfl (by decide) k_11_14 rfl (D_180 W_prog_15_method_35_code_64 1 rfl rfl rfl) ?_
        obtain ⟨g11, hf⟩ := gif hf
        refine zlald (ci := 14) (k := 11) hx hb hK rfl hZ8 (by decide) (by decide) rfl (Nat.le_of_ble_eq_true rfl) g11.1 g11.2 (D_47 W_prog_15_method_35_code_64 4 rfl rfl) ?_
        obtain ⟨r12, F12, B12, hc12, hf⟩ := gbind hf
        refine va_calli (va_runS (As := [.ref (ad 14 0 (14 + 1)), .int (iI 8), .long (lI (B8 14 0 11 (F8 14 0 16)))]) (rest := []) ⟨hx, hb, hml, hown, hts⟩ (c_M_find (l := l) hc12) (va_cwS 3 hts (gdS k_14_156 k_14_157 k_1_9 k_14_158) rfl rfl rfl (by decide +kernel) ⟨Nat.le_of_ble_eq_true rfl, Nat.le_of_ble_eq_true rfl⟩) (zPS X hZ8 hS8 [.ref (ad 14 0 (14 + 1)), .int (iI 8), .long (lI (B8 14 0 11 (F8 14 0 16)))]) rfl rfl hl.1 rfl (lv_room (Nat.le_of_ble_eq_true rfl)) (D_184 W_prog_15_method_35_code_64 5 rfl rfl rfl) ⟨Nat.le_of_ble_eq_true rfl, Nat.le_of_ble_eq_true rfl⟩) hS8 (fun q _ h => zAin X hS8 q h) (zAin X hS8) (fun p12 u12 t12 H12 locs12 ht12 hv12 hw12 hB12 hz12 hk12 hS12 => ?_)
        have hZ12 := zBack X ht12 hB12
        subst hw12
        obtain ⟨g13, hf⟩ := gif hf
        refine z0ge (tgt := 79) hx hb g13 (D_156 W_prog_15_method_35_code_64 8 rfl rfl rfl) (by decide) (fun h14 => ?_) (fun h14 => ?_)
        · replace hf := gpos hf h14
          exact b_M_isName_79 X hf hZ12 hS12 (lv_sub hl [] rfl)
        · replace hf := gneg hf h14
          refine lv_iconst (v := iI 1) hx hb (D_4 W_prog_15_method_35_code_64 11 rfl rfl) rfl ?_
          refine lv_goto (tgt := 80) hx hb (D_167 W_prog_15_method_35_code_64 12 rfl rfl rfl) (by decide) ?_
          exact b_M_isName_80 X hf hZ12 hS12 (lv_sub hl [] rfl)

abbrev Q_M_event_0 (D : va_G) (ca : Nat → ClassId) (ad : Nat → Int → Nat → Nat) (L : List Nat) (r : Int) (F : zF) (B : zB) (A : Nat → Prop) : Array Value → State → Outcome → State → Prop := va_Qv (S := Unit) (fun _ => True) (fun _ => zPo D ca ad lnM nM L F B A) A
def f_M_event_0_443 (K : Nat) (l9 : Int) (s0 : Int) (s1 : Int) (s2 : Int) (F : zF) (B : zB) : zO := if 0 ≤ s0 ∧ s0 < 3 then if 0 ≤ s1 ∧ s1 < 4000 then if 0 ≤ (F 14 0 6) ∧ (F 14 0 6) < 3 then if 0 ≤ l9 ∧ l9 < 4000 then some (0, (zup3 F 14 0 36 ((F 14 0 36) + 1)), (zup4 (zup4 B 13 s0 25 s1 s2) 13 (F 14 0 6) 26 l9 (F 14 0 49))) else none else none else none else none
set_option maxHeartbeats 4000000 in
set_option maxRecDepth 100000 in
theorem b_M_event_0_443 {D : va_G} {ca : Nat → ClassId} {ad : Nat → Int → Nat → Nat} {L : List Nat} {aS vS : Nat → Nat} {A : Nat → Prop} {p : Program} {l : Launch} {e : Env} {s : State} {m : MethodId} {args : Array Value} {below : List Frame} {meth : Method} {c : Code} {K : Nat} {r : Int} {F9 : zF} {B9 : zB} (X : zX D ca L aS vS A p s m args meth c prog_15_method_68_code 12 (Option.none : Option Jvm.ClassFile.FieldType) "StaveHouseModel") {l9 : Int} {s0 : Int} {s1 : Int} {s2 : Int} {F : zF} {B : zB} {H : Heap} {locs : List Loc} {ls : Array Slot} (hf : f_M_event_0_443 K l9 s0 s1 s2 F B = some (r, F9, B9)) (hZ : zH D ca ad lnM nM L F B A H) (hS : va_S A s.heap H locs) (hl : lv_has ls 12 [(9, .int (iI l9)), (0, .ref (ad 14 0 0))]) : W p l e ({ frames := 3, cells := 0, slots := 0, locals := 85 } : Room) s m args below meth c H locs 0 0 (MQ below (Q_M_event_0 D ca ad L r F9 B9 A) args s 0 0 A) (F0 m 443 ls [.int (iI s2), .int (iI s1), .ref (ad 13 s0 (25 + 1))]) := by
  obtain ⟨hx, hb, hr, hml, hown, hts, hlk, hK, hA, hL, hX⟩ := id X
  replace hf : (if 0 ≤ s0 ∧ s0 < 3 then if 0 ≤ s1 ∧ s1 < 4000 then if 0 ≤ (F 14 0 6) ∧ (F 14 0 6) < 3 then if 0 ≤ l9 ∧ l9 < 4000 then some (0, (zup3 F 14 0 36 ((F 14 0 36) + 1)), (zup4 (zup4 B 13 s0 25 s1 s2) 13 (F 14 0 6) 26 l9 (F 14 0 49))) else none else none else none else none) = some (r, F9, B9) := hf
  obtain ⟨g63, hf⟩ := gif hf
  obtain ⟨g65, hf⟩ := gif hf
  refine zast (ci := 13) (k := 25) hx hb hK rfl hZ hS g63.1 g63.2 rfl (Nat.le_of_ble_eq_true rfl) g65.1 g65.2 (D_79 W_prog_15_method_68_code_416 27 rfl rfl) (fun H66 locs66 hZ66 hS66 => ?_)
  refine lv_aload_n hx hb (D_42 W_prog_15_method_68_code_416 28 rfl rfl) rfl (lv_at hl 1 rfl) ?_
  refine zget (ci := 14) (C := RX14) (T := TX14) (v := va_rf (zrf ad 13 (F 14 0 6))) (k := 6) hx hb hts inW_14 hown hK hZ66 (by decide) (by decide) rfl (by decide) k_11_4 rfl (D_180 W_prog_15_method_68_code_416 29 rfl rfl rfl) ?_
  obtain ⟨g67, hf⟩ := gif hf
  refine zunrf g67.1 ?_
  refine zget (ci := 13) (C := RX13) (T := TX13) (v := .ref (ad 13 (F 14 0 6) (26 + 1))) (k := 26) hx hb hts inW_13 hown hK hZ66 g67.1 g67.2 rfl (by decide) k_9_170 rfl (D_180 W_prog_15_method_68_code_448 0 rfl rfl rfl) ?_
  refine lv_iload hx hb (D_21 W_prog_15_method_68_code_448 3 rfl rfl) (lv_at hl 0 rfl) ?_
  refine lv_aload_n hx hb (D_42 W_prog_15_method_68_code_448 5 rfl rfl) rfl (lv_at hl 1 rfl) ?_
  refine zget (ci := 14) (C := RX14) (T := TX14) (v := .int (iI (F 14 0 49))) (k := 49) hx hb hts inW_14 hown hK hZ66 (by decide) (by decide) rfl (by decide) k_11_47 rfl (D_180 W_prog_15_method_68_code_448 6 rfl rfl rfl) ?_
  obtain ⟨g68, hf⟩ := gif hf
  refine zast (ci := 13) (k := 26) hx hb hK rfl hZ66 hS66 g67.1 g67.2 rfl (Nat.le_of_ble_eq_true rfl) g68.1 g68.2 (D_79 W_prog_15_method_68_code_448 9 rfl rfl) (fun H69 locs69 hZ69 hS69 => ?_)
  refine lv_aload_n hx hb (D_42 W_prog_15_method_68_code_448 10 rfl rfl) rfl (lv_at hl 1 rfl) ?_
  refine lv_dup hx hb (D_89 W_prog_15_method_68_code_448 11 rfl rfl) rfl ?_
  refine zget (ci := 14) (C := RX14) (T := TX14) (v := .int (iI (F 14 0 36))) (k := 36) hx hb hts inW_14 hown hK hZ69 (by decide) (by decide) rfl (by decide) k_11_34 rfl (D_180 W_prog_15_method_68_code_448 12 rfl rfl rfl) ?_
  refine lv_iconst (v := iI 1) hx hb (D_4 W_prog_15_method_68_code_448 15 rfl rfl) rfl ?_
  refine zadd hx hb (D_96 W_prog_15_method_68_code_448 16 rfl rfl) ?_
  refine zput (ci := 14) (C := RX14) (T := TX14) (k := 36) (v := ((F 14 0 36) + 1)) (w := .int (iI ((F 14 0 36) + 1))) hx hb hts inW_14 tyX14 tyX14_ok nmX14 hown hK hZ69 hS69 (by decide) (by decide) rfl (by decide) k_11_34 rfl (fun G h => congrArg (fun q => Value.int (iI q)) h) rfl rfl (zno (by decide)) (D_181 W_prog_15_method_68_code_448 17 rfl rfl rfl) (fun H70 locs70 hZ70 hS70 => ?_)
  cases hf
  exact W.vret hx hb hr (fun t ht hW => ⟨⟨(), rfl, trivial, by rw [ht]; exact hZ70, va_K.moved hW.alike hK⟩, hS70.F ht⟩) hS70.2.2 (D_177 W_prog_15_method_68_code_448 20 rfl rfl) hlk

def f_M_event_0_277 (K : Nat) (l9 : Int) (l7 : Int) (l5 : Int) (l4 : Int) (l3 : Int) (l1 : Int) (F : zF) (B : zB) : zO := zbind (f_M_good K F B) (fun r44 F44 B44 => if r32 r44 then (if r44 = 0 then some (0, F44, B44) else zbind (f_M_plus K (F44 14 0 38) (F44 14 0 39) l5 l7 F44 B44) (fun r47 F47 B47 => if 0 ≤ (F47 14 0 6) ∧ (F47 14 0 6) < 3 then if 0 ≤ l9 ∧ l9 < 4000 then if 0 ≤ l1 ∧ l1 < 3001 then if r32 (F47 14 0 48) then (if (F47 14 0 48) ≤ 0 then f_M_event_0_443 K l9 (F47 14 0 6) l9 0 (zup3 (zup3 F47 14 0 38 (F47 14 0 0)) 14 0 39 (F47 14 0 1)) (zup4 (zup4 (zup4 (zup4 (zup4 (zup4 (zup4 (zup4 B47 13 (F47 14 0 6) 16 l9 l5) 13 (F47 14 0 6) 17 l9 l7) 13 (F47 14 0 6) 18 l9 ((zup4 (zup4 B47 13 (F47 14 0 6) 16 l9 l5) 13 (F47 14 0 6) 17 l9 l7) 14 0 34 l1)) 13 (F47 14 0 6) 19 l9 (F47 14 0 40)) 13 (F47 14 0 6) 20 l9 l1) 13 (F47 14 0 6) 22 l9 (F47 14 0 48)) 13 (F47 14 0 6) 23 l9 l3) 13 (F47 14 0 6) 24 l9 l4) else f_M_event_0_443 K l9 (F47 14 0 6) l9 (F47 14 0 50) (zup3 (zup3 F47 14 0 38 (F47 14 0 0)) 14 0 39 (F47 14 0 1)) (zup4 (zup4 (zup4 (zup4 (zup4 (zup4 (zup4 (zup4 B47 13 (F47 14 0 6) 16 l9 l5) 13 (F47 14 0 6) 17 l9 l7) 13 (F47 14 0 6) 18 l9 ((zup4 (zup4 B47 13 (F47 14 0 6) 16 l9 l5) 13 (F47 14 0 6) 17 l9 l7) 14 0 34 l1)) 13 (F47 14 0 6) 19 l9 (F47 14 0 40)) 13 (F47 14 0 6) 20 l9 l1) 13 (F47 14 0 6) 22 l9 (F47 14 0 48)) 13 (F47 14 0 6) 23 l9 l3) 13 (F47 14 0 6) 24 l9 l4)) else none else none else none else none)) else none)
set_option maxHeartbeats 4000000 in
set_option maxRecDepth 100000 in
theorem b_M_event_0_277 {D : va_G} {ca : Nat → ClassId} {ad : Nat → Int → Nat → Nat} {L : List Nat} {aS vS : Nat → Nat} {A : Nat → Prop} {p : Program} {l : Launch} {e : Env} {s : State} {m : MethodId} {args : Array Value} {below : List Frame} {meth : Method} {c : Code} {K : Nat} {r : Int} {F9 : zF} {B9 : zB} (X : zX D ca L aS vS A p s m args meth c prog_15_method_68_code 12 (Option.none : Option Jvm.ClassFile.FieldType) "StaveHouseModel") {l9 : Int} {l7 : Int} {l5 : Int} {l4 : Int} {l3 : Int} {l1 : Int} {F : zF} {B : zB} {H : Heap} {locs : List Loc} {ls : Array Slot} (hf : f_M_event_0_277 K l9 l7 l5 l4 l3 l1 F B = some (r, F9, B9)) (hZ : zH D ca ad lnM nM L F B A H) (hS : va_S A s.heap H locs) (hl : lv_has ls 12 [(9, .int (iI l9)), (7, .long (lI l7)), (5, .long (lI l5)), (4, .int (iI l4)), (3, .int (iI l3)), (0, .ref (ad 14 0 0)), (1, .int (iI l1))]) : W p l e ({ frames := 3, cells := 0, slots := 0, locals := 85 } : Room) s m args below meth c H locs 0 0 (MQ below (Q_M_event_0 D ca ad L r F9 B9 A) args s 0 0 A) (F0 m 277 ls []) := by
  obtain ⟨hx, hb, hr, hml, hown, hts, hlk, hK, hA, hL, hX⟩ := id X
  replace hf : (zbind (f_M_good K F B) (fun r44 F44 B44 => if r32 r44 then (if r44 = 0 then some (0, F44, B44) else zbind (f_M_plus K (F44 14 0 38) (F44 14 0 39) l5 l7 F44 B44) (fun r47 F47 B47 => if 0 ≤ (F47 14 0 6) ∧ (F47 14 0 6) < 3 then if 0 ≤ l9 ∧ l9 < 4000 then if 0 ≤ l1 ∧ l1 < 3001 then if r32 (F47 14 0 48) then (if (F47 14 0 48) ≤ 0 then f_M_event_0_443 K l9 (F47 14 0 6) l9 0 (zup3 (zup3 F47 14 0 38 (F47 14 0 0)) 14 0 39 (F47 14 0 1)) (zup4 (zup4 (zup4 (zup4 (zup4 (zup4 (zup4 (zup4 B47 13 (F47 14 0 6) 16 l9 l5) 13 (F47 14 0 6) 17 l9 l7) 13 (F47 14 0 6) 18 l9 ((zup4 (zup4 B47 13 (F47 14 0 6) 16 l9 l5) 13 (F47 14 0 6) 17 l9 l7) 14 0 34 l1)) 13 (F47 14 0 6) 19 l9 (F47 14 0 40)) 13 (F47 14 0 6) 20 l9 l1) 13 (F47 14 0 6) 22 l9 (F47 14 0 48)) 13 (F47 14 0 6) 23 l9 l3) 13 (F47 14 0 6) 24 l9 l4) else f_M_event_0_443 K l9 (F47 14 0 6) l9 (F47 14 0 50) (zup3 (zup3 F47 14 0 38 (F47 14 0 0)) 14 0 39 (F47 14 0 1)) (zup4 (zup4 (zup4 (zup4 (zup4 (zup4 (zup4 (zup4 B47 13 (F47 14 0 6) 16 l9 l5) 13 (F47 14 0 6) 17 l9 l7) 13 (F47 14 0 6) 18 l9 ((zup4 (zup4 B47 13 (F47 14 0 6) 16 l9 l5) 13 (F47 14 0 6) 17 l9 l7) 14 0 34 l1)) 13 (F47 14 0 6) 19 l9 (F47 14 0 40)) 13 (F47 14 0 6) 20 l9 l1) 13 (F47 14 0 6) 22 l9 (F47 14 0 48)) 13 (F47 14 0 6) 23 l9 l3) 13 (F47 14 0 6) 24 l9 l4)) else none else none else none else none)) else none)) = some (r, F9, B9) := hf
  refine lv_aload_n hx hb (D_42 W_prog_15_method_68_code_256 21 rfl rfl) rfl (lv_at hl 5 rfl) ?_
  obtain ⟨r44, F44, B44, hc44, hf⟩ := gbind hf
  refine va_calli (va_runV (As := []) (rest := []) ⟨hx, hb, hml, hown, hts⟩ (c_M_good (l := l) hc44) (cwV 0 hts (gdV k_13_15 k_13_17 ks_152 k_1_9 k_13_18) rfl rfl rfl (by decide +kernel) ⟨Nat.le_of_ble_eq_true rfl, Nat.le_of_ble_eq_true rfl⟩) (zPV X hZ hS (ci := 14) (by decide) (by decide) (r := (RX14, TX14, 107)) rfl []) rfl rfl hl.1 rfl (lv_room (Nat.le_of_ble_eq_true rfl)) (D_182 W_prog_15_method_68_code_256 22 rfl rfl rfl) ⟨Nat.le_of_ble_eq_true rfl, Nat.le_of_ble_eq_true rfl⟩) hS (fun q _ h => zAin X hS q h) (zAin X hS) (fun p44 u44 t44 H44 locs44 ht44 hv44 hw44 hB44 hz44 hk44 hS44 => ?_)
  have hZ44 := zBack X ht44 hB44
  subst hw44
  obtain ⟨g45, hf⟩ := gif hf
  refine z0ne (tgt := 285) hx hb g45 (D_154 W_prog_15_method_68_code_256 25 rfl rfl rfl) (by decide) (fun h46 => ?_) (fun h46 => ?_)
  · replace hf := gneg hf h46
    refine lv_aload_n hx hb (D_42 W_prog_15_method_68_code_256 29 rfl rfl) rfl (lv_at hl 5 rfl) ?_
    refine lv_aload_n hx hb (D_42 W_prog_15_method_68_code_256 30 rfl rfl) rfl (lv_at hl 5 rfl) ?_
    refine zget (ci := 14) (C := RX14) (T := TX14) (v := .long (lI (F44 14 0 38))) (k := 38) hx hb hts inW_14 hown hK hZ44 (by decide) (by decide) rfl (by decide) k_11_36 rfl (D_180 W_prog_15_method_68_code_256 31 rfl rfl rfl) ?_
    refine lv_aload_n hx hb (D_42 W_prog_15_method_68_code_288 2 rfl rfl) rfl (lv_at hl 5 rfl) ?_
    refine zget (ci := 14) (C := RX14) (T := TX14) (v := .long (lI (F44 14 0 39))) (k := 39) hx hb hts inW_14 hown hK hZ44 (by decide) (by decide) rfl (by decide) k_11_37 rfl (D_180 W_prog_15_method_68_code_288 3 rfl rfl rfl) ?_
    refine lv_lload hx hb (D_22 W_prog_15_method_68_code_288 6 rfl rfl) (lv_at hl 2 rfl) ?_
    refine lv_lload hx hb (D_22 W_prog_15_method_68_code_288 8 rfl rfl) (lv_at hl 1 rfl) ?_
    obtain ⟨r47, F47, B47, hc47, hf⟩ := gbind hf
    refine va_callv (va_runV (As := [.long (lI (F44 14 0 38)), .long (lI (F44 14 0 39)), .long (lI l5), .long (lI l7)]) (rest := []) ⟨hx, hb, hml, hown, hts⟩ (c_M_plus (l := l) hc47) (cwV 4 hts (gdV k_12_147 k_12_149 ks_135 k_1_9 k_12_150) rfl rfl rfl (by decide +kernel) ⟨Nat.le_of_ble_eq_true rfl, Nat.le_of_ble_eq_true rfl⟩) (zPV X hZ44 hS44 (ci := 14) (by decide) (by decide) (r := (RX14, TX14, 107)) rfl [.long (lI (F44 14 0 38)), .long (lI (F44 14 0 39)), .long (lI l5), .long (lI l7)]) rfl rfl hl.1 rfl (lv_room (Nat.le_of_ble_eq_true rfl)) (D_182 W_prog_15_method_68_code_288 10 rfl rfl rfl) ⟨Nat.le_of_ble_eq_true rfl, Nat.le_of_ble_eq_true rfl⟩) hS44 (fun q _ h => zAin X hS44 q h) (zAin X hS44) (fun u47 t47 H47 locs47 ht47 hv47 hw47 hB47 hz47 hk47 hS47 => ?_)
    have hZ47 := zBack X ht47 hB47
    refine lv_aload_n hx hb (D_42 W_prog_15_method_68_code_288 13 rfl rfl) rfl (lv_at hl 5 rfl) ?_
    refine lv_aload_n hx hb (D_42 W_prog_15_method_68_code_288 14 rfl rfl) rfl (lv_at hl 5 rfl) ?_
    refine zget (ci := 14) (C := RX14) (T := TX14) (v := .long (lI (F47 14 0 0))) (k := 0) hx hb hts inW_14 hown hK hZ47 (by decide) (by decide) rfl (by decide) k_10_238 rfl (D_180 W_prog_15_method_68_code_288 15 rfl rfl rfl) ?_
    refine zput (ci := 14) (C := RX14) (T := TX14) (k := 38) (v := (F47 14 0 0)) (w := .long (lI (F47 14 0 0))) hx hb hts inW_14 tyX14 tyX14_ok nmX14 hown hK hZ47 hS47 (by decide) (by decide) rfl (by decide) k_11_36 rfl (fun G h => congrArg (fun q => Value.long (lI q)) h) rfl rfl (zno (by decide)) (D_181 W_prog_15_method_68_code_288 18 rfl rfl rfl) (fun H48 locs48 hZ48 hS48 => ?_)
    refine lv_aload_n hx hb (D_42 W_prog_15_method_68_code_288 21 rfl rfl) rfl (lv_at hl 5 rfl) ?_
    refine lv_aload_n hx hb (D_42 W_prog_15_method_68_code_288 22 rfl rfl) rfl (lv_at hl 5 rfl) ?_
    refine zget (ci := 14) (C := RX14) (T := TX14) (v := .long (lI (F47 14 0 1))) (k := 1) hx hb hts inW_14 hown hK hZ48 (by decide) (by decide) rfl (by decide) k_10_239 rfl (D_180 W_prog_15_method_68_code_288 23 rfl rfl rfl) ?_
    refine zput (ci := 14) (C := RX14) (T := TX14) (k := 39) (v := (F47 14 0 1)) (w := .long (lI (F47 14 0 1))) hx hb hts inW_14 tyX14 tyX14_ok nmX14 hown hK hZ48 hS48 (by decide) (by decide) rfl (by decide) k_11_37 rfl (fun G h => congrArg (fun q => Value.long (lI q)) h) rfl rfl (zno (by decide)) (D_181 W_prog_15_method_68_code_288 26 rfl rfl rfl) (fun H49 locs49 hZ49 hS49 => ?_)
    refine lv_aload_n hx hb (D_42 W_prog_15_method_68_code_288 29 rfl rfl) rfl (lv_at hl 5 rfl) ?_
    refine zget (ci := 14) (C := RX14) (T := TX14) (v := va_rf (zrf ad 13 (F47 14 0 6))) (k := 6) hx hb hts inW_14 hown hK hZ49 (by decide) (by decide) rfl (by decide) k_11_4 rfl (D_180 W_prog_15_method_68_code_288 30 rfl rfl rfl) ?_
    obtain ⟨g50, hf⟩ := gif hf
    refine zunrf g50.1 ?_
    refine zget (ci := 13) (C := RX13) (T := TX13) (v := .ref (ad 13 (F47 14 0 6) (16 + 1))) (k := 16) hx hb hts inW_13 hown hK hZ49 g50.1 g50.2 rfl (by decide) k_9_150 rfl (D_180 W_prog_15_method_68_code_320 1 rfl rfl rfl) ?_
    refine lv_iload hx hb (D_21 W_prog_15_method_68_code_320 4 rfl rfl) (lv_at hl 0 rfl) ?_
    refine lv_lload hx hb (D_22 W_prog_15_method_68_code_320 6 rfl rfl) (lv_at hl 2 rfl) ?_
    obtain ⟨g51, hf⟩ := gif hf
    refine zlast (ci := 13) (k := 16) hx hb hK rfl hZ49 hS49 g50.1 g50.2 rfl (Nat.le_of_ble_eq_true rfl) g51.1 g51.2 (D_80 W_prog_15_method_68_code_320 8 rfl rfl) (fun H52 locs52 hZ52 hS52 => ?_)
    refine lv_aload_n hx hb (D_42 W_prog_15_method_68_code_320 9 rfl rfl) rfl (lv_at hl 5 rfl) ?_
    refine zget (ci := 14) (C := RX14) (T := TX14) (v := va_rf (zrf ad 13 (F47 14 0 6))) (k := 6) hx hb hts inW_14 hown hK hZ52 (by decide) (by decide) rfl (by decide) k_11_4 rfl (D_180 W_prog_15_method_68_code_320 10 rfl rfl rfl) ?_
    refine zunrf g50.1 ?_
    refine zget (ci := 13) (C := RX13) (T := TX13) (v := .ref (ad 13 (F47 14 0 6) (17 + 1))) (k := 17) hx hb hts inW_13 hown hK hZ52 g50.1 g50.2 rfl (by decide) k_9_152 rfl (D_180 W_prog_15_method_68_code_320 13 rfl rfl rfl) ?_
    refine lv_iload hx hb (D_21 W_prog_15_method_68_code_320 16 rfl rfl) (lv_at hl 0 rfl) ?_
    refine lv_lload hx hb (D_22 W_prog_15_method_68_code_320 18 rfl rfl) (lv_at hl 1 rfl) ?_
    refine zlast (ci := 13) (k := 17) hx hb hK rfl hZ52 hS52 g50.1 g50.2 rfl (Nat.le_of_ble_eq_true rfl) g51.1 g51.2 (D_80 W_prog_15_method_68_code_320 20 rfl rfl) (fun H53 locs53 hZ53 hS53 => ?_)
    refine lv_aload_n hx hb (D_42 W_prog_15_method_68_code_320 21 rfl rfl) rfl (lv_at hl 5 rfl) ?_
    refine zget (ci := 14) (C := RX14) (T := TX14) (v := va_rf (zrf ad 13 (F47 14 0 6))) (k := 6) hx hb hts inW_14 hown hK hZ53 (by decide) (by decide) rfl (by decide) k_11_4 rfl (D_180 W_prog_15_method_68_code_320 22 rfl rfl rfl) ?_
    refine zunrf g50.1 ?_
    refine zget (ci := 13) (C := RX13) (T := TX13) (v := .ref (ad 13 (F47 14 0 6) (18 + 1))) (k := 18) hx hb hts inW_13 hown hK hZ53 g50.1 g50.2 rfl (by decide) k_9_154 rfl (D_180 W_prog_15_method_68_code_320 25 rfl rfl rfl) ?_
    refine lv_iload hx hb (D_21 W_prog_15_method_68_code_320 28 rfl rfl) (lv_at hl 0 rfl) ?_
    refine lv_aload_n hx hb (D_42 W_prog_15_method_68_code_320 30 rfl rfl) rfl (lv_at hl 5 rfl) ?_
    refine zget (ci := 14) (C := RX14) (T := TX14) (v := .ref (ad 14 0 (34 + 1))) (k := 34) hx hb hts inW_14 hown hK hZ53 (by decide) (by decide) rfl (by decide) k_11_32 rfl (D_180 W_prog_15_method_68_code_320 31 rfl rfl rfl) ?_
    refine lv_iload_n hx hb (D_27 W_prog_15_method_68_code_352 2 rfl rfl) rfl (lv_at hl 6 rfl) ?_
    obtain ⟨g54, hf⟩ := gif hf
    refine zald (ci := 14) (k := 34) hx hb hK rfl hZ53 (by decide) (by decide) rfl (Nat.le_of_ble_eq_true rfl) g54.1 g54.2 (D_46 W_prog_15_method_68_code_352 3 rfl rfl) ?_
    refine zast (ci := 13) (k := 18) hx hb hK rfl hZ53 hS53 g50.1 g50.2 rfl (Nat.le_of_ble_eq_true rfl) g51.1 g51.2 (D_79 W_prog_15_method_68_code_352 4 rfl rfl) (fun H55 locs55 hZ55 hS55 => ?_)
    refine lv_aload_n hx hb (D_42 W_prog_15_method_68_code_352 5 rfl rfl) rfl (lv_at hl 5 rfl) ?_
    refine zget (ci := 14) (C := RX14) (T := TX14) (v := va_rf (zrf ad 13 (F47 14 0 6))) (k := 6) hx hb hts inW_14 hown hK hZ55 (by decide) (by decide) rfl (by decide) k_11_4 rfl (D_180 W_prog_15_method_68_code_352 6 rfl rfl rfl) ?_
    refine zunrf g50.1 ?_
    refine zget (ci := 13) (C := RX13) (T := TX13) (v := .ref (ad 13 (F47 14 0 6) (19 + 1))) (k := 19) hx hb hts inW_13 hown hK hZ55 g50.1 g50.2 rfl (by decide) k_9_156 rfl (D_180 W_prog_15_method_68_code_352 9 rfl rfl rfl) ?_
    refine lv_iload hx hb (D_21 W_prog_15_method_68_code_352 12 rfl rfl) (lv_at hl 0 rfl) ?_
    refine lv_aload_n hx hb (D_42 W_prog_15_method_68_code_352 14 rfl rfl) rfl (lv_at hl 5 rfl) ?_
    refine zget (ci := 14) (C := RX14) (T := TX14) (v := .int (iI (F47 14 0 40))) (k := 40) hx hb hts inW_14 hown hK hZ55 (by decide) (by decide) rfl (by decide) k_11_38 rfl (D_180 W_prog_15_method_68_code_352 15 rfl rfl rfl) ?_
    refine zast (ci := 13) (k := 19) hx hb hK rfl hZ55 hS55 g50.1 g50.2 rfl (Nat.le_of_ble_eq_true rfl) g51.1 g51.2 (D_79 W_prog_15_method_68_code_352 18 rfl rfl) (fun H56 locs56 hZ56 hS56 => ?_)
    refine lv_aload_n hx hb (D_42 W_prog_15_method_68_code_352 19 rfl rfl) rfl (lv_at hl 5 rfl) ?_
    refine zget (ci := 14) (C := RX14) (T := TX14) (v := va_rf (zrf ad 13 (F47 14 0 6))) (k := 6) hx hb hts inW_14 hown hK hZ56 (by decide) (by decide) rfl (by decide) k_11_4 rfl (D_180 W_prog_15_method_68_code_352 20 rfl rfl rfl) ?_
    refine zunrf g50.1 ?_
    refine zget (ci := 13) (C := RX13) (T := TX13) (v := .ref (ad 13 (F47 14 0 6) (20 + 1))) (k := 20) hx hb hts inW_13 hown hK hZ56 g50.1 g50.2 rfl (by decide) k_9_158 rfl (D_180 W_prog_15_method_68_code_352 23 rfl rfl rfl) ?_
    refine lv_iload hx hb (D_21 W_prog_15_method_68_code_352 26 rfl rfl) (lv_at hl 0 rfl) ?_
    refine lv_iload_n hx hb (D_27 W_prog_15_method_68_code_352 28 rfl rfl) rfl (lv_at hl 6 rfl) ?_
    refine zast (ci := 13) (k := 20) hx hb hK rfl hZ56 hS56 g50.1 g50.2 rfl (Nat.le_of_ble_eq_true rfl) g51.1 g51.2 (D_79 W_prog_15_method_68_code_352 29 rfl rfl) (fun H57 locs57 hZ57 hS57 => ?_)
    refine lv_aload_n hx hb (D_42 W_prog_15_method_68_code_352 30 rfl rfl) rfl (lv_at hl 5 rfl) ?_
    refine zget (ci := 14) (C := RX14) (T := TX14) (v := va_rf (zrf ad 13 (F47 14 0 6))) (k := 6) hx hb hts inW_14 hown hK hZ57 (by decide) (by decide) rfl (by decide) k_11_4 rfl (D_180 W_prog_15_method_68_code_352 31 rfl rfl rfl) ?_
    refine zunrf g50.1 ?_
    refine zget (ci := 13) (C := RX13) (T := TX13) (v := .ref (ad 13 (F47 14 0 6) (22 + 1))) (k := 22) hx hb hts inW_13 hown hK hZ57 g50.1 g50.2 rfl (by decide) k_9_162 rfl (D_180 W_prog_15_method_68_code_384 2 rfl rfl rfl) ?_
    refine lv_iload hx hb (D_21 W_prog_15_method_68_code_384 5 rfl rfl) (lv_at hl 0 rfl) ?_
    refine lv_aload_n hx hb (D_42 W_prog_15_method_68_code_384 7 rfl rfl) rfl (lv_at hl 5 rfl) ?_
    refine zget (ci := 14) (C := RX14) (T := TX14) (v := .int (iI (F47 14 0 48))) (k := 48) hx hb hts inW_14 hown hK hZ57 (by decide) (by decide) rfl (by decide) k_11_46 rfl (D_180 W_prog_15_method_68_code_384 8 rfl rfl rfl) ?_
    refine zast (ci := 13) (k := 22) hx hb hK rfl hZ57 hS57 g50.1 g50.2 rfl (Nat.le_of_ble_eq_true rfl) g51.1 g51.2 (D_79 W_prog_15_method_68_code_384 11 rfl rfl) (fun H58 locs58 hZ58 hS58 => ?_)
    refine lv_aload_n hx hb (D_42 W_prog_15_method_68_code_384 12 rfl rfl) rfl (lv_at hl 5 rfl) ?_
    refine zget (ci := 14) (C := RX14) (T := TX14) (v := va_rf (zrf ad 13 (F47 14 0 6))) (k := 6) hx hb hts inW_14 hown hK hZ58 (by decide) (by decide) rfl (by decide) k_11_4 rfl (D_180 W_prog_15_method_68_code_384 13 rfl rfl rfl) ?_
    refine zunrf g50.1 ?_
    refine zget (ci := 13) (C := RX13) (T := TX13) (v := .ref (ad 13 (F47 14 0 6) (23 + 1))) (k := 23) hx hb hts inW_13 hown hK hZ58 g50.1 g50.2 rfl (by decide) k_9_164 rfl (D_180 W_prog_15_method_68_code_384 16 rfl rfl rfl) ?_
    refine lv_iload hx hb (D_21 W_prog_15_method_68_code_384 19 rfl rfl) (lv_at hl 0 rfl) ?_
    refine lv_iload_n hx hb (D_29 W_prog_15_method_68_code_384 21 rfl rfl) rfl (lv_at hl 4 rfl) ?_
    refine zast (ci := 13) (k := 23) hx hb hK rfl hZ58 hS58 g50.1 g50.2 rfl (Nat.le_of_ble_eq_true rfl) g51.1 g51.2 (D_79 W_prog_15_method_68_code_384 22 rfl rfl) (fun H59 locs59 hZ59 hS59 => ?_)
    refine lv_aload_n hx hb (D_42 W_prog_15_method_68_code_384 23 rfl rfl) rfl (lv_at hl 5 rfl) ?_
    refine zget (ci := 14) (C := RX14) (T := TX14) (v := va_rf (zrf ad 13 (F47 14 0 6))) (k := 6) hx hb hts inW_14 hown hK hZ59 (by decide) (by decide) rfl (by decide) k_11_4 rfl (D_180 W_prog_15_method_68_code_384 24 rfl rfl rfl) ?_
    refine zunrf g50.1 ?_
    refine zget (ci := 13) (C := RX13) (T := TX13) (v := .ref (ad 13 (F47 14 0 6) (24 + 1))) (k := 24) hx hb hts inW_13 hown hK hZ59 g50.1 g50.2 rfl (by decide) k_9_166 rfl (D_180 W_prog_15_method_68_code_384 27 rfl rfl rfl) ?_
    refine lv_iload hx hb (D_21 W_prog_15_method_68_code_384 30 rfl rfl) (lv_at hl 0 rfl) ?_
    refine lv_iload hx hb (D_21 W_prog_15_method_68_code_416 0 rfl rfl) (lv_at hl 3 rfl) ?_
    refine zast (ci := 13) (k := 24) hx hb hK rfl hZ59 hS59 g50.1 g50.2 rfl (Nat.le_of_ble_eq_true rfl) g51.1 g51.2 (D_79 W_prog_15_method_68_code_416 2 rfl rfl) (fun H60 locs60 hZ60 hS60 => ?_)
    refine lv_aload_n hx hb (D_42 W_prog_15_method_68_code_416 3 rfl rfl) rfl (lv_at hl 5 rfl) ?_
    refine zget (ci := 14) (C := RX14) (T := TX14) (v := va_rf (zrf ad 13 (F47 14 0 6))) (k := 6) hx hb hts inW_14 hown hK hZ60 (by decide) (by decide) rfl (by decide) k_11_4 rfl (D_180 W_prog_15_method_68_code_416 4 rfl rfl rfl) ?_
    refine zunrf g50.1 ?_
    refine zget (ci := 13) (C := RX13) (T := TX13) (v := .ref (ad 13 (F47 14 0 6) (25 + 1))) (k := 25) hx hb hts inW_13 hown hK hZ60 g50.1 g50.2 rfl (by decide) k_9_168 rfl (D_180 W_prog_15_method_68_code_416 7 rfl rfl rfl) ?_
    refine lv_iload hx hb (D_21 W_prog_15_method_68_code_416 10 rfl rfl) (lv_at hl 0 rfl) ?_
    refine lv_aload_n hx hb (D_42 W_prog_15_method_68_code_416 12 rfl rfl) rfl (lv_at hl 5 rfl) ?_
    refine zget (ci := 14) (C := RX14) (T := TX14) (v := .int (iI (F47 14 0 48))) (k := 48) hx hb hts inW_14 hown hK hZ60 (by decide) (by decide) rfl (by decide) k_11_46 rfl (D_180 W_prog_15_method_68_code_416 13 rfl rfl rfl) ?_
    obtain ⟨g61, hf⟩ := gif hf
    refine z0le (tgt := 442) hx hb g61 (D_158 W_prog_15_method_68_code_416 16 rfl rfl rfl) (by decide) (fun h62 => ?_) (fun h62 => ?_)
    · replace hf := gpos hf h62
      refine lv_iconst (v := iI 0) hx hb (D_3 W_prog_15_method_68_code_416 26 rfl rfl) rfl ?_
      exact b_M_event_0_443 X hf hZ60 hS60 (lv_sub hl [0, 5] rfl)
    · replace hf := gneg hf h62
      refine lv_aload_n hx hb (D_42 W_prog_15_method_68_code_416 19 rfl rfl) rfl (lv_at hl 5 rfl) ?_
      refine zget (ci := 14) (C := RX14) (T := TX14) (v := .int (iI (F47 14 0 50))) (k := 50) hx hb hts inW_14 hown hK hZ60 (by decide) (by decide) rfl (by decide) k_11_48 rfl (D_180 W_prog_15_method_68_code_416 20 rfl rfl rfl) ?_
      refine lv_goto (tgt := 443) hx hb (D_167 W_prog_15_method_68_code_416 23 rfl rfl rfl) (by decide) ?_
      exact b_M_event_0_443 X hf hZ60 hS60 (lv_sub hl [0, 5] rfl)
  · replace hf := gpos hf h46
    cases hf
    exact W.vret hx hb hr (fun t ht hW => ⟨⟨(), rfl, trivial, by rw [ht]; exact hZ44, va_K.moved hW.alike hK⟩, hS44.F ht⟩) hS44.2.2 (D_177 W_prog_15_method_68_code_256 28 rfl rfl) hlk

def f_M_event_0_249 (K : Nat) : Nat → Int → Int → Int → Int → Int → Int → Int → Int → zF → zB → zO
  | 0, _, _, _, _, _, _, _, _, _, _ => none
  | n + 1, l11, l10, l9, l7, l5, l4, l3, l1, F, B => if r32 l11 then if r32 l10 then (if l10 ≤ l11 then f_M_event_0_277 K l9 l7 l5 l4 l3 l1 F B else zbind (f_M_good K F B) (fun r40 F40 B40 => if r32 r40 then (if r40 = 0 then f_M_event_0_277 K l9 l7 l5 l4 l3 l1 F40 B40 else zbind (f_M_pitchOf K l9 l11 F40 B40) (fun r43 F43 B43 => f_M_event_0_249 K n (l11 + 1) l10 l9 l7 l5 l4 l3 l1 F43 B43)) else none)) else none else none
set_option maxHeartbeats 4000000 in
set_option maxRecDepth 100000 in
theorem b_M_event_0_249 {D : va_G} {ca : Nat → ClassId} {ad : Nat → Int → Nat → Nat} {L : List Nat} {aS vS : Nat → Nat} {A : Nat → Prop} {p : Program} {l : Launch} {e : Env} {s : State} {m : MethodId} {args : Array Value} {below : List Frame} {meth : Method} {c : Code} {K : Nat} {r : Int} {F9 : zF} {B9 : zB} (X : zX D ca L aS vS A p s m args meth c prog_15_method_68_code 12 (Option.none : Option Jvm.ClassFile.FieldType) "StaveHouseModel") : ∀ {n : Nat} {l11 : Int} {l10 : Int} {l9 : Int} {l7 : Int} {l5 : Int} {l4 : Int} {l3 : Int} {l1 : Int} {F : zF} {B : zB} {H : Heap} {locs : List Loc} {ls : Array Slot}, f_M_event_0_249 K n l11 l10 l9 l7 l5 l4 l3 l1 F B = some (r, F9, B9) → zH D ca ad lnM nM L F B A H → va_S A s.heap H locs → lv_has ls 12 [(11, .int (iI l11)), (10, .int (iI l10)), (9, .int (iI l9)), (7, .long (lI l7)), (5, .long (lI l5)), (4, .int (iI l4)), (3, .int (iI l3)), (0, .ref (ad 14 0 0)), (1, .int (iI l1))] → W p l e ({ frames := 3, cells := 0, slots := 0, locals := 85 } : Room) s m args below meth c H locs 0 0 (MQ below (Q_M_event_0 D ca ad L r F9 B9 A) args s 0 0 A) (F0 m 249 ls []) := by
  obtain ⟨hx, hb, hr, hml, hown, hts, hlk, hK, hA, hL, hX⟩ := id X
  intro n
  induction n with
  | zero =>
    intros
    rename_i hf _ _ _
    cases hf
  | succ n ih =>
    intro l11 l10 l9 l7 l5 l4 l3 l1 F B H locs ls hf hZ hS hl
    replace hf : (if r32 l11 then if r32 l10 then (if l10 ≤ l11 then f_M_event_0_277 K l9 l7 l5 l4 l3 l1 F B else zbind (f_M_good K F B) (fun r40 F40 B40 => if r32 r40 then (if r40 = 0 then f_M_event_0_277 K l9 l7 l5 l4 l3 l1 F40 B40 else zbind (f_M_pitchOf K l9 l11 F40 B40) (fun r43 F43 B43 => f_M_event_0_249 K n (l11 + 1) l10 l9 l7 l5 l4 l3 l1 F43 B43)) else none)) else none else none) = some (r, F9, B9) := hf
    refine lv_iload hx hb (D_21 W_prog_15_method_68_code_224 25 rfl rfl) (lv_at hl 0 rfl) ?_
    refine lv_iload hx hb (D_21 W_prog_15_method_68_code_224 27 rfl rfl) (lv_at hl 1 rfl) ?_
    obtain ⟨g37, hf⟩ := gif hf
    obtain ⟨g38, hf⟩ := gif hf
    refine zge (tgt := 277) hx hb g37 g38 (D_162 W_prog_15_method_68_code_224 29 rfl rfl rfl) (by decide) (fun h39 => ?_) (fun h39 => ?_)
    · replace hf := gpos hf h39
      exact b_M_event_0_277 X hf hZ hS (lv_sub hl [2, 3, 4, 5, 6, 7, 8] rfl)
    · replace hf := gneg hf h39
      refine lv_aload_n hx hb (D_42 W_prog_15_method_68_code_256 0 rfl rfl) rfl (lv_at hl 7 rfl) ?_
      obtain ⟨r40, F40, B40, hc40, hf⟩ := gbind hf
      refine va_calli (va_runV (As := []) (rest := []) ⟨hx, hb, hml, hown, hts⟩ (c_M_good (l := l) hc40) (cwV 0 hts (gdV k_13_15 k_13_17 ks_152 k_1_9 k_13_18) rfl rfl rfl (by decide +kernel) ⟨Nat.le_of_ble_eq_true rfl, Nat.le_of_ble_eq_true rfl⟩) (zPV X hZ hS (ci := 14) (by decide) (by decide) (r := (RX14, TX14, 107)) rfl []) rfl rfl hl.1 rfl (lv_room (Nat.le_of_ble_eq_true rfl)) (D_182 W_prog_15_method_68_code_256 1 rfl rfl rfl) ⟨Nat.le_of_ble_eq_true rfl, Nat.le_of_ble_eq_true rfl⟩) hS (fun q _ h => zAin X hS q h) (zAin X hS) (fun p40 u40 t40 H40 locs40 ht40 hv40 hw40 hB40 hz40 hk40 hS40 => ?_)
      have hZ40 := zBack X ht40 hB40
      subst hw40
      obtain ⟨g41, hf⟩ := gif hf
      refine z0eq (tgt := 277) hx hb g41 (D_153 W_prog_15_method_68_code_256 4 rfl rfl rfl) (by decide) (fun h42 => ?_) (fun h42 => ?_)
      · replace hf := gpos hf h42
        exact b_M_event_0_277 X hf hZ40 hS40 (lv_sub hl [2, 3, 4, 5, 6, 7, 8] rfl)
      · replace hf := gneg hf h42
        refine lv_aload_n hx hb (D_42 W_prog_15_method_68_code_256 7 rfl rfl) rfl (lv_at hl 7 rfl) ?_
        refine lv_iload hx hb (D_21 W_prog_15_method_68_code_256 8 rfl rfl) (lv_at hl 2 rfl) ?_
        refine lv_iload hx hb (D_21 W_prog_15_method_68_code_256 10 rfl rfl) (lv_at hl 0 rfl) ?_
        obtain ⟨r43, F43, B43, hc43, hf⟩ := gbind hf
        refine va_callv (va_runV (As := [.int (iI l9), .int (iI l11)]) (rest := []) ⟨hx, hb, hml, hown, hts⟩ (c_M_pitchOf (l := l) hc43) (cwV 2 hts (gdV k_14_232 k_14_234 ks_229 k_1_9 k_14_235) rfl rfl rfl (by decide +kernel) ⟨Nat.le_of_ble_eq_true rfl, Nat.le_of_ble_eq_true rfl⟩) (zPV X hZ40 hS40 (ci := 14) (by decide) (by decide) (r := (RX14, TX14, 107)) rfl [.int (iI l9), .int (iI l11)]) rfl rfl hl.1 rfl (lv_room (Nat.le_of_ble_eq_true rfl)) (D_182 W_prog_15_method_68_code_256 12 rfl rfl rfl) ⟨Nat.le_of_ble_eq_true rfl, Nat.le_of_ble_eq_true rfl⟩) hS40 (fun q _ h => zAin X hS40 q h) (zAin X hS40) (fun u43 t43 H43 locs43 ht43 hv43 hw43 hB43 hz43 hk43 hS43 => ?_)
        have hZ43 := zBack X ht43 hB43
        refine lv_iinc (v := iI (l11 + 1)) (lv' := [(11, .int (iI (l11 + 1))), (10, .int (iI l10)), (9, .int (iI l9)), (7, .long (lI l7)), (5, .long (lI l5)), (4, .int (iI l4)), (3, .int (iI l3)), (0, .ref (ad 14 0 0)), (1, .int (iI l1))]) hx hb d_15_68_271 hl (k := 0) rfl (iI_add _ 1) (by decide) rfl (fun ls hl => ?_)
        refine lv_goto (tgt := 249) hx hb (D_167 W_prog_15_method_68_code_256 18 rfl rfl rfl) (by decide) ?_
        exact ih hf hZ43 hS43 (lv_sub hl [0, 1, 2, 3, 4, 5, 6, 7, 8] rfl)

def f_M_event_0_247 (K : Nat) (l10 : Int) (l9 : Int) (l7 : Int) (l5 : Int) (l4 : Int) (l3 : Int) (l1 : Int) (s0 : Int) (F : zF) (B : zB) : zO := f_M_event_0_249 K K s0 l10 l9 l7 l5 l4 l3 l1 F B
set_option maxHeartbeats 4000000 in
set_option maxRecDepth 100000 in
theorem b_M_event_0_247 {D : va_G} {ca : Nat → ClassId} {ad : Nat → Int → Nat → Nat} {L : List Nat} {aS vS : Nat → Nat} {A : Nat → Prop} {p : Program} {l : Launch} {e : Env} {s : State} {m : MethodId} {args : Array Value} {below : List Frame} {meth : Method} {c : Code} {K : Nat} {r : Int} {F9 : zF} {B9 : zB} (X : zX D ca L aS vS A p s m args meth c prog_15_method_68_code 12 (Option.none : Option Jvm.ClassFile.FieldType) "StaveHouseModel") {l10 : Int} {l9 : Int} {l7 : Int} {l5 : Int} {l4 : Int} {l3 : Int} {l1 : Int} {s0 : Int} {F : zF} {B : zB} {H : Heap} {locs : List Loc} {ls : Array Slot} (hf : f_M_event_0_247 K l10 l9 l7 l5 l4 l3 l1 s0 F B = some (r, F9, B9)) (hZ : zH D ca ad lnM nM L F B A H) (hS : va_S A s.heap H locs) (hl : lv_has ls 12 [(10, .int (iI l10)), (9, .int (iI l9)), (7, .long (lI l7)), (5, .long (lI l5)), (4, .int (iI l4)), (3, .int (iI l3)), (0, .ref (ad 14 0 0)), (1, .int (iI l1))]) : W p l e ({ frames := 3, cells := 0, slots := 0, locals := 85 } : Room) s m args below meth c H locs 0 0 (MQ below (Q_M_event_0 D ca ad L r F9 B9 A) args s 0 0 A) (F0 m 247 ls [.int (iI s0)]) := by
  obtain ⟨hx, hb, hr, hml, hown, hts, hlk, hK, hA, hL, hX⟩ := id X
  replace hf : (f_M_event_0_249 K K s0 l10 l9 l7 l5 l4 l3 l1 F B) = some (r, F9, B9) := hf
  refine lv_istore (lv' := [(11, .int (iI s0)), (10, .int (iI l10)), (9, .int (iI l9)), (7, .long (lI l7)), (5, .long (lI l5)), (4, .int (iI l4)), (3, .int (iI l3)), (0, .ref (ad 14 0 0)), (1, .int (iI l1))]) hx hb (D_54 W_prog_15_method_68_code_224 23 rfl rfl) hl (by decide) rfl (fun ls hl => ?_)
  exact b_M_event_0_249 X hf hZ hS (lv_sub hl [0, 1, 2, 3, 4, 5, 6, 7, 8] rfl)

def f_M_event_0_228 (K : Nat) (l9 : Int) (l7 : Int) (l5 : Int) (l4 : Int) (l3 : Int) (l1 : Int) (s0 : Int) (F : zF) (B : zB) : zO := if 0 ≤ l1 ∧ l1 < 3001 then if r32 (B 14 0 7 l1) then (if (B 14 0 7 l1) = 2 then f_M_event_0_247 K s0 l9 l7 l5 l4 l3 l1 l1 F B else f_M_event_0_247 K s0 l9 l7 l5 l4 l3 l1 (l1 + 1) F B) else none else none
set_option maxHeartbeats 4000000 in
set_option maxRecDepth 100000 in
theorem b_M_event_0_228 {D : va_G} {ca : Nat → ClassId} {ad : Nat → Int → Nat → Nat} {L : List Nat} {aS vS : Nat → Nat} {A : Nat → Prop} {p : Program} {l : Launch} {e : Env} {s : State} {m : MethodId} {args : Array Value} {below : List Frame} {meth : Method} {c : Code} {K : Nat} {r : Int} {F9 : zF} {B9 : zB} (X : zX D ca L aS vS A p s m args meth c prog_15_method_68_code 12 (Option.none : Option Jvm.ClassFile.FieldType) "StaveHouseModel") {l9 : Int} {l7 : Int} {l5 : Int} {l4 : Int} {l3 : Int} {l1 : Int} {s0 : Int} {F : zF} {B : zB} {H : Heap} {locs : List Loc} {ls : Array Slot} (hf : f_M_event_0_228 K l9 l7 l5 l4 l3 l1 s0 F B = some (r, F9, B9)) (hZ : zH D ca ad lnM nM L F B A H) (hS : va_S A s.heap H locs) (hl : lv_has ls 12 [(9, .int (iI l9)), (7, .long (lI l7)), (5, .long (lI l5)), (4, .int (iI l4)), (3, .int (iI l3)), (0, .ref (ad 14 0 0)), (1, .int (iI l1))]) : W p l e ({ frames := 3, cells := 0, slots := 0, locals := 85 } : Room) s m args below meth c H locs 0 0 (MQ below (Q_M_event_0 D ca ad L r F9 B9 A) args s 0 0 A) (F0 m 228 ls [.int (iI s0)]) := by
  obtain ⟨hx, hb, hr, hml, hown, hts, hlk, hK, hA, hL, hX⟩ := id X
  replace hf : (if 0 ≤ l1 ∧ l1 < 3001 then if r32 (B 14 0 7 l1) then (if (B 14 0 7 l1) = 2 then f_M_event_0_247 K s0 l9 l7 l5 l4 l3 l1 l1 F B else f_M_event_0_247 K s0 l9 l7 l5 l4 l3 l1 (l1 + 1) F B) else none else none) = some (r, F9, B9) := hf
  refine lv_istore (lv' := [(10, .int (iI s0)), (9, .int (iI l9)), (7, .long (lI l7)), (5, .long (lI l5)), (4, .int (iI l4)), (3, .int (iI l3)), (0, .ref (ad 14 0 0)), (1, .int (iI l1))]) hx hb (D_54 W_prog_15_method_68_code_224 4 rfl rfl) hl (by decide) rfl (fun ls hl => ?_)
  refine lv_aload_n hx hb (D_42 W_prog_15_method_68_code_224 6 rfl rfl) rfl (lv_at hl 6 rfl) ?_
  refine zget (ci := 14) (C := RX14) (T := TX14) (v := .ref (ad 14 0 (7 + 1))) (k := 7) hx hb hts inW_14 hown hK hZ (by decide) (by decide) rfl (by decide) k_11_5 rfl (D_180 W_prog_15_method_68_code_224 7 rfl rfl rfl) ?_
  refine lv_iload_n hx hb (D_27 W_prog_15_method_68_code_224 10 rfl rfl) rfl (lv_at hl 7 rfl) ?_
  obtain ⟨g34, hf⟩ := gif hf
  refine zald (ci := 14) (k := 7) hx hb hK rfl hZ (by decide) (by decide) rfl (Nat.le_of_ble_eq_true rfl) g34.1 g34.2 (D_46 W_prog_15_method_68_code_224 11 rfl rfl) ?_
  refine lv_iconst (v := iI 2) hx hb (D_5 W_prog_15_method_68_code_224 12 rfl rfl) rfl ?_
  obtain ⟨g35, hf⟩ := gif hf
  refine zne (tgt := 244) hx hb g35 (by decide) (D_160 W_prog_15_method_68_code_224 13 rfl rfl rfl) (by decide) (fun h36 => ?_) (fun h36 => ?_)
  · replace hf := gneg hf h36
    refine lv_iload_n hx hb (D_27 W_prog_15_method_68_code_224 20 rfl rfl) rfl (lv_at hl 7 rfl) ?_
    refine lv_iconst (v := iI 1) hx hb (D_4 W_prog_15_method_68_code_224 21 rfl rfl) rfl ?_
    refine zadd hx hb (D_96 W_prog_15_method_68_code_224 22 rfl rfl) ?_
    exact b_M_event_0_247 X hf hZ hS (lv_sub hl [0, 1, 2, 3, 4, 5, 6, 7] rfl)
  · replace hf := gpos hf h36
    refine lv_iload_n hx hb (D_27 W_prog_15_method_68_code_224 16 rfl rfl) rfl (lv_at hl 7 rfl) ?_
    refine lv_goto (tgt := 247) hx hb (D_167 W_prog_15_method_68_code_224 17 rfl rfl rfl) (by decide) ?_
    exact b_M_event_0_247 X hf hZ hS (lv_sub hl [0, 1, 2, 3, 4, 5, 6, 7] rfl)

def f_M_event_0_159 (K : Nat) (l1 : Int) (F : zF) (B : zB) : zO := zbind (f_M_failAt K 8 l1 F B) (fun r33 F33 B33 => some (0, F33, B33))
set_option maxHeartbeats 4000000 in
set_option maxRecDepth 100000 in
theorem b_M_event_0_159 {D : va_G} {ca : Nat → ClassId} {ad : Nat → Int → Nat → Nat} {L : List Nat} {aS vS : Nat → Nat} {A : Nat → Prop} {p : Program} {l : Launch} {e : Env} {s : State} {m : MethodId} {args : Array Value} {below : List Frame} {meth : Method} {c : Code} {K : Nat} {r : Int} {F9 : zF} {B9 : zB} (X : zX D ca L aS vS A p s m args meth c prog_15_method_68_code 12 (Option.none : Option Jvm.ClassFile.FieldType) "StaveHouseModel") {l1 : Int} {F : zF} {B : zB} {H : Heap} {locs : List Loc} {ls : Array Slot} (hf : f_M_event_0_159 K l1 F B = some (r, F9, B9)) (hZ : zH D ca ad lnM nM L F B A H) (hS : va_S A s.heap H locs) (hl : lv_has ls 12 [(0, .ref (ad 14 0 0)), (1, .int (iI l1))]) : W p l e ({ frames := 3, cells := 0, slots := 0, locals := 85 } : Room) s m args below meth c H locs 0 0 (MQ below (Q_M_event_0 D ca ad L r F9 B9 A) args s 0 0 A) (F0 m 159 ls []) := by
  obtain ⟨hx, hb, hr, hml, hown, hts, hlk, hK, hA, hL, hX⟩ := id X
  replace hf : (zbind (f_M_failAt K 8 l1 F B) (fun r33 F33 B33 => some (0, F33, B33))) = some (r, F9, B9) := hf
  refine lv_aload_n hx hb (D_42 W_prog_15_method_68_code_128 31 rfl rfl) rfl (lv_at hl 0 rfl) ?_
  refine lv_bipush (v := iI 8) hx hb (D_16 W_prog_15_method_68_code_160 0 rfl rfl rfl) (by decide) ?_
  refine lv_iload_n hx hb (D_27 W_prog_15_method_68_code_160 2 rfl rfl) rfl (lv_at hl 1 rfl) ?_
  obtain ⟨r33, F33, B33, hc33, hf⟩ := gbind hf
  refine va_callv (va_runV (As := [.int (iI 8), .int (iI l1)]) (rest := []) ⟨hx, hb, hml, hown, hts⟩ (c_M_failAt (l := l) hc33) (cwV 2 hts (gdV k_14_132 k_14_134 ks_205 k_1_9 k_14_135) rfl rfl rfl (by decide +kernel) ⟨Nat.le_of_ble_eq_true rfl, Nat.le_of_ble_eq_true rfl⟩) (zPV X hZ hS (ci := 14) (by decide) (by decide) (r := (RX14, TX14, 107)) rfl [.int (iI 8), .int (iI l1)]) rfl rfl hl.1 rfl (lv_room (Nat.le_of_ble_eq_true rfl)) (D_182 W_prog_15_method_68_code_160 3 rfl rfl rfl) ⟨Nat.le_of_ble_eq_true rfl, Nat.le_of_ble_eq_true rfl⟩) hS (fun q _ h => zAin X hS q h) (zAin X hS) (fun u33 t33 H33 locs33 ht33 hv33 hw33 hB33 hz33 hk33 hS33 => ?_)
  have hZ33 := zBack X ht33 hB33
  cases hf
  exact W.vret hx hb hr (fun t ht hW => ⟨⟨(), rfl, trivial, by rw [ht]; exact hZ33, va_K.moved hW.alike hK⟩, hS33.F ht⟩) hS33.2.2 (D_177 W_prog_15_method_68_code_160 6 rfl rfl) hlk

def f_M_event_0_34 (K : Nat) : Nat → Int → Int → Int → Int → Int → zF → zB → zO
  | 0, _, _, _, _, _, _, _ => none
  | n + 1, l5, l4, l3, l2, l1, F, B => if r32 l5 then if r32 (F 14 0 48) then (if (F 14 0 48) ≤ l5 then if r32 l2 then if r32 l3 then if r32 l4 then zbind (f_M_is K (l2 * l3) (128 * l4) F B) (fun r13 F13 B13 => zbind (f_M_plus K (F13 14 0 38) (F13 14 0 39) (F13 14 0 0) (F13 14 0 1) F13 B13) (fun r14 F14 B14 => if r32 (F14 14 0 36) then (if (F14 14 0 36) = 200 then f_M_event_0_159 K l1 F14 B14 else if 0 ≤ (F14 14 0 6) ∧ (F14 14 0 6) < 3 then if r32 (F14 13 (F14 14 0 6) 4) then if r32 (F14 13 (F14 14 0 6) 5) then zbind (f_M_compare K (F14 14 0 0) (F14 14 0 1) (100 * (F14 13 (F14 14 0 6) 4)) (F14 13 (F14 14 0 6) 5) F14 B14) (fun r20 F20 B20 => if r32 r20 then (if r20 ≤ 0 then if 0 ≤ (F20 14 0 6) ∧ (F20 14 0 6) < 3 then if 0 ≤ ((1000 * (F20 14 0 35)) + (F20 14 0 36)) ∧ ((1000 * (F20 14 0 35)) + (F20 14 0 36)) < 4000 then if 0 ≤ l1 ∧ l1 < 3001 then if r32 ((zup4 B20 13 (F20 14 0 6) 21 ((1000 * (F20 14 0 35)) + (F20 14 0 36)) 0) 14 0 7 l1) then (if ((zup4 B20 13 (F20 14 0 6) 21 ((1000 * (F20 14 0 35)) + (F20 14 0 36)) 0) 14 0 7 l1) = 2 then f_M_event_0_228 K ((1000 * (F20 14 0 35)) + (F20 14 0 36)) (F13 14 0 1) (F13 14 0 0) l4 l3 l1 (l1 + 1) F20 (zup4 B20 13 (F20 14 0 6) 21 ((1000 * (F20 14 0 35)) + (F20 14 0 36)) 0) else (if ((zup4 B20 13 (F20 14 0 6) 21 ((1000 * (F20 14 0 35)) + (F20 14 0 36)) 0) 14 0 7 l1) = 5 then zbind (f_M_behindPitches K l1 F20 (zup4 B20 13 (F20 14 0 6) 21 ((1000 * (F20 14 0 35)) + (F20 14 0 36)) 0)) (fun r30 F30 B30 => f_M_event_0_228 K ((1000 * (F20 14 0 35)) + (F20 14 0 36)) (F13 14 0 1) (F13 14 0 0) l4 l3 l1 r30 F30 B30) else f_M_event_0_228 K ((1000 * (F20 14 0 35)) + (F20 14 0 36)) (F13 14 0 1) (F13 14 0 0) l4 l3 l1 l1 F20 (zup4 B20 13 (F20 14 0 6) 21 ((1000 * (F20 14 0 35)) + (F20 14 0 36)) 0))) else none else none else none else none else f_M_event_0_159 K l1 F20 B20) else none) else none else none else none) else none)) else none else none else none else if 0 ≤ l5 ∧ l5 < 100 then f_M_event_0_34 K n (l5 + 1) (l4 * (B 14 0 46 l5)) (l3 * (B 14 0 47 l5)) l2 l1 F B else none) else none else none
set_option maxHeartbeats 4000000 in
set_option maxRecDepth 100000 in
theorem b_M_event_0_34 {D : va_G} {ca : Nat → ClassId} {ad : Nat → Int → Nat → Nat} {L : List Nat} {aS vS : Nat → Nat} {A : Nat → Prop} {p : Program} {l : Launch} {e : Env} {s : State} {m : MethodId} {args : Array Value} {below : List Frame} {meth : Method} {c : Code} {K : Nat} {r : Int} {F9 : zF} {B9 : zB} (X : zX D ca L aS vS A p s m args meth c prog_15_method_68_code 12 (Option.none : Option Jvm.ClassFile.FieldType) "StaveHouseModel") : ∀ {n : Nat} {l5 : Int} {l4 : Int} {l3 : Int} {l2 : Int} {l1 : Int} {F : zF} {B : zB} {H : Heap} {locs : List Loc} {ls : Array Slot}, f_M_event_0_34 K n l5 l4 l3 l2 l1 F B = some (r, F9, B9) → zH D ca ad lnM nM L F B A H → va_S A s.heap H locs → lv_has ls 12 [(5, .int (iI l5)), (4, .int (iI l4)), (3, .int (iI l3)), (2, .int (iI l2)), (0, .ref (ad 14 0 0)), (1, .int (iI l1))] → W p l e ({ frames := 3, cells := 0, slots := 0, locals := 85 } : Room) s m args below meth c H locs 0 0 (MQ below (Q_M_event_0 D ca ad L r F9 B9 A) args s 0 0 A) (F0 m 34 ls []) := by
  obtain ⟨hx, hb, hr, hml, hown, hts, hlk, hK, hA, hL, hX⟩ := id X
  intro n
  induction n with
  | zero =>
    intros
    rename_i hf _ _ _
    cases hf
  | succ n ih =>
    intro l5 l4 l3 l2 l1 F B H locs ls hf hZ hS hl
    replace hf : (if r32 l5 then if r32 (F 14 0 48) then (if (F 14 0 48) ≤ l5 then if r32 l2 then if r32 l3 then if r32 l4 then zbind (f_M_is K (l2 * l3) (128 * l4) F B) (fun r13 F13 B13 => zbind (f_M_plus K (F13 14 0 38) (F13 14 0 39) (F13 14 0 0) (F13 14 0 1) F13 B13) (fun r14 F14 B14 => if r32 (F14 14 0 36) then (if (F14 14 0 36) = 200 then f_M_event_0_159 K l1 F14 B14 else if 0 ≤ (F14 14 0 6) ∧ (F14 14 0 6) < 3 then if r32 (F14 13 (F14 14 0 6) 4) then if r32 (F14 13 (F14 14 0 6) 5) then zbind (f_M_compare K (F14 14 0 0) (F14 14 0 1) (100 * (F14 13 (F14 14 0 6) 4)) (F14 13 (F14 14 0 6) 5) F14 B14) (fun r20 F20 B20 => if r32 r20 then (if r20 ≤ 0 then if 0 ≤ (F20 14 0 6) ∧ (F20 14 0 6) < 3 then if 0 ≤ ((1000 * (F20 14 0 35)) + (F20 14 0 36)) ∧ ((1000 * (F20 14 0 35)) + (F20 14 0 36)) < 4000 then if 0 ≤ l1 ∧ l1 < 3001 then if r32 ((zup4 B20 13 (F20 14 0 6) 21 ((1000 * (F20 14 0 35)) + (F20 14 0 36)) 0) 14 0 7 l1) then (if ((zup4 B20 13 (F20 14 0 6) 21 ((1000 * (F20 14 0 35)) + (F20 14 0 36)) 0) 14 0 7 l1) = 2 then f_M_event_0_228 K ((1000 * (F20 14 0 35)) + (F20 14 0 36)) (F13 14 0 1) (F13 14 0 0) l4 l3 l1 (l1 + 1) F20 (zup4 B20 13 (F20 14 0 6) 21 ((1000 * (F20 14 0 35)) + (F20 14 0 36)) 0) else (if ((zup4 B20 13 (F20 14 0 6) 21 ((1000 * (F20 14 0 35)) + (F20 14 0 36)) 0) 14 0 7 l1) = 5 then zbind (f_M_behindPitches K l1 F20 (zup4 B20 13 (F20 14 0 6) 21 ((1000 * (F20 14 0 35)) + (F20 14 0 36)) 0)) (fun r30 F30 B30 => f_M_event_0_228 K ((1000 * (F20 14 0 35)) + (F20 14 0 36)) (F13 14 0 1) (F13 14 0 0) l4 l3 l1 r30 F30 B30) else f_M_event_0_228 K ((1000 * (F20 14 0 35)) + (F20 14 0 36)) (F13 14 0 1) (F13 14 0 0) l4 l3 l1 l1 F20 (zup4 B20 13 (F20 14 0 6) 21 ((1000 * (F20 14 0 35)) + (F20 14 0 36)) 0))) else none else none else none else none else f_M_event_0_159 K l1 F20 B20) else none) else none else none else none) else none)) else none else none else none else if 0 ≤ l5 ∧ l5 < 100 then f_M_event_0_34 K n (l5 + 1) (l4 * (B 14 0 46 l5)) (l3 * (B 14 0 47 l5)) l2 l1 F B else none) else none else none) = some (r, F9, B9) := hf
    refine lv_iload hx hb (D_21 W_prog_15_method_68_code_32 2 rfl rfl) (lv_at hl 0 rfl) ?_
    refine lv_aload_n hx hb (D_42 W_prog_15_method_68_code_32 4 rfl rfl) rfl (lv_at hl 4 rfl) ?_
    refine zget (ci := 14) (C := RX14) (T := TX14) (v := .int (iI (F 14 0 48))) (k := 48) hx hb hts inW_14 hown hK hZ (by decide) (by decide) rfl (by decide) k_11_46 rfl (D_180 W_prog_15_method_68_code_32 5 rfl rfl rfl) ?_
    obtain ⟨g7, hf⟩ := gif hf
    obtain ⟨g8, hf⟩ := gif hf
    refine zge (tgt := 71) hx hb g7 g8 (D_162 W_prog_15_method_68_code_32 8 rfl rfl rfl) (by decide) (fun h9 => ?_) (fun h9 => ?_)
    · replace hf := gpos hf h9
      refine lv_aload_n hx hb (D_42 W_prog_15_method_68_code_64 7 rfl rfl) rfl (lv_at hl 4 rfl) ?_
      refine lv_iload_n hx hb (D_28 W_prog_15_method_68_code_64 8 rfl rfl) rfl (lv_at hl 3 rfl) ?_
      obtain ⟨g10, hf⟩ := gif hf
      refine zi2l hx hb g10 (D_133 W_prog_15_method_68_code_64 9 rfl rfl) ?_
      refine lv_iload_n hx hb (D_29 W_prog_15_method_68_code_64 10 rfl rfl) rfl (lv_at hl 2 rfl) ?_
      obtain ⟨g11, hf⟩ := gif hf
      refine zi2l hx hb g11 (D_133 W_prog_15_method_68_code_64 11 rfl rfl) ?_
      refine zlmul hx hb (D_105 W_prog_15_method_68_code_64 12 rfl rfl) ?_
      refine lv_ldc2 hx hb hown (hts _ k_14_227) (D_20 W_prog_15_method_68_code_64 13 rfl rfl rfl) ?_
      refine W.eq (g2 := F0 m 80 ls [.long (lI 128), .long (lI (l2 * l3)), .ref (ad 14 0 0)]) rfl ?_
      refine lv_iload hx hb (D_21 W_prog_15_method_68_code_64 16 rfl rfl) (lv_at hl 1 rfl) ?_
      obtain ⟨g12, hf⟩ := gif hf
      refine zi2l hx hb g12 (D_133 W_prog_15_method_68_code_64 18 rfl rfl) ?_
      refine zlmul hx hb (D_105 W_prog_15_method_68_code_64 19 rfl rfl) ?_
      obtain ⟨r13, F13, B13, hc13, hf⟩ := gbind hf
      refine va_callv (va_runV (As := [.long (lI (l2 * l3)), .long (lI (128 * l4))]) (rest := []) ⟨hx, hb, hml, hown, hts⟩ (c_M_is (l := l) hc13) (cwV 2 hts (gdV k_12_154 k_12_156 ks_136 k_1_9 k_12_157) rfl rfl rfl (by decide +kernel) ⟨Nat.le_of_ble_eq_true rfl, Nat.le_of_ble_eq_true rfl⟩) (zPV X hZ hS (ci := 14) (by decide) (by decide) (r := (RX14, TX14, 107)) rfl [.long (lI (l2 * l3)), .long (lI (128 * l4))]) rfl rfl hl.1 rfl (lv_room (Nat.le_of_ble_eq_true rfl)) (D_182 W_prog_15_method_68_code_64 20 rfl rfl rfl) ⟨Nat.le_of_ble_eq_true rfl, Nat.le_of_ble_eq_true rfl⟩) hS (fun q _ h => zAin X hS q h) (zAin X hS) (fun u13 t13 H13 locs13 ht13 hv13 hw13 hB13 hz13 hk13 hS13 => ?_)
      have hZ13 := zBack X ht13 hB13
      refine lv_aload_n hx hb (D_42 W_prog_15_method_68_code_64 23 rfl rfl) rfl (lv_at hl 4 rfl) ?_
      refine zget (ci := 14) (C := RX14) (T := TX14) (v := .long (lI (F13 14 0 0))) (k := 0) hx hb hts inW_14 hown hK hZ13 (by decide) (by decide) rfl (by decide) k_10_238 rfl (D_180 W_prog_15_method_68_code_64 24 rfl rfl rfl) ?_
      refine lv_lstore (lv' := [(5, .long (lI (F13 14 0 0))), (4, .int (iI l4)), (3, .int (iI l3)), (2, .int (iI l2)), (0, .ref (ad 14 0 0)), (1, .int (iI l1))]) hx hb (D_55 W_prog_15_method_68_code_64 27 rfl rfl) hl (by decide) rfl (fun ls hl => ?_)
      refine lv_aload_n hx hb (D_42 W_prog_15_method_68_code_64 29 rfl rfl) rfl (lv_at hl 4 rfl) ?_
      refine zget (ci := 14) (C := RX14) (T := TX14) (v := .long (lI (F13 14 0 1))) (k := 1) hx hb hts inW_14 hown hK hZ13 (by decide) (by decide) rfl (by decide) k_10_239 rfl (D_180 W_prog_15_method_68_code_64 30 rfl rfl rfl) ?_
      refine lv_lstore (lv' := [(7, .long (lI (F13 14 0 1))), (5, .long (lI (F13 14 0 0))), (4, .int (iI l4)), (3, .int (iI l3)), (2, .int (iI l2)), (0, .ref (ad 14 0 0)), (1, .int (iI l1))]) hx hb (D_55 W_prog_15_method_68_code_96 1 rfl rfl) hl (by decide) rfl (fun ls hl => ?_)
      refine lv_aload_n hx hb (D_42 W_prog_15_method_68_code_96 3 rfl rfl) rfl (lv_at hl 5 rfl) ?_
      refine lv_aload_n hx hb (D_42 W_prog_15_method_68_code_96 4 rfl rfl) rfl (lv_at hl 5 rfl) ?_
      refine zget (ci := 14) (C := RX14) (T := TX14) (v := .long (lI (F13 14 0 38))) (k := 38) hx hb hts inW_14 hown hK hZ13 (by decide) (by decide) rfl (by decide) k_11_36 rfl (D_180 W_prog_15_method_68_code_96 5 rfl rfl rfl) ?_
      refine lv_aload_n hx hb (D_42 W_prog_15_method_68_code_96 8 rfl rfl) rfl (lv_at hl 5 rfl) ?_
      refine zget (ci := 14) (C := RX14) (T := TX14) (v := .long (lI (F13 14 0 39))) (k := 39) hx hb hts inW_14 hown hK hZ13 (by decide) (by decide) rfl (by decide) k_11_37 rfl (D_180 W_prog_15_method_68_code_96 9 rfl rfl rfl) ?_
      refine lv_lload hx hb (D_22 W_prog_15_method_68_code_96 12 rfl rfl) (lv_at hl 1 rfl) ?_
      refine lv_lload hx hb (D_22 W_prog_15_method_68_code_96 14 rfl rfl) (lv_at hl 0 rfl) ?_
      obtain ⟨r14, F14, B14, hc14, hf⟩ := gbind hf
      refine va_callv (va_runV (As := [.long (lI (F13 14 0 38)), .long (lI (F13 14 0 39)), .long (lI (F13 14 0 0)), .long (lI (F13 14 0 1))]) (rest := []) ⟨hx, hb, hml, hown, hts⟩ (c_M_plus (l := l) hc14) (cwV 4 hts (gdV k_12_147 k_12_149 ks_135 k_1_9 k_12_150) rfl rfl rfl (by decide +kernel) ⟨Nat.le_of_ble_eq_true rfl, Nat.le_of_ble_eq_true rfl⟩) (zPV X hZ13 hS13 (ci := 14) (by decide) (by decide) (r := (RX14, TX14, 107)) rfl [.long (lI (F13 14 0 38)), .long (lI (F13 14 0 39)), .long (lI (F13 14 0 0)), .long (lI (F13 14 0 1))]) rfl rfl hl.1 rfl (lv_room (Nat.le_of_ble_eq_true rfl)) (D_182 W_prog_15_method_68_code_96 16 rfl rfl rfl) ⟨Nat.le_of_ble_eq_true rfl, Nat.le_of_ble_eq_true rfl⟩) hS13 (fun q _ h => zAin X hS13 q h) (zAin X hS13) (fun u14 t14 H14 locs14 ht14 hv14 hw14 hB14 hz14 hk14 hS14 => ?_)
      have hZ14 := zBack X ht14 hB14
      refine lv_aload_n hx hb (D_42 W_prog_15_method_68_code_96 19 rfl rfl) rfl (lv_at hl 5 rfl) ?_
      refine zget (ci := 14) (C := RX14) (T := TX14) (v := .int (iI (F14 14 0 36))) (k := 36) hx hb hts inW_14 hown hK hZ14 (by decide) (by decide) rfl (by decide) k_11_34 rfl (D_180 W_prog_15_method_68_code_96 20 rfl rfl rfl) ?_
      refine lv_sipush (v := iI 200) hx hb (D_17 W_prog_15_method_68_code_96 23 rfl rfl rfl) (by decide) ?_
      obtain ⟨g15, hf⟩ := gif hf
      refine zeq (tgt := 159) hx hb g15 (by decide) (D_159 W_prog_15_method_68_code_96 26 rfl rfl rfl) (by decide) (fun h16 => ?_) (fun h16 => ?_)
      · replace hf := gpos hf h16
        exact b_M_event_0_159 X hf hZ14 hS14 (lv_sub hl [5, 6] rfl)
      · replace hf := gneg hf h16
        refine lv_aload_n hx hb (D_42 W_prog_15_method_68_code_96 29 rfl rfl) rfl (lv_at hl 5 rfl) ?_
        refine zget (ci := 14) (C := RX14) (T := TX14) (v := .long (lI (F14 14 0 0))) (k := 0) hx hb hts inW_14 hown hK hZ14 (by decide) (by decide) rfl (by decide) k_10_238 rfl (D_180 W_prog_15_method_68_code_96 30 rfl rfl rfl) ?_
        refine lv_aload_n hx hb (D_42 W_prog_15_method_68_code_128 1 rfl rfl) rfl (lv_at hl 5 rfl) ?_
        refine zget (ci := 14) (C := RX14) (T := TX14) (v := .long (lI (F14 14 0 1))) (k := 1) hx hb hts inW_14 hown hK hZ14 (by decide) (by decide) rfl (by decide) k_10_239 rfl (D_180 W_prog_15_method_68_code_128 2 rfl rfl rfl) ?_
        refine lv_ldc2 hx hb hown (hts _ k_13_103) (D_20 W_prog_15_method_68_code_128 5 rfl rfl rfl) ?_
        refine W.eq (g2 := F0 m 136 ls [.long (lI 100), .long (lI (F14 14 0 1)), .long (lI (F14 14 0 0))]) rfl ?_
        refine lv_aload_n hx hb (D_42 W_prog_15_method_68_code_128 8 rfl rfl) rfl (lv_at hl 5 rfl) ?_
        refine zget (ci := 14) (C := RX14) (T := TX14) (v := va_rf (zrf ad 13 (F14 14 0 6))) (k := 6) hx hb hts inW_14 hown hK hZ14 (by decide) (by decide) rfl (by decide) k_11_4 rfl (D_180 W_prog_15_method_68_code_128 9 rfl rfl rfl) ?_
        obtain ⟨g17, hf⟩ := gif hf
        refine zunrf g17.1 ?_
        refine zget (ci := 13) (C := RX13) (T := TX13) (v := .int (iI (F14 13 (F14 14 0 6) 4))) (k := 4) hx hb hts inW_13 hown hK hZ14 g17.1 g17.2 rfl (by decide) k_9_129 rfl (D_180 W_prog_15_method_68_code_128 12 rfl rfl rfl) ?_
        obtain ⟨g18, hf⟩ := gif hf
        refine zi2l hx hb g18 (D_133 W_prog_15_method_68_code_128 15 rfl rfl) ?_
        refine zlmul hx hb (D_105 W_prog_15_method_68_code_128 16 rfl rfl) ?_
        refine lv_aload_n hx hb (D_42 W_prog_15_method_68_code_128 17 rfl rfl) rfl (lv_at hl 5 rfl) ?_
        refine zget (ci := 14) (C := RX14) (T := TX14) (v := va_rf (zrf ad 13 (F14 14 0 6))) (k := 6) hx hb hts inW_14 hown hK hZ14 (by decide) (by decide) rfl (by decide) k_11_4 rfl (D_180 W_prog_15_method_68_code_128 18 rfl rfl rfl) ?_
        refine zunrf g17.1 ?_
        refine zget (ci := 13) (C := RX13) (T := TX13) (v := .int (iI (F14 13 (F14 14 0 6) 5))) (k := 5) hx hb hts inW_13 hown hK hZ14 g17.1 g17.2 rfl (by decide) k_9_130 rfl (D_180 W_prog_15_method_68_code_128 21 rfl rfl rfl) ?_
        obtain ⟨g19, hf⟩ := gif hf
        refine zi2l hx hb g19 (D_133 W_prog_15_method_68_code_128 24 rfl rfl) ?_
        obtain ⟨r20, F20, B20, hc20, hf⟩ := gbind hf
        refine va_calli (va_runS (As := [.long (lI (F14 14 0 0)), .long (lI (F14 14 0 1)), .long (lI (100 * (F14 13 (F14 14 0 6) 4))), .long (lI (F14 13 (F14 14 0 6) 5))]) (rest := []) ⟨hx, hb, hml, hown, hts⟩ (c_M_compare (l := l) hc20) (va_cwS 4 hts (gdS k_13_104 k_13_105 k_1_9 k_13_106) rfl rfl rfl (by decide +kernel) ⟨Nat.le_of_ble_eq_true rfl, Nat.le_of_ble_eq_true rfl⟩) (zPS X hZ14 hS14 [.long (lI (F14 14 0 0)), .long (lI (F14 14 0 1)), .long (lI (100 * (F14 13 (F14 14 0 6) 4))), .long (lI (F14 13 (F14 14 0 6) 5))]) rfl rfl hl.1 rfl (lv_room (Nat.le_of_ble_eq_true rfl)) (D_184 W_prog_15_method_68_code_128 25 rfl rfl rfl) ⟨Nat.le_of_ble_eq_true rfl, Nat.le_of_ble_eq_true rfl⟩) hS14 (fun q _ h => zAin X hS14 q h) (zAin X hS14) (fun p20 u20 t20 H20 locs20 ht20 hv20 hw20 hB20 hz20 hk20 hS20 => ?_)
        have hZ20 := zBack X ht20 hB20
        subst hw20
        obtain ⟨g21, hf⟩ := gif hf
        refine z0le (tgt := 167) hx hb g21 (D_158 W_prog_15_method_68_code_128 28 rfl rfl rfl) (by decide) (fun h22 => ?_) (fun h22 => ?_)
        · replace hf := gpos hf h22
          refine lv_sipush (v := iI 1000) hx hb (D_17 W_prog_15_method_68_code_160 7 rfl rfl rfl) (by decide) ?_
          refine lv_aload_n hx hb (D_42 W_prog_15_method_68_code_160 10 rfl rfl) rfl (lv_at hl 5 rfl) ?_
          refine zget (ci := 14) (C := RX14) (T := TX14) (v := .int (iI (F20 14 0 35))) (k := 35) hx hb hts inW_14 hown hK hZ20 (by decide) (by decide) rfl (by decide) k_11_33 rfl (D_180 W_prog_15_method_68_code_160 11 rfl rfl rfl) ?_
          refine zmul hx hb (D_104 W_prog_15_method_68_code_160 14 rfl rfl) ?_
          refine lv_aload_n hx hb (D_42 W_prog_15_method_68_code_160 15 rfl rfl) rfl (lv_at hl 5 rfl) ?_
          refine zget (ci := 14) (C := RX14) (T := TX14) (v := .int (iI (F20 14 0 36))) (k := 36) hx hb hts inW_14 hown hK hZ20 (by decide) (by decide) rfl (by decide) k_11_34 rfl (D_180 W_prog_15_method_68_code_160 16 rfl rfl rfl) ?_
          refine zadd hx hb (D_96 W_prog_15_method_68_code_160 19 rfl rfl) ?_
          refine lv_istore (lv' := [(9, .int (iI ((1000 * (F20 14 0 35)) + (F20 14 0 36)))), (7, .long (lI (F13 14 0 1))), (5, .long (lI (F13 14 0 0))), (4, .int (iI l4)), (3, .int (iI l3)), (2, .int (iI l2)), (0, .ref (ad 14 0 0)), (1, .int (iI l1))]) hx hb (D_54 W_prog_15_method_68_code_160 20 rfl rfl) hl (by decide) rfl (fun ls hl => ?_)
          refine lv_aload_n hx hb (D_42 W_prog_15_method_68_code_160 22 rfl rfl) rfl (lv_at hl 6 rfl) ?_
          refine zget (ci := 14) (C := RX14) (T := TX14) (v := va_rf (zrf ad 13 (F20 14 0 6))) (k := 6) hx hb hts inW_14 hown hK hZ20 (by decide) (by decide) rfl (by decide) k_11_4 rfl (D_180 W_prog_15_method_68_code_160 23 rfl rfl rfl) ?_
          obtain ⟨g23, hf⟩ := gif hf
          refine zunrf g23.1 ?_
          refine zget (ci := 13) (C := RX13) (T := TX13) (v := .ref (ad 13 (F20 14 0 6) (21 + 1))) (k := 21) hx hb hts inW_13 hown hK hZ20 g23.1 g23.2 rfl (by decide) k_9_160 rfl (D_180 W_prog_15_method_68_code_160 26 rfl rfl rfl) ?_
          refine lv_iload hx hb (D_21 W_prog_15_method_68_code_160 29 rfl rfl) (lv_at hl 0 rfl) ?_
          refine lv_iconst (v := iI 0) hx hb (D_3 W_prog_15_method_68_code_160 31 rfl rfl) rfl ?_
          obtain ⟨g24, hf⟩ := gif hf
          refine zast (ci := 13) (k := 21) hx hb hK rfl hZ20 hS20 g23.1 g23.2 rfl (Nat.le_of_ble_eq_true rfl) g24.1 g24.2 (D_79 W_prog_15_method_68_code_192 0 rfl rfl) (fun H25 locs25 hZ25 hS25 => ?_)
          refine lv_aload_n hx hb (D_42 W_prog_15_method_68_code_192 1 rfl rfl) rfl (lv_at hl 6 rfl) ?_
          refine zget (ci := 14) (C := RX14) (T := TX14) (v := .ref (ad 14 0 (7 + 1))) (k := 7) hx hb hts inW_14 hown hK hZ25 (by decide) (by decide) rfl (by decide) k_11_5 rfl (D_180 W_prog_15_method_68_code_192 2 rfl rfl rfl) ?_
          refine lv_iload_n hx hb (D_27 W_prog_15_method_68_code_192 5 rfl rfl) rfl (lv_at hl 7 rfl) ?_
          obtain ⟨g26, hf⟩ := gif hf
          refine zald (ci := 14) (k := 7) hx hb hK rfl hZ25 (by decide) (by decide) rfl (Nat.le_of_ble_eq_true rfl) g26.1 g26.2 (D_46 W_prog_15_method_68_code_192 6 rfl rfl) ?_
          refine lv_iconst (v := iI 2) hx hb (D_5 W_prog_15_method_68_code_192 7 rfl rfl) rfl ?_
          obtain ⟨g27, hf⟩ := gif hf
          refine zne (tgt := 209) hx hb g27 (by decide) (D_160 W_prog_15_method_68_code_192 8 rfl rfl rfl) (by decide) (fun h28 => ?_) (fun h28 => ?_)
          · replace hf := gneg hf h28
            refine lv_aload_n hx hb (D_42 W_prog_15_method_68_code_192 17 rfl rfl) rfl (lv_at hl 6 rfl) ?_
            refine zget (ci := 14) (C := RX14) (T := TX14) (v := .ref (ad 14 0 (7 + 1))) (k := 7) hx hb hts inW_14 hown hK hZ25 (by decide) (by decide) rfl (by decide) k_11_5 rfl (D_180 W_prog_15_method_68_code_192 18 rfl rfl rfl) ?_
            refine lv_iload_n hx hb (D_27 W_prog_15_method_68_code_192 21 rfl rfl) rfl (lv_at hl 7 rfl) ?_
            refine zald (ci := 14) (k := 7) hx hb hK rfl hZ25 (by decide) (by decide) rfl (Nat.le_of_ble_eq_true rfl) g26.1 g26.2 (D_46 W_prog_15_method_68_code_192 22 rfl rfl) ?_
            refine lv_iconst (v := iI 5) hx hb (D_8 W_prog_15_method_68_code_192 23 rfl rfl) rfl ?_
            refine zne (tgt := 227) hx hb g27 (by decide) (D_160 W_prog_15_method_68_code_192 24 rfl rfl rfl) (by decide) (fun h29 => ?_) (fun h29 => ?_)
            · replace hf := gneg hf h29
              refine lv_iload_n hx hb (D_27 W_prog_15_method_68_code_224 3 rfl rfl) rfl (lv_at hl 7 rfl) ?_
              exact b_M_event_0_228 X hf hZ25 hS25 (lv_sub hl [0, 1, 2, 3, 4, 6, 7] rfl)
            · replace hf := gpos hf h29
              refine lv_aload_n hx hb (D_42 W_prog_15_method_68_code_192 27 rfl rfl) rfl (lv_at hl 6 rfl) ?_
              refine lv_iload_n hx hb (D_27 W_prog_15_method_68_code_192 28 rfl rfl) rfl (lv_at hl 7 rfl) ?_
              obtain ⟨r30, F30, B30, hc30, hf⟩ := gbind hf
              refine va_calli (va_runV (As := [.int (iI l1)]) (rest := []) ⟨hx, hb, hml, hown, hts⟩ (c_M_behindPitches (l := l) hc30) (cwV 1 hts (gdV k_14_228 k_14_230 ks_228 k_1_9 k_14_231) rfl rfl rfl (by decide +kernel) ⟨Nat.le_of_ble_eq_true rfl, Nat.le_of_ble_eq_true rfl⟩) (zPV X hZ25 hS25 (ci := 14) (by decide) (by decide) (r := (RX14, TX14, 107)) rfl [.int (iI l1)]) rfl rfl hl.1 rfl (lv_room (Nat.le_of_ble_eq_true rfl)) (D_182 W_prog_15_method_68_code_192 29 rfl rfl rfl) ⟨Nat.le_of_ble_eq_true rfl, Nat.le_of_ble_eq_true rfl⟩) hS25 (fun q _ h => zAin X hS25 q h) (zAin X hS25) (fun p30 u30 t30 H30 locs30 ht30 hv30 hw30 hB30 hz30 hk30 hS30 => ?_)
              have hZ30 := zBack X ht30 hB30
              subst hw30
              refine lv_goto (tgt := 228) hx hb (D_167 W_prog_15_method_68_code_224 0 rfl rfl rfl) (by decide) ?_
              exact b_M_event_0_228 X hf hZ30 hS30 (lv_sub hl [0, 1, 2, 3, 4, 6, 7] rfl)
          · replace hf := gpos hf h28
            refine lv_iload_n hx hb (D_27 W_prog_15_method_68_code_192 11 rfl rfl) rfl (lv_at hl 7 rfl) ?_
            refine lv_iconst (v := iI 1) hx hb (D_4 W_prog_15_method_68_code_192 12 rfl rfl) rfl ?_
            refine zadd hx hb (D_96 W_prog_15_method_68_code_192 13 rfl rfl) ?_
            refine lv_goto (tgt := 228) hx hb (D_167 W_prog_15_method_68_code_192 14 rfl rfl rfl) (by decide) ?_
            exact b_M_event_0_228 X hf hZ25 hS25 (lv_sub hl [0, 1, 2, 3, 4, 6, 7] rfl)
        · replace hf := gneg hf h22
          exact b_M_event_0_159 X hf hZ20 hS20 (lv_sub hl [5, 6] rfl)
    · replace hf := gneg hf h9
      refine lv_iload_n hx hb (D_29 W_prog_15_method_68_code_32 11 rfl rfl) rfl (lv_at hl 2 rfl) ?_
      refine lv_aload_n hx hb (D_42 W_prog_15_method_68_code_32 12 rfl rfl) rfl (lv_at hl 4 rfl) ?_
      refine zget (ci := 14) (C := RX14) (T := TX14) (v := .ref (ad 14 0 (47 + 1))) (k := 47) hx hb hts inW_14 hown hK hZ (by decide) (by decide) rfl (by decide) k_11_45 rfl (D_180 W_prog_15_method_68_code_32 13 rfl rfl rfl) ?_
      refine lv_iload hx hb (D_21 W_prog_15_method_68_code_32 16 rfl rfl) (lv_at hl 0 rfl) ?_
      obtain ⟨g31, hf⟩ := gif hf
      refine zald (ci := 14) (k := 47) hx hb hK rfl hZ (by decide) (by decide) rfl (Nat.le_of_ble_eq_true rfl) g31.1 g31.2 (D_46 W_prog_15_method_68_code_32 18 rfl rfl) ?_
      refine zmul hx hb (D_104 W_prog_15_method_68_code_32 19 rfl rfl) ?_
      refine lv_istore_n (lv' := [(3, .int (iI (l3 * (B 14 0 47 l5)))), (5, .int (iI l5)), (4, .int (iI l4)), (2, .int (iI l2)), (0, .ref (ad 14 0 0)), (1, .int (iI l1))]) hx hb (D_62 W_prog_15_method_68_code_32 20 rfl rfl) rfl hl (by decide) rfl (fun ls hl => ?_)
      refine lv_iload hx hb (D_21 W_prog_15_method_68_code_32 21 rfl rfl) (lv_at hl 2 rfl) ?_
      refine lv_aload_n hx hb (D_42 W_prog_15_method_68_code_32 23 rfl rfl) rfl (lv_at hl 4 rfl) ?_
      refine zget (ci := 14) (C := RX14) (T := TX14) (v := .ref (ad 14 0 (46 + 1))) (k := 46) hx hb hts inW_14 hown hK hZ (by decide) (by decide) rfl (by decide) k_11_44 rfl (D_180 W_prog_15_method_68_code_32 24 rfl rfl rfl) ?_
      refine lv_iload hx hb (D_21 W_prog_15_method_68_code_32 27 rfl rfl) (lv_at hl 1 rfl) ?_
      refine zald (ci := 14) (k := 46) hx hb hK rfl hZ (by decide) (by decide) rfl (Nat.le_of_ble_eq_true rfl) g31.1 g31.2 (D_46 W_prog_15_method_68_code_32 29 rfl rfl) ?_
      refine zmul hx hb (D_104 W_prog_15_method_68_code_32 30 rfl rfl) ?_
      refine lv_istore (lv' := [(4, .int (iI (l4 * (B 14 0 46 l5)))), (3, .int (iI (l3 * (B 14 0 47 l5)))), (5, .int (iI l5)), (2, .int (iI l2)), (0, .ref (ad 14 0 0)), (1, .int (iI l1))]) hx hb (D_54 W_prog_15_method_68_code_32 31 rfl rfl) hl (by decide) rfl (fun ls hl => ?_)
      refine lv_iinc (v := iI (l5 + 1)) (lv' := [(5, .int (iI (l5 + 1))), (4, .int (iI (l4 * (B 14 0 46 l5)))), (3, .int (iI (l3 * (B 14 0 47 l5)))), (2, .int (iI l2)), (0, .ref (ad 14 0 0)), (1, .int (iI l1))]) hx hb d_15_68_65 hl (k := 2) rfl (iI_add _ 1) (by decide) rfl (fun ls hl => ?_)
      refine lv_goto (tgt := 34) hx hb (D_167 W_prog_15_method_68_code_64 4 rfl rfl rfl) (by decide) ?_
      exact ih hf hZ hS (lv_sub hl [0, 1, 2, 3, 4, 5] rfl)

def f_M_event_0_18 (K : Nat) (l1 : Int) (F : zF) (B : zB) : zO := zbind (f_M_failAt K 12 l1 F B) (fun r6 F6 B6 => some (0, F6, B6))
set_option maxHeartbeats 4000000 in
set_option maxRecDepth 100000 in
theorem b_M_event_0_18 {D : va_G} {ca : Nat → ClassId} {ad : Nat → Int → Nat → Nat} {L : List Nat} {aS vS : Nat → Nat} {A : Nat → Prop} {p : Program} {l : Launch} {e : Env} {s : State} {m : MethodId} {args : Array Value} {below : List Frame} {meth : Method} {c : Code} {K : Nat} {r : Int} {F9 : zF} {B9 : zB} (X : zX D ca L aS vS A p s m args meth c prog_15_method_68_code 12 (Option.none : Option Jvm.ClassFile.FieldType) "StaveHouseModel") {l1 : Int} {F : zF} {B : zB} {H : Heap} {locs : List Loc} {ls : Array Slot} (hf : f_M_event_0_18 K l1 F B = some (r, F9, B9)) (hZ : zH D ca ad lnM nM L F B A H) (hS : va_S A s.heap H locs) (hl : lv_has ls 12 [(0, .ref (ad 14 0 0)), (1, .int (iI l1))]) : W p l e ({ frames := 3, cells := 0, slots := 0, locals := 85 } : Room) s m args below meth c H locs 0 0 (MQ below (Q_M_event_0 D ca ad L r F9 B9 A) args s 0 0 A) (F0 m 18 ls []) := by
  obtain ⟨hx, hb, hr, hml, hown, hts, hlk, hK, hA, hL, hX⟩ := id X
  replace hf : (zbind (f_M_failAt K 12 l1 F B) (fun r6 F6 B6 => some (0, F6, B6))) = some (r, F9, B9) := hf
  refine lv_aload_n hx hb (D_42 W_prog_15_method_68_code_0 18 rfl rfl) rfl (lv_at hl 0 rfl) ?_
  refine lv_bipush (v := iI 12) hx hb (D_16 W_prog_15_method_68_code_0 19 rfl rfl rfl) (by decide) ?_
  refine lv_iload_n hx hb (D_27 W_prog_15_method_68_code_0 21 rfl rfl) rfl (lv_at hl 1 rfl) ?_
  obtain ⟨r6, F6, B6, hc6, hf⟩ := gbind hf
  refine va_callv (va_runV (As := [.int (iI 12), .int (iI l1)]) (rest := []) ⟨hx, hb, hml, hown, hts⟩ (c_M_failAt (l := l) hc6) (cwV 2 hts (gdV k_14_132 k_14_134 ks_205 k_1_9 k_14_135) rfl rfl rfl (by decide +kernel) ⟨Nat.le_of_ble_eq_true rfl, Nat.le_of_ble_eq_true rfl⟩) (zPV X hZ hS (ci := 14) (by decide) (by decide) (r := (RX14, TX14, 107)) rfl [.int (iI 12), .int (iI l1)]) rfl rfl hl.1 rfl (lv_room (Nat.le_of_ble_eq_true rfl)) (D_182 W_prog_15_method_68_code_0 22 rfl rfl rfl) ⟨Nat.le_of_ble_eq_true rfl, Nat.le_of_ble_eq_true rfl⟩) hS (fun q _ h => zAin X hS q h) (zAin X hS) (fun u6 t6 H6 locs6 ht6 hv6 hw6 hB6 hz6 hk6 hS6 => ?_)
  have hZ6 := zBack X ht6 hB6
  cases hf
  exact W.vret hx hb hr (fun t ht hW => ⟨⟨(), rfl, trivial, by rw [ht]; exact hZ6, va_K.moved hW.alike hK⟩, hS6.F ht⟩) hS6.2.2 (D_177 W_prog_15_method_68_code_0 25 rfl rfl) hlk

def f_M_event_0 (K : Nat) (l1 : Int) (F : zF) (B : zB) : zO := zbind (f_M_valueOf K l1 F B) (fun r1 F1 B1 => if r32 r1 then (if r1 < 0 then f_M_event_0_18 K l1 F1 B1 else if r32 (F1 14 0 48) then (if (F1 14 0 48) ≤ 2 then f_M_event_0_34 K K 0 1 1 r1 l1 F1 B1 else f_M_event_0_18 K l1 F1 B1) else none) else none)
set_option maxHeartbeats 4000000 in
set_option maxRecDepth 100000 in
theorem c_M_event_0 {l : Launch} {D : va_G} {ca : Nat → ClassId} {ad : Nat → Int → Nat → Nat} {L : List Nat} {aS vS : Nat → Nat} {sz K : Nat}  {l1 : Int} {F F9 : zF} {B B9 : zB} {r : Int} (hf : f_M_event_0 K l1 F B = some (r, F9, B9)) : Met l ({ cls := "StaveHouseModel", name := "event", desc := "(I)V" } : Jvm.MethodName) (Cond.code ({ cls := "StaveHouseModel", name := "event", desc := "(I)V" } : Jvm.MethodName) prog_15_method_68_code 12 (Option.none : Option Jvm.ClassFile.FieldType) :: wAll) ({ frames := 3, cells := 0, slots := 0, locals := 85 } : Room) (va_Pc [.ref (ad 14 0 0), .int (iI l1)] (zPre D ca ad lnM nM L aS vS F B sz)) (Q_M_event_0 D ca ad L r F9 B9 (zA L sz)) 0 0 (zA L sz) := by
  refine zMet (Qc := Q_M_event_0 D ca ad L r F9 B9) (lv := [(0, .ref (ad 14 0 0)), (1, .int (iI l1))]) (by decide) (Nat.le_of_ble_eq_true rfl) rfl (fun A p e s m below meth c ls X hZ hS hl => ?_)
  obtain ⟨hx, hb, hr, hml, hown, hts, hlk, hK, hA, hL, hX⟩ := id X
  replace hf : (zbind (f_M_valueOf K l1 F B) (fun r1 F1 B1 => if r32 r1 then (if r1 < 0 then f_M_event_0_18 K l1 F1 B1 else if r32 (F1 14 0 48) then (if (F1 14 0 48) ≤ 2 then f_M_event_0_34 K K 0 1 1 r1 l1 F1 B1 else f_M_event_0_18 K l1 F1 B1) else none) else none)) = some (r, F9, B9) := hf
  refine lv_aload_n hx hb (D_42 W_prog_15_method_68_code_0 0 rfl rfl) rfl (lv_at hl 0 rfl) ?_
  refine lv_iload_n hx hb (D_27 W_prog_15_method_68_code_0 1 rfl rfl) rfl (lv_at hl 1 rfl) ?_
  obtain ⟨r1, F1, B1, hc1, hf⟩ := gbind hf
  refine va_calli (va_runV (As := [.int (iI l1)]) (rest := []) ⟨hx, hb, hml, hown, hts⟩ (c_M_valueOf (l := l) hc1) (cwV 1 hts (gdV k_14_223 k_14_225 ks_227 k_1_9 k_14_226) rfl rfl rfl (by decide +kernel) ⟨Nat.le_of_ble_eq_true rfl, Nat.le_of_ble_eq_true rfl⟩) (zPV X hZ hS (ci := 14) (by decide) (by decide) (r := (RX14, TX14, 107)) rfl [.int (iI l1)]) rfl rfl hl.1 rfl (lv_room (Nat.le_of_ble_eq_true rfl)) (D_182 W_prog_15_method_68_code_0 2 rfl rfl rfl) ⟨Nat.le_of_ble_eq_true rfl, Nat.le_of_ble_eq_true rfl⟩) hS (fun q _ h => zAin X hS q h) (zAin X hS) (fun p1 u1 t1 H1 locs1 ht1 hv1 hw1 hB1 hz1 hk1 hS1 => ?_)
  have hZ1 := zBack X ht1 hB1
  subst hw1
  refine lv_istore_n (lv' := [(2, .int (iI r1)), (0, .ref (ad 14 0 0)), (1, .int (iI l1))]) hx hb (D_61 W_prog_15_method_68_code_0 5 rfl rfl) rfl hl (by decide) rfl (fun ls hl => ?_)
  refine lv_iload_n hx hb (D_28 W_prog_15_method_68_code_0 6 rfl rfl) rfl (lv_at hl 0 rfl) ?_
  obtain ⟨g2, hf⟩ := gif hf
  refine z0lt (tgt := 18) hx hb g2 (D_155 W_prog_15_method_68_code_0 7 rfl rfl rfl) (by decide) (fun h3 => ?_) (fun h3 => ?_)
  · replace hf := gpos hf h3
    exact b_M_event_0_18 X hf hZ1 hS1 (lv_sub hl [1, 2] rfl)
  · replace hf := gneg hf h3
    refine lv_aload_n hx hb (D_42 W_prog_15_method_68_code_0 10 rfl rfl) rfl (lv_at hl 1 rfl) ?_
    refine zget (ci := 14) (C := RX14) (T := TX14) (v := .int (iI (F1 14 0 48))) (k := 48) hx hb hts inW_14 hown hK hZ1 (by decide) (by decide) rfl (by decide) k_11_46 rfl (D_180 W_prog_15_method_68_code_0 11 rfl rfl rfl) ?_
    refine lv_iconst (v := iI 2) hx hb (D_5 W_prog_15_method_68_code_0 14 rfl rfl) rfl ?_
    obtain ⟨g4, hf⟩ := gif hf
    refine zle (tgt := 26) hx hb g4 (by decide) (D_164 W_prog_15_method_68_code_0 15 rfl rfl rfl) (by decide) (fun h5 => ?_) (fun h5 => ?_)
    · replace hf := gpos hf h5
      refine lv_iconst (v := iI 1) hx hb (D_4 W_prog_15_method_68_code_0 26 rfl rfl) rfl ?_
      refine lv_istore_n (lv' := [(3, .int (iI 1)), (2, .int (iI r1)), (0, .ref (ad 14 0 0)), (1, .int (iI l1))]) hx hb (D_62 W_prog_15_method_68_code_0 27 rfl rfl) rfl hl (by decide) rfl (fun ls hl => ?_)
      refine lv_iconst (v := iI 1) hx hb (D_4 W_prog_15_method_68_code_0 28 rfl rfl) rfl ?_
      refine lv_istore (lv' := [(4, .int (iI 1)), (3, .int (iI 1)), (2, .int (iI r1)), (0, .ref (ad 14 0 0)), (1, .int (iI l1))]) hx hb (D_54 W_prog_15_method_68_code_0 29 rfl rfl) hl (by decide) rfl (fun ls hl => ?_)
      refine lv_iconst (v := iI 0) hx hb (D_3 W_prog_15_method_68_code_0 31 rfl rfl) rfl ?_
      refine lv_istore (lv' := [(5, .int (iI 0)), (4, .int (iI 1)), (3, .int (iI 1)), (2, .int (iI r1)), (0, .ref (ad 14 0 0)), (1, .int (iI l1))]) hx hb (D_54 W_prog_15_method_68_code_32 0 rfl rfl) hl (by decide) rfl (fun ls hl => ?_)
      exact b_M_event_0_34 X hf hZ1 hS1 (lv_sub hl [0, 1, 2, 3, 4, 5] rfl)
    · replace hf := gneg hf h5
      exact b_M_event_0_18 X hf hZ1 hS1 (lv_sub hl [1, 2] rfl)

abbrev Q_M_exchange (D : va_G) (ca : Nat → ClassId) (ad : Nat → Int → Nat → Nat) (L : List Nat) (r : Int) (F : zF) (B : zB) (A : Nat → Prop) : Array Value → State → Outcome → State → Prop := va_Qv (S := Unit) (fun _ => True) (fun _ => zPo D ca ad lnM nM L F B A) A
def f_M_exchange_134 (K : Nat) : Nat → Int → Int → Int → zF → zB → zO
  | 0, _, _, _, _, _ => none
  | n + 1, l3, l1, l2, F, B => if r32 l3 then (if 6 ≤ l3 then some (0, F, B) else if 0 ≤ (F 14 0 6) ∧ (F 14 0 6) < 3 then zbind (f_M_swap_0 K 13 (F 14 0 6) 28 ((6 * l1) + l3) ((6 * l2) + l3) F B) (fun r26 F26 B26 => if 0 ≤ (F26 14 0 6) ∧ (F26 14 0 6) < 3 then zbind (f_M_swap_0 K 13 (F26 14 0 6) 29 ((6 * l1) + l3) ((6 * l2) + l3) F26 B26) (fun r28 F28 B28 => f_M_exchange_134 K n (l3 + 1) l1 l2 F28 B28) else none) else none) else none
set_option maxHeartbeats 4000000 in
set_option maxRecDepth 100000 in
theorem b_M_exchange_134 {D : va_G} {ca : Nat → ClassId} {ad : Nat → Int → Nat → Nat} {L : List Nat} {aS vS : Nat → Nat} {A : Nat → Prop} {p : Program} {l : Launch} {e : Env} {s : State} {m : MethodId} {args : Array Value} {below : List Frame} {meth : Method} {c : Code} {K : Nat} {r : Int} {F9 : zF} {B9 : zB} (X : zX D ca L aS vS A p s m args meth c prog_15_method_66_code 4 (Option.none : Option Jvm.ClassFile.FieldType) "StaveHouseModel") : ∀ {n : Nat} {l3 : Int} {l1 : Int} {l2 : Int} {F : zF} {B : zB} {H : Heap} {locs : List Loc} {ls : Array Slot}, f_M_exchange_134 K n l3 l1 l2 F B = some (r, F9, B9) → zH D ca ad lnM nM L F B A H → va_S A s.heap H locs → lv_has ls 4 [(3, .int (iI l3)), (0, .ref (ad 14 0 0)), (1, .int (iI l1)), (2, .int (iI l2))] → W p l e ({ frames := 1, cells := 0, slots := 0, locals := 24 } : Room) s m args below meth c H locs 0 0 (MQ below (Q_M_exchange D ca ad L r F9 B9 A) args s 0 0 A) (F0 m 134 ls []) := by
  obtain ⟨hx, hb, hr, hml, hown, hts, hlk, hK, hA, hL, hX⟩ := id X
  intro n
  induction n with
  | zero =>
    intros
    rename_i hf _ _ _
    cases hf
  | succ n ih =>
    intro l3 l1 l2 F B H locs ls hf hZ hS hl
    replace hf : (if r32 l3 then (if 6 ≤ l3 then some (0, F, B) else if 0 ≤ (F 14 0 6) ∧ (F 14 0 6) < 3 then zbind (f_M_swap_0 K 13 (F 14 0 6) 28 ((6 * l1) + l3) ((6 * l2) + l3) F B) (fun r26 F26 B26 => if 0 ≤ (F26 14 0 6) ∧ (F26 14 0 6) < 3 then zbind (f_M_swap_0 K 13 (F26 14 0 6) 29 ((6 * l1) + l3) ((6 * l2) + l3) F26 B26) (fun r28 F28 B28 => f_M_exchange_134 K n (l3 + 1) l1 l2 F28 B28) else none) else none) else none) = some (r, F9, B9) := hf
    refine lv_iload_n hx hb (D_29 W_prog_15_method_66_code_128 6 rfl rfl) rfl (lv_at hl 0 rfl) ?_
    refine lv_bipush (v := iI 6) hx hb (D_16 W_prog_15_method_66_code_128 7 rfl rfl rfl) (by decide) ?_
    obtain ⟨g23, hf⟩ := gif hf
    refine zge (tgt := 190) hx hb g23 (by decide) (D_162 W_prog_15_method_66_code_128 9 rfl rfl rfl) (by decide) (fun h24 => ?_) (fun h24 => ?_)
    · replace hf := gpos hf h24
      cases hf
      exact W.vret hx hb hr (fun t ht hW => ⟨⟨(), rfl, trivial, by rw [ht]; exact hZ, va_K.moved hW.alike hK⟩, hS.F ht⟩) hS.2.2 (D_177 W_prog_15_method_66_code_160 30 rfl rfl) hlk
    · replace hf := gneg hf h24
      refine lv_aload_n hx hb (D_42 W_prog_15_method_66_code_128 12 rfl rfl) rfl (lv_at hl 1 rfl) ?_
      refine zget (ci := 14) (C := RX14) (T := TX14) (v := va_rf (zrf ad 13 (F 14 0 6))) (k := 6) hx hb hts inW_14 hown hK hZ (by decide) (by decide) rfl (by decide) k_11_4 rfl (D_180 W_prog_15_method_66_code_128 13 rfl rfl rfl) ?_
      obtain ⟨g25, hf⟩ := gif hf
      refine zunrf g25.1 ?_
      refine zget (ci := 13) (C := RX13) (T := TX13) (v := .ref (ad 13 (F 14 0 6) (28 + 1))) (k := 28) hx hb hts inW_13 hown hK hZ g25.1 g25.2 rfl (by decide) k_9_174 rfl (D_180 W_prog_15_method_66_code_128 16 rfl rfl rfl) ?_
      refine lv_bipush (v := iI 6) hx hb (D_16 W_prog_15_method_66_code_128 19 rfl rfl rfl) (by decide) ?_
      refine lv_iload_n hx hb (D_27 W_prog_15_method_66_code_128 21 rfl rfl) rfl (lv_at hl 2 rfl) ?_
      refine zmul hx hb (D_104 W_prog_15_method_66_code_128 22 rfl rfl) ?_
      refine lv_iload_n hx hb (D_29 W_prog_15_method_66_code_128 23 rfl rfl) rfl (lv_at hl 0 rfl) ?_
      refine zadd hx hb (D_96 W_prog_15_method_66_code_128 24 rfl rfl) ?_
      refine lv_bipush (v := iI 6) hx hb (D_16 W_prog_15_method_66_code_128 25 rfl rfl rfl) (by decide) ?_
      refine lv_iload_n hx hb (D_28 W_prog_15_method_66_code_128 27 rfl rfl) rfl (lv_at hl 3 rfl) ?_
      refine zmul hx hb (D_104 W_prog_15_method_66_code_128 28 rfl rfl) ?_
      refine lv_iload_n hx hb (D_29 W_prog_15_method_66_code_128 29 rfl rfl) rfl (lv_at hl 0 rfl) ?_
      refine zadd hx hb (D_96 W_prog_15_method_66_code_128 30 rfl rfl) ?_
      obtain ⟨r26, F26, B26, hc26, hf⟩ := gbind hf
      refine va_callv (va_runS (As := [.ref (ad 13 (F 14 0 6) (28 + 1)), .int (iI ((6 * l1) + l3)), .int (iI ((6 * l2) + l3))]) (rest := []) ⟨hx, hb, hml, hown, hts⟩ (c_M_swap_0 (l := l) hc26) (va_cwS 3 hts (gdS k_15_23 k_15_24 k_1_9 k_15_25) rfl rfl rfl (by decide +kernel) ⟨Nat.le_of_ble_eq_true rfl, Nat.le_of_ble_eq_true rfl⟩) (zPS X hZ hS [.ref (ad 13 (F 14 0 6) (28 + 1)), .int (iI ((6 * l1) + l3)), .int (iI ((6 * l2) + l3))]) rfl rfl hl.1 rfl (lv_room (Nat.le_of_ble_eq_true rfl)) (D_184 W_prog_15_method_66_code_128 31 rfl rfl rfl) ⟨Nat.le_of_ble_eq_true rfl, Nat.le_of_ble_eq_true rfl⟩) hS (fun q _ h => zAin X hS q h) (zAin X hS) (fun u26 t26 H26 locs26 ht26 hv26 hw26 hB26 hz26 hk26 hS26 => ?_)
      have hZ26 := zBack X ht26 hB26
      refine lv_aload_n hx hb (D_42 W_prog_15_method_66_code_160 2 rfl rfl) rfl (lv_at hl 1 rfl) ?_
      refine zget (ci := 14) (C := RX14) (T := TX14) (v := va_rf (zrf ad 13 (F26 14 0 6))) (k := 6) hx hb hts inW_14 hown hK hZ26 (by decide) (by decide) rfl (by decide) k_11_4 rfl (D_180 W_prog_15_method_66_code_160 3 rfl rfl rfl) ?_
      obtain ⟨g27, hf⟩ := gif hf
      refine zunrf g27.1 ?_
      refine zget (ci := 13) (C := RX13) (T := TX13) (v := .ref (ad 13 (F26 14 0 6) (29 + 1))) (k := 29) hx hb hts inW_13 hown hK hZ26 g27.1 g27.2 rfl (by decide) k_9_176 rfl (D_180 W_prog_15_method_66_code_160 6 rfl rfl rfl) ?_
      refine lv_bipush (v := iI 6) hx hb (D_16 W_prog_15_method_66_code_160 9 rfl rfl rfl) (by decide) ?_
      refine lv_iload_n hx hb (D_27 W_prog_15_method_66_code_160 11 rfl rfl) rfl (lv_at hl 2 rfl) ?_
      refine zmul hx hb (D_104 W_prog_15_method_66_code_160 12 rfl rfl) ?_
      refine lv_iload_n hx hb (D_29 W_prog_15_method_66_code_160 13 rfl rfl) rfl (lv_at hl 0 rfl) ?_
      refine zadd hx hb (D_96 W_prog_15_method_66_code_160 14 rfl rfl) ?_
      refine lv_bipush (v := iI 6) hx hb (D_16 W_prog_15_method_66_code_160 15 rfl rfl rfl) (by decide) ?_
      refine lv_iload_n hx hb (D_28 W_prog_15_method_66_code_160 17 rfl rfl) rfl (lv_at hl 3 rfl) ?_
      refine zmul hx hb (D_104 W_prog_15_method_66_code_160 18 rfl rfl) ?_
      refine lv_iload_n hx hb (D_29 W_prog_15_method_66_code_160 19 rfl rfl) rfl (lv_at hl 0 rfl) ?_
      refine zadd hx hb (D_96 W_prog_15_method_66_code_160 20 rfl rfl) ?_
      obtain ⟨r28, F28, B28, hc28, hf⟩ := gbind hf
      refine va_callv (va_runS (As := [.ref (ad 13 (F26 14 0 6) (29 + 1)), .int (iI ((6 * l1) + l3)), .int (iI ((6 * l2) + l3))]) (rest := []) ⟨hx, hb, hml, hown, hts⟩ (c_M_swap_0 (l := l) hc28) (va_cwS 3 hts (gdS k_15_23 k_15_24 k_1_9 k_15_25) rfl rfl rfl (by decide +kernel) ⟨Nat.le_of_ble_eq_true rfl, Nat.le_of_ble_eq_true rfl⟩) (zPS X hZ26 hS26 [.ref (ad 13 (F26 14 0 6) (29 + 1)), .int (iI ((6 * l1) + l3)), .int (iI ((6 * l2) + l3))]) rfl rfl hl.1 rfl (lv_room (Nat.le_of_ble_eq_true rfl)) (D_184 W_prog_15_method_66_code_160 21 rfl rfl rfl) ⟨Nat.le_of_ble_eq_true rfl, Nat.le_of_ble_eq_true rfl⟩) hS26 (fun q _ h => zAin X hS26 q h) (zAin X hS26) (fun u28 t28 H28 locs28 ht28 hv28 hw28 hB28 hz28 hk28 hS28 => ?_)
      have hZ28 := zBack X ht28 hB28
      refine lv_iinc (v := iI (l3 + 1)) (lv' := [(3, .int (iI (l3 + 1))), (0, .ref (ad 14 0 0)), (1, .int (iI l1)), (2, .int (iI l2))]) hx hb d_15_66_184 hl (k := 0) rfl (iI_add _ 1) (by decide) rfl (fun ls hl => ?_)
      refine lv_goto (tgt := 134) hx hb (D_167 W_prog_15_method_66_code_160 27 rfl rfl rfl) (by decide) ?_
      exact ih hf hZ28 hS28 (lv_sub hl [0, 1, 2, 3] rfl)

def f_M_exchange (K : Nat) (l1 : Int) (l2 : Int) (F : zF) (B : zB) : zO := if 0 ≤ (F 14 0 6) ∧ (F 14 0 6) < 3 then zbind (f_M_swap_1 K 13 (F 14 0 6) 16 l1 l2 F B) (fun r2 F2 B2 => if 0 ≤ (F2 14 0 6) ∧ (F2 14 0 6) < 3 then zbind (f_M_swap_1 K 13 (F2 14 0 6) 17 l1 l2 F2 B2) (fun r4 F4 B4 => if 0 ≤ (F4 14 0 6) ∧ (F4 14 0 6) < 3 then zbind (f_M_swap_0 K 13 (F4 14 0 6) 18 l1 l2 F4 B4) (fun r6 F6 B6 => if 0 ≤ (F6 14 0 6) ∧ (F6 14 0 6) < 3 then zbind (f_M_swap_0 K 13 (F6 14 0 6) 19 l1 l2 F6 B6) (fun r8 F8 B8 => if 0 ≤ (F8 14 0 6) ∧ (F8 14 0 6) < 3 then zbind (f_M_swap_0 K 13 (F8 14 0 6) 20 l1 l2 F8 B8) (fun r10 F10 B10 => if 0 ≤ (F10 14 0 6) ∧ (F10 14 0 6) < 3 then zbind (f_M_swap_0 K 13 (F10 14 0 6) 21 l1 l2 F10 B10) (fun r12 F12 B12 => if 0 ≤ (F12 14 0 6) ∧ (F12 14 0 6) < 3 then zbind (f_M_swap_0 K 13 (F12 14 0 6) 22 l1 l2 F12 B12) (fun r14 F14 B14 => if 0 ≤ (F14 14 0 6) ∧ (F14 14 0 6) < 3 then zbind (f_M_swap_0 K 13 (F14 14 0 6) 23 l1 l2 F14 B14) (fun r16 F16 B16 => if 0 ≤ (F16 14 0 6) ∧ (F16 14 0 6) < 3 then zbind (f_M_swap_0 K 13 (F16 14 0 6) 24 l1 l2 F16 B16) (fun r18 F18 B18 => if 0 ≤ (F18 14 0 6) ∧ (F18 14 0 6) < 3 then zbind (f_M_swap_0 K 13 (F18 14 0 6) 25 l1 l2 F18 B18) (fun r20 F20 B20 => if 0 ≤ (F20 14 0 6) ∧ (F20 14 0 6) < 3 then zbind (f_M_swap_0 K 13 (F20 14 0 6) 26 l1 l2 F20 B20) (fun r22 F22 B22 => f_M_exchange_134 K K 0 l1 l2 F22 B22) else none) else none) else none) else none) else none) else none) else none) else none) else none) else none) else none
set_option maxHeartbeats 4000000 in
set_option maxRecDepth 100000 in
theorem c_M_exchange {l : Launch} {D : va_G} {ca : Nat → ClassId} {ad : Nat → Int → Nat → Nat} {L : List Nat} {aS vS : Nat → Nat} {sz K : Nat}  {l1 : Int} {l2 : Int} {F F9 : zF} {B B9 : zB} {r : Int} (hf : f_M_exchange K l1 l2 F B = some (r, F9, B9)) : Met l ({ cls := "StaveHouseModel", name := "exchange", desc := "(II)V" } : Jvm.MethodName) (Cond.code ({ cls := "StaveHouseModel", name := "exchange", desc := "(II)V" } : Jvm.MethodName) prog_15_method_66_code 4 (Option.none : Option Jvm.ClassFile.FieldType) :: wAll) ({ frames := 1, cells := 0, slots := 0, locals := 24 } : Room) (va_Pc [.ref (ad 14 0 0), .int (iI l1), .int (iI l2)] (zPre D ca ad lnM nM L aS vS F B sz)) (Q_M_exchange D ca ad L r F9 B9 (zA L sz)) 0 0 (zA L sz) := by
  refine zMet (Qc := Q_M_exchange D ca ad L r F9 B9) (lv := [(0, .ref (ad 14 0 0)), (1, .int (iI l1)), (2, .int (iI l2))]) (by decide) (Nat.le_of_ble_eq_true rfl) rfl (fun A p e s m below meth c ls X hZ hS hl => ?_)
  obtain ⟨hx, hb, hr, hml, hown, hts, hlk, hK, hA, hL, hX⟩ := id X
  replace hf : (if 0 ≤ (F 14 0 6) ∧ (F 14 0 6) < 3 then zbind (f_M_swap_1 K 13 (F 14 0 6) 16 l1 l2 F B) (fun r2 F2 B2 => if 0 ≤ (F2 14 0 6) ∧ (F2 14 0 6) < 3 then zbind (f_M_swap_1 K 13 (F2 14 0 6) 17 l1 l2 F2 B2) (fun r4 F4 B4 => if 0 ≤ (F4 14 0 6) ∧ (F4 14 0 6) < 3 then zbind (f_M_swap_0 K 13 (F4 14 0 6) 18 l1 l2 F4 B4) (fun r6 F6 B6 => if 0 ≤ (F6 14 0 6) ∧ (F6 14 0 6) < 3 then zbind (f_M_swap_0 K 13 (F6 14 0 6) 19 l1 l2 F6 B6) (fun r8 F8 B8 => if 0 ≤ (F8 14 0 6) ∧ (F8 14 0 6) < 3 then zbind (f_M_swap_0 K 13 (F8 14 0 6) 20 l1 l2 F8 B8) (fun r10 F10 B10 => if 0 ≤ (F10 14 0 6) ∧ (F10 14 0 6) < 3 then zbind (f_M_swap_0 K 13 (F10 14 0 6) 21 l1 l2 F10 B10) (fun r12 F12 B12 => if 0 ≤ (F12 14 0 6) ∧ (F12 14 0 6) < 3 then zbind (f_M_swap_0 K 13 (F12 14 0 6) 22 l1 l2 F12 B12) (fun r14 F14 B14 => if 0 ≤ (F14 14 0 6) ∧ (F14 14 0 6) < 3 then zbind (f_M_swap_0 K 13 (F14 14 0 6) 23 l1 l2 F14 B14) (fun r16 F16 B16 => if 0 ≤ (F16 14 0 6) ∧ (F16 14 0 6) < 3 then zbind (f_M_swap_0 K 13 (F16 14 0 6) 24 l1 l2 F16 B16) (fun r18 F18 B18 => if 0 ≤ (F18 14 0 6) ∧ (F18 14 0 6) < 3 then zbind (f_M_swap_0 K 13 (F18 14 0 6) 25 l1 l2 F18 B18) (fun r20 F20 B20 => if 0 ≤ (F20 14 0 6) ∧ (F20 14 0 6) < 3 then zbind (f_M_swap_0 K 13 (F20 14 0 6) 26 l1 l2 F20 B20) (fun r22 F22 B22 => f_M_exchange_134 K K 0 l1 l2 F22 B22) else none) else none) else none) else none) else none) else none) else none) else none) else none) else none) else none) = some (r, F9, B9) := hf
  refine lv_aload_n hx hb (D_42 W_prog_15_method_66_code_0 0 rfl rfl) rfl (lv_at hl 0 rfl) ?_
  refine zget (ci := 14) (C := RX14) (T := TX14) (v := va_rf (zrf ad 13 (F 14 0 6))) (k := 6) hx hb hts inW_14 hown hK hZ (by decide) (by decide) rfl (by decide) k_11_4 rfl (D_180 W_prog_15_method_66_code_0 1 rfl rfl rfl) ?_
  obtain ⟨g1, hf⟩ := gif hf
  refine zunrf g1.1 ?_
  refine zget (ci := 13) (C := RX13) (T := TX13) (v := .ref (ad 13 (F 14 0 6) (16 + 1))) (k := 16) hx hb hts inW_13 hown hK hZ g1.1 g1.2 rfl (by decide) k_9_150 rfl (D_180 W_prog_15_method_66_code_0 4 rfl rfl rfl) ?_
  refine lv_iload_n hx hb (D_27 W_prog_15_method_66_code_0 7 rfl rfl) rfl (lv_at hl 1 rfl) ?_
  refine lv_iload_n hx hb (D_28 W_prog_15_method_66_code_0 8 rfl rfl) rfl (lv_at hl 2 rfl) ?_
  obtain ⟨r2, F2, B2, hc2, hf⟩ := gbind hf
  refine va_callv (va_runS (As := [.ref (ad 13 (F 14 0 6) (16 + 1)), .int (iI l1), .int (iI l2)]) (rest := []) ⟨hx, hb, hml, hown, hts⟩ (c_M_swap_1 (l := l) hc2) (va_cwS 3 hts (gdS k_15_20 k_15_21 k_1_9 k_15_22) rfl rfl rfl (by decide +kernel) ⟨Nat.le_of_ble_eq_true rfl, Nat.le_of_ble_eq_true rfl⟩) (zPS X hZ hS [.ref (ad 13 (F 14 0 6) (16 + 1)), .int (iI l1), .int (iI l2)]) rfl rfl hl.1 rfl (lv_room (Nat.le_of_ble_eq_true rfl)) (D_184 W_prog_15_method_66_code_0 9 rfl rfl rfl) ⟨Nat.le_of_ble_eq_true rfl, Nat.le_of_ble_eq_true rfl⟩) hS (fun q _ h => zAin X hS q h) (zAin X hS) (fun u2 t2 H2 locs2 ht2 hv2 hw2 hB2 hz2 hk2 hS2 => ?_)
  have hZ2 := zBack X ht2 hB2
  refine lv_aload_n hx hb (D_42 W_prog_15_method_66_code_0 12 rfl rfl) rfl (lv_at hl 0 rfl) ?_
  refine zget (ci := 14) (C := RX14) (T := TX14) (v := va_rf (zrf ad 13 (F2 14 0 6))) (k := 6) hx hb hts inW_14 hown hK hZ2 (by decide) (by decide) rfl (by decide) k_11_4 rfl (D_180 W_prog_15_method_66_code_0 13 rfl rfl rfl) ?_
  obtain ⟨g3, hf⟩ := gif hf
  refine zunrf g3.1 ?_
  refine zget (ci := 13) (C := RX13) (T := TX13) (v := .ref (ad 13 (F2 14 0 6) (17 + 1))) (k := 17) hx hb hts inW_13 hown hK hZ2 g3.1 g3.2 rfl (by decide) k_9_152 rfl (D_180 W_prog_15_method_66_code_0 16 rfl rfl rfl) ?_
  refine lv_iload_n hx hb (D_27 W_prog_15_method_66_code_0 19 rfl rfl) rfl (lv_at hl 1 rfl) ?_
  refine lv_iload_n hx hb (D_28 W_prog_15_method_66_code_0 20 rfl rfl) rfl (lv_at hl 2 rfl) ?_
  obtain ⟨r4, F4, B4, hc4, hf⟩ := gbind hf
  refine va_callv (va_runS (As := [.ref (ad 13 (F2 14 0 6) (17 + 1)), .int (iI l1), .int (iI l2)]) (rest := []) ⟨hx, hb, hml, hown, hts⟩ (c_M_swap_1 (l := l) hc4) (va_cwS 3 hts (gdS k_15_20 k_15_21 k_1_9 k_15_22) rfl rfl rfl (by decide +kernel) ⟨Nat.le_of_ble_eq_true rfl, Nat.le_of_ble_eq_true rfl⟩) (zPS X hZ2 hS2 [.ref (ad 13 (F2 14 0 6) (17 + 1)), .int (iI l1), .int (iI l2)]) rfl rfl hl.1 rfl (lv_room (Nat.le_of_ble_eq_true rfl)) (D_184 W_prog_15_method_66_code_0 21 rfl rfl rfl) ⟨Nat.le_of_ble_eq_true rfl, Nat.le_of_ble_eq_true rfl⟩) hS2 (fun q _ h => zAin X hS2 q h) (zAin X hS2) (fun u4 t4 H4 locs4 ht4 hv4 hw4 hB4 hz4 hk4 hS4 => ?_)
  have hZ4 := zBack X ht4 hB4
  refine lv_aload_n hx hb (D_42 W_prog_15_method_66_code_0 24 rfl rfl) rfl (lv_at hl 0 rfl) ?_
  refine zget (ci := 14) (C := RX14) (T := TX14) (v := va_rf (zrf ad 13 (F4 14 0 6))) (k := 6) hx hb hts inW_14 hown hK hZ4 (by decide) (by decide) rfl (by decide) k_11_4 rfl (D_180 W_prog_15_method_66_code_0 25 rfl rfl rfl) ?_
  obtain ⟨g5, hf⟩ := gif hf
  refine zunrf g5.1 ?_
  refine zget (ci := 13) (C := RX13) (T := TX13) (v := .ref (ad 13 (F4 14 0 6) (18 + 1))) (k := 18) hx hb hts inW_13 hown hK hZ4 g5.1 g5.2 rfl (by decide) k_9_154 rfl (D_180 W_prog_15_method_66_code_0 28 rfl rfl rfl) ?_
  refine lv_iload_n hx hb (D_27 W_prog_15_method_66_code_0 31 rfl rfl) rfl (lv_at hl 1 rfl) ?_
  refine lv_iload_n hx hb (D_28 W_prog_15_method_66_code_32 0 rfl rfl) rfl (lv_at hl 2 rfl) ?_
  obtain ⟨r6, F6, B6, hc6, hf⟩ := gbind hf
  refine va_callv (va_runS (As := [.ref (ad 13 (F4 14 0 6) (18 + 1)), .int (iI l1), .int (iI l2)]) (rest := []) ⟨hx, hb, hml, hown, hts⟩ (c_M_swap_0 (l := l) hc6) (va_cwS 3 hts (gdS k_15_23 k_15_24 k_1_9 k_15_25) rfl rfl rfl (by decide +kernel) ⟨Nat.le_of_ble_eq_true rfl, Nat.le_of_ble_eq_true rfl⟩) (zPS X hZ4 hS4 [.ref (ad 13 (F4 14 0 6) (18 + 1)), .int (iI l1), .int (iI l2)]) rfl rfl hl.1 rfl (lv_room (Nat.le_of_ble_eq_true rfl)) (D_184 W_prog_15_method_66_code_32 1 rfl rfl rfl) ⟨Nat.le_of_ble_eq_true rfl, Nat.le_of_ble_eq_true rfl⟩) hS4 (fun q _ h => zAin X hS4 q h) (zAin X hS4) (fun u6 t6 H6 locs6 ht6 hv6 hw6 hB6 hz6 hk6 hS6 => ?_)
  have hZ6 := zBack X ht6 hB6
  refine lv_aload_n hx hb (D_42 W_prog_15_method_66_code_32 4 rfl rfl) rfl (lv_at hl 0 rfl) ?_
  refine zget (ci := 14) (C := RX14) (T := TX14) (v := va_rf (zrf ad 13 (F6 14 0 6))) (k := 6) hx hb hts inW_14 hown hK hZ6 (by decide) (by decide) rfl (by decide) k_11_4 rfl (D_180 W_prog_15_method_66_code_32 5 rfl rfl rfl) ?_
  obtain ⟨g7, hf⟩ := gif hf
  refine zunrf g7.1 ?_
  refine zget (ci := 13) (C := RX13) (T := TX13) (v := .ref (ad 13 (F6 14 0 6) (19 + 1))) (k := 19) hx hb hts inW_13 hown hK hZ6 g7.1 g7.2 rfl (by decide) k_9_156 rfl (D_180 W_prog_15_method_66_code_32 8 rfl rfl rfl) ?_
  refine lv_iload_n hx hb (D_27 W_prog_15_method_66_code_32 11 rfl rfl) rfl (lv_at hl 1 rfl) ?_
  refine lv_iload_n hx hb (D_28 W_prog_15_method_66_code_32 12 rfl rfl) rfl (lv_at hl 2 rfl) ?_
  obtain ⟨r8, F8, B8, hc8, hf⟩ := gbind hf
  refine va_callv (va_runS (As := [.ref (ad 13 (F6 14 0 6) (19 + 1)), .int (iI l1), .int (iI l2)]) (rest := []) ⟨hx, hb, hml, hown, hts⟩ (c_M_swap_0 (l := l) hc8) (va_cwS 3 hts (gdS k_15_23 k_15_24 k_1_9 k_15_25) rfl rfl rfl (by decide +kernel) ⟨Nat.le_of_ble_eq_true rfl, Nat.le_of_ble_eq_true rfl⟩) (zPS X hZ6 hS6 [.ref (ad 13 (F6 14 0 6) (19 + 1)), .int (iI l1), .int (iI l2)]) rfl rfl hl.1 rfl (lv_room (Nat.le_of_ble_eq_true rfl)) (D_184 W_prog_15_method_66_code_32 13 rfl rfl rfl) ⟨Nat.le_of_ble_eq_true rfl, Nat.le_of_ble_eq_true rfl⟩) hS6 (fun q _ h => zAin X hS6 q h) (zAin X hS6) (fun u8 t8 H8 locs8 ht8 hv8 hw8 hB8 hz8 hk8 hS8 => ?_)
  have hZ8 := zBack X ht8 hB8
  refine lv_aload_n hx hb (D_42 W_prog_15_method_66_code_32 16 rfl rfl) rfl (lv_at hl 0 rfl) ?_
  refine zget (ci := 14) (C := RX14) (T := TX14) (v := va_rf (zrf ad 13 (F8 14 0 6))) (k := 6) hx hb hts inW_14 hown hK hZ8 (by decide) (by decide) rfl (by decide) k_11_4 rfl (D_180 W_prog_15_method_66_code_32 17 rfl rfl rfl) ?_
  obtain ⟨g9, hf⟩ := gif hf
  refine zunrf g9.1 ?_
  refine zget (ci := 13) (C := RX13) (T := TX13) (v := .ref (ad 13 (F8 14 0 6) (20 + 1))) (k := 20) hx hb hts inW_13 hown hK hZ8 g9.1 g9.2 rfl (by decide) k_9_158 rfl (D_180 W_prog_15_method_66_code_32 20 rfl rfl rfl) ?_
  refine lv_iload_n hx hb (D_27 W_prog_15_method_66_code_32 23 rfl rfl) rfl (lv_at hl 1 rfl) ?_
  refine lv_iload_n hx hb (D_28 W_prog_15_method_66_code_32 24 rfl rfl) rfl (lv_at hl 2 rfl) ?_
  obtain ⟨r10, F10, B10, hc10, hf⟩ := gbind hf
  refine va_callv (va_runS (As := [.ref (ad 13 (F8 14 0 6) (20 + 1)), .int (iI l1), .int (iI l2)]) (rest := []) ⟨hx, hb, hml, hown, hts⟩ (c_M_swap_0 (l := l) hc10) (va_cwS 3 hts (gdS k_15_23 k_15_24 k_1_9 k_15_25) rfl rfl rfl (by decide +kernel) ⟨Nat.le_of_ble_eq_true rfl, Nat.le_of_ble_eq_true rfl⟩) (zPS X hZ8 hS8 [.ref (ad 13 (F8 14 0 6) (20 + 1)), .int (iI l1), .int (iI l2)]) rfl rfl hl.1 rfl (lv_room (Nat.le_of_ble_eq_true rfl)) (D_184 W_prog_15_method_66_code_32 25 rfl rfl rfl) ⟨Nat.le_of_ble_eq_true rfl, Nat.le_of_ble_eq_true rfl⟩) hS8 (fun q _ h => zAin X hS8 q h) (zAin X hS8) (fun u10 t10 H10 locs10 ht10 hv10 hw10 hB10 hz10 hk10 hS10 => ?_)
  have hZ10 := zBack X ht10 hB10
  refine lv_aload_n hx hb (D_42 W_prog_15_method_66_code_32 28 rfl rfl) rfl (lv_at hl 0 rfl) ?_
  refine zget (ci := 14) (C := RX14) (T := TX14) (v := va_rf (zrf ad 13 (F10 14 0 6))) (k := 6) hx hb hts inW_14 hown hK hZ10 (by decide) (by decide) rfl (by decide) k_11_4 rfl (D_180 W_prog_15_method_66_code_32 29 rfl rfl rfl) ?_
  obtain ⟨g11, hf⟩ := gif hf
  refine zunrf g11.1 ?_
  refine zget (ci := 13) (C := RX13) (T := TX13) (v := .ref (ad 13 (F10 14 0 6) (21 + 1))) (k := 21) hx hb hts inW_13 hown hK hZ10 g11.1 g11.2 rfl (by decide) k_9_160 rfl (D_180 W_prog_15_method_66_code_64 0 rfl rfl rfl) ?_
  refine lv_iload_n hx hb (D_27 W_prog_15_method_66_code_64 3 rfl rfl) rfl (lv_at hl 1 rfl) ?_
  refine lv_iload_n hx hb (D_28 W_prog_15_method_66_code_64 4 rfl rfl) rfl (lv_at hl 2 rfl) ?_
  obtain ⟨r12, F12, B12, hc12, hf⟩ := gbind hf
  refine va_callv (va_runS (As := [.ref (ad 13 (F10 14 0 6) (21 + 1)), .int (iI l1), .int (iI l2)]) (rest := []) ⟨hx, hb, hml, hown, hts⟩ (c_M_swap_0 (l := l) hc12) (va_cwS 3 hts (gdS k_15_23 k_15_24 k_1_9 k_15_25) rfl rfl rfl (by decide +kernel) ⟨Nat.le_of_ble_eq_true rfl, Nat.le_of_ble_eq_true rfl⟩) (zPS X hZ10 hS10 [.ref (ad 13 (F10 14 0 6) (21 + 1)), .int (iI l1), .int (iI l2)]) rfl rfl hl.1 rfl (lv_room (Nat.le_of_ble_eq_true rfl)) (D_184 W_prog_15_method_66_code_64 5 rfl rfl rfl) ⟨Nat.le_of_ble_eq_true rfl, Nat.le_of_ble_eq_true rfl⟩) hS10 (fun q _ h => zAin X hS10 q h) (zAin X hS10) (fun u12 t12 H12 locs12 ht12 hv12 hw12 hB12 hz12 hk12 hS12 => ?_)
  have hZ12 := zBack X ht12 hB12
  refine lv_aload_n hx hb (D_42 W_prog_15_method_66_code_64 8 rfl rfl) rfl (lv_at hl 0 rfl) ?_
  refine zget (ci := 14) (C := RX14) (T := TX14) (v := va_rf (zrf ad 13 (F12 14 0 6))) (k := 6) hx hb hts inW_14 hown hK hZ12 (by decide) (by decide) rfl (by decide) k_11_4 rfl (D_180 W_prog_15_method_66_code_64 9 rfl rfl rfl) ?_
  obtain ⟨g13, hf⟩ := gif hf
  refine zunrf g13.1 ?_
  refine zget (ci := 13) (C := RX13) (T := TX13) (v := .ref (ad 13 (F12 14 0 6) (22 + 1))) (k := 22) hx hb hts inW_13 hown hK hZ12 g13.1 g13.2 rfl (by decide) k_9_162 rfl (D_180 W_prog_15_method_66_code_64 12 rfl rfl rfl) ?_
  refine lv_iload_n hx hb (D_27 W_prog_15_method_66_code_64 15 rfl rfl) rfl (lv_at hl 1 rfl) ?_
  refine lv_iload_n hx hb (D_28 W_prog_15_method_66_code_64 16 rfl rfl) rfl (lv_at hl 2 rfl) ?_
  obtain ⟨r14, F14, B14, hc14, hf⟩ := gbind hf
  refine va_callv (va_runS (As := [.ref (ad 13 (F12 14 0 6) (22 + 1)), .int (iI l1), .int (iI l2)]) (rest := []) ⟨hx, hb, hml, hown, hts⟩ (c_M_swap_0 (l := l) hc14) (va_cwS 3 hts (gdS k_15_23 k_15_24 k_1_9 k_15_25) rfl rfl rfl (by decide +kernel) ⟨Nat.le_of_ble_eq_true rfl, Nat.le_of_ble_eq_true rfl⟩) (zPS X hZ12 hS12 [.ref (ad 13 (F12 14 0 6) (22 + 1)), .int (iI l1), .int (iI l2)]) rfl rfl hl.1 rfl (lv_room (Nat.le_of_ble_eq_true rfl)) (D_184 W_prog_15_method_66_code_64 17 rfl rfl rfl) ⟨Nat.le_of_ble_eq_true rfl, Nat.le_of_ble_eq_true rfl⟩) hS12 (fun q _ h => zAin X hS12 q h) (zAin X hS12) (fun u14 t14 H14 locs14 ht14 hv14 hw14 hB14 hz14 hk14 hS14 => ?_)
  have hZ14 := zBack X ht14 hB14
  refine lv_aload_n hx hb (D_42 W_prog_15_method_66_code_64 20 rfl rfl) rfl (lv_at hl 0 rfl) ?_
  refine zget (ci := 14) (C := RX14) (T := TX14) (v := va_rf (zrf ad 13 (F14 14 0 6))) (k := 6) hx hb hts inW_14 hown hK hZ14 (by decide) (by decide) rfl (by decide) k_11_4 rfl (D_180 W_prog_15_method_66_code_64 21 rfl rfl rfl) ?_
  obtain ⟨g15, hf⟩ := gif hf
  refine zunrf g15.1 ?_
  refine zget (ci := 13) (C := RX13) (T := TX13) (v := .ref (ad 13 (F14 14 0 6) (23 + 1))) (k := 23) hx hb hts inW_13 hown hK hZ14 g15.1 g15.2 rfl (by decide) k_9_164 rfl (D_180 W_prog_15_method_66_code_64 24 rfl rfl rfl) ?_
  refine lv_iload_n hx hb (D_27 W_prog_15_method_66_code_64 27 rfl rfl) rfl (lv_at hl 1 rfl) ?_
  refine lv_iload_n hx hb (D_28 W_prog_15_method_66_code_64 28 rfl rfl) rfl (lv_at hl 2 rfl) ?_
  obtain ⟨r16, F16, B16, hc16, hf⟩ := gbind hf
  refine va_callv (va_runS (As := [.ref (ad 13 (F14 14 0 6) (23 + 1)), .int (iI l1), .int (iI l2)]) (rest := []) ⟨hx, hb, hml, hown, hts⟩ (c_M_swap_0 (l := l) hc16) (va_cwS 3 hts (gdS k_15_23 k_15_24 k_1_9 k_15_25) rfl rfl rfl (by decide +kernel) ⟨Nat.le_of_ble_eq_true rfl, Nat.le_of_ble_eq_true rfl⟩) (zPS X hZ14 hS14 [.ref (ad 13 (F14 14 0 6) (23 + 1)), .int (iI l1), .int (iI l2)]) rfl rfl hl.1 rfl (lv_room (Nat.le_of_ble_eq_true rfl)) (D_184 W_prog_15_method_66_code_64 29 rfl rfl rfl) ⟨Nat.le_of_ble_eq_true rfl, Nat.le_of_ble_eq_true rfl⟩) hS14 (fun q _ h => zAin X hS14 q h) (zAin X hS14) (fun u16 t16 H16 locs16 ht16 hv16 hw16 hB16 hz16 hk16 hS16 => ?_)
  have hZ16 := zBack X ht16 hB16
  refine lv_aload_n hx hb (D_42 W_prog_15_method_66_code_96 0 rfl rfl) rfl (lv_at hl 0 rfl) ?_
  refine zget (ci := 14) (C := RX14) (T := TX14) (v := va_rf (zrf ad 13 (F16 14 0 6))) (k := 6) hx hb hts inW_14 hown hK hZ16 (by decide) (by decide) rfl (by decide) k_11_4 rfl (D_180 W_prog_15_method_66_code_96 1 rfl rfl rfl) ?_
  obtain ⟨g17, hf⟩ := gif hf
  refine zunrf g17.1 ?_
  refine zget (ci := 13) (C := RX13) (T := TX13) (v := .ref (ad 13 (F16 14 0 6) (24 + 1))) (k := 24) hx hb hts inW_13 hown hK hZ16 g17.1 g17.2 rfl (by decide) k_9_166 rfl (D_180 W_prog_15_method_66_code_96 4 rfl rfl rfl) ?_
  refine lv_iload_n hx hb (D_27 W_prog_15_method_66_code_96 7 rfl rfl) rfl (lv_at hl 1 rfl) ?_
  refine lv_iload_n hx hb (D_28 W_prog_15_method_66_code_96 8 rfl rfl) rfl (lv_at hl 2 rfl) ?_
  obtain ⟨r18, F18, B18, hc18, hf⟩ := gbind hf
  refine va_callv (va_runS (As := [.ref (ad 13 (F16 14 0 6) (24 + 1)), .int (iI l1), .int (iI l2)]) (rest := []) ⟨hx, hb, hml, hown, hts⟩ (c_M_swap_0 (l := l) hc18) (va_cwS 3 hts (gdS k_15_23 k_15_24 k_1_9 k_15_25) rfl rfl rfl (by decide +kernel) ⟨Nat.le_of_ble_eq_true rfl, Nat.le_of_ble_eq_true rfl⟩) (zPS X hZ16 hS16 [.ref (ad 13 (F16 14 0 6) (24 + 1)), .int (iI l1), .int (iI l2)]) rfl rfl hl.1 rfl (lv_room (Nat.le_of_ble_eq_true rfl)) (D_184 W_prog_15_method_66_code_96 9 rfl rfl rfl) ⟨Nat.le_of_ble_eq_true rfl, Nat.le_of_ble_eq_true rfl⟩) hS16 (fun q _ h => zAin X hS16 q h) (zAin X hS16) (fun u18 t18 H18 locs18 ht18 hv18 hw18 hB18 hz18 hk18 hS18 => ?_)
  have hZ18 := zBack X ht18 hB18
  refine lv_aload_n hx hb (D_42 W_prog_15_method_66_code_96 12 rfl rfl) rfl (lv_at hl 0 rfl) ?_
  refine zget (ci := 14) (C := RX14) (T := TX14) (v := va_rf (zrf ad 13 (F18 14 0 6))) (k := 6) hx hb hts inW_14 hown hK hZ18 (by decide) (by decide) rfl (by decide) k_11_4 rfl (D_180 W_prog_15_method_66_code_96 13 rfl rfl rfl) ?_
  obtain ⟨g19, hf⟩ := gif hf
  refine zunrf g19.1 ?_
  refine zget (ci := 13) (C := RX13) (T := TX13) (v := .ref (ad 13 (F18 14 0 6) (25 + 1))) (k := 25) hx hb hts inW_13 hown hK hZ18 g19.1 g19.2 rfl (by decide) k_9_168 rfl (D_180 W_prog_15_method_66_code_96 16 rfl rfl rfl) ?_
  refine lv_iload_n hx hb (D_27 W_prog_15_method_66_code_96 19 rfl rfl) rfl (lv_at hl 1 rfl) ?_
  refine lv_iload_n hx hb (D_28 W_prog_15_method_66_code_96 20 rfl rfl) rfl (lv_at hl 2 rfl) ?_
  obtain ⟨r20, F20, B20, hc20, hf⟩ := gbind hf
  refine va_callv (va_runS (As := [.ref (ad 13 (F18 14 0 6) (25 + 1)), .int (iI l1), .int (iI l2)]) (rest := []) ⟨hx, hb, hml, hown, hts⟩ (c_M_swap_0 (l := l) hc20) (va_cwS 3 hts (gdS k_15_23 k_15_24 k_1_9 k_15_25) rfl rfl rfl (by decide +kernel) ⟨Nat.le_of_ble_eq_true rfl, Nat.le_of_ble_eq_true rfl⟩) (zPS X hZ18 hS18 [.ref (ad 13 (F18 14 0 6) (25 + 1)), .int (iI l1), .int (iI l2)]) rfl rfl hl.1 rfl (lv_room (Nat.le_of_ble_eq_true rfl)) (D_184 W_prog_15_method_66_code_96 21 rfl rfl rfl) ⟨Nat.le_of_ble_eq_true rfl, Nat.le_of_ble_eq_true rfl⟩) hS18 (fun q _ h => zAin X hS18 q h) (zAin X hS18) (fun u20 t20 H20 locs20 ht20 hv20 hw20 hB20 hz20 hk20 hS20 => ?_)
  have hZ20 := zBack X ht20 hB20
  refine lv_aload_n hx hb (D_42 W_prog_15_method_66_code_96 24 rfl rfl) rfl (lv_at hl 0 rfl) ?_
  refine zget (ci := 14) (C := RX14) (T := TX14) (v := va_rf (zrf ad 13 (F20 14 0 6))) (k := 6) hx hb hts inW_14 hown hK hZ20 (by decide) (by decide) rfl (by decide) k_11_4 rfl (D_180 W_prog_15_method_66_code_96 25 rfl rfl rfl) ?_
  obtain ⟨g21, hf⟩ := gif hf
  refine zunrf g21.1 ?_
  refine zget (ci := 13) (C := RX13) (T := TX13) (v := .ref (ad 13 (F20 14 0 6) (26 + 1))) (k := 26) hx hb hts inW_13 hown hK hZ20 g21.1 g21.2 rfl (by decide) k_9_170 rfl (D_180 W_prog_15_method_66_code_96 28 rfl rfl rfl) ?_
  refine lv_iload_n hx hb (D_27 W_prog_15_method_66_code_96 31 rfl rfl) rfl (lv_at hl 1 rfl) ?_
  refine lv_iload_n hx hb (D_28 W_prog_15_method_66_code_128 0 rfl rfl) rfl (lv_at hl 2 rfl) ?_
  obtain ⟨r22, F22, B22, hc22, hf⟩ := gbind hf
  refine va_callv (va_runS (As := [.ref (ad 13 (F20 14 0 6) (26 + 1)), .int (iI l1), .int (iI l2)]) (rest := []) ⟨hx, hb, hml, hown, hts⟩ (c_M_swap_0 (l := l) hc22) (va_cwS 3 hts (gdS k_15_23 k_15_24 k_1_9 k_15_25) rfl rfl rfl (by decide +kernel) ⟨Nat.le_of_ble_eq_true rfl, Nat.le_of_ble_eq_true rfl⟩) (zPS X hZ20 hS20 [.ref (ad 13 (F20 14 0 6) (26 + 1)), .int (iI l1), .int (iI l2)]) rfl rfl hl.1 rfl (lv_room (Nat.le_of_ble_eq_true rfl)) (D_184 W_prog_15_method_66_code_128 1 rfl rfl rfl) ⟨Nat.le_of_ble_eq_true rfl, Nat.le_of_ble_eq_true rfl⟩) hS20 (fun q _ h => zAin X hS20 q h) (zAin X hS20) (fun u22 t22 H22 locs22 ht22 hv22 hw22 hB22 hz22 hk22 hS22 => ?_)
  have hZ22 := zBack X ht22 hB22
  refine lv_iconst (v := iI 0) hx hb (D_3 W_prog_15_method_66_code_128 4 rfl rfl) rfl ?_
  refine lv_istore_n (lv' := [(3, .int (iI 0)), (0, .ref (ad 14 0 0)), (1, .int (iI l1)), (2, .int (iI l2))]) hx hb (D_62 W_prog_15_method_66_code_128 5 rfl rfl) rfl hl (by decide) rfl (fun ls hl => ?_)
  exact b_M_exchange_134 X hf hZ22 hS22 (lv_sub hl [0, 1, 2, 3] rfl)

abbrev Q_M_judgeOuter (D : va_G) (ca : Nat → ClassId) (ad : Nat → Int → Nat → Nat) (L : List Nat) (r : Int) (F : zF) (B : zB) (A : Nat → Prop) : Array Value → State → Outcome → State → Prop := va_Qv (S := Unit) (fun _ => True) (fun _ => zPo D ca ad lnM nM L F B A) A
def f_M_judgeOuter_221 (K : Nat)  (F : zF) (B : zB) : zO := some (0, F, B)
set_option maxHeartbeats 4000000 in
set_option maxRecDepth 100000 in
theorem b_M_judgeOuter_221 {D : va_G} {ca : Nat → ClassId} {ad : Nat → Int → Nat → Nat} {L : List Nat} {aS vS : Nat → Nat} {A : Nat → Prop} {p : Program} {l : Launch} {e : Env} {s : State} {m : MethodId} {args : Array Value} {below : List Frame} {meth : Method} {c : Code} {K : Nat} {r : Int} {F9 : zF} {B9 : zB} (X : zX D ca L aS vS A p s m args meth c prog_15_method_75_code 11 (Option.none : Option Jvm.ClassFile.FieldType) "StaveHouseModel")  {F : zF} {B : zB} {H : Heap} {locs : List Loc} {ls : Array Slot} (hf : f_M_judgeOuter_221 K  F B = some (r, F9, B9)) (hZ : zH D ca ad lnM nM L F B A H) (hS : va_S A s.heap H locs) (hl : lv_has ls 11 []) : W p l e ({ frames := 3, cells := 0, slots := 0, locals := 85 } : Room) s m args below meth c H locs 0 0 (MQ below (Q_M_judgeOuter D ca ad L r F9 B9 A) args s 0 0 A) (F0 m 221 ls []) := by
  obtain ⟨hx, hb, hr, hml, hown, hts, hlk, hK, hA, hL, hX⟩ := id X
  replace hf : (some (0, F, B)) = some (r, F9, B9) := hf
  cases hf
  exact W.vret hx hb hr (fun t ht hW => ⟨⟨(), rfl, trivial, by rw [ht]; exact hZ, va_K.moved hW.alike hK⟩, hS.F ht⟩) hS.2.2 (D_177 W_prog_15_method_75_code_192 29 rfl rfl) hlk

def f_M_judgeOuter_206 (K : Nat) (l2 : Int) (F : zF) (B : zB) : zO := if 0 ≤ (F 14 0 6) ∧ (F 14 0 6) < 3 then if 0 ≤ l2 ∧ l2 < 4000 then zbind (f_M_failAt K 13 (B 13 (F 14 0 6) 26 l2) F B) (fun r27 F27 B27 => f_M_judgeOuter_221 K F27 B27) else none else none
set_option maxHeartbeats 4000000 in
set_option maxRecDepth 100000 in
theorem b_M_judgeOuter_206 {D : va_G} {ca : Nat → ClassId} {ad : Nat → Int → Nat → Nat} {L : List Nat} {aS vS : Nat → Nat} {A : Nat → Prop} {p : Program} {l : Launch} {e : Env} {s : State} {m : MethodId} {args : Array Value} {below : List Frame} {meth : Method} {c : Code} {K : Nat} {r : Int} {F9 : zF} {B9 : zB} (X : zX D ca L aS vS A p s m args meth c prog_15_method_75_code 11 (Option.none : Option Jvm.ClassFile.FieldType) "StaveHouseModel") {l2 : Int} {F : zF} {B : zB} {H : Heap} {locs : List Loc} {ls : Array Slot} (hf : f_M_judgeOuter_206 K l2 F B = some (r, F9, B9)) (hZ : zH D ca ad lnM nM L F B A H) (hS : va_S A s.heap H locs) (hl : lv_has ls 11 [(2, .int (iI l2)), (0, .ref (ad 14 0 0))]) : W p l e ({ frames := 3, cells := 0, slots := 0, locals := 85 } : Room) s m args below meth c H locs 0 0 (MQ below (Q_M_judgeOuter D ca ad L r F9 B9 A) args s 0 0 A) (F0 m 206 ls []) := by
  obtain ⟨hx, hb, hr, hml, hown, hts, hlk, hK, hA, hL, hX⟩ := id X
  replace hf : (if 0 ≤ (F 14 0 6) ∧ (F 14 0 6) < 3 then if 0 ≤ l2 ∧ l2 < 4000 then zbind (f_M_failAt K 13 (B 13 (F 14 0 6) 26 l2) F B) (fun r27 F27 B27 => f_M_judgeOuter_221 K F27 B27) else none else none) = some (r, F9, B9) := hf
  refine lv_aload_n hx hb (D_42 W_prog_15_method_75_code_192 14 rfl rfl) rfl (lv_at hl 1 rfl) ?_
  refine lv_bipush (v := iI 13) hx hb (D_16 W_prog_15_method_75_code_192 15 rfl rfl rfl) (by decide) ?_
  refine lv_aload_n hx hb (D_42 W_prog_15_method_75_code_192 17 rfl rfl) rfl (lv_at hl 1 rfl) ?_
  refine zget (ci := 14) (C := RX14) (T := TX14) (v := va_rf (zrf ad 13 (F 14 0 6))) (k := 6) hx hb hts inW_14 hown hK hZ (by decide) (by decide) rfl (by decide) k_11_4 rfl (D_180 W_prog_15_method_75_code_192 18 rfl rfl rfl) ?_
  obtain ⟨g25, hf⟩ := gif hf
  refine zunrf g25.1 ?_
  refine zget (ci := 13) (C := RX13) (T := TX13) (v := .ref (ad 13 (F 14 0 6) (26 + 1))) (k := 26) hx hb hts inW_13 hown hK hZ g25.1 g25.2 rfl (by decide) k_9_170 rfl (D_180 W_prog_15_method_75_code_192 21 rfl rfl rfl) ?_
  refine lv_iload_n hx hb (D_28 W_prog_15_method_75_code_192 24 rfl rfl) rfl (lv_at hl 0 rfl) ?_
  obtain ⟨g26, hf⟩ := gif hf
  refine zald (ci := 13) (k := 26) hx hb hK rfl hZ g25.1 g25.2 rfl (Nat.le_of_ble_eq_true rfl) g26.1 g26.2 (D_46 W_prog_15_method_75_code_192 25 rfl rfl) ?_
  obtain ⟨r27, F27, B27, hc27, hf⟩ := gbind hf
  refine va_callv (va_runV (As := [.int (iI 13), .int (iI (B 13 (F 14 0 6) 26 l2))]) (rest := []) ⟨hx, hb, hml, hown, hts⟩ (c_M_failAt (l := l) hc27) (cwV 2 hts (gdV k_14_132 k_14_134 ks_205 k_1_9 k_14_135) rfl rfl rfl (by decide +kernel) ⟨Nat.le_of_ble_eq_true rfl, Nat.le_of_ble_eq_true rfl⟩) (zPV X hZ hS (ci := 14) (by decide) (by decide) (r := (RX14, TX14, 107)) rfl [.int (iI 13), .int (iI (B 13 (F 14 0 6) 26 l2))]) rfl rfl hl.1 rfl (lv_room (Nat.le_of_ble_eq_true rfl)) (D_182 W_prog_15_method_75_code_192 26 rfl rfl rfl) ⟨Nat.le_of_ble_eq_true rfl, Nat.le_of_ble_eq_true rfl⟩) hS (fun q _ h => zAin X hS q h) (zAin X hS) (fun u27 t27 H27 locs27 ht27 hv27 hw27 hB27 hz27 hk27 hS27 => ?_)
  have hZ27 := zBack X ht27 hB27
  exact b_M_judgeOuter_221 X hf hZ27 hS27 (lv_sub hl [] rfl)

def f_M_judgeOuter_160 (K : Nat) (l6 : Int) (l4 : Int) (l2 : Int) (s0 : Int) (F : zF) (B : zB) : zO := if 0 ≤ (F 14 0 6) ∧ (F 14 0 6) < 3 then if 0 ≤ l2 ∧ l2 < 4000 then zbind (f_M_minus K l4 l6 (B 13 (F 14 0 6) 14 l2) (B 13 (F 14 0 6) 15 l2) F B) (fun r19 F19 B19 => if r32 s0 then (if s0 = 0 then f_M_judgeOuter_206 K l2 F19 B19 else if ¬ lI (F19 14 0 1) = 0 then if r64 (zlrm 128 (F19 14 0 1)) then (if (zcmp (zlrm 128 (F19 14 0 1)) 0) = 0 then f_M_judgeOuter_221 K F19 B19 else f_M_judgeOuter_206 K l2 F19 B19) else none else none) else none) else none else none
set_option maxHeartbeats 4000000 in
set_option maxRecDepth 100000 in
theorem b_M_judgeOuter_160 {D : va_G} {ca : Nat → ClassId} {ad : Nat → Int → Nat → Nat} {L : List Nat} {aS vS : Nat → Nat} {A : Nat → Prop} {p : Program} {l : Launch} {e : Env} {s : State} {m : MethodId} {args : Array Value} {below : List Frame} {meth : Method} {c : Code} {K : Nat} {r : Int} {F9 : zF} {B9 : zB} (X : zX D ca L aS vS A p s m args meth c prog_15_method_75_code 11 (Option.none : Option Jvm.ClassFile.FieldType) "StaveHouseModel") {l6 : Int} {l4 : Int} {l2 : Int} {s0 : Int} {F : zF} {B : zB} {H : Heap} {locs : List Loc} {ls : Array Slot} (hf : f_M_judgeOuter_160 K l6 l4 l2 s0 F B = some (r, F9, B9)) (hZ : zH D ca ad lnM nM L F B A H) (hS : va_S A s.heap H locs) (hl : lv_has ls 11 [(6, .long (lI l6)), (4, .long (lI l4)), (2, .int (iI l2)), (0, .ref (ad 14 0 0))]) : W p l e ({ frames := 3, cells := 0, slots := 0, locals := 85 } : Room) s m args below meth c H locs 0 0 (MQ below (Q_M_judgeOuter D ca ad L r F9 B9 A) args s 0 0 A) (F0 m 160 ls [.int (iI s0)]) := by
  obtain ⟨hx, hb, hr, hml, hown, hts, hlk, hK, hA, hL, hX⟩ := id X
  replace hf : (if 0 ≤ (F 14 0 6) ∧ (F 14 0 6) < 3 then if 0 ≤ l2 ∧ l2 < 4000 then zbind (f_M_minus K l4 l6 (B 13 (F 14 0 6) 14 l2) (B 13 (F 14 0 6) 15 l2) F B) (fun r19 F19 B19 => if r32 s0 then (if s0 = 0 then f_M_judgeOuter_206 K l2 F19 B19 else if ¬ lI (F19 14 0 1) = 0 then if r64 (zlrm 128 (F19 14 0 1)) then (if (zcmp (zlrm 128 (F19 14 0 1)) 0) = 0 then f_M_judgeOuter_221 K F19 B19 else f_M_judgeOuter_206 K l2 F19 B19) else none else none) else none) else none else none) = some (r, F9, B9) := hf
  refine lv_istore (lv' := [(10, .int (iI s0)), (6, .long (lI l6)), (4, .long (lI l4)), (2, .int (iI l2)), (0, .ref (ad 14 0 0))]) hx hb (D_54 W_prog_15_method_75_code_160 0 rfl rfl) hl (by decide) rfl (fun ls hl => ?_)
  refine lv_aload_n hx hb (D_42 W_prog_15_method_75_code_160 2 rfl rfl) rfl (lv_at hl 4 rfl) ?_
  refine lv_lload hx hb (D_22 W_prog_15_method_75_code_160 3 rfl rfl) (lv_at hl 2 rfl) ?_
  refine lv_lload hx hb (D_22 W_prog_15_method_75_code_160 5 rfl rfl) (lv_at hl 1 rfl) ?_
  refine lv_aload_n hx hb (D_42 W_prog_15_method_75_code_160 7 rfl rfl) rfl (lv_at hl 4 rfl) ?_
  refine zget (ci := 14) (C := RX14) (T := TX14) (v := va_rf (zrf ad 13 (F 14 0 6))) (k := 6) hx hb hts inW_14 hown hK hZ (by decide) (by decide) rfl (by decide) k_11_4 rfl (D_180 W_prog_15_method_75_code_160 8 rfl rfl rfl) ?_
  obtain ⟨g17, hf⟩ := gif hf
  refine zunrf g17.1 ?_
  refine zget (ci := 13) (C := RX13) (T := TX13) (v := .ref (ad 13 (F 14 0 6) (14 + 1))) (k := 14) hx hb hts inW_13 hown hK hZ g17.1 g17.2 rfl (by decide) k_9_146 rfl (D_180 W_prog_15_method_75_code_160 11 rfl rfl rfl) ?_
  refine lv_iload_n hx hb (D_28 W_prog_15_method_75_code_160 14 rfl rfl) rfl (lv_at hl 3 rfl) ?_
  obtain ⟨g18, hf⟩ := gif hf
  refine zlald (ci := 13) (k := 14) hx hb hK rfl hZ g17.1 g17.2 rfl (Nat.le_of_ble_eq_true rfl) g18.1 g18.2 (D_47 W_prog_15_method_75_code_160 15 rfl rfl) ?_
  refine lv_aload_n hx hb (D_42 W_prog_15_method_75_code_160 16 rfl rfl) rfl (lv_at hl 4 rfl) ?_
  refine zget (ci := 14) (C := RX14) (T := TX14) (v := va_rf (zrf ad 13 (F 14 0 6))) (k := 6) hx hb hts inW_14 hown hK hZ (by decide) (by decide) rfl (by decide) k_11_4 rfl (D_180 W_prog_15_method_75_code_160 17 rfl rfl rfl) ?_
  refine zunrf g17.1 ?_
  refine zget (ci := 13) (C := RX13) (T := TX13) (v := .ref (ad 13 (F 14 0 6) (15 + 1))) (k := 15) hx hb hts inW_13 hown hK hZ g17.1 g17.2 rfl (by decide) k_9_148 rfl (D_180 W_prog_15_method_75_code_160 20 rfl rfl rfl) ?_
  refine lv_iload_n hx hb (D_28 W_prog_15_method_75_code_160 23 rfl rfl) rfl (lv_at hl 3 rfl) ?_
  refine zlald (ci := 13) (k := 15) hx hb hK rfl hZ g17.1 g17.2 rfl (Nat.le_of_ble_eq_true rfl) g18.1 g18.2 (D_47 W_prog_15_method_75_code_160 24 rfl rfl) ?_
  obtain ⟨r19, F19, B19, hc19, hf⟩ := gbind hf
  refine va_callv (va_runV (As := [.long (lI l4), .long (lI l6), .long (lI (B 13 (F 14 0 6) 14 l2)), .long (lI (B 13 (F 14 0 6) 15 l2))]) (rest := []) ⟨hx, hb, hml, hown, hts⟩ (c_M_minus (l := l) hc19) (cwV 4 hts (gdV k_13_132 k_13_134 ks_174 k_1_9 k_13_135) rfl rfl rfl (by decide +kernel) ⟨Nat.le_of_ble_eq_true rfl, Nat.le_of_ble_eq_true rfl⟩) (zPV X hZ hS (ci := 14) (by decide) (by decide) (r := (RX14, TX14, 107)) rfl [.long (lI l4), .long (lI l6), .long (lI (B 13 (F 14 0 6) 14 l2)), .long (lI (B 13 (F 14 0 6) 15 l2))]) rfl rfl hl.1 rfl (lv_room (Nat.le_of_ble_eq_true rfl)) (D_182 W_prog_15_method_75_code_160 25 rfl rfl rfl) ⟨Nat.le_of_ble_eq_true rfl, Nat.le_of_ble_eq_true rfl⟩) hS (fun q _ h => zAin X hS q h) (zAin X hS) (fun u19 t19 H19 locs19 ht19 hv19 hw19 hB19 hz19 hk19 hS19 => ?_)
  have hZ19 := zBack X ht19 hB19
  refine lv_iload hx hb (D_21 W_prog_15_method_75_code_160 28 rfl rfl) (lv_at hl 0 rfl) ?_
  obtain ⟨g20, hf⟩ := gif hf
  refine z0eq (tgt := 206) hx hb g20 (D_153 W_prog_15_method_75_code_160 30 rfl rfl rfl) (by decide) (fun h21 => ?_) (fun h21 => ?_)
  · replace hf := gpos hf h21
    exact b_M_judgeOuter_206 X hf hZ19 hS19 (lv_sub hl [3, 4] rfl)
  · replace hf := gneg hf h21
    refine lv_ldc2 hx hb hown (hts _ k_14_227) (D_20 W_prog_15_method_75_code_192 1 rfl rfl rfl) ?_
    refine W.eq (g2 := F0 m 196 ls [.long (lI 128)]) rfl ?_
    refine lv_aload_n hx hb (D_42 W_prog_15_method_75_code_192 4 rfl rfl) rfl (lv_at hl 4 rfl) ?_
    refine zget (ci := 14) (C := RX14) (T := TX14) (v := .long (lI (F19 14 0 1))) (k := 1) hx hb hts inW_14 hown hK hZ19 (by decide) (by decide) rfl (by decide) k_10_239 rfl (D_180 W_prog_15_method_75_code_192 5 rfl rfl rfl) ?_
    obtain ⟨g22, hf⟩ := gif hf
    refine zlrm_r hx hb g22 (D_113 W_prog_15_method_75_code_192 8 rfl rfl) ?_
    refine lv_lconst (v := lI 0) hx hb (D_9 W_prog_15_method_75_code_192 9 rfl rfl) (by decide) ?_
    obtain ⟨g23, hf⟩ := gif hf
    refine zcmp_r hx hb g23 (by decide) (D_148 W_prog_15_method_75_code_192 10 rfl rfl) ?_
    refine z0eq (tgt := 221) hx hb zcmp_32 (D_153 W_prog_15_method_75_code_192 11 rfl rfl rfl) (by decide) (fun h24 => ?_) (fun h24 => ?_)
    · replace hf := gpos hf h24
      exact b_M_judgeOuter_221 X hf hZ19 hS19 (lv_sub hl [] rfl)
    · replace hf := gneg hf h24
      exact b_M_judgeOuter_206 X hf hZ19 hS19 (lv_sub hl [3, 4] rfl)

def f_M_judgeOuter (K : Nat) (l1 : Int) (F : zF) (B : zB) : zO := if 0 ≤ (F 14 0 6) ∧ (F 14 0 6) < 3 then zbind (f_M_lastOuter K (F 14 0 6) ((1000 * (F 14 0 35)) + l1) ((1000 * (F 14 0 35)) + (F 14 0 36)) F B) (fun r2 F2 B2 => if 0 ≤ (F2 14 0 6) ∧ (F2 14 0 6) < 3 then if 0 ≤ r2 ∧ r2 < 4000 then zbind (f_M_plus K (B2 13 (F2 14 0 6) 14 r2) (B2 13 (F2 14 0 6) 15 r2) (B2 13 (F2 14 0 6) 16 r2) (B2 13 (F2 14 0 6) 17 r2) F2 B2) (fun r5 F5 B5 => if 0 ≤ (F5 14 0 6) ∧ (F5 14 0 6) < 3 then if 0 ≤ ((1000 * (F 14 0 35)) + l1) ∧ ((1000 * (F 14 0 35)) + l1) < 4000 then if r32 (F5 13 (F5 14 0 6) 4) then if r32 (F5 13 (F5 14 0 6) 5) then zbind (f_M_often K (B5 13 (F5 14 0 6) 14 ((1000 * (F 14 0 35)) + l1)) (B5 13 (F5 14 0 6) 15 ((1000 * (F 14 0 35)) + l1)) (F5 13 (F5 14 0 6) 4) (F5 13 (F5 14 0 6) 5) F5 B5) (fun r10 F10 B10 => if 0 ≤ (F10 14 0 6) ∧ (F10 14 0 6) < 3 then if r32 (F10 13 (F10 14 0 6) 4) then if r32 (F10 13 (F10 14 0 6) 5) then zbind (f_M_compare K (F5 14 0 0) (F5 14 0 1) ((r10 + 1) * (F10 13 (F10 14 0 6) 4)) (F10 13 (F10 14 0 6) 5) F10 B10) (fun r14 F14 B14 => if r32 r14 then (if 0 < r14 then f_M_judgeOuter_160 K (F5 14 0 1) (F5 14 0 0) ((1000 * (F 14 0 35)) + l1) 0 F14 B14 else f_M_judgeOuter_160 K (F5 14 0 1) (F5 14 0 0) ((1000 * (F 14 0 35)) + l1) 1 F14 B14) else none) else none else none else none) else none else none else none else none) else none else none) else none
set_option maxHeartbeats 4000000 in
set_option maxRecDepth 100000 in
theorem c_M_judgeOuter {l : Launch} {D : va_G} {ca : Nat → ClassId} {ad : Nat → Int → Nat → Nat} {L : List Nat} {aS vS : Nat → Nat} {sz K : Nat}  {l1 : Int} {F F9 : zF} {B B9 : zB} {r : Int} (hf : f_M_judgeOuter K l1 F B = some (r, F9, B9)) : Met l ({ cls := "StaveHouseModel", name := "judgeOuter", desc := "(I)V" } : Jvm.MethodName) (Cond.code ({ cls := "StaveHouseModel", name := "judgeOuter", desc := "(I)V" } : Jvm.MethodName) prog_15_method_75_code 11 (Option.none : Option Jvm.ClassFile.FieldType) :: wAll) ({ frames := 3, cells := 0, slots := 0, locals := 85 } : Room) (va_Pc [.ref (ad 14 0 0), .int (iI l1)] (zPre D ca ad lnM nM L aS vS F B sz)) (Q_M_judgeOuter D ca ad L r F9 B9 (zA L sz)) 0 0 (zA L sz) := by
  refine zMet (Qc := Q_M_judgeOuter D ca ad L r F9 B9) (lv := [(0, .ref (ad 14 0 0)), (1, .int (iI l1))]) (by decide) (Nat.le_of_ble_eq_true rfl) rfl (fun A p e s m below meth c ls X hZ hS hl => ?_)
  obtain ⟨hx, hb, hr, hml, hown, hts, hlk, hK, hA, hL, hX⟩ := id X
  replace hf : (if 0 ≤ (F 14 0 6) ∧ (F 14 0 6) < 3 then zbind (f_M_lastOuter K (F 14 0 6) ((1000 * (F 14 0 35)) + l1) ((1000 * (F 14 0 35)) + (F 14 0 36)) F B) (fun r2 F2 B2 => if 0 ≤ (F2 14 0 6) ∧ (F2 14 0 6) < 3 then if 0 ≤ r2 ∧ r2 < 4000 then zbind (f_M_plus K (B2 13 (F2 14 0 6) 14 r2) (B2 13 (F2 14 0 6) 15 r2) (B2 13 (F2 14 0 6) 16 r2) (B2 13 (F2 14 0 6) 17 r2) F2 B2) (fun r5 F5 B5 => if 0 ≤ (F5 14 0 6) ∧ (F5 14 0 6) < 3 then if 0 ≤ ((1000 * (F 14 0 35)) + l1) ∧ ((1000 * (F 14 0 35)) + l1) < 4000 then if r32 (F5 13 (F5 14 0 6) 4) then if r32 (F5 13 (F5 14 0 6) 5) then zbind (f_M_often K (B5 13 (F5 14 0 6) 14 ((1000 * (F 14 0 35)) + l1)) (B5 13 (F5 14 0 6) 15 ((1000 * (F 14 0 35)) + l1)) (F5 13 (F5 14 0 6) 4) (F5 13 (F5 14 0 6) 5) F5 B5) (fun r10 F10 B10 => if 0 ≤ (F10 14 0 6) ∧ (F10 14 0 6) < 3 then if r32 (F10 13 (F10 14 0 6) 4) then if r32 (F10 13 (F10 14 0 6) 5) then zbind (f_M_compare K (F5 14 0 0) (F5 14 0 1) ((r10 + 1) * (F10 13 (F10 14 0 6) 4)) (F10 13 (F10 14 0 6) 5) F10 B10) (fun r14 F14 B14 => if r32 r14 then (if 0 < r14 then f_M_judgeOuter_160 K (F5 14 0 1) (F5 14 0 0) ((1000 * (F 14 0 35)) + l1) 0 F14 B14 else f_M_judgeOuter_160 K (F5 14 0 1) (F5 14 0 0) ((1000 * (F 14 0 35)) + l1) 1 F14 B14) else none) else none else none else none) else none else none else none else none) else none else none) else none) = some (r, F9, B9) := hf
  refine lv_sipush (v := iI 1000) hx hb (D_17 W_prog_15_method_75_code_0 0 rfl rfl rfl) (by decide) ?_
  refine lv_aload_n hx hb (D_42 W_prog_15_method_75_code_0 3 rfl rfl) rfl (lv_at hl 0 rfl) ?_
  refine zget (ci := 14) (C := RX14) (T := TX14) (v := .int (iI (F 14 0 35))) (k := 35) hx hb hts inW_14 hown hK hZ (by decide) (by decide) rfl (by decide) k_11_33 rfl (D_180 W_prog_15_method_75_code_0 4 rfl rfl rfl) ?_
  refine zmul hx hb (D_104 W_prog_15_method_75_code_0 7 rfl rfl) ?_
  refine lv_iload_n hx hb (D_27 W_prog_15_method_75_code_0 8 rfl rfl) rfl (lv_at hl 1 rfl) ?_
  refine zadd hx hb (D_96 W_prog_15_method_75_code_0 9 rfl rfl) ?_
  refine lv_istore_n (lv' := [(2, .int (iI ((1000 * (F 14 0 35)) + l1))), (0, .ref (ad 14 0 0)), (1, .int (iI l1))]) hx hb (D_61 W_prog_15_method_75_code_0 10 rfl rfl) rfl hl (by decide) rfl (fun ls hl => ?_)
  refine lv_aload_n hx hb (D_42 W_prog_15_method_75_code_0 11 rfl rfl) rfl (lv_at hl 1 rfl) ?_
  refine zget (ci := 14) (C := RX14) (T := TX14) (v := va_rf (zrf ad 13 (F 14 0 6))) (k := 6) hx hb hts inW_14 hown hK hZ (by decide) (by decide) rfl (by decide) k_11_4 rfl (D_180 W_prog_15_method_75_code_0 12 rfl rfl rfl) ?_
  refine lv_iload_n hx hb (D_28 W_prog_15_method_75_code_0 15 rfl rfl) rfl (lv_at hl 0 rfl) ?_
  refine lv_sipush (v := iI 1000) hx hb (D_17 W_prog_15_method_75_code_0 16 rfl rfl rfl) (by decide) ?_
  refine lv_aload_n hx hb (D_42 W_prog_15_method_75_code_0 19 rfl rfl) rfl (lv_at hl 1 rfl) ?_
  refine zget (ci := 14) (C := RX14) (T := TX14) (v := .int (iI (F 14 0 35))) (k := 35) hx hb hts inW_14 hown hK hZ (by decide) (by decide) rfl (by decide) k_11_33 rfl (D_180 W_prog_15_method_75_code_0 20 rfl rfl rfl) ?_
  refine zmul hx hb (D_104 W_prog_15_method_75_code_0 23 rfl rfl) ?_
  refine lv_aload_n hx hb (D_42 W_prog_15_method_75_code_0 24 rfl rfl) rfl (lv_at hl 1 rfl) ?_
  refine zget (ci := 14) (C := RX14) (T := TX14) (v := .int (iI (F 14 0 36))) (k := 36) hx hb hts inW_14 hown hK hZ (by decide) (by decide) rfl (by decide) k_11_34 rfl (D_180 W_prog_15_method_75_code_0 25 rfl rfl rfl) ?_
  refine zadd hx hb (D_96 W_prog_15_method_75_code_0 28 rfl rfl) ?_
  obtain ⟨g1, hf⟩ := gif hf
  refine W.eq (g2 := F0 m 29 ls [.int (iI ((1000 * (F 14 0 35)) + (F 14 0 36))), .int (iI ((1000 * (F 14 0 35)) + l1)), .ref (ad 13 (F 14 0 6) 0)]) (by rw [zrf_pos (ad := ad) (t := 13) g1.1]; try rfl) ?_
  obtain ⟨r2, F2, B2, hc2, hf⟩ := gbind hf
  refine va_calli (va_runS (As := [.ref (ad 13 (F 14 0 6) 0), .int (iI ((1000 * (F 14 0 35)) + l1)), .int (iI ((1000 * (F 14 0 35)) + (F 14 0 36)))]) (rest := []) ⟨hx, hb, hml, hown, hts⟩ (c_M_lastOuter (l := l) hc2) (va_cwS 3 hts (gdS k_15_42 k_15_43 k_1_9 k_15_44) rfl rfl rfl (by decide +kernel) ⟨Nat.le_of_ble_eq_true rfl, Nat.le_of_ble_eq_true rfl⟩) (zPS X hZ hS [.ref (ad 13 (F 14 0 6) 0), .int (iI ((1000 * (F 14 0 35)) + l1)), .int (iI ((1000 * (F 14 0 35)) + (F 14 0 36)))]) rfl rfl hl.1 rfl (lv_room (Nat.le_of_ble_eq_true rfl)) (D_184 W_prog_15_method_75_code_0 29 rfl rfl rfl) ⟨Nat.le_of_ble_eq_true rfl, Nat.le_of_ble_eq_true rfl⟩) hS (fun q _ h => zAin X hS q h) (zAin X hS) (fun p2 u2 t2 H2 locs2 ht2 hv2 hw2 hB2 hz2 hk2 hS2 => ?_)
  have hZ2 := zBack X ht2 hB2
  subst hw2
  refine lv_istore_n (lv' := [(3, .int (iI r2)), (2, .int (iI ((1000 * (F 14 0 35)) + l1))), (0, .ref (ad 14 0 0)), (1, .int (iI l1))]) hx hb (D_62 W_prog_15_method_75_code_32 0 rfl rfl) rfl hl (by decide) rfl (fun ls hl => ?_)
  refine lv_aload_n hx hb (D_42 W_prog_15_method_75_code_32 1 rfl rfl) rfl (lv_at hl 2 rfl) ?_
  refine lv_aload_n hx hb (D_42 W_prog_15_method_75_code_32 2 rfl rfl) rfl (lv_at hl 2 rfl) ?_
  refine zget (ci := 14) (C := RX14) (T := TX14) (v := va_rf (zrf ad 13 (F2 14 0 6))) (k := 6) hx hb hts inW_14 hown hK hZ2 (by decide) (by decide) rfl (by decide) k_11_4 rfl (D_180 W_prog_15_method_75_code_32 3 rfl rfl rfl) ?_
  obtain ⟨g3, hf⟩ := gif hf
  refine zunrf g3.1 ?_
  refine zget (ci := 13) (C := RX13) (T := TX13) (v := .ref (ad 13 (F2 14 0 6) (14 + 1))) (k := 14) hx hb hts inW_13 hown hK hZ2 g3.1 g3.2 rfl (by decide) k_9_146 rfl (D_180 W_prog_15_method_75_code_32 6 rfl rfl rfl) ?_
  refine lv_iload_n hx hb (D_29 W_prog_15_method_75_code_32 9 rfl rfl) rfl (lv_at hl 0 rfl) ?_
  obtain ⟨g4, hf⟩ := gif hf
  refine zlald (ci := 13) (k := 14) hx hb hK rfl hZ2 g3.1 g3.2 rfl (Nat.le_of_ble_eq_true rfl) g4.1 g4.2 (D_47 W_prog_15_method_75_code_32 10 rfl rfl) ?_
  refine lv_aload_n hx hb (D_42 W_prog_15_method_75_code_32 11 rfl rfl) rfl (lv_at hl 2 rfl) ?_
  refine zget (ci := 14) (C := RX14) (T := TX14) (v := va_rf (zrf ad 13 (F2 14 0 6))) (k := 6) hx hb hts inW_14 hown hK hZ2 (by decide) (by decide) rfl (by decide) k_11_4 rfl (D_180 W_prog_15_method_75_code_32 12 rfl rfl rfl) ?_
  refine zunrf g3.1 ?_
  refine zget (ci := 13) (C := RX13) (T := TX13) (v := .ref (ad 13 (F2 14 0 6) (15 + 1))) (k := 15) hx hb hts inW_13 hown hK hZ2 g3.1 g3.2 rfl (by decide) k_9_148 rfl (D_180 W_prog_15_method_75_code_32 15 rfl rfl rfl) ?_
  refine lv_iload_n hx hb (D_29 W_prog_15_method_75_code_32 18 rfl rfl) rfl (lv_at hl 0 rfl) ?_
  refine zlald (ci := 13) (k := 15) hx hb hK rfl hZ2 g3.1 g3.2 rfl (Nat.le_of_ble_eq_true rfl) g4.1 g4.2 (D_47 W_prog_15_method_75_code_32 19 rfl rfl) ?_
  refine lv_aload_n hx hb (D_42 W_prog_15_method_75_code_32 20 rfl rfl) rfl (lv_at hl 2 rfl) ?_
  refine zget (ci := 14) (C := RX14) (T := TX14) (v := va_rf (zrf ad 13 (F2 14 0 6))) (k := 6) hx hb hts inW_14 hown hK hZ2 (by decide) (by decide) rfl (by decide) k_11_4 rfl (D_180 W_prog_15_method_75_code_32 21 rfl rfl rfl) ?_
  refine zunrf g3.1 ?_
  refine zget (ci := 13) (C := RX13) (T := TX13) (v := .ref (ad 13 (F2 14 0 6) (16 + 1))) (k := 16) hx hb hts inW_13 hown hK hZ2 g3.1 g3.2 rfl (by decide) k_9_150 rfl (D_180 W_prog_15_method_75_code_32 24 rfl rfl rfl) ?_
  refine lv_iload_n hx hb (D_29 W_prog_15_method_75_code_32 27 rfl rfl) rfl (lv_at hl 0 rfl) ?_
  refine zlald (ci := 13) (k := 16) hx hb hK rfl hZ2 g3.1 g3.2 rfl (Nat.le_of_ble_eq_true rfl) g4.1 g4.2 (D_47 W_prog_15_method_75_code_32 28 rfl rfl) ?_
  refine lv_aload_n hx hb (D_42 W_prog_15_method_75_code_32 29 rfl rfl) rfl (lv_at hl 2 rfl) ?_
  refine zget (ci := 14) (C := RX14) (T := TX14) (v := va_rf (zrf ad 13 (F2 14 0 6))) (k := 6) hx hb hts inW_14 hown hK hZ2 (by decide) (by decide) rfl (by decide) k_11_4 rfl (D_180 W_prog_15_method_75_code_32 30 rfl rfl rfl) ?_
  refine zunrf g3.1 ?_
  refine zget (ci := 13) (C := RX13) (T := TX13) (v := .ref (ad 13 (F2 14 0 6) (17 + 1))) (k := 17) hx hb hts inW_13 hown hK hZ2 g3.1 g3.2 rfl (by decide) k_9_152 rfl (D_180 W_prog_15_method_75_code_64 1 rfl rfl rfl) ?_
  refine lv_iload_n hx hb (D_29 W_prog_15_method_75_code_64 4 rfl rfl) rfl (lv_at hl 0 rfl) ?_
  refine zlald (ci := 13) (k := 17) hx hb hK rfl hZ2 g3.1 g3.2 rfl (Nat.le_of_ble_eq_true rfl) g4.1 g4.2 (D_47 W_prog_15_method_75_code_64 5 rfl rfl) ?_
  obtain ⟨r5, F5, B5, hc5, hf⟩ := gbind hf
  refine va_callv (va_runV (As := [.long (lI (B2 13 (F2 14 0 6) 14 r2)), .long (lI (B2 13 (F2 14 0 6) 15 r2)), .long (lI (B2 13 (F2 14 0 6) 16 r2)), .long (lI (B2 13 (F2 14 0 6) 17 r2))]) (rest := []) ⟨hx, hb, hml, hown, hts⟩ (c_M_plus (l := l) hc5) (cwV 4 hts (gdV k_12_147 k_12_149 ks_135 k_1_9 k_12_150) rfl rfl rfl (by decide +kernel) ⟨Nat.le_of_ble_eq_true rfl, Nat.le_of_ble_eq_true rfl⟩) (zPV X hZ2 hS2 (ci := 14) (by decide) (by decide) (r := (RX14, TX14, 107)) rfl [.long (lI (B2 13 (F2 14 0 6) 14 r2)), .long (lI (B2 13 (F2 14 0 6) 15 r2)), .long (lI (B2 13 (F2 14 0 6) 16 r2)), .long (lI (B2 13 (F2 14 0 6) 17 r2))]) rfl rfl hl.1 rfl (lv_room (Nat.le_of_ble_eq_true rfl)) (D_182 W_prog_15_method_75_code_64 6 rfl rfl rfl) ⟨Nat.le_of_ble_eq_true rfl, Nat.le_of_ble_eq_true rfl⟩) hS2 (fun q _ h => zAin X hS2 q h) (zAin X hS2) (fun u5 t5 H5 locs5 ht5 hv5 hw5 hB5 hz5 hk5 hS5 => ?_)
  have hZ5 := zBack X ht5 hB5
  refine lv_aload_n hx hb (D_42 W_prog_15_method_75_code_64 9 rfl rfl) rfl (lv_at hl 2 rfl) ?_
  refine zget (ci := 14) (C := RX14) (T := TX14) (v := .long (lI (F5 14 0 0))) (k := 0) hx hb hts inW_14 hown hK hZ5 (by decide) (by decide) rfl (by decide) k_10_238 rfl (D_180 W_prog_15_method_75_code_64 10 rfl rfl rfl) ?_
  refine lv_lstore (lv' := [(4, .long (lI (F5 14 0 0))), (3, .int (iI r2)), (2, .int (iI ((1000 * (F 14 0 35)) + l1))), (0, .ref (ad 14 0 0)), (1, .int (iI l1))]) hx hb (D_55 W_prog_15_method_75_code_64 13 rfl rfl) hl (by decide) rfl (fun ls hl => ?_)
  refine lv_aload_n hx hb (D_42 W_prog_15_method_75_code_64 15 rfl rfl) rfl (lv_at hl 3 rfl) ?_
  refine zget (ci := 14) (C := RX14) (T := TX14) (v := .long (lI (F5 14 0 1))) (k := 1) hx hb hts inW_14 hown hK hZ5 (by decide) (by decide) rfl (by decide) k_10_239 rfl (D_180 W_prog_15_method_75_code_64 16 rfl rfl rfl) ?_
  refine lv_lstore (lv' := [(6, .long (lI (F5 14 0 1))), (4, .long (lI (F5 14 0 0))), (3, .int (iI r2)), (2, .int (iI ((1000 * (F 14 0 35)) + l1))), (0, .ref (ad 14 0 0)), (1, .int (iI l1))]) hx hb (D_55 W_prog_15_method_75_code_64 19 rfl rfl) hl (by decide) rfl (fun ls hl => ?_)
  refine lv_aload_n hx hb (D_42 W_prog_15_method_75_code_64 21 rfl rfl) rfl (lv_at hl 4 rfl) ?_
  refine zget (ci := 14) (C := RX14) (T := TX14) (v := va_rf (zrf ad 13 (F5 14 0 6))) (k := 6) hx hb hts inW_14 hown hK hZ5 (by decide) (by decide) rfl (by decide) k_11_4 rfl (D_180 W_prog_15_method_75_code_64 22 rfl rfl rfl) ?_
  obtain ⟨g6, hf⟩ := gif hf
  refine zunrf g6.1 ?_
  refine zget (ci := 13) (C := RX13) (T := TX13) (v := .ref (ad 13 (F5 14 0 6) (14 + 1))) (k := 14) hx hb hts inW_13 hown hK hZ5 g6.1 g6.2 rfl (by decide) k_9_146 rfl (D_180 W_prog_15_method_75_code_64 25 rfl rfl rfl) ?_
  refine lv_iload_n hx hb (D_28 W_prog_15_method_75_code_64 28 rfl rfl) rfl (lv_at hl 3 rfl) ?_
  obtain ⟨g7, hf⟩ := gif hf
  refine zlald (ci := 13) (k := 14) hx hb hK rfl hZ5 g6.1 g6.2 rfl (Nat.le_of_ble_eq_true rfl) g7.1 g7.2 (D_47 W_prog_15_method_75_code_64 29 rfl rfl) ?_
  refine lv_aload_n hx hb (D_42 W_prog_15_method_75_code_64 30 rfl rfl) rfl (lv_at hl 4 rfl) ?_
  refine zget (ci := 14) (C := RX14) (T := TX14) (v := va_rf (zrf ad 13 (F5 14 0 6))) (k := 6) hx hb hts inW_14 hown hK hZ5 (by decide) (by decide) rfl (by decide) k_11_4 rfl (D_180 W_prog_15_method_75_code_64 31 rfl rfl rfl) ?_
  refine zunrf g6.1 ?_
  refine zget (ci := 13) (C := RX13) (T := TX13) (v := .ref (ad 13 (F5 14 0 6) (15 + 1))) (k := 15) hx hb hts inW_13 hown hK hZ5 g6.1 g6.2 rfl (by decide) k_9_148 rfl (D_180 W_prog_15_method_75_code_96 2 rfl rfl rfl) ?_
  refine lv_iload_n hx hb (D_28 W_prog_15_method_75_code_96 5 rfl rfl) rfl (lv_at hl 3 rfl) ?_
  refine zlald (ci := 13) (k := 15) hx hb hK rfl hZ5 g6.1 g6.2 rfl (Nat.le_of_ble_eq_true rfl) g7.1 g7.2 (D_47 W_prog_15_method_75_code_96 6 rfl rfl) ?_
  refine lv_aload_n hx hb (D_42 W_prog_15_method_75_code_96 7 rfl rfl) rfl (lv_at hl 4 rfl) ?_
  refine zget (ci := 14) (C := RX14) (T := TX14) (v := va_rf (zrf ad 13 (F5 14 0 6))) (k := 6) hx hb hts inW_14 hown hK hZ5 (by decide) (by decide) rfl (by decide) k_11_4 rfl (D_180 W_prog_15_method_75_code_96 8 rfl rfl rfl) ?_
  refine zunrf g6.1 ?_
  refine zget (ci := 13) (C := RX13) (T := TX13) (v := .int (iI (F5 13 (F5 14 0 6) 4))) (k := 4) hx hb hts inW_13 hown hK hZ5 g6.1 g6.2 rfl (by decide) k_9_129 rfl (D_180 W_prog_15_method_75_code_96 11 rfl rfl rfl) ?_
  obtain ⟨g8, hf⟩ := gif hf
  refine zi2l hx hb g8 (D_133 W_prog_15_method_75_code_96 14 rfl rfl) ?_
  refine lv_aload_n hx hb (D_42 W_prog_15_method_75_code_96 15 rfl rfl) rfl (lv_at hl 4 rfl) ?_
  refine zget (ci := 14) (C := RX14) (T := TX14) (v := va_rf (zrf ad 13 (F5 14 0 6))) (k := 6) hx hb hts inW_14 hown hK hZ5 (by decide) (by decide) rfl (by decide) k_11_4 rfl (D_180 W_prog_15_method_75_code_96 16 rfl rfl rfl) ?_
  refine zunrf g6.1 ?_
  refine zget (ci := 13) (C := RX13) (T := TX13) (v := .int (iI (F5 13 (F5 14 0 6) 5))) (k := 5) hx hb hts inW_13 hown hK hZ5 g6.1 g6.2 rfl (by decide) k_9_130 rfl (D_180 W_prog_15_method_75_code_96 19 rfl rfl rfl) ?_
  obtain ⟨g9, hf⟩ := gif hf
  refine zi2l hx hb g9 (D_133 W_prog_15_method_75_code_96 22 rfl rfl) ?_
  obtain ⟨r10, F10, B10, hc10, hf⟩ := gbind hf
  refine va_calll (va_runS (As := [.long (lI (B5 13 (F5 14 0 6) 14 ((1000 * (F 14 0 35)) + l1))), .long (lI (B5 13 (F5 14 0 6) 15 ((1000 * (F 14 0 35)) + l1))), .long (lI (F5 13 (F5 14 0 6) 4)), .long (lI (F5 13 (F5 14 0 6) 5))]) (rest := []) ⟨hx, hb, hml, hown, hts⟩ (c_M_often (l := l) hc10) (va_cwS 4 hts (gdS k_13_144 k_13_145 k_1_9 k_13_146) rfl rfl rfl (by decide +kernel) ⟨Nat.le_of_ble_eq_true rfl, Nat.le_of_ble_eq_true rfl⟩) (zPS X hZ5 hS5 [.long (lI (B5 13 (F5 14 0 6) 14 ((1000 * (F 14 0 35)) + l1))), .long (lI (B5 13 (F5 14 0 6) 15 ((1000 * (F 14 0 35)) + l1))), .long (lI (F5 13 (F5 14 0 6) 4)), .long (lI (F5 13 (F5 14 0 6) 5))]) rfl rfl hl.1 rfl (lv_room (Nat.le_of_ble_eq_true rfl)) (D_184 W_prog_15_method_75_code_96 23 rfl rfl rfl) ⟨Nat.le_of_ble_eq_true rfl, Nat.le_of_ble_eq_true rfl⟩) hS5 (fun q _ h => zAin X hS5 q h) (zAin X hS5) (fun p10 u10 t10 H10 locs10 ht10 hv10 hw10 hB10 hz10 hk10 hS10 => ?_)
  have hZ10 := zBack X ht10 hB10
  subst hw10
  refine lv_lstore (lv' := [(8, .long (lI r10)), (6, .long (lI (F5 14 0 1))), (4, .long (lI (F5 14 0 0))), (3, .int (iI r2)), (2, .int (iI ((1000 * (F 14 0 35)) + l1))), (0, .ref (ad 14 0 0)), (1, .int (iI l1))]) hx hb (D_55 W_prog_15_method_75_code_96 26 rfl rfl) hl (by decide) rfl (fun ls hl => ?_)
  refine lv_lload hx hb (D_22 W_prog_15_method_75_code_96 28 rfl rfl) (lv_at hl 2 rfl) ?_
  refine lv_lload hx hb (D_22 W_prog_15_method_75_code_96 30 rfl rfl) (lv_at hl 1 rfl) ?_
  refine lv_lload hx hb (D_22 W_prog_15_method_75_code_128 0 rfl rfl) (lv_at hl 0 rfl) ?_
  refine lv_lconst (v := lI 1) hx hb (D_10 W_prog_15_method_75_code_128 2 rfl rfl) (by decide) ?_
  refine zladd hx hb (D_97 W_prog_15_method_75_code_128 3 rfl rfl) ?_
  refine lv_aload_n hx hb (D_42 W_prog_15_method_75_code_128 4 rfl rfl) rfl (lv_at hl 5 rfl) ?_
  refine zget (ci := 14) (C := RX14) (T := TX14) (v := va_rf (zrf ad 13 (F10 14 0 6))) (k := 6) hx hb hts inW_14 hown hK hZ10 (by decide) (by decide) rfl (by decide) k_11_4 rfl (D_180 W_prog_15_method_75_code_128 5 rfl rfl rfl) ?_
  obtain ⟨g11, hf⟩ := gif hf
  refine zunrf g11.1 ?_
  refine zget (ci := 13) (C := RX13) (T := TX13) (v := .int (iI (F10 13 (F10 14 0 6) 4))) (k := 4) hx hb hts inW_13 hown hK hZ10 g11.1 g11.2 rfl (by decide) k_9_129 rfl (D_180 W_prog_15_method_75_code_128 8 rfl rfl rfl) ?_
  obtain ⟨g12, hf⟩ := gif hf
  refine zi2l hx hb g12 (D_133 W_prog_15_method_75_code_128 11 rfl rfl) ?_
  refine zlmul hx hb (D_105 W_prog_15_method_75_code_128 12 rfl rfl) ?_
  refine lv_aload_n hx hb (D_42 W_prog_15_method_75_code_128 13 rfl rfl) rfl (lv_at hl 5 rfl) ?_
  refine zget (ci := 14) (C := RX14) (T := TX14) (v := va_rf (zrf ad 13 (F10 14 0 6))) (k := 6) hx hb hts inW_14 hown hK hZ10 (by decide) (by decide) rfl (by decide) k_11_4 rfl (D_180 W_prog_15_method_75_code_128 14 rfl rfl rfl) ?_
  refine zunrf g11.1 ?_
  refine zget (ci := 13) (C := RX13) (T := TX13) (v := .int (iI (F10 13 (F10 14 0 6) 5))) (k := 5) hx hb hts inW_13 hown hK hZ10 g11.1 g11.2 rfl (by decide) k_9_130 rfl (D_180 W_prog_15_method_75_code_128 17 rfl rfl rfl) ?_
  obtain ⟨g13, hf⟩ := gif hf
  refine zi2l hx hb g13 (D_133 W_prog_15_method_75_code_128 20 rfl rfl) ?_
  obtain ⟨r14, F14, B14, hc14, hf⟩ := gbind hf
  refine va_calli (va_runS (As := [.long (lI (F5 14 0 0)), .long (lI (F5 14 0 1)), .long (lI ((r10 + 1) * (F10 13 (F10 14 0 6) 4))), .long (lI (F10 13 (F10 14 0 6) 5))]) (rest := []) ⟨hx, hb, hml, hown, hts⟩ (c_M_compare (l := l) hc14) (va_cwS 4 hts (gdS k_13_104 k_13_105 k_1_9 k_13_106) rfl rfl rfl (by decide +kernel) ⟨Nat.le_of_ble_eq_true rfl, Nat.le_of_ble_eq_true rfl⟩) (zPS X hZ10 hS10 [.long (lI (F5 14 0 0)), .long (lI (F5 14 0 1)), .long (lI ((r10 + 1) * (F10 13 (F10 14 0 6) 4))), .long (lI (F10 13 (F10 14 0 6) 5))]) rfl rfl hl.1 rfl (lv_room (Nat.le_of_ble_eq_true rfl)) (D_184 W_prog_15_method_75_code_128 21 rfl rfl rfl) ⟨Nat.le_of_ble_eq_true rfl, Nat.le_of_ble_eq_true rfl⟩) hS10 (fun q _ h => zAin X hS10 q h) (zAin X hS10) (fun p14 u14 t14 H14 locs14 ht14 hv14 hw14 hB14 hz14 hk14 hS14 => ?_)
  have hZ14 := zBack X ht14 hB14
  subst hw14
  obtain ⟨g15, hf⟩ := gif hf
  refine z0gt (tgt := 159) hx hb g15 (D_157 W_prog_15_method_75_code_128 24 rfl rfl rfl) (by decide) (fun h16 => ?_) (fun h16 => ?_)
  · replace hf := gpos hf h16
    refine lv_iconst (v := iI 0) hx hb (D_3 W_prog_15_method_75_code_128 31 rfl rfl) rfl ?_
    exact b_M_judgeOuter_160 X hf hZ14 hS14 (lv_sub hl [1, 2, 4, 5] rfl)
  · replace hf := gneg hf h16
    refine lv_iconst (v := iI 1) hx hb (D_4 W_prog_15_method_75_code_128 27 rfl rfl) rfl ?_
    refine lv_goto (tgt := 160) hx hb (D_167 W_prog_15_method_75_code_128 28 rfl rfl rfl) (by decide) ?_
    exact b_M_judgeOuter_160 X hf hZ14 hS14 (lv_sub hl [1, 2, 4, 5] rfl)

abbrev Q_M_highest (D : va_G) (ca : Nat → ClassId) (ad : Nat → Int → Nat → Nat) (L : List Nat) (r : Int) (F : zF) (B : zB) (A : Nat → Prop) : Array Value → State → Outcome → State → Prop := va_Qi (S := Unit) (fun p _ => p = iI r) (fun _ => zPo D ca ad lnM nM L F B A) A
def f_M_highest (K : Nat) (l0 : Int) (l1 : Int) (l2 : Int) (F : zF) (B : zB) : zO := if 0 ≤ l0 ∧ l0 < 3 then if 0 ≤ l2 ∧ l2 < 4000 then if 0 ≤ (((6 * l2) + (B 13 l0 21 l2)) - 1) ∧ (((6 * l2) + (B 13 l0 21 l2)) - 1) < 24000 then zbind (f_M_height K l0 l1 (B 13 l0 28 (((6 * l2) + (B 13 l0 21 l2)) - 1)) F B) (fun r4 F4 B4 => some (r4, F4, B4)) else none else none else none
set_option maxHeartbeats 4000000 in
set_option maxRecDepth 100000 in
theorem c_M_highest {l : Launch} {D : va_G} {ca : Nat → ClassId} {ad : Nat → Int → Nat → Nat} {L : List Nat} {aS vS : Nat → Nat} {sz K : Nat}  {l0 : Int} {l1 : Int} {l2 : Int} {F F9 : zF} {B B9 : zB} {r : Int} (hf : f_M_highest K l0 l1 l2 F B = some (r, F9, B9)) : Met l ({ cls := "StaveHouseModel", name := "highest", desc := "(LStaveHouseModel$Piece;II)I" } : Jvm.MethodName) (Cond.code ({ cls := "StaveHouseModel", name := "highest", desc := "(LStaveHouseModel$Piece;II)I" } : Jvm.MethodName) prog_15_method_97_code 3 (Option.some Jvm.ClassFile.FieldType.int) :: wAll) ({ frames := 1, cells := 0, slots := 0, locals := 23 } : Room) (va_Pc [.ref (ad 13 l0 0), .int (iI l1), .int (iI l2)] (zPre D ca ad lnM nM L aS vS F B sz)) (Q_M_highest D ca ad L r F9 B9 (zA L sz)) 0 0 (zA L sz) := by
  refine zMet (Qc := Q_M_highest D ca ad L r F9 B9) (lv := [(0, .ref (ad 13 l0 0)), (1, .int (iI l1)), (2, .int (iI l2))]) (by decide) (Nat.le_of_ble_eq_true rfl) rfl (fun A p e s m below meth c ls X hZ hS hl => ?_)
  obtain ⟨hx, hb, hr, hml, hown, hts, hlk, hK, hA, hL, hX⟩ := id X
  replace hf : (if 0 ≤ l0 ∧ l0 < 3 then if 0 ≤ l2 ∧ l2 < 4000 then if 0 ≤ (((6 * l2) + (B 13 l0 21 l2)) - 1) ∧ (((6 * l2) + (B 13 l0 21 l2)) - 1) < 24000 then zbind (f_M_height K l0 l1 (B 13 l0 28 (((6 * l2) + (B 13 l0 21 l2)) - 1)) F B) (fun r4 F4 B4 => some (r4, F4, B4)) else none else none else none) = some (r, F9, B9) := hf
  refine lv_aload_n hx hb (D_42 W_prog_15_method_97_code_0 0 rfl rfl) rfl (lv_at hl 0 rfl) ?_
  refine lv_iload_n hx hb (D_27 W_prog_15_method_97_code_0 1 rfl rfl) rfl (lv_at hl 1 rfl) ?_
  refine lv_aload_n hx hb (D_42 W_prog_15_method_97_code_0 2 rfl rfl) rfl (lv_at hl 0 rfl) ?_
  obtain ⟨g1, hf⟩ := gif hf
  refine zget (ci := 13) (C := RX13) (T := TX13) (v := .ref (ad 13 l0 (28 + 1))) (k := 28) hx hb hts inW_13 hown hK hZ g1.1 g1.2 rfl (by decide) k_9_174 rfl (D_180 W_prog_15_method_97_code_0 3 rfl rfl rfl) ?_
  refine lv_bipush (v := iI 6) hx hb (D_16 W_prog_15_method_97_code_0 6 rfl rfl rfl) (by decide) ?_
  refine lv_iload_n hx hb (D_28 W_prog_15_method_97_code_0 8 rfl rfl) rfl (lv_at hl 2 rfl) ?_
  refine zmul hx hb (D_104 W_prog_15_method_97_code_0 9 rfl rfl) ?_
  refine lv_aload_n hx hb (D_42 W_prog_15_method_97_code_0 10 rfl rfl) rfl (lv_at hl 0 rfl) ?_
  refine zget (ci := 13) (C := RX13) (T := TX13) (v := .ref (ad 13 l0 (21 + 1))) (k := 21) hx hb hts inW_13 hown hK hZ g1.1 g1.2 rfl (by decide) k_9_160 rfl (D_180 W_prog_15_method_97_code_0 11 rfl rfl rfl) ?_
  refine lv_iload_n hx hb (D_28 W_prog_15_method_97_code_0 14 rfl rfl) rfl (lv_at hl 2 rfl) ?_
  obtain ⟨g2, hf⟩ := gif hf
  refine zald (ci := 13) (k := 21) hx hb hK rfl hZ g1.1 g1.2 rfl (Nat.le_of_ble_eq_true rfl) g2.1 g2.2 (D_46 W_prog_15_method_97_code_0 15 rfl rfl) ?_
  refine zadd hx hb (D_96 W_prog_15_method_97_code_0 16 rfl rfl) ?_
  refine lv_iconst (v := iI 1) hx hb (D_4 W_prog_15_method_97_code_0 17 rfl rfl) rfl ?_
  refine zsub hx hb (D_100 W_prog_15_method_97_code_0 18 rfl rfl) ?_
  obtain ⟨g3, hf⟩ := gif hf
  refine zald (ci := 13) (k := 28) hx hb hK rfl hZ g1.1 g1.2 rfl (Nat.le_of_ble_eq_true rfl) g3.1 g3.2 (D_46 W_prog_15_method_97_code_0 19 rfl rfl) ?_
  obtain ⟨r4, F4, B4, hc4, hf⟩ := gbind hf
  refine va_calli (va_runS (As := [.ref (ad 13 l0 0), .int (iI l1), .int (iI (B 13 l0 28 (((6 * l2) + (B 13 l0 21 l2)) - 1)))]) (rest := []) ⟨hx, hb, hml, hown, hts⟩ (c_M_height (l := l) hc4) (va_cwS 3 hts (gdS k_15_71 k_15_72 k_1_9 k_15_73) rfl rfl rfl (by decide +kernel) ⟨Nat.le_of_ble_eq_true rfl, Nat.le_of_ble_eq_true rfl⟩) (zPS X hZ hS [.ref (ad 13 l0 0), .int (iI l1), .int (iI (B 13 l0 28 (((6 * l2) + (B 13 l0 21 l2)) - 1)))]) rfl rfl hl.1 rfl (lv_room (Nat.le_of_ble_eq_true rfl)) (D_184 W_prog_15_method_97_code_0 20 rfl rfl rfl) ⟨Nat.le_of_ble_eq_true rfl, Nat.le_of_ble_eq_true rfl⟩) hS (fun q _ h => zAin X hS q h) (zAin X hS) (fun p4 u4 t4 H4 locs4 ht4 hv4 hw4 hB4 hz4 hk4 hS4 => ?_)
  have hZ4 := zBack X ht4 hB4
  subst hw4
  cases hf
  exact W.iret hx hb hr (fun t ht hW => ⟨⟨_, (), rfl, rfl, by rw [ht]; exact hZ4, va_K.moved hW.alike hK⟩, hS4.F ht⟩) hS4.2.2 (D_172 W_prog_15_method_97_code_0 23 rfl rfl) hlk

abbrev Q_M_isTogether (D : va_G) (ca : Nat → ClassId) (ad : Nat → Int → Nat → Nat) (L : List Nat) (r : Int) (F : zF) (B : zB) (A : Nat → Prop) : Array Value → State → Outcome → State → Prop := va_Qi (S := Unit) (fun p _ => p = iI r) (fun _ => zPo D ca ad lnM nM L F B A) A
def f_M_isTogether_122 (K : Nat) (s0 : Int) (F : zF) (B : zB) : zO := if (s0 = 0 ∨ s0 = 1) then some (s0, F, B) else none
set_option maxHeartbeats 4000000 in
set_option maxRecDepth 100000 in
theorem b_M_isTogether_122 {D : va_G} {ca : Nat → ClassId} {ad : Nat → Int → Nat → Nat} {L : List Nat} {aS vS : Nat → Nat} {A : Nat → Prop} {p : Program} {l : Launch} {e : Env} {s : State} {m : MethodId} {args : Array Value} {below : List Frame} {meth : Method} {c : Code} {K : Nat} {r : Int} {F9 : zF} {B9 : zB} (X : zX D ca L aS vS A p s m args meth c prog_15_method_100_code 7 (Option.some Jvm.ClassFile.FieldType.boolean) "StaveHouseModel") {s0 : Int} {F : zF} {B : zB} {H : Heap} {locs : List Loc} {ls : Array Slot} (hf : f_M_isTogether_122 K s0 F B = some (r, F9, B9)) (hZ : zH D ca ad lnM nM L F B A H) (hS : va_S A s.heap H locs) (hl : lv_has ls 7 []) : W p l e ({ frames := 2, cells := 0, slots := 0, locals := 46 } : Room) s m args below meth c H locs 0 0 (MQ below (Q_M_isTogether D ca ad L r F9 B9 A) args s 0 0 A) (F0 m 122 ls [.int (iI s0)]) := by
  obtain ⟨hx, hb, hr, hml, hown, hts, hlk, hK, hA, hL, hX⟩ := id X
  replace hf : (if (s0 = 0 ∨ s0 = 1) then some (s0, F, B) else none) = some (r, F9, B9) := hf
  obtain ⟨g24, hf⟩ := gif hf
  cases hf
  exact W.zret hx hb hr (zbool g24) (fun t ht hW => ⟨⟨_, (), rfl, rfl, by rw [ht]; exact hZ, va_K.moved hW.alike hK⟩, hS.F ht⟩) hS.2.2 (D_172 W_prog_15_method_100_code_96 26 rfl rfl) hlk

def f_M_isTogether_57 (K : Nat)  (F : zF) (B : zB) : zO := some (0, F, B)
set_option maxHeartbeats 4000000 in
set_option maxRecDepth 100000 in
theorem b_M_isTogether_57 {D : va_G} {ca : Nat → ClassId} {ad : Nat → Int → Nat → Nat} {L : List Nat} {aS vS : Nat → Nat} {A : Nat → Prop} {p : Program} {l : Launch} {e : Env} {s : State} {m : MethodId} {args : Array Value} {below : List Frame} {meth : Method} {c : Code} {K : Nat} {r : Int} {F9 : zF} {B9 : zB} (X : zX D ca L aS vS A p s m args meth c prog_15_method_100_code 7 (Option.some Jvm.ClassFile.FieldType.boolean) "StaveHouseModel")  {F : zF} {B : zB} {H : Heap} {locs : List Loc} {ls : Array Slot} (hf : f_M_isTogether_57 K  F B = some (r, F9, B9)) (hZ : zH D ca ad lnM nM L F B A H) (hS : va_S A s.heap H locs) (hl : lv_has ls 7 []) : W p l e ({ frames := 2, cells := 0, slots := 0, locals := 46 } : Room) s m args below meth c H locs 0 0 (MQ below (Q_M_isTogether D ca ad L r F9 B9 A) args s 0 0 A) (F0 m 57 ls []) := by
  obtain ⟨hx, hb, hr, hml, hown, hts, hlk, hK, hA, hL, hX⟩ := id X
  replace hf : (some (0, F, B)) = some (r, F9, B9) := hf
  refine lv_iconst (v := iI 0) hx hb (D_3 W_prog_15_method_100_code_32 25 rfl rfl) rfl ?_
  cases hf
  exact W.zret hx hb hr rfl (fun t ht hW => ⟨⟨_, (), rfl, rfl, by rw [ht]; exact hZ, va_K.moved hW.alike hK⟩, hS.F ht⟩) hS.2.2 (D_172 W_prog_15_method_100_code_32 26 rfl rfl) hlk

def f_M_isTogether (K : Nat) (l1 : Int) (l2 : Int) (l3 : Int) (l4 : Int) (F : zF) (B : zB) : zO := zbind (f_M_isBeamed K l1 l2 l3 F B) (fun r1 F1 B1 => if r32 r1 then (if r1 = 0 then f_M_isTogether_57 K F1 B1 else zbind (f_M_isBeamed K l1 l2 l4 F1 B1) (fun r4 F4 B4 => if r32 r4 then (if r4 = 0 then f_M_isTogether_57 K F4 B4 else if 0 ≤ l1 ∧ l1 < 3 then if 0 ≤ ((800 * l2) + l3) ∧ ((800 * l2) + l3) < 3200 then if 0 ≤ ((800 * l2) + l4) ∧ ((800 * l2) + l4) < 3200 then if r32 (B4 13 l1 31 ((800 * l2) + l3)) then if r32 (B4 13 l1 31 ((800 * l2) + l4)) then (if (B4 13 l1 31 ((800 * l2) + l3)) = (B4 13 l1 31 ((800 * l2) + l4)) then zbind (f_M_beat K l1 F4 B4) (fun r13 F13 B13 => if r32 r13 then if r32 (F13 13 l1 5) then zbind (f_M_often K (B4 13 l1 32 ((800 * l2) + l3)) (B4 13 l1 33 ((800 * l2) + l3)) r13 (F13 13 l1 5) F13 B13) (fun r16 F16 B16 => zbind (f_M_beat K l1 F16 B16) (fun r17 F17 B17 => if r32 r17 then if r32 (F17 13 l1 5) then zbind (f_M_often K (B16 13 l1 32 ((800 * l2) + l4)) (B16 13 l1 33 ((800 * l2) + l4)) r17 (F17 13 l1 5) F17 B17) (fun r20 F20 B20 => if r64 r16 then if r64 r20 then (if (zcmp r16 r20) = 0 then f_M_isTogether_122 K 1 F20 B20 else f_M_isTogether_122 K 0 F20 B20) else none else none) else none else none)) else none else none) else f_M_isTogether_57 K F4 B4) else none else none else none else none else none) else none)) else none)
set_option maxHeartbeats 4000000 in
set_option maxRecDepth 100000 in
theorem c_M_isTogether {l : Launch} {D : va_G} {ca : Nat → ClassId} {ad : Nat → Int → Nat → Nat} {L : List Nat} {aS vS : Nat → Nat} {sz K : Nat}  {l1 : Int} {l2 : Int} {l3 : Int} {l4 : Int} {F F9 : zF} {B B9 : zB} {r : Int} (hf : f_M_isTogether K l1 l2 l3 l4 F B = some (r, F9, B9)) : Met l ({ cls := "StaveHouseModel", name := "isTogether", desc := "(LStaveHouseModel$Piece;III)Z" } : Jvm.MethodName) (Cond.code ({ cls := "StaveHouseModel", name := "isTogether", desc := "(LStaveHouseModel$Piece;III)Z" } : Jvm.MethodName) prog_15_method_100_code 7 (Option.some Jvm.ClassFile.FieldType.boolean) :: wAll) ({ frames := 2, cells := 0, slots := 0, locals := 46 } : Room) (va_Pc [.ref (ad 14 0 0), .ref (ad 13 l1 0), .int (iI l2), .int (iI l3), .int (iI l4)] (zPre D ca ad lnM nM L aS vS F B sz)) (Q_M_isTogether D ca ad L r F9 B9 (zA L sz)) 0 0 (zA L sz) := by
  refine zMet (Qc := Q_M_isTogether D ca ad L r F9 B9) (lv := [(0, .ref (ad 14 0 0)), (1, .ref (ad 13 l1 0)), (2, .int (iI l2)), (3, .int (iI l3)), (4, .int (iI l4))]) (by decide) (Nat.le_of_ble_eq_true rfl) rfl (fun A p e s m below meth c ls X hZ hS hl => ?_)
  obtain ⟨hx, hb, hr, hml, hown, hts, hlk, hK, hA, hL, hX⟩ := id X
  replace hf : (zbind (f_M_isBeamed K l1 l2 l3 F B) (fun r1 F1 B1 => if r32 r1 then (if r1 = 0 then f_M_isTogether_57 K F1 B1 else zbind (f_M_isBeamed K l1 l2 l4 F1 B1) (fun r4 F4 B4 => if r32 r4 then (if r4 = 0 then f_M_isTogether_57 K F4 B4 else if 0 ≤ l1 ∧ l1 < 3 then if 0 ≤ ((800 * l2) + l3) ∧ ((800 * l2) + l3) < 3200 then if 0 ≤ ((800 * l2) + l4) ∧ ((800 * l2) + l4) < 3200 then if r32 (B4 13 l1 31 ((800 * l2) + l3)) then if r32 (B4 13 l1 31 ((800 * l2) + l4)) then (if (B4 13 l1 31 ((800 * l2) + l3)) = (B4 13 l1 31 ((800 * l2) + l4)) then zbind (f_M_beat K l1 F4 B4) (fun r13 F13 B13 => if r32 r13 then if r32 (F13 13 l1 5) then zbind (f_M_often K (B4 13 l1 32 ((800 * l2) + l3)) (B4 13 l1 33 ((800 * l2) + l3)) r13 (F13 13 l1 5) F13 B13) (fun r16 F16 B16 => zbind (f_M_beat K l1 F16 B16) (fun r17 F17 B17 => if r32 r17 then if r32 (F17 13 l1 5) then zbind (f_M_often K (B16 13 l1 32 ((800 * l2) + l4)) (B16 13 l1 33 ((800 * l2) + l4)) r17 (F17 13 l1 5) F17 B17) (fun r20 F20 B20 => if r64 r16 then if r64 r20 then (if (zcmp r16 r20) = 0 then f_M_isTogether_122 K 1 F20 B20 else f_M_isTogether_122 K 0 F20 B20) else none else none) else none else none)) else none else none) else f_M_isTogether_57 K F4 B4) else none else none else none else none else none) else none)) else none)) = some (r, F9, B9) := hf
  refine lv_sipush (v := iI 800) hx hb (D_17 W_prog_15_method_100_code_0 0 rfl rfl rfl) (by decide) ?_
  refine lv_iload_n hx hb (D_28 W_prog_15_method_100_code_0 3 rfl rfl) rfl (lv_at hl 2 rfl) ?_
  refine zmul hx hb (D_104 W_prog_15_method_100_code_0 4 rfl rfl) ?_
  refine lv_iload_n hx hb (D_29 W_prog_15_method_100_code_0 5 rfl rfl) rfl (lv_at hl 3 rfl) ?_
  refine zadd hx hb (D_96 W_prog_15_method_100_code_0 6 rfl rfl) ?_
  refine lv_istore (lv' := [(5, .int (iI ((800 * l2) + l3))), (0, .ref (ad 14 0 0)), (1, .ref (ad 13 l1 0)), (2, .int (iI l2)), (3, .int (iI l3)), (4, .int (iI l4))]) hx hb (D_54 W_prog_15_method_100_code_0 7 rfl rfl) hl (by decide) rfl (fun ls hl => ?_)
  refine lv_sipush (v := iI 800) hx hb (D_17 W_prog_15_method_100_code_0 9 rfl rfl rfl) (by decide) ?_
  refine lv_iload_n hx hb (D_28 W_prog_15_method_100_code_0 12 rfl rfl) rfl (lv_at hl 3 rfl) ?_
  refine zmul hx hb (D_104 W_prog_15_method_100_code_0 13 rfl rfl) ?_
  refine lv_iload hx hb (D_21 W_prog_15_method_100_code_0 14 rfl rfl) (lv_at hl 5 rfl) ?_
  refine zadd hx hb (D_96 W_prog_15_method_100_code_0 16 rfl rfl) ?_
  refine lv_istore (lv' := [(6, .int (iI ((800 * l2) + l4))), (5, .int (iI ((800 * l2) + l3))), (0, .ref (ad 14 0 0)), (1, .ref (ad 13 l1 0)), (2, .int (iI l2)), (3, .int (iI l3)), (4, .int (iI l4))]) hx hb (D_54 W_prog_15_method_100_code_0 17 rfl rfl) hl (by decide) rfl (fun ls hl => ?_)
  refine lv_aload_n hx hb (D_42 W_prog_15_method_100_code_0 19 rfl rfl) rfl (lv_at hl 2 rfl) ?_
  refine lv_aload_n hx hb (D_43 W_prog_15_method_100_code_0 20 rfl rfl) rfl (lv_at hl 3 rfl) ?_
  refine lv_iload_n hx hb (D_28 W_prog_15_method_100_code_0 21 rfl rfl) rfl (lv_at hl 4 rfl) ?_
  refine lv_iload_n hx hb (D_29 W_prog_15_method_100_code_0 22 rfl rfl) rfl (lv_at hl 5 rfl) ?_
  obtain ⟨r1, F1, B1, hc1, hf⟩ := gbind hf
  refine va_calli (va_runV (As := [.ref (ad 13 l1 0), .int (iI l2), .int (iI l3)]) (rest := []) ⟨hx, hb, hml, hown, hts⟩ (c_M_isBeamed (l := l) hc1) (cwV 3 hts (gdV k_15_85 k_15_87 ks_247 k_1_9 k_15_88) rfl rfl rfl (by decide +kernel) ⟨Nat.le_of_ble_eq_true rfl, Nat.le_of_ble_eq_true rfl⟩) (zPV X hZ hS (ci := 14) (by decide) (by decide) (r := (RX14, TX14, 107)) rfl [.ref (ad 13 l1 0), .int (iI l2), .int (iI l3)]) rfl rfl hl.1 rfl (lv_room (Nat.le_of_ble_eq_true rfl)) (D_182 W_prog_15_method_100_code_0 23 rfl rfl rfl) ⟨Nat.le_of_ble_eq_true rfl, Nat.le_of_ble_eq_true rfl⟩) hS (fun q _ h => zAin X hS q h) (zAin X hS) (fun p1 u1 t1 H1 locs1 ht1 hv1 hw1 hB1 hz1 hk1 hS1 => ?_)
  have hZ1 := zBack X ht1 hB1
  subst hw1
  obtain ⟨g2, hf⟩ := gif hf
  refine z0eq (tgt := 57) hx hb g2 (D_153 W_prog_15_method_100_code_0 26 rfl rfl rfl) (by decide) (fun h3 => ?_) (fun h3 => ?_)
  · replace hf := gpos hf h3
    exact b_M_isTogether_57 X hf hZ1 hS1 (lv_sub hl [] rfl)
  · replace hf := gneg hf h3
    refine lv_aload_n hx hb (D_42 W_prog_15_method_100_code_0 29 rfl rfl) rfl (lv_at hl 2 rfl) ?_
    refine lv_aload_n hx hb (D_43 W_prog_15_method_100_code_0 30 rfl rfl) rfl (lv_at hl 3 rfl) ?_
    refine lv_iload_n hx hb (D_28 W_prog_15_method_100_code_0 31 rfl rfl) rfl (lv_at hl 4 rfl) ?_
    refine lv_iload hx hb (D_21 W_prog_15_method_100_code_32 0 rfl rfl) (lv_at hl 6 rfl) ?_
    obtain ⟨r4, F4, B4, hc4, hf⟩ := gbind hf
    refine va_calli (va_runV (As := [.ref (ad 13 l1 0), .int (iI l2), .int (iI l4)]) (rest := []) ⟨hx, hb, hml, hown, hts⟩ (c_M_isBeamed (l := l) hc4) (cwV 3 hts (gdV k_15_85 k_15_87 ks_247 k_1_9 k_15_88) rfl rfl rfl (by decide +kernel) ⟨Nat.le_of_ble_eq_true rfl, Nat.le_of_ble_eq_true rfl⟩) (zPV X hZ1 hS1 (ci := 14) (by decide) (by decide) (r := (RX14, TX14, 107)) rfl [.ref (ad 13 l1 0), .int (iI l2), .int (iI l4)]) rfl rfl hl.1 rfl (lv_room (Nat.le_of_ble_eq_true rfl)) (D_182 W_prog_15_method_100_code_32 2 rfl rfl rfl) ⟨Nat.le_of_ble_eq_true rfl, Nat.le_of_ble_eq_true rfl⟩) hS1 (fun q _ h => zAin X hS1 q h) (zAin X hS1) (fun p4 u4 t4 H4 locs4 ht4 hv4 hw4 hB4 hz4 hk4 hS4 => ?_)
    have hZ4 := zBack X ht4 hB4
    subst hw4
    obtain ⟨g5, hf⟩ := gif hf
    refine z0eq (tgt := 57) hx hb g5 (D_153 W_prog_15_method_100_code_32 5 rfl rfl rfl) (by decide) (fun h6 => ?_) (fun h6 => ?_)
    · replace hf := gpos hf h6
      exact b_M_isTogether_57 X hf hZ4 hS4 (lv_sub hl [] rfl)
    · replace hf := gneg hf h6
      refine lv_aload_n hx hb (D_43 W_prog_15_method_100_code_32 8 rfl rfl) rfl (lv_at hl 3 rfl) ?_
      obtain ⟨g7, hf⟩ := gif hf
      refine zget (ci := 13) (C := RX13) (T := TX13) (v := .ref (ad 13 l1 (31 + 1))) (k := 31) hx hb hts inW_13 hown hK hZ4 g7.1 g7.2 rfl (by decide) k_9_180 rfl (D_180 W_prog_15_method_100_code_32 9 rfl rfl rfl) ?_
      refine lv_iload hx hb (D_21 W_prog_15_method_100_code_32 12 rfl rfl) (lv_at hl 1 rfl) ?_
      obtain ⟨g8, hf⟩ := gif hf
      refine zald (ci := 13) (k := 31) hx hb hK rfl hZ4 g7.1 g7.2 rfl (Nat.le_of_ble_eq_true rfl) g8.1 g8.2 (D_46 W_prog_15_method_100_code_32 14 rfl rfl) ?_
      refine lv_aload_n hx hb (D_43 W_prog_15_method_100_code_32 15 rfl rfl) rfl (lv_at hl 3 rfl) ?_
      refine zget (ci := 13) (C := RX13) (T := TX13) (v := .ref (ad 13 l1 (31 + 1))) (k := 31) hx hb hts inW_13 hown hK hZ4 g7.1 g7.2 rfl (by decide) k_9_180 rfl (D_180 W_prog_15_method_100_code_32 16 rfl rfl rfl) ?_
      refine lv_iload hx hb (D_21 W_prog_15_method_100_code_32 19 rfl rfl) (lv_at hl 0 rfl) ?_
      obtain ⟨g9, hf⟩ := gif hf
      refine zald (ci := 13) (k := 31) hx hb hK rfl hZ4 g7.1 g7.2 rfl (Nat.le_of_ble_eq_true rfl) g9.1 g9.2 (D_46 W_prog_15_method_100_code_32 21 rfl rfl) ?_
      obtain ⟨g10, hf⟩ := gif hf
      obtain ⟨g11, hf⟩ := gif hf
      refine zeq (tgt := 59) hx hb g10 g11 (D_159 W_prog_15_method_100_code_32 22 rfl rfl rfl) (by decide) (fun h12 => ?_) (fun h12 => ?_)
      · replace hf := gpos hf h12
        refine lv_aload_n hx hb (D_43 W_prog_15_method_100_code_32 27 rfl rfl) rfl (lv_at hl 3 rfl) ?_
        refine zget (ci := 13) (C := RX13) (T := TX13) (v := .ref (ad 13 l1 (32 + 1))) (k := 32) hx hb hts inW_13 hown hK hZ4 g7.1 g7.2 rfl (by decide) k_9_182 rfl (D_180 W_prog_15_method_100_code_32 28 rfl rfl rfl) ?_
        refine lv_iload hx hb (D_21 W_prog_15_method_100_code_32 31 rfl rfl) (lv_at hl 1 rfl) ?_
        refine zlald (ci := 13) (k := 32) hx hb hK rfl hZ4 g7.1 g7.2 rfl (Nat.le_of_ble_eq_true rfl) g8.1 g8.2 (D_47 W_prog_15_method_100_code_64 1 rfl rfl) ?_
        refine lv_aload_n hx hb (D_43 W_prog_15_method_100_code_64 2 rfl rfl) rfl (lv_at hl 3 rfl) ?_
        refine zget (ci := 13) (C := RX13) (T := TX13) (v := .ref (ad 13 l1 (33 + 1))) (k := 33) hx hb hts inW_13 hown hK hZ4 g7.1 g7.2 rfl (by decide) k_9_184 rfl (D_180 W_prog_15_method_100_code_64 3 rfl rfl rfl) ?_
        refine lv_iload hx hb (D_21 W_prog_15_method_100_code_64 6 rfl rfl) (lv_at hl 1 rfl) ?_
        refine zlald (ci := 13) (k := 33) hx hb hK rfl hZ4 g7.1 g7.2 rfl (Nat.le_of_ble_eq_true rfl) g8.1 g8.2 (D_47 W_prog_15_method_100_code_64 8 rfl rfl) ?_
        refine lv_aload_n hx hb (D_43 W_prog_15_method_100_code_64 9 rfl rfl) rfl (lv_at hl 3 rfl) ?_
        obtain ⟨r13, F13, B13, hc13, hf⟩ := gbind hf
        refine va_calli (va_runS (As := [.ref (ad 13 l1 0)]) (rest := [.long (lI (B4 13 l1 33 ((800 * l2) + l3))), .long (lI (B4 13 l1 32 ((800 * l2) + l3)))]) ⟨hx, hb, hml, hown, hts⟩ (c_M_beat (l := l) hc13) (va_cwS 1 hts (gdS k_13_179 k_13_180 k_1_9 k_13_181) rfl rfl rfl (by decide +kernel) ⟨Nat.le_of_ble_eq_true rfl, Nat.le_of_ble_eq_true rfl⟩) (zPS X hZ4 hS4 [.ref (ad 13 l1 0)]) rfl rfl hl.1 rfl (lv_room (Nat.le_of_ble_eq_true rfl)) (D_184 W_prog_15_method_100_code_64 10 rfl rfl rfl) ⟨Nat.le_of_ble_eq_true rfl, Nat.le_of_ble_eq_true rfl⟩) hS4 (fun q _ h => zAin X hS4 q h) (zAin X hS4) (fun p13 u13 t13 H13 locs13 ht13 hv13 hw13 hB13 hz13 hk13 hS13 => ?_)
        have hZ13 := zBack X ht13 hB13
        subst hw13
        obtain ⟨g14, hf⟩ := gif hf
        refine zi2l hx hb g14 (D_133 W_prog_15_method_100_code_64 13 rfl rfl) ?_
        refine lv_aload_n hx hb (D_43 W_prog_15_method_100_code_64 14 rfl rfl) rfl (lv_at hl 3 rfl) ?_
        refine zget (ci := 13) (C := RX13) (T := TX13) (v := .int (iI (F13 13 l1 5))) (k := 5) hx hb hts inW_13 hown hK hZ13 g7.1 g7.2 rfl (by decide) k_9_130 rfl (D_180 W_prog_15_method_100_code_64 15 rfl rfl rfl) ?_
        obtain ⟨g15, hf⟩ := gif hf
        refine zi2l hx hb g15 (D_133 W_prog_15_method_100_code_64 18 rfl rfl) ?_
        obtain ⟨r16, F16, B16, hc16, hf⟩ := gbind hf
        refine va_calll (va_runS (As := [.long (lI (B4 13 l1 32 ((800 * l2) + l3))), .long (lI (B4 13 l1 33 ((800 * l2) + l3))), .long (lI r13), .long (lI (F13 13 l1 5))]) (rest := []) ⟨hx, hb, hml, hown, hts⟩ (c_M_often (l := l) hc16) (va_cwS 4 hts (gdS k_13_144 k_13_145 k_1_9 k_13_146) rfl rfl rfl (by decide +kernel) ⟨Nat.le_of_ble_eq_true rfl, Nat.le_of_ble_eq_true rfl⟩) (zPS X hZ13 hS13 [.long (lI (B4 13 l1 32 ((800 * l2) + l3))), .long (lI (B4 13 l1 33 ((800 * l2) + l3))), .long (lI r13), .long (lI (F13 13 l1 5))]) rfl rfl hl.1 rfl (lv_room (Nat.le_of_ble_eq_true rfl)) (D_184 W_prog_15_method_100_code_64 19 rfl rfl rfl) ⟨Nat.le_of_ble_eq_true rfl, Nat.le_of_ble_eq_true rfl⟩) hS13 (fun q _ h => zAin X hS13 q h) (zAin X hS13) (fun p16 u16 t16 H16 locs16 ht16 hv16 hw16 hB16 hz16 hk16 hS16 => ?_)
        have hZ16 := zBack X ht16 hB16
        subst hw16
        refine lv_aload_n hx hb (D_43 W_prog_15_method_100_code_64 22 rfl rfl) rfl (lv_at hl 3 rfl) ?_
        refine zget (ci := 13) (C := RX13) (T := TX13) (v := .ref (ad 13 l1 (32 + 1))) (k := 32) hx hb hts inW_13 hown hK hZ16 g7.1 g7.2 rfl (by decide) k_9_182 rfl (D_180 W_prog_15_method_100_code_64 23 rfl rfl rfl) ?_
        refine lv_iload hx hb (D_21 W_prog_15_method_100_code_64 26 rfl rfl) (lv_at hl 0 rfl) ?_
        refine zlald (ci := 13) (k := 32) hx hb hK rfl hZ16 g7.1 g7.2 rfl (Nat.le_of_ble_eq_true rfl) g9.1 g9.2 (D_47 W_prog_15_method_100_code_64 28 rfl rfl) ?_
        refine lv_aload_n hx hb (D_43 W_prog_15_method_100_code_64 29 rfl rfl) rfl (lv_at hl 3 rfl) ?_
        refine zget (ci := 13) (C := RX13) (T := TX13) (v := .ref (ad 13 l1 (33 + 1))) (k := 33) hx hb hts inW_13 hown hK hZ16 g7.1 g7.2 rfl (by decide) k_9_184 rfl (D_180 W_prog_15_method_100_code_64 30 rfl rfl rfl) ?_
        refine lv_iload hx hb (D_21 W_prog_15_method_100_code_96 1 rfl rfl) (lv_at hl 0 rfl) ?_
        refine zlald (ci := 13) (k := 33) hx hb hK rfl hZ16 g7.1 g7.2 rfl (Nat.le_of_ble_eq_true rfl) g9.1 g9.2 (D_47 W_prog_15_method_100_code_96 3 rfl rfl) ?_
        refine lv_aload_n hx hb (D_43 W_prog_15_method_100_code_96 4 rfl rfl) rfl (lv_at hl 3 rfl) ?_
        obtain ⟨r17, F17, B17, hc17, hf⟩ := gbind hf
        refine va_calli (va_runS (As := [.ref (ad 13 l1 0)]) (rest := [.long (lI (B16 13 l1 33 ((800 * l2) + l4))), .long (lI (B16 13 l1 32 ((800 * l2) + l4))), .long (lI r16)]) ⟨hx, hb, hml, hown, hts⟩ (c_M_beat (l := l) hc17) (va_cwS 1 hts (gdS k_13_179 k_13_180 k_1_9 k_13_181) rfl rfl rfl (by decide +kernel) ⟨Nat.le_of_ble_eq_true rfl, Nat.le_of_ble_eq_true rfl⟩) (zPS X hZ16 hS16 [.ref (ad 13 l1 0)]) rfl rfl hl.1 rfl (lv_room (Nat.le_of_ble_eq_true rfl)) (D_184 W_prog_15_method_100_code_96 5 rfl rfl rfl) ⟨Nat.le_of_ble_eq_true rfl, Nat.le_of_ble_eq_true rfl⟩) hS16 (fun q _ h => zAin X hS16 q h) (zAin X hS16) (fun p17 u17 t17 H17 locs17 ht17 hv17 hw17 hB17 hz17 hk17 hS17 => ?_)
        have hZ17 := zBack X ht17 hB17
        subst hw17
        obtain ⟨g18, hf⟩ := gif hf
        refine zi2l hx hb g18 (D_133 W_prog_15_method_100_code_96 8 rfl rfl) ?_
        refine lv_aload_n hx hb (D_43 W_prog_15_method_100_code_96 9 rfl rfl) rfl (lv_at hl 3 rfl) ?_
        refine zget (ci := 13) (C := RX13) (T := TX13) (v := .int (iI (F17 13 l1 5))) (k := 5) hx hb hts inW_13 hown hK hZ17 g7.1 g7.2 rfl (by decide) k_9_130 rfl (D_180 W_prog_15_method_100_code_96 10 rfl rfl rfl) ?_
        obtain ⟨g19, hf⟩ := gif hf
        refine zi2l hx hb g19 (D_133 W_prog_15_method_100_code_96 13 rfl rfl) ?_
        obtain ⟨r20, F20, B20, hc20, hf⟩ := gbind hf
        refine va_calll (va_runS (As := [.long (lI (B16 13 l1 32 ((800 * l2) + l4))), .long (lI (B16 13 l1 33 ((800 * l2) + l4))), .long (lI r17), .long (lI (F17 13 l1 5))]) (rest := [.long (lI r16)]) ⟨hx, hb, hml, hown, hts⟩ (c_M_often (l := l) hc20) (va_cwS 4 hts (gdS k_13_144 k_13_145 k_1_9 k_13_146) rfl rfl rfl (by decide +kernel) ⟨Nat.le_of_ble_eq_true rfl, Nat.le_of_ble_eq_true rfl⟩) (zPS X hZ17 hS17 [.long (lI (B16 13 l1 32 ((800 * l2) + l4))), .long (lI (B16 13 l1 33 ((800 * l2) + l4))), .long (lI r17), .long (lI (F17 13 l1 5))]) rfl rfl hl.1 rfl (lv_room (Nat.le_of_ble_eq_true rfl)) (D_184 W_prog_15_method_100_code_96 14 rfl rfl rfl) ⟨Nat.le_of_ble_eq_true rfl, Nat.le_of_ble_eq_true rfl⟩) hS17 (fun q _ h => zAin X hS17 q h) (zAin X hS17) (fun p20 u20 t20 H20 locs20 ht20 hv20 hw20 hB20 hz20 hk20 hS20 => ?_)
        have hZ20 := zBack X ht20 hB20
        subst hw20
        obtain ⟨g21, hf⟩ := gif hf
        obtain ⟨g22, hf⟩ := gif hf
        refine zcmp_r hx hb g21 g22 (D_148 W_prog_15_method_100_code_96 17 rfl rfl) ?_
        refine z0ne (tgt := 121) hx hb zcmp_32 (D_154 W_prog_15_method_100_code_96 18 rfl rfl rfl) (by decide) (fun h23 => ?_) (fun h23 => ?_)
        · replace hf := gneg hf h23
          refine lv_iconst (v := iI 0) hx hb (D_3 W_prog_15_method_100_code_96 25 rfl rfl) rfl ?_
          exact b_M_isTogether_122 X hf hZ20 hS20 (lv_sub hl [] rfl)
        · replace hf := gpos hf h23
          refine lv_iconst (v := iI 1) hx hb (D_4 W_prog_15_method_100_code_96 21 rfl rfl) rfl ?_
          refine lv_goto (tgt := 122) hx hb (D_167 W_prog_15_method_100_code_96 22 rfl rfl rfl) (by decide) ?_
          exact b_M_isTogether_122 X hf hZ20 hS20 (lv_sub hl [] rfl)
      · replace hf := gneg hf h12
        exact b_M_isTogether_57 X hf hZ4 hS4 (lv_sub hl [] rfl)

abbrev Q_M_columns (D : va_G) (ca : Nat → ClassId) (ad : Nat → Int → Nat → Nat) (L : List Nat) (r : Int) (F : zF) (B : zB) (A : Nat → Prop) : Array Value → State → Outcome → State → Prop := va_Qv (S := Unit) (fun _ => True) (fun _ => zPo D ca ad lnM nM L F B A) A
def f_M_columns_127 (rec4 : Int → Int → Int → zF → zB → zO) (K : Nat) : Nat → Int → Int → Int → Int → zF → zB → zO
  | 0, _, _, _, _, _, _ => none
  | n + 1, l4, l3, l2, l1, F, B => if r32 l4 then if r32 l2 then (if l2 ≤ l4 then rec4 (l3 + 1) l2 l1 F B else if 0 ≤ l1 ∧ l1 < 3 then zbind (f_M_wide K l1 l3 l4 F B) (fun r30 F30 B30 => if 0 ≤ l4 ∧ l4 < 3200 then if 0 ≤ l3 ∧ l3 < 100 then f_M_columns_127 rec4 K n (l4 + 1) l3 l2 l1 F30 (zup4 (zup4 B30 13 l1 45 l4 r30) 13 l1 46 l3 (((zup4 B30 13 l1 45 l4 r30) 13 l1 46 l3) + ((zup4 B30 13 l1 45 l4 r30) 13 l1 45 l4))) else none else none) else none) else none else none
set_option maxHeartbeats 4000000 in
set_option maxRecDepth 100000 in
theorem b_M_columns_127 {D : va_G} {ca : Nat → ClassId} {ad : Nat → Int → Nat → Nat} {L : List Nat} {aS vS : Nat → Nat} {A : Nat → Prop} {p : Program} {l : Launch} {e : Env} {s : State} {m : MethodId} {args : Array Value} {below : List Frame} {meth : Method} {c : Code} {K : Nat} {r : Int} {F9 : zF} {B9 : zB} (X : zX D ca L aS vS A p s m args meth c prog_15_method_102_code 7 (Option.none : Option Jvm.ClassFile.FieldType) "StaveHouseModel") {rec4 : Int → Int → Int → zF → zB → zO} (hrec4 : ∀ {l3 : Int} {l2 : Int} {l1 : Int} {F : zF} {B : zB} {H : Heap} {locs : List Loc} {ls : Array Slot}, rec4 l3 l2 l1 F B = some (r, F9, B9) → zH D ca ad lnM nM L F B A H → va_S A s.heap H locs → lv_has ls 7 [(3, .int (iI l3)), (2, .int (iI l2)), (0, .ref (ad 14 0 0)), (1, .ref (ad 13 l1 0))] → W p l e ({ frames := 4, cells := 0, slots := 0, locals := 117 } : Room) s m args below meth c H locs 0 0 (MQ below (Q_M_columns D ca ad L r F9 B9 A) args s 0 0 A) (F0 m 4 ls [])) : ∀ {n : Nat} {l4 : Int} {l3 : Int} {l2 : Int} {l1 : Int} {F : zF} {B : zB} {H : Heap} {locs : List Loc} {ls : Array Slot}, f_M_columns_127 rec4 K n l4 l3 l2 l1 F B = some (r, F9, B9) → zH D ca ad lnM nM L F B A H → va_S A s.heap H locs → lv_has ls 7 [(4, .int (iI l4)), (3, .int (iI l3)), (2, .int (iI l2)), (0, .ref (ad 14 0 0)), (1, .ref (ad 13 l1 0))] → W p l e ({ frames := 4, cells := 0, slots := 0, locals := 117 } : Room) s m args below meth c H locs 0 0 (MQ below (Q_M_columns D ca ad L r F9 B9 A) args s 0 0 A) (F0 m 127 ls []) := by
  obtain ⟨hx, hb, hr, hml, hown, hts, hlk, hK, hA, hL, hX⟩ := id X
  intro n
  induction n with
  | zero =>
    intros
    rename_i hf _ _ _
    cases hf
  | succ n ih =>
    intro l4 l3 l2 l1 F B H locs ls hf hZ hS hl
    replace hf : (if r32 l4 then if r32 l2 then (if l2 ≤ l4 then rec4 (l3 + 1) l2 l1 F B else if 0 ≤ l1 ∧ l1 < 3 then zbind (f_M_wide K l1 l3 l4 F B) (fun r30 F30 B30 => if 0 ≤ l4 ∧ l4 < 3200 then if 0 ≤ l3 ∧ l3 < 100 then f_M_columns_127 rec4 K n (l4 + 1) l3 l2 l1 F30 (zup4 (zup4 B30 13 l1 45 l4 r30) 13 l1 46 l3 (((zup4 B30 13 l1 45 l4 r30) 13 l1 46 l3) + ((zup4 B30 13 l1 45 l4 r30) 13 l1 45 l4))) else none else none) else none) else none else none) = some (r, F9, B9) := hf
    refine lv_iload hx hb (D_21 W_prog_15_method_102_code_96 31 rfl rfl) (lv_at hl 0 rfl) ?_
    refine lv_iload_n hx hb (D_28 W_prog_15_method_102_code_128 1 rfl rfl) rfl (lv_at hl 2 rfl) ?_
    obtain ⟨g26, hf⟩ := gif hf
    obtain ⟨g27, hf⟩ := gif hf
    refine zge (tgt := 170) hx hb g26 g27 (D_162 W_prog_15_method_102_code_128 2 rfl rfl rfl) (by decide) (fun h28 => ?_) (fun h28 => ?_)
    · replace hf := gpos hf h28
      refine lv_iinc (v := iI (l3 + 1)) (lv' := [(3, .int (iI (l3 + 1))), (4, .int (iI l4)), (2, .int (iI l2)), (0, .ref (ad 14 0 0)), (1, .ref (ad 13 l1 0))]) hx hb d_15_102_170 hl (k := 1) rfl (iI_add _ 1) (by decide) rfl (fun ls hl => ?_)
      refine lv_goto (tgt := 4) hx hb (D_167 W_prog_15_method_102_code_160 13 rfl rfl rfl) (by decide) ?_
      exact hrec4 hf hZ hS (lv_sub hl [0, 2, 3, 4] rfl)
    · replace hf := gneg hf h28
      refine lv_aload_n hx hb (D_43 W_prog_15_method_102_code_128 5 rfl rfl) rfl (lv_at hl 4 rfl) ?_
      obtain ⟨g29, hf⟩ := gif hf
      refine zget (ci := 13) (C := RX13) (T := TX13) (v := .ref (ad 13 l1 (45 + 1))) (k := 45) hx hb hts inW_13 hown hK hZ g29.1 g29.2 rfl (by decide) k_9_208 rfl (D_180 W_prog_15_method_102_code_128 6 rfl rfl rfl) ?_
      refine lv_iload hx hb (D_21 W_prog_15_method_102_code_128 9 rfl rfl) (lv_at hl 0 rfl) ?_
      refine lv_aload_n hx hb (D_42 W_prog_15_method_102_code_128 11 rfl rfl) rfl (lv_at hl 3 rfl) ?_
      refine lv_aload_n hx hb (D_43 W_prog_15_method_102_code_128 12 rfl rfl) rfl (lv_at hl 4 rfl) ?_
      refine lv_iload_n hx hb (D_29 W_prog_15_method_102_code_128 13 rfl rfl) rfl (lv_at hl 1 rfl) ?_
      refine lv_iload hx hb (D_21 W_prog_15_method_102_code_128 14 rfl rfl) (lv_at hl 0 rfl) ?_
      obtain ⟨r30, F30, B30, hc30, hf⟩ := gbind hf
      refine va_calli (va_runV (As := [.ref (ad 13 l1 0), .int (iI l3), .int (iI l4)]) (rest := [.int (iI l4), .ref (ad 13 l1 (45 + 1))]) ⟨hx, hb, hml, hown, hts⟩ (c_M_wide (l := l) hc30) (cwV 3 hts (gdV k_15_97 k_15_99 ks_250 k_1_9 k_15_100) rfl rfl rfl (by decide +kernel) ⟨Nat.le_of_ble_eq_true rfl, Nat.le_of_ble_eq_true rfl⟩) (zPV X hZ hS (ci := 14) (by decide) (by decide) (r := (RX14, TX14, 107)) rfl [.ref (ad 13 l1 0), .int (iI l3), .int (iI l4)]) rfl rfl hl.1 rfl (lv_room (Nat.le_of_ble_eq_true rfl)) (D_182 W_prog_15_method_102_code_128 16 rfl rfl rfl) ⟨Nat.le_of_ble_eq_true rfl, Nat.le_of_ble_eq_true rfl⟩) hS (fun q _ h => zAin X hS q h) (zAin X hS) (fun p30 u30 t30 H30 locs30 ht30 hv30 hw30 hB30 hz30 hk30 hS30 => ?_)
      have hZ30 := zBack X ht30 hB30
      subst hw30
      obtain ⟨g31, hf⟩ := gif hf
      refine zast (ci := 13) (k := 45) hx hb hK rfl hZ30 hS30 g29.1 g29.2 rfl (Nat.le_of_ble_eq_true rfl) g31.1 g31.2 (D_79 W_prog_15_method_102_code_128 19 rfl rfl) (fun H33 locs33 hZ33 hS33 => ?_)
      refine lv_aload_n hx hb (D_43 W_prog_15_method_102_code_128 20 rfl rfl) rfl (lv_at hl 4 rfl) ?_
      refine zget (ci := 13) (C := RX13) (T := TX13) (v := .ref (ad 13 l1 (46 + 1))) (k := 46) hx hb hts inW_13 hown hK hZ33 g29.1 g29.2 rfl (by decide) k_9_210 rfl (D_180 W_prog_15_method_102_code_128 21 rfl rfl rfl) ?_
      refine lv_iload_n hx hb (D_29 W_prog_15_method_102_code_128 24 rfl rfl) rfl (lv_at hl 1 rfl) ?_
      refine lv_dup2_11 hx hb (D_92 W_prog_15_method_102_code_128 25 rfl rfl) rfl rfl ?_
      obtain ⟨g34, hf⟩ := gif hf
      refine zald (ci := 13) (k := 46) hx hb hK rfl hZ33 g29.1 g29.2 rfl (Nat.le_of_ble_eq_true rfl) g34.1 g34.2 (D_46 W_prog_15_method_102_code_128 26 rfl rfl) ?_
      refine lv_aload_n hx hb (D_43 W_prog_15_method_102_code_128 27 rfl rfl) rfl (lv_at hl 4 rfl) ?_
      refine zget (ci := 13) (C := RX13) (T := TX13) (v := .ref (ad 13 l1 (45 + 1))) (k := 45) hx hb hts inW_13 hown hK hZ33 g29.1 g29.2 rfl (by decide) k_9_208 rfl (D_180 W_prog_15_method_102_code_128 28 rfl rfl rfl) ?_
      refine lv_iload hx hb (D_21 W_prog_15_method_102_code_128 31 rfl rfl) (lv_at hl 0 rfl) ?_
      refine zald (ci := 13) (k := 45) hx hb hK rfl hZ33 g29.1 g29.2 rfl (Nat.le_of_ble_eq_true rfl) g31.1 g31.2 (D_46 W_prog_15_method_102_code_160 1 rfl rfl) ?_
      refine zadd hx hb (D_96 W_prog_15_method_102_code_160 2 rfl rfl) ?_
      refine zast (ci := 13) (k := 46) hx hb hK rfl hZ33 hS33 g29.1 g29.2 rfl (Nat.le_of_ble_eq_true rfl) g34.1 g34.2 (D_79 W_prog_15_method_102_code_160 3 rfl rfl) (fun H35 locs35 hZ35 hS35 => ?_)
      refine lv_iinc (v := iI (l4 + 1)) (lv' := [(4, .int (iI (l4 + 1))), (3, .int (iI l3)), (2, .int (iI l2)), (0, .ref (ad 14 0 0)), (1, .ref (ad 13 l1 0))]) hx hb d_15_102_164 hl (k := 0) rfl (iI_add _ 1) (by decide) rfl (fun ls hl => ?_)
      refine lv_goto (tgt := 127) hx hb (D_167 W_prog_15_method_102_code_160 7 rfl rfl rfl) (by decide) ?_
      exact ih hf hZ35 hS35 (lv_sub hl [0, 1, 2, 3, 4] rfl)

def f_M_columns_90 (rec4 : Int → Int → Int → zF → zB → zO) (rec22 : Int → Int → Int → Int → zF → zB → zO) (rec34 : Int → Int → Int → Int → Int → zF → zB → zO) (K : Nat) (l5 : Int) (l4 : Int) (l3 : Int) (l2 : Int) (l1 : Int) (F : zF) (B : zB) : zO := rec34 (l5 + 1) l4 l3 l2 l1 F B
set_option maxHeartbeats 4000000 in
set_option maxRecDepth 100000 in
theorem b_M_columns_90 {D : va_G} {ca : Nat → ClassId} {ad : Nat → Int → Nat → Nat} {L : List Nat} {aS vS : Nat → Nat} {A : Nat → Prop} {p : Program} {l : Launch} {e : Env} {s : State} {m : MethodId} {args : Array Value} {below : List Frame} {meth : Method} {c : Code} {K : Nat} {r : Int} {F9 : zF} {B9 : zB} (X : zX D ca L aS vS A p s m args meth c prog_15_method_102_code 7 (Option.none : Option Jvm.ClassFile.FieldType) "StaveHouseModel") {rec4 : Int → Int → Int → zF → zB → zO} {rec22 : Int → Int → Int → Int → zF → zB → zO} {rec34 : Int → Int → Int → Int → Int → zF → zB → zO} (hrec4 : ∀ {l3 : Int} {l2 : Int} {l1 : Int} {F : zF} {B : zB} {H : Heap} {locs : List Loc} {ls : Array Slot}, rec4 l3 l2 l1 F B = some (r, F9, B9) → zH D ca ad lnM nM L F B A H → va_S A s.heap H locs → lv_has ls 7 [(3, .int (iI l3)), (2, .int (iI l2)), (0, .ref (ad 14 0 0)), (1, .ref (ad 13 l1 0))] → W p l e ({ frames := 4, cells := 0, slots := 0, locals := 117 } : Room) s m args below meth c H locs 0 0 (MQ below (Q_M_columns D ca ad L r F9 B9 A) args s 0 0 A) (F0 m 4 ls [])) (hrec22 : ∀ {l4 : Int} {l3 : Int} {l2 : Int} {l1 : Int} {F : zF} {B : zB} {H : Heap} {locs : List Loc} {ls : Array Slot}, rec22 l4 l3 l2 l1 F B = some (r, F9, B9) → zH D ca ad lnM nM L F B A H → va_S A s.heap H locs → lv_has ls 7 [(4, .int (iI l4)), (3, .int (iI l3)), (2, .int (iI l2)), (0, .ref (ad 14 0 0)), (1, .ref (ad 13 l1 0))] → W p l e ({ frames := 4, cells := 0, slots := 0, locals := 117 } : Room) s m args below meth c H locs 0 0 (MQ below (Q_M_columns D ca ad L r F9 B9 A) args s 0 0 A) (F0 m 22 ls [])) (hrec34 : ∀ {l5 : Int} {l4 : Int} {l3 : Int} {l2 : Int} {l1 : Int} {F : zF} {B : zB} {H : Heap} {locs : List Loc} {ls : Array Slot}, rec34 l5 l4 l3 l2 l1 F B = some (r, F9, B9) → zH D ca ad lnM nM L F B A H → va_S A s.heap H locs → lv_has ls 7 [(5, .int (iI l5)), (4, .int (iI l4)), (3, .int (iI l3)), (2, .int (iI l2)), (0, .ref (ad 14 0 0)), (1, .ref (ad 13 l1 0))] → W p l e ({ frames := 4, cells := 0, slots := 0, locals := 117 } : Room) s m args below meth c H locs 0 0 (MQ below (Q_M_columns D ca ad L r F9 B9 A) args s 0 0 A) (F0 m 34 ls [])) {l5 : Int} {l4 : Int} {l3 : Int} {l2 : Int} {l1 : Int} {F : zF} {B : zB} {H : Heap} {locs : List Loc} {ls : Array Slot} (hf : f_M_columns_90 rec4 rec22 rec34 K l5 l4 l3 l2 l1 F B = some (r, F9, B9)) (hZ : zH D ca ad lnM nM L F B A H) (hS : va_S A s.heap H locs) (hl : lv_has ls 7 [(5, .int (iI l5)), (4, .int (iI l4)), (3, .int (iI l3)), (2, .int (iI l2)), (0, .ref (ad 14 0 0)), (1, .ref (ad 13 l1 0))]) : W p l e ({ frames := 4, cells := 0, slots := 0, locals := 117 } : Room) s m args below meth c H locs 0 0 (MQ below (Q_M_columns D ca ad L r F9 B9 A) args s 0 0 A) (F0 m 90 ls []) := by
  obtain ⟨hx, hb, hr, hml, hown, hts, hlk, hK, hA, hL, hX⟩ := id X
  replace hf : (rec34 (l5 + 1) l4 l3 l2 l1 F B) = some (r, F9, B9) := hf
  refine lv_iinc (v := iI (l5 + 1)) (lv' := [(5, .int (iI (l5 + 1))), (4, .int (iI l4)), (3, .int (iI l3)), (2, .int (iI l2)), (0, .ref (ad 14 0 0)), (1, .ref (ad 13 l1 0))]) hx hb d_15_102_90 hl (k := 0) rfl (iI_add _ 1) (by decide) rfl (fun ls hl => ?_)
  refine lv_goto (tgt := 34) hx hb (D_167 W_prog_15_method_102_code_64 29 rfl rfl rfl) (by decide) ?_
  exact hrec34 hf hZ hS (lv_sub hl [0, 1, 2, 3, 4, 5] rfl)

def f_M_columns_34 (rec4 : Int → Int → Int → zF → zB → zO) (rec22 : Int → Int → Int → Int → zF → zB → zO) (K : Nat) : Nat → Int → Int → Int → Int → Int → zF → zB → zO
  | 0, _, _, _, _, _, _, _ => none
  | n + 1, l5, l4, l3, l2, l1, F, B => if 0 ≤ l1 ∧ l1 < 3 then if 0 ≤ l4 ∧ l4 < 4 then if r32 l5 then if r32 (B 13 l1 13 l4) then (if (B 13 l1 13 l4) ≤ l5 then rec22 (l4 + 1) l3 l2 l1 F B else if 0 ≤ ((800 * l4) + l5) ∧ ((800 * l4) + l5) < 3200 then if r32 (B 13 l1 31 ((800 * l4) + l5)) then if r32 l3 then (if (B 13 l1 31 ((800 * l4) + l5)) = l3 then zbind (f_M_column K l1 l3 l2 (B 13 l1 32 ((800 * l4) + l5)) (B 13 l1 33 ((800 * l4) + l5)) F B) (fun r25 F25 B25 => f_M_columns_90 rec4 rec22 (f_M_columns_34 rec4 rec22 K n) K l5 l4 l3 r25 l1 F25 B25) else f_M_columns_90 rec4 rec22 (f_M_columns_34 rec4 rec22 K n) K l5 l4 l3 l2 l1 F B) else none else none else none) else none else none else none else none
set_option maxHeartbeats 4000000 in
set_option maxRecDepth 100000 in
theorem b_M_columns_34 {D : va_G} {ca : Nat → ClassId} {ad : Nat → Int → Nat → Nat} {L : List Nat} {aS vS : Nat → Nat} {A : Nat → Prop} {p : Program} {l : Launch} {e : Env} {s : State} {m : MethodId} {args : Array Value} {below : List Frame} {meth : Method} {c : Code} {K : Nat} {r : Int} {F9 : zF} {B9 : zB} (X : zX D ca L aS vS A p s m args meth c prog_15_method_102_code 7 (Option.none : Option Jvm.ClassFile.FieldType) "StaveHouseModel") {rec4 : Int → Int → Int → zF → zB → zO} {rec22 : Int → Int → Int → Int → zF → zB → zO} (hrec4 : ∀ {l3 : Int} {l2 : Int} {l1 : Int} {F : zF} {B : zB} {H : Heap} {locs : List Loc} {ls : Array Slot}, rec4 l3 l2 l1 F B = some (r, F9, B9) → zH D ca ad lnM nM L F B A H → va_S A s.heap H locs → lv_has ls 7 [(3, .int (iI l3)), (2, .int (iI l2)), (0, .ref (ad 14 0 0)), (1, .ref (ad 13 l1 0))] → W p l e ({ frames := 4, cells := 0, slots := 0, locals := 117 } : Room) s m args below meth c H locs 0 0 (MQ below (Q_M_columns D ca ad L r F9 B9 A) args s 0 0 A) (F0 m 4 ls [])) (hrec22 : ∀ {l4 : Int} {l3 : Int} {l2 : Int} {l1 : Int} {F : zF} {B : zB} {H : Heap} {locs : List Loc} {ls : Array Slot}, rec22 l4 l3 l2 l1 F B = some (r, F9, B9) → zH D ca ad lnM nM L F B A H → va_S A s.heap H locs → lv_has ls 7 [(4, .int (iI l4)), (3, .int (iI l3)), (2, .int (iI l2)), (0, .ref (ad 14 0 0)), (1, .ref (ad 13 l1 0))] → W p l e ({ frames := 4, cells := 0, slots := 0, locals := 117 } : Room) s m args below meth c H locs 0 0 (MQ below (Q_M_columns D ca ad L r F9 B9 A) args s 0 0 A) (F0 m 22 ls [])) : ∀ {n : Nat} {l5 : Int} {l4 : Int} {l3 : Int} {l2 : Int} {l1 : Int} {F : zF} {B : zB} {H : Heap} {locs : List Loc} {ls : Array Slot}, f_M_columns_34 rec4 rec22 K n l5 l4 l3 l2 l1 F B = some (r, F9, B9) → zH D ca ad lnM nM L F B A H → va_S A s.heap H locs → lv_has ls 7 [(5, .int (iI l5)), (4, .int (iI l4)), (3, .int (iI l3)), (2, .int (iI l2)), (0, .ref (ad 14 0 0)), (1, .ref (ad 13 l1 0))] → W p l e ({ frames := 4, cells := 0, slots := 0, locals := 117 } : Room) s m args below meth c H locs 0 0 (MQ below (Q_M_columns D ca ad L r F9 B9 A) args s 0 0 A) (F0 m 34 ls []) := by
  obtain ⟨hx, hb, hr, hml, hown, hts, hlk, hK, hA, hL, hX⟩ := id X
  intro n
  induction n with
  | zero =>
    intros
    rename_i hf _ _ _
    cases hf
  | succ n ih =>
    intro l5 l4 l3 l2 l1 F B H locs ls hf hZ hS hl
    replace hf : (if 0 ≤ l1 ∧ l1 < 3 then if 0 ≤ l4 ∧ l4 < 4 then if r32 l5 then if r32 (B 13 l1 13 l4) then (if (B 13 l1 13 l4) ≤ l5 then rec22 (l4 + 1) l3 l2 l1 F B else if 0 ≤ ((800 * l4) + l5) ∧ ((800 * l4) + l5) < 3200 then if r32 (B 13 l1 31 ((800 * l4) + l5)) then if r32 l3 then (if (B 13 l1 31 ((800 * l4) + l5)) = l3 then zbind (f_M_column K l1 l3 l2 (B 13 l1 32 ((800 * l4) + l5)) (B 13 l1 33 ((800 * l4) + l5)) F B) (fun r25 F25 B25 => f_M_columns_90 rec4 rec22 (f_M_columns_34 rec4 rec22 K n) K l5 l4 l3 r25 l1 F25 B25) else f_M_columns_90 rec4 rec22 (f_M_columns_34 rec4 rec22 K n) K l5 l4 l3 l2 l1 F B) else none else none else none) else none else none else none else none) = some (r, F9, B9) := hf
    refine lv_iload hx hb (D_21 W_prog_15_method_102_code_32 2 rfl rfl) (lv_at hl 0 rfl) ?_
    refine lv_aload_n hx hb (D_43 W_prog_15_method_102_code_32 4 rfl rfl) rfl (lv_at hl 5 rfl) ?_
    obtain ⟨g16, hf⟩ := gif hf
    refine zget (ci := 13) (C := RX13) (T := TX13) (v := .ref (ad 13 l1 (13 + 1))) (k := 13) hx hb hts inW_13 hown hK hZ g16.1 g16.2 rfl (by decide) k_9_144 rfl (D_180 W_prog_15_method_102_code_32 5 rfl rfl rfl) ?_
    refine lv_iload hx hb (D_21 W_prog_15_method_102_code_32 8 rfl rfl) (lv_at hl 1 rfl) ?_
    obtain ⟨g17, hf⟩ := gif hf
    refine zald (ci := 13) (k := 13) hx hb hK rfl hZ g16.1 g16.2 rfl (Nat.le_of_ble_eq_true rfl) g17.1 g17.2 (D_46 W_prog_15_method_102_code_32 10 rfl rfl) ?_
    obtain ⟨g18, hf⟩ := gif hf
    obtain ⟨g19, hf⟩ := gif hf
    refine zge (tgt := 96) hx hb g18 g19 (D_162 W_prog_15_method_102_code_32 11 rfl rfl rfl) (by decide) (fun h20 => ?_) (fun h20 => ?_)
    · replace hf := gpos hf h20
      refine lv_iinc (v := iI (l4 + 1)) (lv' := [(4, .int (iI (l4 + 1))), (5, .int (iI l5)), (3, .int (iI l3)), (2, .int (iI l2)), (0, .ref (ad 14 0 0)), (1, .ref (ad 13 l1 0))]) hx hb d_15_102_96 hl (k := 1) rfl (iI_add _ 1) (by decide) rfl (fun ls hl => ?_)
      refine lv_goto (tgt := 22) hx hb (D_167 W_prog_15_method_102_code_96 3 rfl rfl rfl) (by decide) ?_
      exact hrec22 hf hZ hS (lv_sub hl [0, 2, 3, 4, 5] rfl)
    · replace hf := gneg hf h20
      refine lv_sipush (v := iI 800) hx hb (D_17 W_prog_15_method_102_code_32 14 rfl rfl rfl) (by decide) ?_
      refine lv_iload hx hb (D_21 W_prog_15_method_102_code_32 17 rfl rfl) (lv_at hl 1 rfl) ?_
      refine zmul hx hb (D_104 W_prog_15_method_102_code_32 19 rfl rfl) ?_
      refine lv_iload hx hb (D_21 W_prog_15_method_102_code_32 20 rfl rfl) (lv_at hl 0 rfl) ?_
      refine zadd hx hb (D_96 W_prog_15_method_102_code_32 22 rfl rfl) ?_
      refine lv_istore (lv' := [(6, .int (iI ((800 * l4) + l5))), (5, .int (iI l5)), (4, .int (iI l4)), (3, .int (iI l3)), (2, .int (iI l2)), (0, .ref (ad 14 0 0)), (1, .ref (ad 13 l1 0))]) hx hb (D_54 W_prog_15_method_102_code_32 23 rfl rfl) hl (by decide) rfl (fun ls hl => ?_)
      refine lv_aload_n hx hb (D_43 W_prog_15_method_102_code_32 25 rfl rfl) rfl (lv_at hl 6 rfl) ?_
      refine zget (ci := 13) (C := RX13) (T := TX13) (v := .ref (ad 13 l1 (31 + 1))) (k := 31) hx hb hts inW_13 hown hK hZ g16.1 g16.2 rfl (by decide) k_9_180 rfl (D_180 W_prog_15_method_102_code_32 26 rfl rfl rfl) ?_
      refine lv_iload hx hb (D_21 W_prog_15_method_102_code_32 29 rfl rfl) (lv_at hl 0 rfl) ?_
      obtain ⟨g21, hf⟩ := gif hf
      refine zald (ci := 13) (k := 31) hx hb hK rfl hZ g16.1 g16.2 rfl (Nat.le_of_ble_eq_true rfl) g21.1 g21.2 (D_46 W_prog_15_method_102_code_32 31 rfl rfl) ?_
      refine lv_iload_n hx hb (D_29 W_prog_15_method_102_code_64 0 rfl rfl) rfl (lv_at hl 3 rfl) ?_
      obtain ⟨g22, hf⟩ := gif hf
      obtain ⟨g23, hf⟩ := gif hf
      refine zne (tgt := 90) hx hb g22 g23 (D_160 W_prog_15_method_102_code_64 1 rfl rfl rfl) (by decide) (fun h24 => ?_) (fun h24 => ?_)
      · replace hf := gneg hf h24
        exact b_M_columns_90 X hrec4 hrec22 ih hf hZ hS (lv_sub hl [1, 2, 3, 4, 5, 6] rfl)
      · replace hf := gpos hf h24
        refine lv_aload_n hx hb (D_42 W_prog_15_method_102_code_64 4 rfl rfl) rfl (lv_at hl 5 rfl) ?_
        refine lv_aload_n hx hb (D_43 W_prog_15_method_102_code_64 5 rfl rfl) rfl (lv_at hl 6 rfl) ?_
        refine lv_iload_n hx hb (D_29 W_prog_15_method_102_code_64 6 rfl rfl) rfl (lv_at hl 3 rfl) ?_
        refine lv_iload_n hx hb (D_28 W_prog_15_method_102_code_64 7 rfl rfl) rfl (lv_at hl 4 rfl) ?_
        refine lv_aload_n hx hb (D_43 W_prog_15_method_102_code_64 8 rfl rfl) rfl (lv_at hl 6 rfl) ?_
        refine zget (ci := 13) (C := RX13) (T := TX13) (v := .ref (ad 13 l1 (32 + 1))) (k := 32) hx hb hts inW_13 hown hK hZ g16.1 g16.2 rfl (by decide) k_9_182 rfl (D_180 W_prog_15_method_102_code_64 9 rfl rfl rfl) ?_
        refine lv_iload hx hb (D_21 W_prog_15_method_102_code_64 12 rfl rfl) (lv_at hl 0 rfl) ?_
        refine zlald (ci := 13) (k := 32) hx hb hK rfl hZ g16.1 g16.2 rfl (Nat.le_of_ble_eq_true rfl) g21.1 g21.2 (D_47 W_prog_15_method_102_code_64 14 rfl rfl) ?_
        refine lv_aload_n hx hb (D_43 W_prog_15_method_102_code_64 15 rfl rfl) rfl (lv_at hl 6 rfl) ?_
        refine zget (ci := 13) (C := RX13) (T := TX13) (v := .ref (ad 13 l1 (33 + 1))) (k := 33) hx hb hts inW_13 hown hK hZ g16.1 g16.2 rfl (by decide) k_9_184 rfl (D_180 W_prog_15_method_102_code_64 16 rfl rfl rfl) ?_
        refine lv_iload hx hb (D_21 W_prog_15_method_102_code_64 19 rfl rfl) (lv_at hl 0 rfl) ?_
        refine zlald (ci := 13) (k := 33) hx hb hK rfl hZ g16.1 g16.2 rfl (Nat.le_of_ble_eq_true rfl) g21.1 g21.2 (D_47 W_prog_15_method_102_code_64 21 rfl rfl) ?_
        obtain ⟨r25, F25, B25, hc25, hf⟩ := gbind hf
        refine va_calli (va_runV (As := [.ref (ad 13 l1 0), .int (iI l3), .int (iI l2), .long (lI (B 13 l1 32 ((800 * l4) + l5))), .long (lI (B 13 l1 33 ((800 * l4) + l5)))]) (rest := []) ⟨hx, hb, hml, hown, hts⟩ (c_M_column (l := l) hc25) (cwV 5 hts (gdV k_15_93 k_15_95 ks_249 k_1_9 k_15_96) rfl rfl rfl (by decide +kernel) ⟨Nat.le_of_ble_eq_true rfl, Nat.le_of_ble_eq_true rfl⟩) (zPV X hZ hS (ci := 14) (by decide) (by decide) (r := (RX14, TX14, 107)) rfl [.ref (ad 13 l1 0), .int (iI l3), .int (iI l2), .long (lI (B 13 l1 32 ((800 * l4) + l5))), .long (lI (B 13 l1 33 ((800 * l4) + l5)))]) rfl rfl hl.1 rfl (lv_room (Nat.le_of_ble_eq_true rfl)) (D_182 W_prog_15_method_102_code_64 22 rfl rfl rfl) ⟨Nat.le_of_ble_eq_true rfl, Nat.le_of_ble_eq_true rfl⟩) hS (fun q _ h => zAin X hS q h) (zAin X hS) (fun p25 u25 t25 H25 locs25 ht25 hv25 hw25 hB25 hz25 hk25 hS25 => ?_)
        have hZ25 := zBack X ht25 hB25
        subst hw25
        refine lv_istore_n (lv' := [(2, .int (iI r25)), (6, .int (iI ((800 * l4) + l5))), (5, .int (iI l5)), (4, .int (iI l4)), (3, .int (iI l3)), (0, .ref (ad 14 0 0)), (1, .ref (ad 13 l1 0))]) hx hb (D_61 W_prog_15_method_102_code_64 25 rfl rfl) rfl hl (by decide) rfl (fun ls hl => ?_)
        exact b_M_columns_90 X hrec4 hrec22 ih hf hZ25 hS25 (lv_sub hl [2, 3, 4, 0, 5, 6] rfl)

def f_M_columns_22 (rec4 : Int → Int → Int → zF → zB → zO) (K : Nat) : Nat → Int → Int → Int → Int → zF → zB → zO
  | 0, _, _, _, _, _, _ => none
  | n + 1, l4, l3, l2, l1, F, B => if 0 ≤ l1 ∧ l1 < 3 then if r32 l4 then if r32 (F 13 l1 1) then (if (F 13 l1 1) ≤ l4 then if 0 ≤ (l3 + 1) ∧ (l3 + 1) < 101 then if 0 ≤ l3 ∧ l3 < 100 then if 0 ≤ l3 ∧ l3 < 101 then f_M_columns_127 rec4 K K ((zup4 (zup4 B 13 l1 42 (l3 + 1) l2) 13 l1 46 l3 6) 13 l1 42 l3) l3 l2 l1 F (zup4 (zup4 B 13 l1 42 (l3 + 1) l2) 13 l1 46 l3 6) else none else none else none else f_M_columns_34 rec4 (f_M_columns_22 rec4 K n) K K 0 l4 l3 l2 l1 F B) else none else none else none
set_option maxHeartbeats 4000000 in
set_option maxRecDepth 100000 in
theorem b_M_columns_22 {D : va_G} {ca : Nat → ClassId} {ad : Nat → Int → Nat → Nat} {L : List Nat} {aS vS : Nat → Nat} {A : Nat → Prop} {p : Program} {l : Launch} {e : Env} {s : State} {m : MethodId} {args : Array Value} {below : List Frame} {meth : Method} {c : Code} {K : Nat} {r : Int} {F9 : zF} {B9 : zB} (X : zX D ca L aS vS A p s m args meth c prog_15_method_102_code 7 (Option.none : Option Jvm.ClassFile.FieldType) "StaveHouseModel") {rec4 : Int → Int → Int → zF → zB → zO} (hrec4 : ∀ {l3 : Int} {l2 : Int} {l1 : Int} {F : zF} {B : zB} {H : Heap} {locs : List Loc} {ls : Array Slot}, rec4 l3 l2 l1 F B = some (r, F9, B9) → zH D ca ad lnM nM L F B A H → va_S A s.heap H locs → lv_has ls 7 [(3, .int (iI l3)), (2, .int (iI l2)), (0, .ref (ad 14 0 0)), (1, .ref (ad 13 l1 0))] → W p l e ({ frames := 4, cells := 0, slots := 0, locals := 117 } : Room) s m args below meth c H locs 0 0 (MQ below (Q_M_columns D ca ad L r F9 B9 A) args s 0 0 A) (F0 m 4 ls [])) : ∀ {n : Nat} {l4 : Int} {l3 : Int} {l2 : Int} {l1 : Int} {F : zF} {B : zB} {H : Heap} {locs : List Loc} {ls : Array Slot}, f_M_columns_22 rec4 K n l4 l3 l2 l1 F B = some (r, F9, B9) → zH D ca ad lnM nM L F B A H → va_S A s.heap H locs → lv_has ls 7 [(4, .int (iI l4)), (3, .int (iI l3)), (2, .int (iI l2)), (0, .ref (ad 14 0 0)), (1, .ref (ad 13 l1 0))] → W p l e ({ frames := 4, cells := 0, slots := 0, locals := 117 } : Room) s m args below meth c H locs 0 0 (MQ below (Q_M_columns D ca ad L r F9 B9 A) args s 0 0 A) (F0 m 22 ls []) := by
  obtain ⟨hx, hb, hr, hml, hown, hts, hlk, hK, hA, hL, hX⟩ := id X
  intro n
  induction n with
  | zero =>
    intros
    rename_i hf _ _ _
    cases hf
  | succ n ih =>
    intro l4 l3 l2 l1 F B H locs ls hf hZ hS hl
    replace hf : (if 0 ≤ l1 ∧ l1 < 3 then if r32 l4 then if r32 (F 13 l1 1) then (if (F 13 l1 1) ≤ l4 then if 0 ≤ (l3 + 1) ∧ (l3 + 1) < 101 then if 0 ≤ l3 ∧ l3 < 100 then if 0 ≤ l3 ∧ l3 < 101 then f_M_columns_127 rec4 K K ((zup4 (zup4 B 13 l1 42 (l3 + 1) l2) 13 l1 46 l3 6) 13 l1 42 l3) l3 l2 l1 F (zup4 (zup4 B 13 l1 42 (l3 + 1) l2) 13 l1 46 l3 6) else none else none else none else f_M_columns_34 rec4 (f_M_columns_22 rec4 K n) K K 0 l4 l3 l2 l1 F B) else none else none else none) = some (r, F9, B9) := hf
    refine lv_iload hx hb (D_21 W_prog_15_method_102_code_0 22 rfl rfl) (lv_at hl 0 rfl) ?_
    refine lv_aload_n hx hb (D_43 W_prog_15_method_102_code_0 24 rfl rfl) rfl (lv_at hl 4 rfl) ?_
    obtain ⟨g7, hf⟩ := gif hf
    refine zget (ci := 13) (C := RX13) (T := TX13) (v := .int (iI (F 13 l1 1))) (k := 1) hx hb hts inW_13 hown hK hZ g7.1 g7.2 rfl (by decide) k_9_126 rfl (D_180 W_prog_15_method_102_code_0 25 rfl rfl rfl) ?_
    obtain ⟨g8, hf⟩ := gif hf
    obtain ⟨g9, hf⟩ := gif hf
    refine zge (tgt := 102) hx hb g8 g9 (D_162 W_prog_15_method_102_code_0 28 rfl rfl rfl) (by decide) (fun h10 => ?_) (fun h10 => ?_)
    · replace hf := gpos hf h10
      refine lv_aload_n hx hb (D_43 W_prog_15_method_102_code_96 6 rfl rfl) rfl (lv_at hl 4 rfl) ?_
      refine zget (ci := 13) (C := RX13) (T := TX13) (v := .ref (ad 13 l1 (42 + 1))) (k := 42) hx hb hts inW_13 hown hK hZ g7.1 g7.2 rfl (by decide) k_9_202 rfl (D_180 W_prog_15_method_102_code_96 7 rfl rfl rfl) ?_
      refine lv_iload_n hx hb (D_29 W_prog_15_method_102_code_96 10 rfl rfl) rfl (lv_at hl 1 rfl) ?_
      refine lv_iconst (v := iI 1) hx hb (D_4 W_prog_15_method_102_code_96 11 rfl rfl) rfl ?_
      refine zadd hx hb (D_96 W_prog_15_method_102_code_96 12 rfl rfl) ?_
      refine lv_iload_n hx hb (D_28 W_prog_15_method_102_code_96 13 rfl rfl) rfl (lv_at hl 2 rfl) ?_
      obtain ⟨g11, hf⟩ := gif hf
      refine zast (ci := 13) (k := 42) hx hb hK rfl hZ hS g7.1 g7.2 rfl (Nat.le_of_ble_eq_true rfl) g11.1 g11.2 (D_79 W_prog_15_method_102_code_96 14 rfl rfl) (fun H12 locs12 hZ12 hS12 => ?_)
      refine lv_aload_n hx hb (D_43 W_prog_15_method_102_code_96 15 rfl rfl) rfl (lv_at hl 4 rfl) ?_
      refine zget (ci := 13) (C := RX13) (T := TX13) (v := .ref (ad 13 l1 (46 + 1))) (k := 46) hx hb hts inW_13 hown hK hZ12 g7.1 g7.2 rfl (by decide) k_9_210 rfl (D_180 W_prog_15_method_102_code_96 16 rfl rfl rfl) ?_
      refine lv_iload_n hx hb (D_29 W_prog_15_method_102_code_96 19 rfl rfl) rfl (lv_at hl 1 rfl) ?_
      refine lv_bipush (v := iI 6) hx hb (D_16 W_prog_15_method_102_code_96 20 rfl rfl rfl) (by decide) ?_
      obtain ⟨g13, hf⟩ := gif hf
      refine zast (ci := 13) (k := 46) hx hb hK rfl hZ12 hS12 g7.1 g7.2 rfl (Nat.le_of_ble_eq_true rfl) g13.1 g13.2 (D_79 W_prog_15_method_102_code_96 22 rfl rfl) (fun H14 locs14 hZ14 hS14 => ?_)
      refine lv_aload_n hx hb (D_43 W_prog_15_method_102_code_96 23 rfl rfl) rfl (lv_at hl 4 rfl) ?_
      refine zget (ci := 13) (C := RX13) (T := TX13) (v := .ref (ad 13 l1 (42 + 1))) (k := 42) hx hb hts inW_13 hown hK hZ14 g7.1 g7.2 rfl (by decide) k_9_202 rfl (D_180 W_prog_15_method_102_code_96 24 rfl rfl rfl) ?_
      refine lv_iload_n hx hb (D_29 W_prog_15_method_102_code_96 27 rfl rfl) rfl (lv_at hl 1 rfl) ?_
      obtain ⟨g15, hf⟩ := gif hf
      refine zald (ci := 13) (k := 42) hx hb hK rfl hZ14 g7.1 g7.2 rfl (Nat.le_of_ble_eq_true rfl) g15.1 g15.2 (D_46 W_prog_15_method_102_code_96 28 rfl rfl) ?_
      refine lv_istore (lv' := [(4, .int (iI ((zup4 (zup4 B 13 l1 42 (l3 + 1) l2) 13 l1 46 l3 6) 13 l1 42 l3))), (3, .int (iI l3)), (2, .int (iI l2)), (0, .ref (ad 14 0 0)), (1, .ref (ad 13 l1 0))]) hx hb (D_54 W_prog_15_method_102_code_96 29 rfl rfl) hl (by decide) rfl (fun ls hl => ?_)
      exact b_M_columns_127 X hrec4 hf hZ14 hS14 (lv_sub hl [0, 1, 2, 3, 4] rfl)
    · replace hf := gneg hf h10
      refine lv_iconst (v := iI 0) hx hb (D_3 W_prog_15_method_102_code_0 31 rfl rfl) rfl ?_
      refine lv_istore (lv' := [(5, .int (iI 0)), (4, .int (iI l4)), (3, .int (iI l3)), (2, .int (iI l2)), (0, .ref (ad 14 0 0)), (1, .ref (ad 13 l1 0))]) hx hb (D_54 W_prog_15_method_102_code_32 0 rfl rfl) hl (by decide) rfl (fun ls hl => ?_)
      exact b_M_columns_34 X hrec4 ih hf hZ hS (lv_sub hl [0, 1, 2, 3, 4, 5] rfl)

def f_M_columns_4 (K : Nat) : Nat → Int → Int → Int → zF → zB → zO
  | 0, _, _, _, _, _ => none
  | n + 1, l3, l2, l1, F, B => if 0 ≤ l1 ∧ l1 < 3 then if r32 l3 then if r32 (F 13 l1 7) then (if (F 13 l1 7) ≤ l3 then some (0, F, B) else if 0 ≤ l3 ∧ l3 < 101 then f_M_columns_22 (f_M_columns_4 K n) K K 0 l3 l2 l1 F (zup4 B 13 l1 42 l3 l2) else none) else none else none else none
set_option maxHeartbeats 4000000 in
set_option maxRecDepth 100000 in
theorem b_M_columns_4 {D : va_G} {ca : Nat → ClassId} {ad : Nat → Int → Nat → Nat} {L : List Nat} {aS vS : Nat → Nat} {A : Nat → Prop} {p : Program} {l : Launch} {e : Env} {s : State} {m : MethodId} {args : Array Value} {below : List Frame} {meth : Method} {c : Code} {K : Nat} {r : Int} {F9 : zF} {B9 : zB} (X : zX D ca L aS vS A p s m args meth c prog_15_method_102_code 7 (Option.none : Option Jvm.ClassFile.FieldType) "StaveHouseModel") : ∀ {n : Nat} {l3 : Int} {l2 : Int} {l1 : Int} {F : zF} {B : zB} {H : Heap} {locs : List Loc} {ls : Array Slot}, f_M_columns_4 K n l3 l2 l1 F B = some (r, F9, B9) → zH D ca ad lnM nM L F B A H → va_S A s.heap H locs → lv_has ls 7 [(3, .int (iI l3)), (2, .int (iI l2)), (0, .ref (ad 14 0 0)), (1, .ref (ad 13 l1 0))] → W p l e ({ frames := 4, cells := 0, slots := 0, locals := 117 } : Room) s m args below meth c H locs 0 0 (MQ below (Q_M_columns D ca ad L r F9 B9 A) args s 0 0 A) (F0 m 4 ls []) := by
  obtain ⟨hx, hb, hr, hml, hown, hts, hlk, hK, hA, hL, hX⟩ := id X
  intro n
  induction n with
  | zero =>
    intros
    rename_i hf _ _ _
    cases hf
  | succ n ih =>
    intro l3 l2 l1 F B H locs ls hf hZ hS hl
    replace hf : (if 0 ≤ l1 ∧ l1 < 3 then if r32 l3 then if r32 (F 13 l1 7) then (if (F 13 l1 7) ≤ l3 then some (0, F, B) else if 0 ≤ l3 ∧ l3 < 101 then f_M_columns_22 (f_M_columns_4 K n) K K 0 l3 l2 l1 F (zup4 B 13 l1 42 l3 l2) else none) else none else none else none) = some (r, F9, B9) := hf
    refine lv_iload_n hx hb (D_29 W_prog_15_method_102_code_0 4 rfl rfl) rfl (lv_at hl 0 rfl) ?_
    refine lv_aload_n hx hb (D_43 W_prog_15_method_102_code_0 5 rfl rfl) rfl (lv_at hl 3 rfl) ?_
    obtain ⟨g1, hf⟩ := gif hf
    refine zget (ci := 13) (C := RX13) (T := TX13) (v := .int (iI (F 13 l1 7))) (k := 7) hx hb hts inW_13 hown hK hZ g1.1 g1.2 rfl (by decide) k_9_132 rfl (D_180 W_prog_15_method_102_code_0 6 rfl rfl rfl) ?_
    obtain ⟨g2, hf⟩ := gif hf
    obtain ⟨g3, hf⟩ := gif hf
    refine zge (tgt := 176) hx hb g2 g3 (D_162 W_prog_15_method_102_code_0 9 rfl rfl rfl) (by decide) (fun h4 => ?_) (fun h4 => ?_)
    · replace hf := gpos hf h4
      cases hf
      exact W.vret hx hb hr (fun t ht hW => ⟨⟨(), rfl, trivial, by rw [ht]; exact hZ, va_K.moved hW.alike hK⟩, hS.F ht⟩) hS.2.2 (D_177 W_prog_15_method_102_code_160 16 rfl rfl) hlk
    · replace hf := gneg hf h4
      refine lv_aload_n hx hb (D_43 W_prog_15_method_102_code_0 12 rfl rfl) rfl (lv_at hl 3 rfl) ?_
      refine zget (ci := 13) (C := RX13) (T := TX13) (v := .ref (ad 13 l1 (42 + 1))) (k := 42) hx hb hts inW_13 hown hK hZ g1.1 g1.2 rfl (by decide) k_9_202 rfl (D_180 W_prog_15_method_102_code_0 13 rfl rfl rfl) ?_
      refine lv_iload_n hx hb (D_29 W_prog_15_method_102_code_0 16 rfl rfl) rfl (lv_at hl 0 rfl) ?_
      refine lv_iload_n hx hb (D_28 W_prog_15_method_102_code_0 17 rfl rfl) rfl (lv_at hl 1 rfl) ?_
      obtain ⟨g5, hf⟩ := gif hf
      refine zast (ci := 13) (k := 42) hx hb hK rfl hZ hS g1.1 g1.2 rfl (Nat.le_of_ble_eq_true rfl) g5.1 g5.2 (D_79 W_prog_15_method_102_code_0 18 rfl rfl) (fun H6 locs6 hZ6 hS6 => ?_)
      refine lv_iconst (v := iI 0) hx hb (D_3 W_prog_15_method_102_code_0 19 rfl rfl) rfl ?_
      refine lv_istore (lv' := [(4, .int (iI 0)), (3, .int (iI l3)), (2, .int (iI l2)), (0, .ref (ad 14 0 0)), (1, .ref (ad 13 l1 0))]) hx hb (D_54 W_prog_15_method_102_code_0 20 rfl rfl) hl (by decide) rfl (fun ls hl => ?_)
      exact b_M_columns_22 X ih hf hZ6 hS6 (lv_sub hl [0, 1, 2, 3, 4] rfl)

def f_M_columns (K : Nat) (l1 : Int) (F : zF) (B : zB) : zO := f_M_columns_4 K K 0 0 l1 F B
set_option maxHeartbeats 4000000 in
set_option maxRecDepth 100000 in
theorem c_M_columns {l : Launch} {D : va_G} {ca : Nat → ClassId} {ad : Nat → Int → Nat → Nat} {L : List Nat} {aS vS : Nat → Nat} {sz K : Nat}  {l1 : Int} {F F9 : zF} {B B9 : zB} {r : Int} (hf : f_M_columns K l1 F B = some (r, F9, B9)) : Met l ({ cls := "StaveHouseModel", name := "columns", desc := "(LStaveHouseModel$Piece;)V" } : Jvm.MethodName) (Cond.code ({ cls := "StaveHouseModel", name := "columns", desc := "(LStaveHouseModel$Piece;)V" } : Jvm.MethodName) prog_15_method_102_code 7 (Option.none : Option Jvm.ClassFile.FieldType) :: wAll) ({ frames := 4, cells := 0, slots := 0, locals := 117 } : Room) (va_Pc [.ref (ad 14 0 0), .ref (ad 13 l1 0)] (zPre D ca ad lnM nM L aS vS F B sz)) (Q_M_columns D ca ad L r F9 B9 (zA L sz)) 0 0 (zA L sz) := by
  refine zMet (Qc := Q_M_columns D ca ad L r F9 B9) (lv := [(0, .ref (ad 14 0 0)), (1, .ref (ad 13 l1 0))]) (by decide) (Nat.le_of_ble_eq_true rfl) rfl (fun A p e s m below meth c ls X hZ hS hl => ?_)
  obtain ⟨hx, hb, hr, hml, hown, hts, hlk, hK, hA, hL, hX⟩ := id X
  replace hf : (f_M_columns_4 K K 0 0 l1 F B) = some (r, F9, B9) := hf
  refine lv_iconst (v := iI 0) hx hb (D_3 W_prog_15_method_102_code_0 0 rfl rfl) rfl ?_
  refine lv_istore_n (lv' := [(2, .int (iI 0)), (0, .ref (ad 14 0 0)), (1, .ref (ad 13 l1 0))]) hx hb (D_61 W_prog_15_method_102_code_0 1 rfl rfl) rfl hl (by decide) rfl (fun ls hl => ?_)
  refine lv_iconst (v := iI 0) hx hb (D_3 W_prog_15_method_102_code_0 2 rfl rfl) rfl ?_
  refine lv_istore_n (lv' := [(3, .int (iI 0)), (2, .int (iI 0)), (0, .ref (ad 14 0 0)), (1, .ref (ad 13 l1 0))]) hx hb (D_62 W_prog_15_method_102_code_0 3 rfl rfl) rfl hl (by decide) rfl (fun ls hl => ?_)
  exact b_M_columns_4 X hf hZ hS (lv_sub hl [0, 1, 2, 3] rfl)

abbrev Q_M_moments (D : va_G) (ca : Nat → ClassId) (ad : Nat → Int → Nat → Nat) (L : List Nat) (r : Int) (F : zF) (B : zB) (A : Nat → Prop) : Array Value → State → Outcome → State → Prop := va_Qv (S := Unit) (fun _ => True) (fun _ => zPo D ca ad lnM nM L F B A) A
def f_M_moments_157 (rec69 : Int → Int → zF → zB → zO) (rec82 : Int → Int → Int → Int → zF → zB → zO) (K : Nat) (l4 : Int) (l3 : Int) (l2 : Int) (l1 : Int) (F : zF) (B : zB) : zO := if 0 ≤ l1 ∧ l1 < 3 then if 0 ≤ ((4 * l4) + l2) ∧ ((4 * l4) + l2) < 3200 then rec82 (l4 + 1) l3 l2 l1 F (zup4 B 13 l1 75 ((4 * l4) + l2) l3) else none else none
set_option maxHeartbeats 4000000 in
set_option maxRecDepth 100000 in
theorem b_M_moments_157 {D : va_G} {ca : Nat → ClassId} {ad : Nat → Int → Nat → Nat} {L : List Nat} {aS vS : Nat → Nat} {A : Nat → Prop} {p : Program} {l : Launch} {e : Env} {s : State} {m : MethodId} {args : Array Value} {below : List Frame} {meth : Method} {c : Code} {K : Nat} {r : Int} {F9 : zF} {B9 : zB} (X : zX D ca L aS vS A p s m args meth c prog_15_method_171_code 5 (Option.none : Option Jvm.ClassFile.FieldType) "StaveHouseModel") {rec69 : Int → Int → zF → zB → zO} {rec82 : Int → Int → Int → Int → zF → zB → zO} (hrec69 : ∀ {l2 : Int} {l1 : Int} {F : zF} {B : zB} {H : Heap} {locs : List Loc} {ls : Array Slot}, rec69 l2 l1 F B = some (r, F9, B9) → zH D ca ad lnM nM L F B A H → va_S A s.heap H locs → lv_has ls 5 [(2, .int (iI l2)), (1, .ref (ad 13 l1 0))] → W p l e ({ frames := 3, cells := 0, slots := 0, locals := 88 } : Room) s m args below meth c H locs 0 0 (MQ below (Q_M_moments D ca ad L r F9 B9 A) args s 0 0 A) (F0 m 69 ls [])) (hrec82 : ∀ {l4 : Int} {l3 : Int} {l2 : Int} {l1 : Int} {F : zF} {B : zB} {H : Heap} {locs : List Loc} {ls : Array Slot}, rec82 l4 l3 l2 l1 F B = some (r, F9, B9) → zH D ca ad lnM nM L F B A H → va_S A s.heap H locs → lv_has ls 5 [(4, .int (iI l4)), (3, .int (iI l3)), (2, .int (iI l2)), (1, .ref (ad 13 l1 0))] → W p l e ({ frames := 3, cells := 0, slots := 0, locals := 88 } : Room) s m args below meth c H locs 0 0 (MQ below (Q_M_moments D ca ad L r F9 B9 A) args s 0 0 A) (F0 m 82 ls [])) {l4 : Int} {l3 : Int} {l2 : Int} {l1 : Int} {F : zF} {B : zB} {H : Heap} {locs : List Loc} {ls : Array Slot} (hf : f_M_moments_157 rec69 rec82 K l4 l3 l2 l1 F B = some (r, F9, B9)) (hZ : zH D ca ad lnM nM L F B A H) (hS : va_S A s.heap H locs) (hl : lv_has ls 5 [(4, .int (iI l4)), (3, .int (iI l3)), (2, .int (iI l2)), (1, .ref (ad 13 l1 0))]) : W p l e ({ frames := 3, cells := 0, slots := 0, locals := 88 } : Room) s m args below meth c H locs 0 0 (MQ below (Q_M_moments D ca ad L r F9 B9 A) args s 0 0 A) (F0 m 157 ls []) := by
  obtain ⟨hx, hb, hr, hml, hown, hts, hlk, hK, hA, hL, hX⟩ := id X
  replace hf : (if 0 ≤ l1 ∧ l1 < 3 then if 0 ≤ ((4 * l4) + l2) ∧ ((4 * l4) + l2) < 3200 then rec82 (l4 + 1) l3 l2 l1 F (zup4 B 13 l1 75 ((4 * l4) + l2) l3) else none else none) = some (r, F9, B9) := hf
  refine lv_aload_n hx hb (D_43 W_prog_15_method_171_code_128 29 rfl rfl) rfl (lv_at hl 3 rfl) ?_
  obtain ⟨g33, hf⟩ := gif hf
  refine zget (ci := 13) (C := RX13) (T := TX13) (v := .ref (ad 13 l1 (75 + 1))) (k := 75) hx hb hts inW_13 hown hK hZ g33.1 g33.2 rfl (by decide) k_10_17 rfl (D_180 W_prog_15_method_171_code_128 30 rfl rfl rfl) ?_
  refine lv_iconst (v := iI 4) hx hb (D_7 W_prog_15_method_171_code_160 1 rfl rfl) rfl ?_
  refine lv_iload hx hb (D_21 W_prog_15_method_171_code_160 2 rfl rfl) (lv_at hl 0 rfl) ?_
  refine zmul hx hb (D_104 W_prog_15_method_171_code_160 4 rfl rfl) ?_
  refine lv_iload_n hx hb (D_28 W_prog_15_method_171_code_160 5 rfl rfl) rfl (lv_at hl 2 rfl) ?_
  refine zadd hx hb (D_96 W_prog_15_method_171_code_160 6 rfl rfl) ?_
  refine lv_iload_n hx hb (D_29 W_prog_15_method_171_code_160 7 rfl rfl) rfl (lv_at hl 1 rfl) ?_
  obtain ⟨g34, hf⟩ := gif hf
  refine zast (ci := 13) (k := 75) hx hb hK rfl hZ hS g33.1 g33.2 rfl (Nat.le_of_ble_eq_true rfl) g34.1 g34.2 (D_79 W_prog_15_method_171_code_160 8 rfl rfl) (fun H35 locs35 hZ35 hS35 => ?_)
  refine lv_iinc (v := iI (l4 + 1)) (lv' := [(4, .int (iI (l4 + 1))), (3, .int (iI l3)), (2, .int (iI l2)), (1, .ref (ad 13 l1 0))]) hx hb d_15_171_169 hl (k := 0) rfl (iI_add _ 1) (by decide) rfl (fun ls hl => ?_)
  refine lv_goto (tgt := 82) hx hb (D_167 W_prog_15_method_171_code_160 12 rfl rfl rfl) (by decide) ?_
  exact hrec82 hf hZ35 hS35 (lv_sub hl [0, 1, 2, 3] rfl)

def f_M_moments_91 (rec69 : Int → Int → zF → zB → zO) (rec82 : Int → Int → Int → Int → zF → zB → zO) (K : Nat) : Nat → Int → Int → Int → Int → zF → zB → zO
  | 0, _, _, _, _, _, _ => none
  | n + 1, l4, l3, l2, l1, F, B => if 0 ≤ l1 ∧ l1 < 3 then if 0 ≤ l2 ∧ l2 < 4 then if r32 (l3 + 1) then if r32 (B 13 l1 12 l2) then (if (B 13 l1 12 l2) ≤ (l3 + 1) then f_M_moments_157 rec69 rec82 K l4 l3 l2 l1 F B else if 0 ≤ (((1000 * l2) + l3) + 1) ∧ (((1000 * l2) + l3) + 1) < 4000 then if 0 ≤ l4 ∧ l4 < 800 then zbind (f_M_compare K (B 13 l1 14 (((1000 * l2) + l3) + 1)) (B 13 l1 15 (((1000 * l2) + l3) + 1)) (B 13 l1 73 l4) (B 13 l1 74 l4) F B) (fun r29 F29 B29 => if r32 r29 then (if 0 < r29 then f_M_moments_157 rec69 rec82 K l4 l3 l2 l1 F29 B29 else f_M_moments_91 rec69 rec82 K n l4 (l3 + 1) l2 l1 F29 B29) else none) else none else none) else none else none else none else none
set_option maxHeartbeats 4000000 in
set_option maxRecDepth 100000 in
theorem b_M_moments_91 {D : va_G} {ca : Nat → ClassId} {ad : Nat → Int → Nat → Nat} {L : List Nat} {aS vS : Nat → Nat} {A : Nat → Prop} {p : Program} {l : Launch} {e : Env} {s : State} {m : MethodId} {args : Array Value} {below : List Frame} {meth : Method} {c : Code} {K : Nat} {r : Int} {F9 : zF} {B9 : zB} (X : zX D ca L aS vS A p s m args meth c prog_15_method_171_code 5 (Option.none : Option Jvm.ClassFile.FieldType) "StaveHouseModel") {rec69 : Int → Int → zF → zB → zO} {rec82 : Int → Int → Int → Int → zF → zB → zO} (hrec69 : ∀ {l2 : Int} {l1 : Int} {F : zF} {B : zB} {H : Heap} {locs : List Loc} {ls : Array Slot}, rec69 l2 l1 F B = some (r, F9, B9) → zH D ca ad lnM nM L F B A H → va_S A s.heap H locs → lv_has ls 5 [(2, .int (iI l2)), (1, .ref (ad 13 l1 0))] → W p l e ({ frames := 3, cells := 0, slots := 0, locals := 88 } : Room) s m args below meth c H locs 0 0 (MQ below (Q_M_moments D ca ad L r F9 B9 A) args s 0 0 A) (F0 m 69 ls [])) (hrec82 : ∀ {l4 : Int} {l3 : Int} {l2 : Int} {l1 : Int} {F : zF} {B : zB} {H : Heap} {locs : List Loc} {ls : Array Slot}, rec82 l4 l3 l2 l1 F B = some (r, F9, B9) → zH D ca ad lnM nM L F B A H → va_S A s.heap H locs → lv_has ls 5 [(4, .int (iI l4)), (3, .int (iI l3)), (2, .int (iI l2)), (1, .ref (ad 13 l1 0))] → W p l e ({ frames := 3, cells := 0, slots := 0, locals := 88 } : Room) s m args below meth c H locs 0 0 (MQ below (Q_M_moments D ca ad L r F9 B9 A) args s 0 0 A) (F0 m 82 ls [])) : ∀ {n : Nat} {l4 : Int} {l3 : Int} {l2 : Int} {l1 : Int} {F : zF} {B : zB} {H : Heap} {locs : List Loc} {ls : Array Slot}, f_M_moments_91 rec69 rec82 K n l4 l3 l2 l1 F B = some (r, F9, B9) → zH D ca ad lnM nM L F B A H → va_S A s.heap H locs → lv_has ls 5 [(4, .int (iI l4)), (3, .int (iI l3)), (2, .int (iI l2)), (1, .ref (ad 13 l1 0))] → W p l e ({ frames := 3, cells := 0, slots := 0, locals := 88 } : Room) s m args below meth c H locs 0 0 (MQ below (Q_M_moments D ca ad L r F9 B9 A) args s 0 0 A) (F0 m 91 ls []) := by
  obtain ⟨hx, hb, hr, hml, hown, hts, hlk, hK, hA, hL, hX⟩ := id X
  intro n
  induction n with
  | zero =>
    intros
    rename_i hf _ _ _
    cases hf
  | succ n ih =>
    intro l4 l3 l2 l1 F B H locs ls hf hZ hS hl
    replace hf : (if 0 ≤ l1 ∧ l1 < 3 then if 0 ≤ l2 ∧ l2 < 4 then if r32 (l3 + 1) then if r32 (B 13 l1 12 l2) then (if (B 13 l1 12 l2) ≤ (l3 + 1) then f_M_moments_157 rec69 rec82 K l4 l3 l2 l1 F B else if 0 ≤ (((1000 * l2) + l3) + 1) ∧ (((1000 * l2) + l3) + 1) < 4000 then if 0 ≤ l4 ∧ l4 < 800 then zbind (f_M_compare K (B 13 l1 14 (((1000 * l2) + l3) + 1)) (B 13 l1 15 (((1000 * l2) + l3) + 1)) (B 13 l1 73 l4) (B 13 l1 74 l4) F B) (fun r29 F29 B29 => if r32 r29 then (if 0 < r29 then f_M_moments_157 rec69 rec82 K l4 l3 l2 l1 F29 B29 else f_M_moments_91 rec69 rec82 K n l4 (l3 + 1) l2 l1 F29 B29) else none) else none else none) else none else none else none else none) = some (r, F9, B9) := hf
    refine lv_iload_n hx hb (D_29 W_prog_15_method_171_code_64 27 rfl rfl) rfl (lv_at hl 1 rfl) ?_
    refine lv_iconst (v := iI 1) hx hb (D_4 W_prog_15_method_171_code_64 28 rfl rfl) rfl ?_
    refine zadd hx hb (D_96 W_prog_15_method_171_code_64 29 rfl rfl) ?_
    refine lv_aload_n hx hb (D_43 W_prog_15_method_171_code_64 30 rfl rfl) rfl (lv_at hl 3 rfl) ?_
    obtain ⟨g22, hf⟩ := gif hf
    refine zget (ci := 13) (C := RX13) (T := TX13) (v := .ref (ad 13 l1 (12 + 1))) (k := 12) hx hb hts inW_13 hown hK hZ g22.1 g22.2 rfl (by decide) k_9_142 rfl (D_180 W_prog_15_method_171_code_64 31 rfl rfl rfl) ?_
    refine lv_iload_n hx hb (D_28 W_prog_15_method_171_code_96 2 rfl rfl) rfl (lv_at hl 2 rfl) ?_
    obtain ⟨g23, hf⟩ := gif hf
    refine zald (ci := 13) (k := 12) hx hb hK rfl hZ g22.1 g22.2 rfl (Nat.le_of_ble_eq_true rfl) g23.1 g23.2 (D_46 W_prog_15_method_171_code_96 3 rfl rfl) ?_
    obtain ⟨g24, hf⟩ := gif hf
    obtain ⟨g25, hf⟩ := gif hf
    refine zge (tgt := 157) hx hb g24 g25 (D_162 W_prog_15_method_171_code_96 4 rfl rfl rfl) (by decide) (fun h26 => ?_) (fun h26 => ?_)
    · replace hf := gpos hf h26
      exact b_M_moments_157 X hrec69 hrec82 hf hZ hS (lv_sub hl [0, 1, 2, 3] rfl)
    · replace hf := gneg hf h26
      refine lv_aload_n hx hb (D_43 W_prog_15_method_171_code_96 7 rfl rfl) rfl (lv_at hl 3 rfl) ?_
      refine zget (ci := 13) (C := RX13) (T := TX13) (v := .ref (ad 13 l1 (14 + 1))) (k := 14) hx hb hts inW_13 hown hK hZ g22.1 g22.2 rfl (by decide) k_9_146 rfl (D_180 W_prog_15_method_171_code_96 8 rfl rfl rfl) ?_
      refine lv_sipush (v := iI 1000) hx hb (D_17 W_prog_15_method_171_code_96 11 rfl rfl rfl) (by decide) ?_
      refine lv_iload_n hx hb (D_28 W_prog_15_method_171_code_96 14 rfl rfl) rfl (lv_at hl 2 rfl) ?_
      refine zmul hx hb (D_104 W_prog_15_method_171_code_96 15 rfl rfl) ?_
      refine lv_iload_n hx hb (D_29 W_prog_15_method_171_code_96 16 rfl rfl) rfl (lv_at hl 1 rfl) ?_
      refine zadd hx hb (D_96 W_prog_15_method_171_code_96 17 rfl rfl) ?_
      refine lv_iconst (v := iI 1) hx hb (D_4 W_prog_15_method_171_code_96 18 rfl rfl) rfl ?_
      refine zadd hx hb (D_96 W_prog_15_method_171_code_96 19 rfl rfl) ?_
      obtain ⟨g27, hf⟩ := gif hf
      refine zlald (ci := 13) (k := 14) hx hb hK rfl hZ g22.1 g22.2 rfl (Nat.le_of_ble_eq_true rfl) g27.1 g27.2 (D_47 W_prog_15_method_171_code_96 20 rfl rfl) ?_
      refine lv_aload_n hx hb (D_43 W_prog_15_method_171_code_96 21 rfl rfl) rfl (lv_at hl 3 rfl) ?_
      refine zget (ci := 13) (C := RX13) (T := TX13) (v := .ref (ad 13 l1 (15 + 1))) (k := 15) hx hb hts inW_13 hown hK hZ g22.1 g22.2 rfl (by decide) k_9_148 rfl (D_180 W_prog_15_method_171_code_96 22 rfl rfl rfl) ?_
      refine lv_sipush (v := iI 1000) hx hb (D_17 W_prog_15_method_171_code_96 25 rfl rfl rfl) (by decide) ?_
      refine lv_iload_n hx hb (D_28 W_prog_15_method_171_code_96 28 rfl rfl) rfl (lv_at hl 2 rfl) ?_
      refine zmul hx hb (D_104 W_prog_15_method_171_code_96 29 rfl rfl) ?_
      refine lv_iload_n hx hb (D_29 W_prog_15_method_171_code_96 30 rfl rfl) rfl (lv_at hl 1 rfl) ?_
      refine zadd hx hb (D_96 W_prog_15_method_171_code_96 31 rfl rfl) ?_
      refine lv_iconst (v := iI 1) hx hb (D_4 W_prog_15_method_171_code_128 0 rfl rfl) rfl ?_
      refine zadd hx hb (D_96 W_prog_15_method_171_code_128 1 rfl rfl) ?_
      refine zlald (ci := 13) (k := 15) hx hb hK rfl hZ g22.1 g22.2 rfl (Nat.le_of_ble_eq_true rfl) g27.1 g27.2 (D_47 W_prog_15_method_171_code_128 2 rfl rfl) ?_
      refine lv_aload_n hx hb (D_43 W_prog_15_method_171_code_128 3 rfl rfl) rfl (lv_at hl 3 rfl) ?_
      refine zget (ci := 13) (C := RX13) (T := TX13) (v := .ref (ad 13 l1 (73 + 1))) (k := 73) hx hb hts inW_13 hown hK hZ g22.1 g22.2 rfl (by decide) k_10_13 rfl (D_180 W_prog_15_method_171_code_128 4 rfl rfl rfl) ?_
      refine lv_iload hx hb (D_21 W_prog_15_method_171_code_128 7 rfl rfl) (lv_at hl 0 rfl) ?_
      obtain ⟨g28, hf⟩ := gif hf
      refine zlald (ci := 13) (k := 73) hx hb hK rfl hZ g22.1 g22.2 rfl (Nat.le_of_ble_eq_true rfl) g28.1 g28.2 (D_47 W_prog_15_method_171_code_128 9 rfl rfl) ?_
      refine lv_aload_n hx hb (D_43 W_prog_15_method_171_code_128 10 rfl rfl) rfl (lv_at hl 3 rfl) ?_
      refine zget (ci := 13) (C := RX13) (T := TX13) (v := .ref (ad 13 l1 (74 + 1))) (k := 74) hx hb hts inW_13 hown hK hZ g22.1 g22.2 rfl (by decide) k_10_15 rfl (D_180 W_prog_15_method_171_code_128 11 rfl rfl rfl) ?_
      refine lv_iload hx hb (D_21 W_prog_15_method_171_code_128 14 rfl rfl) (lv_at hl 0 rfl) ?_
      refine zlald (ci := 13) (k := 74) hx hb hK rfl hZ g22.1 g22.2 rfl (Nat.le_of_ble_eq_true rfl) g28.1 g28.2 (D_47 W_prog_15_method_171_code_128 16 rfl rfl) ?_
      obtain ⟨r29, F29, B29, hc29, hf⟩ := gbind hf
      refine va_calli (va_runS (As := [.long (lI (B 13 l1 14 (((1000 * l2) + l3) + 1))), .long (lI (B 13 l1 15 (((1000 * l2) + l3) + 1))), .long (lI (B 13 l1 73 l4)), .long (lI (B 13 l1 74 l4))]) (rest := []) ⟨hx, hb, hml, hown, hts⟩ (c_M_compare (l := l) hc29) (va_cwS 4 hts (gdS k_13_104 k_13_105 k_1_9 k_13_106) rfl rfl rfl (by decide +kernel) ⟨Nat.le_of_ble_eq_true rfl, Nat.le_of_ble_eq_true rfl⟩) (zPS X hZ hS [.long (lI (B 13 l1 14 (((1000 * l2) + l3) + 1))), .long (lI (B 13 l1 15 (((1000 * l2) + l3) + 1))), .long (lI (B 13 l1 73 l4)), .long (lI (B 13 l1 74 l4))]) rfl rfl hl.1 rfl (lv_room (Nat.le_of_ble_eq_true rfl)) (D_184 W_prog_15_method_171_code_128 17 rfl rfl rfl) ⟨Nat.le_of_ble_eq_true rfl, Nat.le_of_ble_eq_true rfl⟩) hS (fun q _ h => zAin X hS q h) (zAin X hS) (fun p29 u29 t29 H29 locs29 ht29 hv29 hw29 hB29 hz29 hk29 hS29 => ?_)
      have hZ29 := zBack X ht29 hB29
      subst hw29
      obtain ⟨g30, hf⟩ := gif hf
      refine z0gt (tgt := 157) hx hb g30 (D_157 W_prog_15_method_171_code_128 20 rfl rfl rfl) (by decide) (fun h31 => ?_) (fun h31 => ?_)
      · replace hf := gpos hf h31
        exact b_M_moments_157 X hrec69 hrec82 hf hZ29 hS29 (lv_sub hl [0, 1, 2, 3] rfl)
      · replace hf := gneg hf h31
        refine lv_iinc (v := iI (l3 + 1)) (lv' := [(3, .int (iI (l3 + 1))), (4, .int (iI l4)), (2, .int (iI l2)), (1, .ref (ad 13 l1 0))]) hx hb d_15_171_151 hl (k := 1) rfl (iI_add _ 1) (by decide) rfl (fun ls hl => ?_)
        refine lv_goto (tgt := 91) hx hb (D_167 W_prog_15_method_171_code_128 26 rfl rfl rfl) (by decide) ?_
        exact ih hf hZ29 hS29 (lv_sub hl [1, 0, 2, 3] rfl)

def f_M_moments_82 (rec69 : Int → Int → zF → zB → zO) (K : Nat) : Nat → Int → Int → Int → Int → zF → zB → zO
  | 0, _, _, _, _, _, _ => none
  | n + 1, l4, l3, l2, l1, F, B => if 0 ≤ l1 ∧ l1 < 3 then if r32 l4 then if r32 (F 13 l1 72) then (if (F 13 l1 72) ≤ l4 then rec69 (l2 + 1) l1 F B else f_M_moments_91 rec69 (f_M_moments_82 rec69 K n) K K l4 l3 l2 l1 F B) else none else none else none
set_option maxHeartbeats 4000000 in
set_option maxRecDepth 100000 in
theorem b_M_moments_82 {D : va_G} {ca : Nat → ClassId} {ad : Nat → Int → Nat → Nat} {L : List Nat} {aS vS : Nat → Nat} {A : Nat → Prop} {p : Program} {l : Launch} {e : Env} {s : State} {m : MethodId} {args : Array Value} {below : List Frame} {meth : Method} {c : Code} {K : Nat} {r : Int} {F9 : zF} {B9 : zB} (X : zX D ca L aS vS A p s m args meth c prog_15_method_171_code 5 (Option.none : Option Jvm.ClassFile.FieldType) "StaveHouseModel") {rec69 : Int → Int → zF → zB → zO} (hrec69 : ∀ {l2 : Int} {l1 : Int} {F : zF} {B : zB} {H : Heap} {locs : List Loc} {ls : Array Slot}, rec69 l2 l1 F B = some (r, F9, B9) → zH D ca ad lnM nM L F B A H → va_S A s.heap H locs → lv_has ls 5 [(2, .int (iI l2)), (1, .ref (ad 13 l1 0))] → W p l e ({ frames := 3, cells := 0, slots := 0, locals := 88 } : Room) s m args below meth c H locs 0 0 (MQ below (Q_M_moments D ca ad L r F9 B9 A) args s 0 0 A) (F0 m 69 ls [])) : ∀ {n : Nat} {l4 : Int} {l3 : Int} {l2 : Int} {l1 : Int} {F : zF} {B : zB} {H : Heap} {locs : List Loc} {ls : Array Slot}, f_M_moments_82 rec69 K n l4 l3 l2 l1 F B = some (r, F9, B9) → zH D ca ad lnM nM L F B A H → va_S A s.heap H locs → lv_has ls 5 [(4, .int (iI l4)), (3, .int (iI l3)), (2, .int (iI l2)), (1, .ref (ad 13 l1 0))] → W p l e ({ frames := 3, cells := 0, slots := 0, locals := 88 } : Room) s m args below meth c H locs 0 0 (MQ below (Q_M_moments D ca ad L r F9 B9 A) args s 0 0 A) (F0 m 82 ls []) := by
  obtain ⟨hx, hb, hr, hml, hown, hts, hlk, hK, hA, hL, hX⟩ := id X
  intro n
  induction n with
  | zero =>
    intros
    rename_i hf _ _ _
    cases hf
  | succ n ih =>
    intro l4 l3 l2 l1 F B H locs ls hf hZ hS hl
    replace hf : (if 0 ≤ l1 ∧ l1 < 3 then if r32 l4 then if r32 (F 13 l1 72) then (if (F 13 l1 72) ≤ l4 then rec69 (l2 + 1) l1 F B else f_M_moments_91 rec69 (f_M_moments_82 rec69 K n) K K l4 l3 l2 l1 F B) else none else none else none) = some (r, F9, B9) := hf
    refine lv_iload hx hb (D_21 W_prog_15_method_171_code_64 18 rfl rfl) (lv_at hl 0 rfl) ?_
    refine lv_aload_n hx hb (D_43 W_prog_15_method_171_code_64 20 rfl rfl) rfl (lv_at hl 3 rfl) ?_
    obtain ⟨g18, hf⟩ := gif hf
    refine zget (ci := 13) (C := RX13) (T := TX13) (v := .int (iI (F 13 l1 72))) (k := 72) hx hb hts inW_13 hown hK hZ g18.1 g18.2 rfl (by decide) k_10_11 rfl (D_180 W_prog_15_method_171_code_64 21 rfl rfl rfl) ?_
    obtain ⟨g19, hf⟩ := gif hf
    obtain ⟨g20, hf⟩ := gif hf
    refine zge (tgt := 175) hx hb g19 g20 (D_162 W_prog_15_method_171_code_64 24 rfl rfl rfl) (by decide) (fun h21 => ?_) (fun h21 => ?_)
    · replace hf := gpos hf h21
      refine lv_iinc (v := iI (l2 + 1)) (lv' := [(2, .int (iI (l2 + 1))), (4, .int (iI l4)), (3, .int (iI l3)), (1, .ref (ad 13 l1 0))]) hx hb d_15_171_175 hl (k := 2) rfl (iI_add _ 1) (by decide) rfl (fun ls hl => ?_)
      refine lv_goto (tgt := 69) hx hb (D_167 W_prog_15_method_171_code_160 18 rfl rfl rfl) (by decide) ?_
      exact hrec69 hf hZ hS (lv_sub hl [0, 3] rfl)
    · replace hf := gneg hf h21
      exact b_M_moments_91 X hrec69 ih hf hZ hS (lv_sub hl [0, 1, 2, 3] rfl)

def f_M_moments_69 (K : Nat) : Nat → Int → Int → zF → zB → zO
  | 0, _, _, _, _ => none
  | n + 1, l2, l1, F, B => if 0 ≤ l1 ∧ l1 < 3 then if r32 l2 then if r32 (F 13 l1 1) then (if (F 13 l1 1) ≤ l2 then some (0, F, B) else f_M_moments_82 (f_M_moments_69 K n) K K 0 0 l2 l1 F B) else none else none else none
set_option maxHeartbeats 4000000 in
set_option maxRecDepth 100000 in
theorem b_M_moments_69 {D : va_G} {ca : Nat → ClassId} {ad : Nat → Int → Nat → Nat} {L : List Nat} {aS vS : Nat → Nat} {A : Nat → Prop} {p : Program} {l : Launch} {e : Env} {s : State} {m : MethodId} {args : Array Value} {below : List Frame} {meth : Method} {c : Code} {K : Nat} {r : Int} {F9 : zF} {B9 : zB} (X : zX D ca L aS vS A p s m args meth c prog_15_method_171_code 5 (Option.none : Option Jvm.ClassFile.FieldType) "StaveHouseModel") : ∀ {n : Nat} {l2 : Int} {l1 : Int} {F : zF} {B : zB} {H : Heap} {locs : List Loc} {ls : Array Slot}, f_M_moments_69 K n l2 l1 F B = some (r, F9, B9) → zH D ca ad lnM nM L F B A H → va_S A s.heap H locs → lv_has ls 5 [(2, .int (iI l2)), (1, .ref (ad 13 l1 0))] → W p l e ({ frames := 3, cells := 0, slots := 0, locals := 88 } : Room) s m args below meth c H locs 0 0 (MQ below (Q_M_moments D ca ad L r F9 B9 A) args s 0 0 A) (F0 m 69 ls []) := by
  obtain ⟨hx, hb, hr, hml, hown, hts, hlk, hK, hA, hL, hX⟩ := id X
  intro n
  induction n with
  | zero =>
    intros
    rename_i hf _ _ _
    cases hf
  | succ n ih =>
    intro l2 l1 F B H locs ls hf hZ hS hl
    replace hf : (if 0 ≤ l1 ∧ l1 < 3 then if r32 l2 then if r32 (F 13 l1 1) then (if (F 13 l1 1) ≤ l2 then some (0, F, B) else f_M_moments_82 (f_M_moments_69 K n) K K 0 0 l2 l1 F B) else none else none else none) = some (r, F9, B9) := hf
    refine lv_iload_n hx hb (D_28 W_prog_15_method_171_code_64 5 rfl rfl) rfl (lv_at hl 0 rfl) ?_
    refine lv_aload_n hx hb (D_43 W_prog_15_method_171_code_64 6 rfl rfl) rfl (lv_at hl 1 rfl) ?_
    obtain ⟨g14, hf⟩ := gif hf
    refine zget (ci := 13) (C := RX13) (T := TX13) (v := .int (iI (F 13 l1 1))) (k := 1) hx hb hts inW_13 hown hK hZ g14.1 g14.2 rfl (by decide) k_9_126 rfl (D_180 W_prog_15_method_171_code_64 7 rfl rfl rfl) ?_
    obtain ⟨g15, hf⟩ := gif hf
    obtain ⟨g16, hf⟩ := gif hf
    refine zge (tgt := 181) hx hb g15 g16 (D_162 W_prog_15_method_171_code_64 10 rfl rfl rfl) (by decide) (fun h17 => ?_) (fun h17 => ?_)
    · replace hf := gpos hf h17
      cases hf
      exact W.vret hx hb hr (fun t ht hW => ⟨⟨(), rfl, trivial, by rw [ht]; exact hZ, va_K.moved hW.alike hK⟩, hS.F ht⟩) hS.2.2 (D_177 W_prog_15_method_171_code_160 21 rfl rfl) hlk
    · replace hf := gneg hf h17
      refine lv_iconst (v := iI 0) hx hb (D_3 W_prog_15_method_171_code_64 13 rfl rfl) rfl ?_
      refine lv_istore_n (lv' := [(3, .int (iI 0)), (2, .int (iI l2)), (1, .ref (ad 13 l1 0))]) hx hb (D_62 W_prog_15_method_171_code_64 14 rfl rfl) rfl hl (by decide) rfl (fun ls hl => ?_)
      refine lv_iconst (v := iI 0) hx hb (D_3 W_prog_15_method_171_code_64 15 rfl rfl) rfl ?_
      refine lv_istore (lv' := [(4, .int (iI 0)), (3, .int (iI 0)), (2, .int (iI l2)), (1, .ref (ad 13 l1 0))]) hx hb (D_54 W_prog_15_method_171_code_64 16 rfl rfl) hl (by decide) rfl (fun ls hl => ?_)
      exact b_M_moments_82 X ih hf hZ hS (lv_sub hl [0, 1, 2, 3] rfl)

def f_M_moments_17 (rec7 : Int → Int → zF → zB → zO) (K : Nat) : Nat → Int → Int → Int → zF → zB → zO
  | 0, _, _, _, _, _ => none
  | n + 1, l3, l2, l1, F, B => if 0 ≤ l1 ∧ l1 < 3 then if 0 ≤ l2 ∧ l2 < 4 then if r32 l3 then if r32 (B 13 l1 12 l2) then (if (B 13 l1 12 l2) ≤ l3 then rec7 (l2 + 1) l1 F B else if 0 ≤ ((1000 * l2) + l3) ∧ ((1000 * l2) + l3) < 4000 then zbind (f_M_moment_1 K l1 (B 13 l1 14 ((1000 * l2) + l3)) (B 13 l1 15 ((1000 * l2) + l3)) F B) (fun r13 F13 B13 => f_M_moments_17 rec7 K n (l3 + 1) l2 l1 F13 B13) else none) else none else none else none else none
set_option maxHeartbeats 4000000 in
set_option maxRecDepth 100000 in
theorem b_M_moments_17 {D : va_G} {ca : Nat → ClassId} {ad : Nat → Int → Nat → Nat} {L : List Nat} {aS vS : Nat → Nat} {A : Nat → Prop} {p : Program} {l : Launch} {e : Env} {s : State} {m : MethodId} {args : Array Value} {below : List Frame} {meth : Method} {c : Code} {K : Nat} {r : Int} {F9 : zF} {B9 : zB} (X : zX D ca L aS vS A p s m args meth c prog_15_method_171_code 5 (Option.none : Option Jvm.ClassFile.FieldType) "StaveHouseModel") {rec7 : Int → Int → zF → zB → zO} (hrec7 : ∀ {l2 : Int} {l1 : Int} {F : zF} {B : zB} {H : Heap} {locs : List Loc} {ls : Array Slot}, rec7 l2 l1 F B = some (r, F9, B9) → zH D ca ad lnM nM L F B A H → va_S A s.heap H locs → lv_has ls 5 [(2, .int (iI l2)), (1, .ref (ad 13 l1 0))] → W p l e ({ frames := 3, cells := 0, slots := 0, locals := 88 } : Room) s m args below meth c H locs 0 0 (MQ below (Q_M_moments D ca ad L r F9 B9 A) args s 0 0 A) (F0 m 7 ls [])) : ∀ {n : Nat} {l3 : Int} {l2 : Int} {l1 : Int} {F : zF} {B : zB} {H : Heap} {locs : List Loc} {ls : Array Slot}, f_M_moments_17 rec7 K n l3 l2 l1 F B = some (r, F9, B9) → zH D ca ad lnM nM L F B A H → va_S A s.heap H locs → lv_has ls 5 [(3, .int (iI l3)), (2, .int (iI l2)), (1, .ref (ad 13 l1 0))] → W p l e ({ frames := 3, cells := 0, slots := 0, locals := 88 } : Room) s m args below meth c H locs 0 0 (MQ below (Q_M_moments D ca ad L r F9 B9 A) args s 0 0 A) (F0 m 17 ls []) := by
  obtain ⟨hx, hb, hr, hml, hown, hts, hlk, hK, hA, hL, hX⟩ := id X
  intro n
  induction n with
  | zero =>
    intros
    rename_i hf _ _ _
    cases hf
  | succ n ih =>
    intro l3 l2 l1 F B H locs ls hf hZ hS hl
    replace hf : (if 0 ≤ l1 ∧ l1 < 3 then if 0 ≤ l2 ∧ l2 < 4 then if r32 l3 then if r32 (B 13 l1 12 l2) then (if (B 13 l1 12 l2) ≤ l3 then rec7 (l2 + 1) l1 F B else if 0 ≤ ((1000 * l2) + l3) ∧ ((1000 * l2) + l3) < 4000 then zbind (f_M_moment_1 K l1 (B 13 l1 14 ((1000 * l2) + l3)) (B 13 l1 15 ((1000 * l2) + l3)) F B) (fun r13 F13 B13 => f_M_moments_17 rec7 K n (l3 + 1) l2 l1 F13 B13) else none) else none else none else none else none) = some (r, F9, B9) := hf
    refine lv_iload_n hx hb (D_29 W_prog_15_method_171_code_0 17 rfl rfl) rfl (lv_at hl 0 rfl) ?_
    refine lv_aload_n hx hb (D_43 W_prog_15_method_171_code_0 18 rfl rfl) rfl (lv_at hl 2 rfl) ?_
    obtain ⟨g7, hf⟩ := gif hf
    refine zget (ci := 13) (C := RX13) (T := TX13) (v := .ref (ad 13 l1 (12 + 1))) (k := 12) hx hb hts inW_13 hown hK hZ g7.1 g7.2 rfl (by decide) k_9_142 rfl (D_180 W_prog_15_method_171_code_0 19 rfl rfl rfl) ?_
    refine lv_iload_n hx hb (D_28 W_prog_15_method_171_code_0 22 rfl rfl) rfl (lv_at hl 1 rfl) ?_
    obtain ⟨g8, hf⟩ := gif hf
    refine zald (ci := 13) (k := 12) hx hb hK rfl hZ g7.1 g7.2 rfl (Nat.le_of_ble_eq_true rfl) g8.1 g8.2 (D_46 W_prog_15_method_171_code_0 23 rfl rfl) ?_
    obtain ⟨g9, hf⟩ := gif hf
    obtain ⟨g10, hf⟩ := gif hf
    refine zge (tgt := 61) hx hb g9 g10 (D_162 W_prog_15_method_171_code_0 24 rfl rfl rfl) (by decide) (fun h11 => ?_) (fun h11 => ?_)
    · replace hf := gpos hf h11
      refine lv_iinc (v := iI (l2 + 1)) (lv' := [(2, .int (iI (l2 + 1))), (3, .int (iI l3)), (1, .ref (ad 13 l1 0))]) hx hb d_15_171_61 hl (k := 1) rfl (iI_add _ 1) (by decide) rfl (fun ls hl => ?_)
      refine lv_goto (tgt := 7) hx hb (D_167 W_prog_15_method_171_code_64 0 rfl rfl rfl) (by decide) ?_
      exact hrec7 hf hZ hS (lv_sub hl [0, 2] rfl)
    · replace hf := gneg hf h11
      refine lv_aload_n hx hb (D_43 W_prog_15_method_171_code_0 27 rfl rfl) rfl (lv_at hl 2 rfl) ?_
      refine lv_aload_n hx hb (D_43 W_prog_15_method_171_code_0 28 rfl rfl) rfl (lv_at hl 2 rfl) ?_
      refine zget (ci := 13) (C := RX13) (T := TX13) (v := .ref (ad 13 l1 (14 + 1))) (k := 14) hx hb hts inW_13 hown hK hZ g7.1 g7.2 rfl (by decide) k_9_146 rfl (D_180 W_prog_15_method_171_code_0 29 rfl rfl rfl) ?_
      refine lv_sipush (v := iI 1000) hx hb (D_17 W_prog_15_method_171_code_32 0 rfl rfl rfl) (by decide) ?_
      refine lv_iload_n hx hb (D_28 W_prog_15_method_171_code_32 3 rfl rfl) rfl (lv_at hl 1 rfl) ?_
      refine zmul hx hb (D_104 W_prog_15_method_171_code_32 4 rfl rfl) ?_
      refine lv_iload_n hx hb (D_29 W_prog_15_method_171_code_32 5 rfl rfl) rfl (lv_at hl 0 rfl) ?_
      refine zadd hx hb (D_96 W_prog_15_method_171_code_32 6 rfl rfl) ?_
      obtain ⟨g12, hf⟩ := gif hf
      refine zlald (ci := 13) (k := 14) hx hb hK rfl hZ g7.1 g7.2 rfl (Nat.le_of_ble_eq_true rfl) g12.1 g12.2 (D_47 W_prog_15_method_171_code_32 7 rfl rfl) ?_
      refine lv_aload_n hx hb (D_43 W_prog_15_method_171_code_32 8 rfl rfl) rfl (lv_at hl 2 rfl) ?_
      refine zget (ci := 13) (C := RX13) (T := TX13) (v := .ref (ad 13 l1 (15 + 1))) (k := 15) hx hb hts inW_13 hown hK hZ g7.1 g7.2 rfl (by decide) k_9_148 rfl (D_180 W_prog_15_method_171_code_32 9 rfl rfl rfl) ?_
      refine lv_sipush (v := iI 1000) hx hb (D_17 W_prog_15_method_171_code_32 12 rfl rfl rfl) (by decide) ?_
      refine lv_iload_n hx hb (D_28 W_prog_15_method_171_code_32 15 rfl rfl) rfl (lv_at hl 1 rfl) ?_
      refine zmul hx hb (D_104 W_prog_15_method_171_code_32 16 rfl rfl) ?_
      refine lv_iload_n hx hb (D_29 W_prog_15_method_171_code_32 17 rfl rfl) rfl (lv_at hl 0 rfl) ?_
      refine zadd hx hb (D_96 W_prog_15_method_171_code_32 18 rfl rfl) ?_
      refine zlald (ci := 13) (k := 15) hx hb hK rfl hZ g7.1 g7.2 rfl (Nat.le_of_ble_eq_true rfl) g12.1 g12.2 (D_47 W_prog_15_method_171_code_32 19 rfl rfl) ?_
      obtain ⟨r13, F13, B13, hc13, hf⟩ := gbind hf
      refine va_callv (va_runS (As := [.ref (ad 13 l1 0), .long (lI (B 13 l1 14 ((1000 * l2) + l3))), .long (lI (B 13 l1 15 ((1000 * l2) + l3)))]) (rest := []) ⟨hx, hb, hml, hown, hts⟩ (c_M_moment_1 (l := l) hc13) (va_cwS 3 hts (gdS k_15_105 k_15_106 k_1_9 k_15_107) rfl rfl rfl (by decide +kernel) ⟨Nat.le_of_ble_eq_true rfl, Nat.le_of_ble_eq_true rfl⟩) (zPS X hZ hS [.ref (ad 13 l1 0), .long (lI (B 13 l1 14 ((1000 * l2) + l3))), .long (lI (B 13 l1 15 ((1000 * l2) + l3)))]) rfl rfl hl.1 rfl (lv_room (Nat.le_of_ble_eq_true rfl)) (D_184 W_prog_15_method_171_code_32 20 rfl rfl rfl) ⟨Nat.le_of_ble_eq_true rfl, Nat.le_of_ble_eq_true rfl⟩) hS (fun q _ h => zAin X hS q h) (zAin X hS) (fun u13 t13 H13 locs13 ht13 hv13 hw13 hB13 hz13 hk13 hS13 => ?_)
      have hZ13 := zBack X ht13 hB13
      refine lv_iinc (v := iI (l3 + 1)) (lv' := [(3, .int (iI (l3 + 1))), (2, .int (iI l2)), (1, .ref (ad 13 l1 0))]) hx hb d_15_171_55 hl (k := 0) rfl (iI_add _ 1) (by decide) rfl (fun ls hl => ?_)
      refine lv_goto (tgt := 17) hx hb (D_167 W_prog_15_method_171_code_32 26 rfl rfl rfl) (by decide) ?_
      exact ih hf hZ13 hS13 (lv_sub hl [0, 1, 2] rfl)

def f_M_moments_7 (K : Nat) : Nat → Int → Int → zF → zB → zO
  | 0, _, _, _, _ => none
  | n + 1, l2, l1, F, B => if 0 ≤ l1 ∧ l1 < 3 then if r32 l2 then if r32 (F 13 l1 1) then (if (F 13 l1 1) ≤ l2 then f_M_moments_69 K K 0 l1 F B else f_M_moments_17 (f_M_moments_7 K n) K K 0 l2 l1 F B) else none else none else none
set_option maxHeartbeats 4000000 in
set_option maxRecDepth 100000 in
theorem b_M_moments_7 {D : va_G} {ca : Nat → ClassId} {ad : Nat → Int → Nat → Nat} {L : List Nat} {aS vS : Nat → Nat} {A : Nat → Prop} {p : Program} {l : Launch} {e : Env} {s : State} {m : MethodId} {args : Array Value} {below : List Frame} {meth : Method} {c : Code} {K : Nat} {r : Int} {F9 : zF} {B9 : zB} (X : zX D ca L aS vS A p s m args meth c prog_15_method_171_code 5 (Option.none : Option Jvm.ClassFile.FieldType) "StaveHouseModel") : ∀ {n : Nat} {l2 : Int} {l1 : Int} {F : zF} {B : zB} {H : Heap} {locs : List Loc} {ls : Array Slot}, f_M_moments_7 K n l2 l1 F B = some (r, F9, B9) → zH D ca ad lnM nM L F B A H → va_S A s.heap H locs → lv_has ls 5 [(2, .int (iI l2)), (1, .ref (ad 13 l1 0))] → W p l e ({ frames := 3, cells := 0, slots := 0, locals := 88 } : Room) s m args below meth c H locs 0 0 (MQ below (Q_M_moments D ca ad L r F9 B9 A) args s 0 0 A) (F0 m 7 ls []) := by
  obtain ⟨hx, hb, hr, hml, hown, hts, hlk, hK, hA, hL, hX⟩ := id X
  intro n
  induction n with
  | zero =>
    intros
    rename_i hf _ _ _
    cases hf
  | succ n ih =>
    intro l2 l1 F B H locs ls hf hZ hS hl
    replace hf : (if 0 ≤ l1 ∧ l1 < 3 then if r32 l2 then if r32 (F 13 l1 1) then (if (F 13 l1 1) ≤ l2 then f_M_moments_69 K K 0 l1 F B else f_M_moments_17 (f_M_moments_7 K n) K K 0 l2 l1 F B) else none else none else none) = some (r, F9, B9) := hf
    refine lv_iload_n hx hb (D_28 W_prog_15_method_171_code_0 7 rfl rfl) rfl (lv_at hl 0 rfl) ?_
    refine lv_aload_n hx hb (D_43 W_prog_15_method_171_code_0 8 rfl rfl) rfl (lv_at hl 1 rfl) ?_
    obtain ⟨g3, hf⟩ := gif hf
    refine zget (ci := 13) (C := RX13) (T := TX13) (v := .int (iI (F 13 l1 1))) (k := 1) hx hb hts inW_13 hown hK hZ g3.1 g3.2 rfl (by decide) k_9_126 rfl (D_180 W_prog_15_method_171_code_0 9 rfl rfl rfl) ?_
    obtain ⟨g4, hf⟩ := gif hf
    obtain ⟨g5, hf⟩ := gif hf
    refine zge (tgt := 67) hx hb g4 g5 (D_162 W_prog_15_method_171_code_0 12 rfl rfl rfl) (by decide) (fun h6 => ?_) (fun h6 => ?_)
    · replace hf := gpos hf h6
      refine lv_iconst (v := iI 0) hx hb (D_3 W_prog_15_method_171_code_64 3 rfl rfl) rfl ?_
      refine lv_istore_n (lv' := [(2, .int (iI 0)), (1, .ref (ad 13 l1 0))]) hx hb (D_61 W_prog_15_method_171_code_64 4 rfl rfl) rfl hl (by decide) rfl (fun ls hl => ?_)
      exact b_M_moments_69 X hf hZ hS (lv_sub hl [0, 1] rfl)
    · replace hf := gneg hf h6
      refine lv_iconst (v := iI 0) hx hb (D_3 W_prog_15_method_171_code_0 15 rfl rfl) rfl ?_
      refine lv_istore_n (lv' := [(3, .int (iI 0)), (2, .int (iI l2)), (1, .ref (ad 13 l1 0))]) hx hb (D_62 W_prog_15_method_171_code_0 16 rfl rfl) rfl hl (by decide) rfl (fun ls hl => ?_)
      exact b_M_moments_17 X ih hf hZ hS (lv_sub hl [0, 1, 2] rfl)

def f_M_moments (K : Nat) (l1 : Int) (F : zF) (B : zB) : zO := if 0 ≤ l1 ∧ l1 < 3 then f_M_moments_7 K K 0 l1 (zup3 F 13 l1 72 0) B else none
set_option maxHeartbeats 4000000 in
set_option maxRecDepth 100000 in
theorem c_M_moments {l : Launch} {D : va_G} {ca : Nat → ClassId} {ad : Nat → Int → Nat → Nat} {L : List Nat} {aS vS : Nat → Nat} {sz K : Nat}  {l1 : Int} {F F9 : zF} {B B9 : zB} {r : Int} (hf : f_M_moments K l1 F B = some (r, F9, B9)) : Met l ({ cls := "StaveHouseModel", name := "moments", desc := "(LStaveHouseModel$Piece;)V" } : Jvm.MethodName) (Cond.code ({ cls := "StaveHouseModel", name := "moments", desc := "(LStaveHouseModel$Piece;)V" } : Jvm.MethodName) prog_15_method_171_code 5 (Option.none : Option Jvm.ClassFile.FieldType) :: wAll) ({ frames := 3, cells := 0, slots := 0, locals := 88 } : Room) (va_Pc [.ref (ad 14 0 0), .ref (ad 13 l1 0)] (zPre D ca ad lnM nM L aS vS F B sz)) (Q_M_moments D ca ad L r F9 B9 (zA L sz)) 0 0 (zA L sz) := by
  refine zMet (Qc := Q_M_moments D ca ad L r F9 B9) (lv := [(0, .ref (ad 14 0 0)), (1, .ref (ad 13 l1 0))]) (by decide) (Nat.le_of_ble_eq_true rfl) rfl (fun A p e s m below meth c ls X hZ hS hl => ?_)
  obtain ⟨hx, hb, hr, hml, hown, hts, hlk, hK, hA, hL, hX⟩ := id X
  replace hf : (if 0 ≤ l1 ∧ l1 < 3 then f_M_moments_7 K K 0 l1 (zup3 F 13 l1 72 0) B else none) = some (r, F9, B9) := hf
  refine lv_aload_n hx hb (D_43 W_prog_15_method_171_code_0 0 rfl rfl) rfl (lv_at hl 1 rfl) ?_
  refine lv_iconst (v := iI 0) hx hb (D_3 W_prog_15_method_171_code_0 1 rfl rfl) rfl ?_
  obtain ⟨g1, hf⟩ := gif hf
  refine zput (ci := 13) (C := RX13) (T := TX13) (k := 72) (v := 0) (w := .int (iI 0)) hx hb hts inW_13 tyX13 tyX13_ok nmX13 hown hK hZ hS g1.1 g1.2 rfl (by decide) k_10_11 rfl (fun G h => congrArg (fun q => Value.int (iI q)) h) rfl rfl (zno (by decide)) (D_181 W_prog_15_method_171_code_0 2 rfl rfl rfl) (fun H2 locs2 hZ2 hS2 => ?_)
  refine lv_iconst (v := iI 0) hx hb (D_3 W_prog_15_method_171_code_0 5 rfl rfl) rfl ?_
  refine lv_istore_n (lv' := [(2, .int (iI 0)), (0, .ref (ad 14 0 0)), (1, .ref (ad 13 l1 0))]) hx hb (D_61 W_prog_15_method_171_code_0 6 rfl rfl) rfl hl (by decide) rfl (fun ls hl => ?_)
  exact b_M_moments_7 X hf hZ2 hS2 (lv_sub hl [0, 2] rfl)

abbrev Q_M_isAlone (D : va_G) (ca : Nat → ClassId) (ad : Nat → Int → Nat → Nat) (L : List Nat) (r : Int) (F : zF) (B : zB) (A : Nat → Prop) : Array Value → State → Outcome → State → Prop := va_Qi (S := Unit) (fun p _ => p = iI r) (fun _ => zPo D ca ad lnM nM L F B A) A
def f_M_isAlone_152 (K : Nat) (s0 : Int) (F : zF) (B : zB) : zO := if (s0 = 0 ∨ s0 = 1) then some (s0, F, B) else none
set_option maxHeartbeats 4000000 in
set_option maxRecDepth 100000 in
theorem b_M_isAlone_152 {D : va_G} {ca : Nat → ClassId} {ad : Nat → Int → Nat → Nat} {L : List Nat} {aS vS : Nat → Nat} {A : Nat → Prop} {p : Program} {l : Launch} {e : Env} {s : State} {m : MethodId} {args : Array Value} {below : List Frame} {meth : Method} {c : Code} {K : Nat} {r : Int} {F9 : zF} {B9 : zB} (X : zX D ca L aS vS A p s m args meth c prog_15_method_192_code 10 (Option.some Jvm.ClassFile.FieldType.boolean) "StaveHouseModel") {s0 : Int} {F : zF} {B : zB} {H : Heap} {locs : List Loc} {ls : Array Slot} (hf : f_M_isAlone_152 K s0 F B = some (r, F9, B9)) (hZ : zH D ca ad lnM nM L F B A H) (hS : va_S A s.heap H locs) (hl : lv_has ls 10 []) : W p l e ({ frames := 3, cells := 0, slots := 0, locals := 68 } : Room) s m args below meth c H locs 0 0 (MQ below (Q_M_isAlone D ca ad L r F9 B9 A) args s 0 0 A) (F0 m 152 ls [.int (iI s0)]) := by
  obtain ⟨hx, hb, hr, hml, hown, hts, hlk, hK, hA, hL, hX⟩ := id X
  replace hf : (if (s0 = 0 ∨ s0 = 1) then some (s0, F, B) else none) = some (r, F9, B9) := hf
  obtain ⟨g31, hf⟩ := gif hf
  cases hf
  exact W.zret hx hb hr (zbool g31) (fun t ht hW => ⟨⟨_, (), rfl, rfl, by rw [ht]; exact hZ, va_K.moved hW.alike hK⟩, hS.F ht⟩) hS.2.2 (D_172 W_prog_15_method_192_code_128 24 rfl rfl) hlk

def f_M_isAlone_127 (K : Nat) (l7 : Int) (s0 : Int) (F : zF) (B : zB) : zO := zbind (f_M_mod K s0 12 F B) (fun r27 F27 B27 => zbind (f_M_isPlainStep K (zrm l7 7) r27 F27 B27) (fun r28 F28 B28 => if r32 r28 then (if r28 = 0 then f_M_isAlone_152 K 1 F28 B28 else f_M_isAlone_152 K 0 F28 B28) else none))
set_option maxHeartbeats 4000000 in
set_option maxRecDepth 100000 in
theorem b_M_isAlone_127 {D : va_G} {ca : Nat → ClassId} {ad : Nat → Int → Nat → Nat} {L : List Nat} {aS vS : Nat → Nat} {A : Nat → Prop} {p : Program} {l : Launch} {e : Env} {s : State} {m : MethodId} {args : Array Value} {below : List Frame} {meth : Method} {c : Code} {K : Nat} {r : Int} {F9 : zF} {B9 : zB} (X : zX D ca L aS vS A p s m args meth c prog_15_method_192_code 10 (Option.some Jvm.ClassFile.FieldType.boolean) "StaveHouseModel") {l7 : Int} {s0 : Int} {F : zF} {B : zB} {H : Heap} {locs : List Loc} {ls : Array Slot} (hf : f_M_isAlone_127 K l7 s0 F B = some (r, F9, B9)) (hZ : zH D ca ad lnM nM L F B A H) (hS : va_S A s.heap H locs) (hl : lv_has ls 10 [(7, .int (iI l7))]) : W p l e ({ frames := 3, cells := 0, slots := 0, locals := 68 } : Room) s m args below meth c H locs 0 0 (MQ below (Q_M_isAlone D ca ad L r F9 B9 A) args s 0 0 A) (F0 m 127 ls [.int (iI s0)]) := by
  obtain ⟨hx, hb, hr, hml, hown, hts, hlk, hK, hA, hL, hX⟩ := id X
  replace hf : (zbind (f_M_mod K s0 12 F B) (fun r27 F27 B27 => zbind (f_M_isPlainStep K (zrm l7 7) r27 F27 B27) (fun r28 F28 B28 => if r32 r28 then (if r28 = 0 then f_M_isAlone_152 K 1 F28 B28 else f_M_isAlone_152 K 0 F28 B28) else none))) = some (r, F9, B9) := hf
  refine lv_istore (lv' := [(9, .int (iI s0)), (7, .int (iI l7))]) hx hb (D_54 W_prog_15_method_192_code_96 31 rfl rfl) hl (by decide) rfl (fun ls hl => ?_)
  refine lv_iload hx hb (D_21 W_prog_15_method_192_code_128 1 rfl rfl) (lv_at hl 1 rfl) ?_
  refine lv_bipush (v := iI 7) hx hb (D_16 W_prog_15_method_192_code_128 3 rfl rfl rfl) (by decide) ?_
  refine zrm_r hx hb (by decide) (D_112 W_prog_15_method_192_code_128 5 rfl rfl) ?_
  refine lv_iload hx hb (D_21 W_prog_15_method_192_code_128 6 rfl rfl) (lv_at hl 0 rfl) ?_
  refine lv_bipush (v := iI 12) hx hb (D_16 W_prog_15_method_192_code_128 8 rfl rfl rfl) (by decide) ?_
  obtain ⟨r27, F27, B27, hc27, hf⟩ := gbind hf
  refine va_calli (va_runS (As := [.int (iI s0), .int (iI 12)]) (rest := [.int (iI (zrm l7 7))]) ⟨hx, hb, hml, hown, hts⟩ (c_M_mod (l := l) hc27) (va_cwS 2 hts (gdS k_12_164 k_12_165 k_1_9 k_12_166) rfl rfl rfl (by decide +kernel) ⟨Nat.le_of_ble_eq_true rfl, Nat.le_of_ble_eq_true rfl⟩) (zPS X hZ hS [.int (iI s0), .int (iI 12)]) rfl rfl hl.1 rfl (lv_room (Nat.le_of_ble_eq_true rfl)) (D_184 W_prog_15_method_192_code_128 10 rfl rfl rfl) ⟨Nat.le_of_ble_eq_true rfl, Nat.le_of_ble_eq_true rfl⟩) hS (fun q _ h => zAin X hS q h) (zAin X hS) (fun p27 u27 t27 H27 locs27 ht27 hv27 hw27 hB27 hz27 hk27 hS27 => ?_)
  have hZ27 := zBack X ht27 hB27
  subst hw27
  obtain ⟨r28, F28, B28, hc28, hf⟩ := gbind hf
  refine va_calli (va_runS (As := [.int (iI (zrm l7 7)), .int (iI r27)]) (rest := []) ⟨hx, hb, hml, hown, hts⟩ (c_M_isPlainStep (l := l) hc28) (va_cwS 2 hts (gdS k_15_124 k_15_125 k_1_9 k_15_126) rfl rfl rfl (by decide +kernel) ⟨Nat.le_of_ble_eq_true rfl, Nat.le_of_ble_eq_true rfl⟩) (zPS X hZ27 hS27 [.int (iI (zrm l7 7)), .int (iI r27)]) rfl rfl hl.1 rfl (lv_room (Nat.le_of_ble_eq_true rfl)) (D_184 W_prog_15_method_192_code_128 13 rfl rfl rfl) ⟨Nat.le_of_ble_eq_true rfl, Nat.le_of_ble_eq_true rfl⟩) hS27 (fun q _ h => zAin X hS27 q h) (zAin X hS27) (fun p28 u28 t28 H28 locs28 ht28 hv28 hw28 hB28 hz28 hk28 hS28 => ?_)
  have hZ28 := zBack X ht28 hB28
  subst hw28
  obtain ⟨g29, hf⟩ := gif hf
  refine z0ne (tgt := 151) hx hb g29 (D_154 W_prog_15_method_192_code_128 16 rfl rfl rfl) (by decide) (fun h30 => ?_) (fun h30 => ?_)
  · replace hf := gneg hf h30
    refine lv_iconst (v := iI 0) hx hb (D_3 W_prog_15_method_192_code_128 23 rfl rfl) rfl ?_
    exact b_M_isAlone_152 X hf hZ28 hS28 (lv_sub hl [] rfl)
  · replace hf := gpos hf h30
    refine lv_iconst (v := iI 1) hx hb (D_4 W_prog_15_method_192_code_128 19 rfl rfl) rfl ?_
    refine lv_goto (tgt := 152) hx hb (D_167 W_prog_15_method_192_code_128 20 rfl rfl rfl) (by decide) ?_
    exact b_M_isAlone_152 X hf hZ28 hS28 (lv_sub hl [] rfl)

def f_M_isAlone_125 (K : Nat) (l8 : Int) (l7 : Int) (F : zF) (B : zB) : zO := f_M_isAlone_127 K l7 l8 F B
set_option maxHeartbeats 4000000 in
set_option maxRecDepth 100000 in
theorem b_M_isAlone_125 {D : va_G} {ca : Nat → ClassId} {ad : Nat → Int → Nat → Nat} {L : List Nat} {aS vS : Nat → Nat} {A : Nat → Prop} {p : Program} {l : Launch} {e : Env} {s : State} {m : MethodId} {args : Array Value} {below : List Frame} {meth : Method} {c : Code} {K : Nat} {r : Int} {F9 : zF} {B9 : zB} (X : zX D ca L aS vS A p s m args meth c prog_15_method_192_code 10 (Option.some Jvm.ClassFile.FieldType.boolean) "StaveHouseModel") {l8 : Int} {l7 : Int} {F : zF} {B : zB} {H : Heap} {locs : List Loc} {ls : Array Slot} (hf : f_M_isAlone_125 K l8 l7 F B = some (r, F9, B9)) (hZ : zH D ca ad lnM nM L F B A H) (hS : va_S A s.heap H locs) (hl : lv_has ls 10 [(8, .int (iI l8)), (7, .int (iI l7))]) : W p l e ({ frames := 3, cells := 0, slots := 0, locals := 68 } : Room) s m args below meth c H locs 0 0 (MQ below (Q_M_isAlone D ca ad L r F9 B9 A) args s 0 0 A) (F0 m 125 ls []) := by
  obtain ⟨hx, hb, hr, hml, hown, hts, hlk, hK, hA, hL, hX⟩ := id X
  replace hf : (f_M_isAlone_127 K l7 l8 F B) = some (r, F9, B9) := hf
  refine lv_iload hx hb (D_21 W_prog_15_method_192_code_96 29 rfl rfl) (lv_at hl 0 rfl) ?_
  exact b_M_isAlone_127 X hf hZ hS (lv_sub hl [1] rfl)

def f_M_isAlone_119 (K : Nat) (l8 : Int) (l7 : Int) (F : zF) (B : zB) : zO := f_M_isAlone_127 K l7 (-l8) F B
set_option maxHeartbeats 4000000 in
set_option maxRecDepth 100000 in
theorem b_M_isAlone_119 {D : va_G} {ca : Nat → ClassId} {ad : Nat → Int → Nat → Nat} {L : List Nat} {aS vS : Nat → Nat} {A : Nat → Prop} {p : Program} {l : Launch} {e : Env} {s : State} {m : MethodId} {args : Array Value} {below : List Frame} {meth : Method} {c : Code} {K : Nat} {r : Int} {F9 : zF} {B9 : zB} (X : zX D ca L aS vS A p s m args meth c prog_15_method_192_code 10 (Option.some Jvm.ClassFile.FieldType.boolean) "StaveHouseModel") {l8 : Int} {l7 : Int} {F : zF} {B : zB} {H : Heap} {locs : List Loc} {ls : Array Slot} (hf : f_M_isAlone_119 K l8 l7 F B = some (r, F9, B9)) (hZ : zH D ca ad lnM nM L F B A H) (hS : va_S A s.heap H locs) (hl : lv_has ls 10 [(8, .int (iI l8)), (7, .int (iI l7))]) : W p l e ({ frames := 3, cells := 0, slots := 0, locals := 68 } : Room) s m args below meth c H locs 0 0 (MQ below (Q_M_isAlone D ca ad L r F9 B9 A) args s 0 0 A) (F0 m 119 ls []) := by
  obtain ⟨hx, hb, hr, hml, hown, hts, hlk, hK, hA, hL, hX⟩ := id X
  replace hf : (f_M_isAlone_127 K l7 (-l8) F B) = some (r, F9, B9) := hf
  refine lv_iload hx hb (D_21 W_prog_15_method_192_code_96 23 rfl rfl) (lv_at hl 0 rfl) ?_
  refine zneg hx hb (D_116 W_prog_15_method_192_code_96 25 rfl rfl) ?_
  refine lv_goto (tgt := 127) hx hb (D_167 W_prog_15_method_192_code_96 26 rfl rfl rfl) (by decide) ?_
  exact b_M_isAlone_127 X hf hZ hS (lv_sub hl [1] rfl)

def f_M_isAlone_88 (K : Nat) (s0 : Int) (F : zF) (B : zB) : zO := if (s0 = 0 ∨ s0 = 1) then some (s0, F, B) else none
set_option maxHeartbeats 4000000 in
set_option maxRecDepth 100000 in
theorem b_M_isAlone_88 {D : va_G} {ca : Nat → ClassId} {ad : Nat → Int → Nat → Nat} {L : List Nat} {aS vS : Nat → Nat} {A : Nat → Prop} {p : Program} {l : Launch} {e : Env} {s : State} {m : MethodId} {args : Array Value} {below : List Frame} {meth : Method} {c : Code} {K : Nat} {r : Int} {F9 : zF} {B9 : zB} (X : zX D ca L aS vS A p s m args meth c prog_15_method_192_code 10 (Option.some Jvm.ClassFile.FieldType.boolean) "StaveHouseModel") {s0 : Int} {F : zF} {B : zB} {H : Heap} {locs : List Loc} {ls : Array Slot} (hf : f_M_isAlone_88 K s0 F B = some (r, F9, B9)) (hZ : zH D ca ad lnM nM L F B A H) (hS : va_S A s.heap H locs) (hl : lv_has ls 10 []) : W p l e ({ frames := 3, cells := 0, slots := 0, locals := 68 } : Room) s m args below meth c H locs 0 0 (MQ below (Q_M_isAlone D ca ad L r F9 B9 A) args s 0 0 A) (F0 m 88 ls [.int (iI s0)]) := by
  obtain ⟨hx, hb, hr, hml, hown, hts, hlk, hK, hA, hL, hX⟩ := id X
  replace hf : (if (s0 = 0 ∨ s0 = 1) then some (s0, F, B) else none) = some (r, F9, B9) := hf
  obtain ⟨g26, hf⟩ := gif hf
  cases hf
  exact W.zret hx hb hr (zbool g26) (fun t ht hW => ⟨⟨_, (), rfl, rfl, by rw [ht]; exact hZ, va_K.moved hW.alike hK⟩, hS.F ht⟩) hS.2.2 (D_172 W_prog_15_method_192_code_64 24 rfl rfl) hlk

def f_M_isAlone_69 (K : Nat) (l6 : Int) (l5 : Int) (l4 : Int) (l0 : Int) (l2 : Int) (s0 : Int) (F : zF) (B : zB) : zO := if r32 l2 then (if l2 = 5 then if r32 s0 then (if s0 ≤ 7 then f_M_isAlone_88 K 0 F B else f_M_isAlone_88 K 1 F B) else none else zbind (f_M_toneAt K l0 l4 F B) (fun r17 F17 B17 => zbind (f_M_toneAt K l0 l5 F17 B17) (fun r18 F18 B18 => if r32 l6 then (if l6 < 0 then f_M_isAlone_119 K (r17 - r18) s0 F18 B18 else (if l6 = 0 then if r32 (r17 - r18) then (if 0 ≤ (r17 - r18) then f_M_isAlone_125 K (r17 - r18) s0 F18 B18 else f_M_isAlone_119 K (r17 - r18) s0 F18 B18) else none else f_M_isAlone_125 K (r17 - r18) s0 F18 B18)) else none))) else none
set_option maxHeartbeats 4000000 in
set_option maxRecDepth 100000 in
theorem b_M_isAlone_69 {D : va_G} {ca : Nat → ClassId} {ad : Nat → Int → Nat → Nat} {L : List Nat} {aS vS : Nat → Nat} {A : Nat → Prop} {p : Program} {l : Launch} {e : Env} {s : State} {m : MethodId} {args : Array Value} {below : List Frame} {meth : Method} {c : Code} {K : Nat} {r : Int} {F9 : zF} {B9 : zB} (X : zX D ca L aS vS A p s m args meth c prog_15_method_192_code 10 (Option.some Jvm.ClassFile.FieldType.boolean) "StaveHouseModel") {l6 : Int} {l5 : Int} {l4 : Int} {l0 : Int} {l2 : Int} {s0 : Int} {F : zF} {B : zB} {H : Heap} {locs : List Loc} {ls : Array Slot} (hf : f_M_isAlone_69 K l6 l5 l4 l0 l2 s0 F B = some (r, F9, B9)) (hZ : zH D ca ad lnM nM L F B A H) (hS : va_S A s.heap H locs) (hl : lv_has ls 10 [(6, .int (iI l6)), (5, .int (iI l5)), (4, .int (iI l4)), (0, .ref (ad 13 l0 0)), (2, .int (iI l2))]) : W p l e ({ frames := 3, cells := 0, slots := 0, locals := 68 } : Room) s m args below meth c H locs 0 0 (MQ below (Q_M_isAlone D ca ad L r F9 B9 A) args s 0 0 A) (F0 m 69 ls [.int (iI s0)]) := by
  obtain ⟨hx, hb, hr, hml, hown, hts, hlk, hK, hA, hL, hX⟩ := id X
  replace hf : (if r32 l2 then (if l2 = 5 then if r32 s0 then (if s0 ≤ 7 then f_M_isAlone_88 K 0 F B else f_M_isAlone_88 K 1 F B) else none else zbind (f_M_toneAt K l0 l4 F B) (fun r17 F17 B17 => zbind (f_M_toneAt K l0 l5 F17 B17) (fun r18 F18 B18 => if r32 l6 then (if l6 < 0 then f_M_isAlone_119 K (r17 - r18) s0 F18 B18 else (if l6 = 0 then if r32 (r17 - r18) then (if 0 ≤ (r17 - r18) then f_M_isAlone_125 K (r17 - r18) s0 F18 B18 else f_M_isAlone_119 K (r17 - r18) s0 F18 B18) else none else f_M_isAlone_125 K (r17 - r18) s0 F18 B18)) else none))) else none) = some (r, F9, B9) := hf
  refine lv_istore (lv' := [(7, .int (iI s0)), (6, .int (iI l6)), (5, .int (iI l5)), (4, .int (iI l4)), (0, .ref (ad 13 l0 0)), (2, .int (iI l2))]) hx hb (D_54 W_prog_15_method_192_code_64 5 rfl rfl) hl (by decide) rfl (fun ls hl => ?_)
  refine lv_iload_n hx hb (D_28 W_prog_15_method_192_code_64 7 rfl rfl) rfl (lv_at hl 5 rfl) ?_
  refine lv_iconst (v := iI 5) hx hb (D_8 W_prog_15_method_192_code_64 8 rfl rfl) rfl ?_
  obtain ⟨g15, hf⟩ := gif hf
  refine zne (tgt := 89) hx hb g15 (by decide) (D_160 W_prog_15_method_192_code_64 9 rfl rfl rfl) (by decide) (fun h16 => ?_) (fun h16 => ?_)
  · replace hf := gneg hf h16
    refine lv_aload_n hx hb (D_42 W_prog_15_method_192_code_64 25 rfl rfl) rfl (lv_at hl 4 rfl) ?_
    refine lv_iload hx hb (D_21 W_prog_15_method_192_code_64 26 rfl rfl) (lv_at hl 3 rfl) ?_
    obtain ⟨r17, F17, B17, hc17, hf⟩ := gbind hf
    refine va_calli (va_runS (As := [.ref (ad 13 l0 0), .int (iI l4)]) (rest := []) ⟨hx, hb, hml, hown, hts⟩ (c_M_toneAt (l := l) hc17) (va_cwS 2 hts (gdS k_15_121 k_15_122 k_1_9 k_15_123) rfl rfl rfl (by decide +kernel) ⟨Nat.le_of_ble_eq_true rfl, Nat.le_of_ble_eq_true rfl⟩) (zPS X hZ hS [.ref (ad 13 l0 0), .int (iI l4)]) rfl rfl hl.1 rfl (lv_room (Nat.le_of_ble_eq_true rfl)) (D_184 W_prog_15_method_192_code_64 28 rfl rfl rfl) ⟨Nat.le_of_ble_eq_true rfl, Nat.le_of_ble_eq_true rfl⟩) hS (fun q _ h => zAin X hS q h) (zAin X hS) (fun p17 u17 t17 H17 locs17 ht17 hv17 hw17 hB17 hz17 hk17 hS17 => ?_)
    have hZ17 := zBack X ht17 hB17
    subst hw17
    refine lv_aload_n hx hb (D_42 W_prog_15_method_192_code_64 31 rfl rfl) rfl (lv_at hl 4 rfl) ?_
    refine lv_iload hx hb (D_21 W_prog_15_method_192_code_96 0 rfl rfl) (lv_at hl 2 rfl) ?_
    obtain ⟨r18, F18, B18, hc18, hf⟩ := gbind hf
    refine va_calli (va_runS (As := [.ref (ad 13 l0 0), .int (iI l5)]) (rest := [.int (iI r17)]) ⟨hx, hb, hml, hown, hts⟩ (c_M_toneAt (l := l) hc18) (va_cwS 2 hts (gdS k_15_121 k_15_122 k_1_9 k_15_123) rfl rfl rfl (by decide +kernel) ⟨Nat.le_of_ble_eq_true rfl, Nat.le_of_ble_eq_true rfl⟩) (zPS X hZ17 hS17 [.ref (ad 13 l0 0), .int (iI l5)]) rfl rfl hl.1 rfl (lv_room (Nat.le_of_ble_eq_true rfl)) (D_184 W_prog_15_method_192_code_96 2 rfl rfl rfl) ⟨Nat.le_of_ble_eq_true rfl, Nat.le_of_ble_eq_true rfl⟩) hS17 (fun q _ h => zAin X hS17 q h) (zAin X hS17) (fun p18 u18 t18 H18 locs18 ht18 hv18 hw18 hB18 hz18 hk18 hS18 => ?_)
    have hZ18 := zBack X ht18 hB18
    subst hw18
    refine zsub hx hb (D_100 W_prog_15_method_192_code_96 5 rfl rfl) ?_
    refine lv_istore (lv' := [(8, .int (iI (r17 - r18))), (7, .int (iI s0)), (6, .int (iI l6)), (5, .int (iI l5)), (4, .int (iI l4)), (0, .ref (ad 13 l0 0)), (2, .int (iI l2))]) hx hb (D_54 W_prog_15_method_192_code_96 6 rfl rfl) hl (by decide) rfl (fun ls hl => ?_)
    refine lv_iload hx hb (D_21 W_prog_15_method_192_code_96 8 rfl rfl) (lv_at hl 2 rfl) ?_
    obtain ⟨g19, hf⟩ := gif hf
    refine z0lt (tgt := 119) hx hb g19 (D_155 W_prog_15_method_192_code_96 10 rfl rfl rfl) (by decide) (fun h20 => ?_) (fun h20 => ?_)
    · replace hf := gpos hf h20
      exact b_M_isAlone_119 X hf hZ18 hS18 (lv_sub hl [0, 1] rfl)
    · replace hf := gneg hf h20
      refine lv_iload hx hb (D_21 W_prog_15_method_192_code_96 13 rfl rfl) (lv_at hl 2 rfl) ?_
      refine z0ne (tgt := 125) hx hb g19 (D_154 W_prog_15_method_192_code_96 15 rfl rfl rfl) (by decide) (fun h21 => ?_) (fun h21 => ?_)
      · replace hf := gneg hf h21
        exact b_M_isAlone_125 X hf hZ18 hS18 (lv_sub hl [0, 1] rfl)
      · replace hf := gpos hf h21
        refine lv_iload hx hb (D_21 W_prog_15_method_192_code_96 18 rfl rfl) (lv_at hl 0 rfl) ?_
        obtain ⟨g22, hf⟩ := gif hf
        refine z0ge (tgt := 125) hx hb g22 (D_156 W_prog_15_method_192_code_96 20 rfl rfl rfl) (by decide) (fun h23 => ?_) (fun h23 => ?_)
        · replace hf := gpos hf h23
          exact b_M_isAlone_125 X hf hZ18 hS18 (lv_sub hl [0, 1] rfl)
        · replace hf := gneg hf h23
          exact b_M_isAlone_119 X hf hZ18 hS18 (lv_sub hl [0, 1] rfl)
  · replace hf := gpos hf h16
    refine lv_iload hx hb (D_21 W_prog_15_method_192_code_64 12 rfl rfl) (lv_at hl 0 rfl) ?_
    refine lv_bipush (v := iI 7) hx hb (D_16 W_prog_15_method_192_code_64 14 rfl rfl rfl) (by decide) ?_
    obtain ⟨g24, hf⟩ := gif hf
    refine zle (tgt := 87) hx hb g24 (by decide) (D_164 W_prog_15_method_192_code_64 16 rfl rfl rfl) (by decide) (fun h25 => ?_) (fun h25 => ?_)
    · replace hf := gpos hf h25
      refine lv_iconst (v := iI 0) hx hb (D_3 W_prog_15_method_192_code_64 23 rfl rfl) rfl ?_
      exact b_M_isAlone_88 X hf hZ hS (lv_sub hl [] rfl)
    · replace hf := gneg hf h25
      refine lv_iconst (v := iI 1) hx hb (D_4 W_prog_15_method_192_code_64 19 rfl rfl) rfl ?_
      refine lv_goto (tgt := 88) hx hb (D_167 W_prog_15_method_192_code_64 20 rfl rfl rfl) (by decide) ?_
      exact b_M_isAlone_88 X hf hZ hS (lv_sub hl [] rfl)

def f_M_isAlone_37 (K : Nat)  (F : zF) (B : zB) : zO := some (0, F, B)
set_option maxHeartbeats 4000000 in
set_option maxRecDepth 100000 in
theorem b_M_isAlone_37 {D : va_G} {ca : Nat → ClassId} {ad : Nat → Int → Nat → Nat} {L : List Nat} {aS vS : Nat → Nat} {A : Nat → Prop} {p : Program} {l : Launch} {e : Env} {s : State} {m : MethodId} {args : Array Value} {below : List Frame} {meth : Method} {c : Code} {K : Nat} {r : Int} {F9 : zF} {B9 : zB} (X : zX D ca L aS vS A p s m args meth c prog_15_method_192_code 10 (Option.some Jvm.ClassFile.FieldType.boolean) "StaveHouseModel")  {F : zF} {B : zB} {H : Heap} {locs : List Loc} {ls : Array Slot} (hf : f_M_isAlone_37 K  F B = some (r, F9, B9)) (hZ : zH D ca ad lnM nM L F B A H) (hS : va_S A s.heap H locs) (hl : lv_has ls 10 []) : W p l e ({ frames := 3, cells := 0, slots := 0, locals := 68 } : Room) s m args below meth c H locs 0 0 (MQ below (Q_M_isAlone D ca ad L r F9 B9 A) args s 0 0 A) (F0 m 37 ls []) := by
  obtain ⟨hx, hb, hr, hml, hown, hts, hlk, hK, hA, hL, hX⟩ := id X
  replace hf : (some (0, F, B)) = some (r, F9, B9) := hf
  refine lv_iconst (v := iI 0) hx hb (D_3 W_prog_15_method_192_code_32 5 rfl rfl) rfl ?_
  cases hf
  exact W.zret hx hb hr rfl (fun t ht hW => ⟨⟨_, (), rfl, rfl, by rw [ht]; exact hZ, va_K.moved hW.alike hK⟩, hS.F ht⟩) hS.2.2 (D_172 W_prog_15_method_192_code_32 6 rfl rfl) hlk

def f_M_isAlone (K : Nat) (l0 : Int) (l1 : Int) (l2 : Int) (l3 : Int) (F : zF) (B : zB) : zO := zbind (f_M_lineAt K l0 l1 l3 F B) (fun r1 F1 B1 => zbind (f_M_lineAt K l0 (l1 - 1) l3 F1 B1) (fun r2 F2 B2 => if r32 r1 then (if r1 < 0 then f_M_isAlone_37 K F2 B2 else if r32 r2 then (if r2 < 0 then f_M_isAlone_37 K F2 B2 else zbind (f_M_beginsAt K l0 l1 l3 F2 B2) (fun r7 F7 B7 => if r32 r7 then (if r7 = 0 then f_M_isAlone_37 K F7 B7 else if 0 ≤ l0 ∧ l0 < 3 then if 0 ≤ r1 ∧ r1 < 24000 then if 0 ≤ r2 ∧ r2 < 24000 then if r32 ((B7 13 l0 28 r1) - (B7 13 l0 28 r2)) then (if 0 ≤ ((B7 13 l0 28 r1) - (B7 13 l0 28 r2)) then f_M_isAlone_69 K ((B7 13 l0 28 r1) - (B7 13 l0 28 r2)) r2 r1 l0 l2 ((B7 13 l0 28 r1) - (B7 13 l0 28 r2)) F7 B7 else f_M_isAlone_69 K ((B7 13 l0 28 r1) - (B7 13 l0 28 r2)) r2 r1 l0 l2 (-((B7 13 l0 28 r1) - (B7 13 l0 28 r2))) F7 B7) else none else none else none else none) else none)) else none) else none))
set_option maxHeartbeats 4000000 in
set_option maxRecDepth 100000 in
theorem c_M_isAlone {l : Launch} {D : va_G} {ca : Nat → ClassId} {ad : Nat → Int → Nat → Nat} {L : List Nat} {aS vS : Nat → Nat} {sz K : Nat}  {l0 : Int} {l1 : Int} {l2 : Int} {l3 : Int} {F F9 : zF} {B B9 : zB} {r : Int} (hf : f_M_isAlone K l0 l1 l2 l3 F B = some (r, F9, B9)) : Met l ({ cls := "StaveHouseModel", name := "isAlone", desc := "(LStaveHouseModel$Piece;III)Z" } : Jvm.MethodName) (Cond.code ({ cls := "StaveHouseModel", name := "isAlone", desc := "(LStaveHouseModel$Piece;III)Z" } : Jvm.MethodName) prog_15_method_192_code 10 (Option.some Jvm.ClassFile.FieldType.boolean) :: wAll) ({ frames := 3, cells := 0, slots := 0, locals := 68 } : Room) (va_Pc [.ref (ad 13 l0 0), .int (iI l1), .int (iI l2), .int (iI l3)] (zPre D ca ad lnM nM L aS vS F B sz)) (Q_M_isAlone D ca ad L r F9 B9 (zA L sz)) 0 0 (zA L sz) := by
  refine zMet (Qc := Q_M_isAlone D ca ad L r F9 B9) (lv := [(0, .ref (ad 13 l0 0)), (1, .int (iI l1)), (2, .int (iI l2)), (3, .int (iI l3))]) (by decide) (Nat.le_of_ble_eq_true rfl) rfl (fun A p e s m below meth c ls X hZ hS hl => ?_)
  obtain ⟨hx, hb, hr, hml, hown, hts, hlk, hK, hA, hL, hX⟩ := id X
  replace hf : (zbind (f_M_lineAt K l0 l1 l3 F B) (fun r1 F1 B1 => zbind (f_M_lineAt K l0 (l1 - 1) l3 F1 B1) (fun r2 F2 B2 => if r32 r1 then (if r1 < 0 then f_M_isAlone_37 K F2 B2 else if r32 r2 then (if r2 < 0 then f_M_isAlone_37 K F2 B2 else zbind (f_M_beginsAt K l0 l1 l3 F2 B2) (fun r7 F7 B7 => if r32 r7 then (if r7 = 0 then f_M_isAlone_37 K F7 B7 else if 0 ≤ l0 ∧ l0 < 3 then if 0 ≤ r1 ∧ r1 < 24000 then if 0 ≤ r2 ∧ r2 < 24000 then if r32 ((B7 13 l0 28 r1) - (B7 13 l0 28 r2)) then (if 0 ≤ ((B7 13 l0 28 r1) - (B7 13 l0 28 r2)) then f_M_isAlone_69 K ((B7 13 l0 28 r1) - (B7 13 l0 28 r2)) r2 r1 l0 l2 ((B7 13 l0 28 r1) - (B7 13 l0 28 r2)) F7 B7 else f_M_isAlone_69 K ((B7 13 l0 28 r1) - (B7 13 l0 28 r2)) r2 r1 l0 l2 (-((B7 13 l0 28 r1) - (B7 13 l0 28 r2))) F7 B7) else none else none else none else none) else none)) else none) else none))) = some (r, F9, B9) := hf
  refine lv_aload_n hx hb (D_42 W_prog_15_method_192_code_0 0 rfl rfl) rfl (lv_at hl 0 rfl) ?_
  refine lv_iload_n hx hb (D_27 W_prog_15_method_192_code_0 1 rfl rfl) rfl (lv_at hl 1 rfl) ?_
  refine lv_iload_n hx hb (D_29 W_prog_15_method_192_code_0 2 rfl rfl) rfl (lv_at hl 3 rfl) ?_
  obtain ⟨r1, F1, B1, hc1, hf⟩ := gbind hf
  refine va_calli (va_runS (As := [.ref (ad 13 l0 0), .int (iI l1), .int (iI l3)]) (rest := []) ⟨hx, hb, hml, hown, hts⟩ (c_M_lineAt (l := l) hc1) (va_cwS 3 hts (gdS k_15_115 k_15_116 k_1_9 k_15_117) rfl rfl rfl (by decide +kernel) ⟨Nat.le_of_ble_eq_true rfl, Nat.le_of_ble_eq_true rfl⟩) (zPS X hZ hS [.ref (ad 13 l0 0), .int (iI l1), .int (iI l3)]) rfl rfl hl.1 rfl (lv_room (Nat.le_of_ble_eq_true rfl)) (D_184 W_prog_15_method_192_code_0 3 rfl rfl rfl) ⟨Nat.le_of_ble_eq_true rfl, Nat.le_of_ble_eq_true rfl⟩) hS (fun q _ h => zAin X hS q h) (zAin X hS) (fun p1 u1 t1 H1 locs1 ht1 hv1 hw1 hB1 hz1 hk1 hS1 => ?_)
  have hZ1 := zBack X ht1 hB1
  subst hw1
  refine lv_istore (lv' := [(4, .int (iI r1)), (0, .ref (ad 13 l0 0)), (1, .int (iI l1)), (2, .int (iI l2)), (3, .int (iI l3))]) hx hb (D_54 W_prog_15_method_192_code_0 6 rfl rfl) hl (by decide) rfl (fun ls hl => ?_)
  refine lv_aload_n hx hb (D_42 W_prog_15_method_192_code_0 8 rfl rfl) rfl (lv_at hl 1 rfl) ?_
  refine lv_iload_n hx hb (D_27 W_prog_15_method_192_code_0 9 rfl rfl) rfl (lv_at hl 2 rfl) ?_
  refine lv_iconst (v := iI 1) hx hb (D_4 W_prog_15_method_192_code_0 10 rfl rfl) rfl ?_
  refine zsub hx hb (D_100 W_prog_15_method_192_code_0 11 rfl rfl) ?_
  refine lv_iload_n hx hb (D_29 W_prog_15_method_192_code_0 12 rfl rfl) rfl (lv_at hl 4 rfl) ?_
  obtain ⟨r2, F2, B2, hc2, hf⟩ := gbind hf
  refine va_calli (va_runS (As := [.ref (ad 13 l0 0), .int (iI (l1 - 1)), .int (iI l3)]) (rest := []) ⟨hx, hb, hml, hown, hts⟩ (c_M_lineAt (l := l) hc2) (va_cwS 3 hts (gdS k_15_115 k_15_116 k_1_9 k_15_117) rfl rfl rfl (by decide +kernel) ⟨Nat.le_of_ble_eq_true rfl, Nat.le_of_ble_eq_true rfl⟩) (zPS X hZ1 hS1 [.ref (ad 13 l0 0), .int (iI (l1 - 1)), .int (iI l3)]) rfl rfl hl.1 rfl (lv_room (Nat.le_of_ble_eq_true rfl)) (D_184 W_prog_15_method_192_code_0 13 rfl rfl rfl) ⟨Nat.le_of_ble_eq_true rfl, Nat.le_of_ble_eq_true rfl⟩) hS1 (fun q _ h => zAin X hS1 q h) (zAin X hS1) (fun p2 u2 t2 H2 locs2 ht2 hv2 hw2 hB2 hz2 hk2 hS2 => ?_)
  have hZ2 := zBack X ht2 hB2
  subst hw2
  refine lv_istore (lv' := [(5, .int (iI r2)), (4, .int (iI r1)), (0, .ref (ad 13 l0 0)), (1, .int (iI l1)), (2, .int (iI l2)), (3, .int (iI l3))]) hx hb (D_54 W_prog_15_method_192_code_0 16 rfl rfl) hl (by decide) rfl (fun ls hl => ?_)
  refine lv_iload hx hb (D_21 W_prog_15_method_192_code_0 18 rfl rfl) (lv_at hl 1 rfl) ?_
  obtain ⟨g3, hf⟩ := gif hf
  refine z0lt (tgt := 37) hx hb g3 (D_155 W_prog_15_method_192_code_0 20 rfl rfl rfl) (by decide) (fun h4 => ?_) (fun h4 => ?_)
  · replace hf := gpos hf h4
    exact b_M_isAlone_37 X hf hZ2 hS2 (lv_sub hl [] rfl)
  · replace hf := gneg hf h4
    refine lv_iload hx hb (D_21 W_prog_15_method_192_code_0 23 rfl rfl) (lv_at hl 0 rfl) ?_
    obtain ⟨g5, hf⟩ := gif hf
    refine z0lt (tgt := 37) hx hb g5 (D_155 W_prog_15_method_192_code_0 25 rfl rfl rfl) (by decide) (fun h6 => ?_) (fun h6 => ?_)
    · replace hf := gpos hf h6
      exact b_M_isAlone_37 X hf hZ2 hS2 (lv_sub hl [] rfl)
    · replace hf := gneg hf h6
      refine lv_aload_n hx hb (D_42 W_prog_15_method_192_code_0 28 rfl rfl) rfl (lv_at hl 2 rfl) ?_
      refine lv_iload_n hx hb (D_27 W_prog_15_method_192_code_0 29 rfl rfl) rfl (lv_at hl 3 rfl) ?_
      refine lv_iload_n hx hb (D_29 W_prog_15_method_192_code_0 30 rfl rfl) rfl (lv_at hl 5 rfl) ?_
      obtain ⟨r7, F7, B7, hc7, hf⟩ := gbind hf
      refine va_calli (va_runS (As := [.ref (ad 13 l0 0), .int (iI l1), .int (iI l3)]) (rest := []) ⟨hx, hb, hml, hown, hts⟩ (c_M_beginsAt (l := l) hc7) (va_cwS 3 hts (gdS k_15_118 k_15_119 k_1_9 k_15_120) rfl rfl rfl (by decide +kernel) ⟨Nat.le_of_ble_eq_true rfl, Nat.le_of_ble_eq_true rfl⟩) (zPS X hZ2 hS2 [.ref (ad 13 l0 0), .int (iI l1), .int (iI l3)]) rfl rfl hl.1 rfl (lv_room (Nat.le_of_ble_eq_true rfl)) (D_184 W_prog_15_method_192_code_0 31 rfl rfl rfl) ⟨Nat.le_of_ble_eq_true rfl, Nat.le_of_ble_eq_true rfl⟩) hS2 (fun q _ h => zAin X hS2 q h) (zAin X hS2) (fun p7 u7 t7 H7 locs7 ht7 hv7 hw7 hB7 hz7 hk7 hS7 => ?_)
      have hZ7 := zBack X ht7 hB7
      subst hw7
      obtain ⟨g8, hf⟩ := gif hf
      refine z0ne (tgt := 39) hx hb g8 (D_154 W_prog_15_method_192_code_32 2 rfl rfl rfl) (by decide) (fun h9 => ?_) (fun h9 => ?_)
      · replace hf := gneg hf h9
        refine lv_aload_n hx hb (D_42 W_prog_15_method_192_code_32 7 rfl rfl) rfl (lv_at hl 2 rfl) ?_
        obtain ⟨g10, hf⟩ := gif hf
        refine zget (ci := 13) (C := RX13) (T := TX13) (v := .ref (ad 13 l0 (28 + 1))) (k := 28) hx hb hts inW_13 hown hK hZ7 g10.1 g10.2 rfl (by decide) k_9_174 rfl (D_180 W_prog_15_method_192_code_32 8 rfl rfl rfl) ?_
        refine lv_iload hx hb (D_21 W_prog_15_method_192_code_32 11 rfl rfl) (lv_at hl 1 rfl) ?_
        obtain ⟨g11, hf⟩ := gif hf
        refine zald (ci := 13) (k := 28) hx hb hK rfl hZ7 g10.1 g10.2 rfl (Nat.le_of_ble_eq_true rfl) g11.1 g11.2 (D_46 W_prog_15_method_192_code_32 13 rfl rfl) ?_
        refine lv_aload_n hx hb (D_42 W_prog_15_method_192_code_32 14 rfl rfl) rfl (lv_at hl 2 rfl) ?_
        refine zget (ci := 13) (C := RX13) (T := TX13) (v := .ref (ad 13 l0 (28 + 1))) (k := 28) hx hb hts inW_13 hown hK hZ7 g10.1 g10.2 rfl (by decide) k_9_174 rfl (D_180 W_prog_15_method_192_code_32 15 rfl rfl rfl) ?_
        refine lv_iload hx hb (D_21 W_prog_15_method_192_code_32 18 rfl rfl) (lv_at hl 0 rfl) ?_
        obtain ⟨g12, hf⟩ := gif hf
        refine zald (ci := 13) (k := 28) hx hb hK rfl hZ7 g10.1 g10.2 rfl (Nat.le_of_ble_eq_true rfl) g12.1 g12.2 (D_46 W_prog_15_method_192_code_32 20 rfl rfl) ?_
        refine zsub hx hb (D_100 W_prog_15_method_192_code_32 21 rfl rfl) ?_
        refine lv_istore (lv' := [(6, .int (iI ((B7 13 l0 28 r1) - (B7 13 l0 28 r2)))), (5, .int (iI r2)), (4, .int (iI r1)), (0, .ref (ad 13 l0 0)), (1, .int (iI l1)), (2, .int (iI l2)), (3, .int (iI l3))]) hx hb (D_54 W_prog_15_method_192_code_32 22 rfl rfl) hl (by decide) rfl (fun ls hl => ?_)
        refine lv_iload hx hb (D_21 W_prog_15_method_192_code_32 24 rfl rfl) (lv_at hl 0 rfl) ?_
        obtain ⟨g13, hf⟩ := gif hf
        refine z0ge (tgt := 67) hx hb g13 (D_156 W_prog_15_method_192_code_32 26 rfl rfl rfl) (by decide) (fun h14 => ?_) (fun h14 => ?_)
        · replace hf := gpos hf h14
          refine lv_iload hx hb (D_21 W_prog_15_method_192_code_64 3 rfl rfl) (lv_at hl 0 rfl) ?_
          exact b_M_isAlone_69 X hf hZ7 hS7 (lv_sub hl [0, 1, 2, 3, 5] rfl)
        · replace hf := gneg hf h14
          refine lv_iload hx hb (D_21 W_prog_15_method_192_code_32 29 rfl rfl) (lv_at hl 0 rfl) ?_
          refine zneg hx hb (D_116 W_prog_15_method_192_code_32 31 rfl rfl) ?_
          refine lv_goto (tgt := 69) hx hb (D_167 W_prog_15_method_192_code_64 0 rfl rfl rfl) (by decide) ?_
          exact b_M_isAlone_69 X hf hZ7 hS7 (lv_sub hl [0, 1, 2, 3, 5] rfl)
      · replace hf := gpos hf h9
        exact b_M_isAlone_37 X hf hZ7 hS7 (lv_sub hl [] rfl)

abbrev Q_M_isCrossed (D : va_G) (ca : Nat → ClassId) (ad : Nat → Int → Nat → Nat) (L : List Nat) (r : Int) (F : zF) (B : zB) (A : Nat → Prop) : Array Value → State → Outcome → State → Prop := va_Qi (S := Unit) (fun p _ => p = iI r) (fun _ => zPo D ca ad lnM nM L F B A) A
def f_M_isCrossed_47 (K : Nat) (s0 : Int) (F : zF) (B : zB) : zO := if (s0 = 0 ∨ s0 = 1) then some (s0, F, B) else none
set_option maxHeartbeats 4000000 in
set_option maxRecDepth 100000 in
theorem b_M_isCrossed_47 {D : va_G} {ca : Nat → ClassId} {ad : Nat → Int → Nat → Nat} {L : List Nat} {aS vS : Nat → Nat} {A : Nat → Prop} {p : Program} {l : Launch} {e : Env} {s : State} {m : MethodId} {args : Array Value} {below : List Frame} {meth : Method} {c : Code} {K : Nat} {r : Int} {F9 : zF} {B9 : zB} (X : zX D ca L aS vS A p s m args meth c prog_15_method_191_code 4 (Option.some Jvm.ClassFile.FieldType.boolean) "StaveHouseModel") {s0 : Int} {F : zF} {B : zB} {H : Heap} {locs : List Loc} {ls : Array Slot} (hf : f_M_isCrossed_47 K s0 F B = some (r, F9, B9)) (hZ : zH D ca ad lnM nM L F B A H) (hS : va_S A s.heap H locs) (hl : lv_has ls 4 []) : W p l e ({ frames := 3, cells := 0, slots := 0, locals := 68 } : Room) s m args below meth c H locs 0 0 (MQ below (Q_M_isCrossed D ca ad L r F9 B9 A) args s 0 0 A) (F0 m 47 ls [.int (iI s0)]) := by
  obtain ⟨hx, hb, hr, hml, hown, hts, hlk, hK, hA, hL, hX⟩ := id X
  replace hf : (if (s0 = 0 ∨ s0 = 1) then some (s0, F, B) else none) = some (r, F9, B9) := hf
  obtain ⟨g11, hf⟩ := gif hf
  cases hf
  exact W.zret hx hb hr (zbool g11) (fun t ht hW => ⟨⟨_, (), rfl, rfl, by rw [ht]; exact hZ, va_K.moved hW.alike hK⟩, hS.F ht⟩) hS.2.2 (D_172 W_prog_15_method_191_code_32 15 rfl rfl) hlk

def f_M_isCrossed_46 (K : Nat)  (F : zF) (B : zB) : zO := f_M_isCrossed_47 K 0 F B
set_option maxHeartbeats 4000000 in
set_option maxRecDepth 100000 in
theorem b_M_isCrossed_46 {D : va_G} {ca : Nat → ClassId} {ad : Nat → Int → Nat → Nat} {L : List Nat} {aS vS : Nat → Nat} {A : Nat → Prop} {p : Program} {l : Launch} {e : Env} {s : State} {m : MethodId} {args : Array Value} {below : List Frame} {meth : Method} {c : Code} {K : Nat} {r : Int} {F9 : zF} {B9 : zB} (X : zX D ca L aS vS A p s m args meth c prog_15_method_191_code 4 (Option.some Jvm.ClassFile.FieldType.boolean) "StaveHouseModel")  {F : zF} {B : zB} {H : Heap} {locs : List Loc} {ls : Array Slot} (hf : f_M_isCrossed_46 K  F B = some (r, F9, B9)) (hZ : zH D ca ad lnM nM L F B A H) (hS : va_S A s.heap H locs) (hl : lv_has ls 4 []) : W p l e ({ frames := 3, cells := 0, slots := 0, locals := 68 } : Room) s m args below meth c H locs 0 0 (MQ below (Q_M_isCrossed D ca ad L r F9 B9 A) args s 0 0 A) (F0 m 46 ls []) := by
  obtain ⟨hx, hb, hr, hml, hown, hts, hlk, hK, hA, hL, hX⟩ := id X
  replace hf : (f_M_isCrossed_47 K 0 F B) = some (r, F9, B9) := hf
  refine lv_iconst (v := iI 0) hx hb (D_3 W_prog_15_method_191_code_32 14 rfl rfl) rfl ?_
  exact b_M_isCrossed_47 X hf hZ hS (lv_sub hl [] rfl)

def f_M_isCrossed (K : Nat) (l0 : Int) (l1 : Int) (l2 : Int) (l3 : Int) (F : zF) (B : zB) : zO := zbind (f_M_lineAt K l0 l1 l2 F B) (fun r1 F1 B1 => zbind (f_M_lineAt K l0 l1 l3 F1 B1) (fun r2 F2 B2 => zbind (f_M_isOver K l0 r1 r2 F2 B2) (fun r3 F3 B3 => if r32 r3 then (if r3 = 0 then f_M_isCrossed_46 K F3 B3 else zbind (f_M_lineAt K l0 (l1 - 1) l2 F3 B3) (fun r6 F6 B6 => zbind (f_M_lineAt K l0 (l1 - 1) l3 F6 B6) (fun r7 F7 B7 => zbind (f_M_isOver K l0 r6 r7 F7 B7) (fun r8 F8 B8 => if r32 r8 then (if r8 = 0 then f_M_isCrossed_47 K 1 F8 B8 else f_M_isCrossed_46 K F8 B8) else none)))) else none)))
set_option maxHeartbeats 4000000 in
set_option maxRecDepth 100000 in
theorem c_M_isCrossed {l : Launch} {D : va_G} {ca : Nat → ClassId} {ad : Nat → Int → Nat → Nat} {L : List Nat} {aS vS : Nat → Nat} {sz K : Nat}  {l0 : Int} {l1 : Int} {l2 : Int} {l3 : Int} {F F9 : zF} {B B9 : zB} {r : Int} (hf : f_M_isCrossed K l0 l1 l2 l3 F B = some (r, F9, B9)) : Met l ({ cls := "StaveHouseModel", name := "isCrossed", desc := "(LStaveHouseModel$Piece;III)Z" } : Jvm.MethodName) (Cond.code ({ cls := "StaveHouseModel", name := "isCrossed", desc := "(LStaveHouseModel$Piece;III)Z" } : Jvm.MethodName) prog_15_method_191_code 4 (Option.some Jvm.ClassFile.FieldType.boolean) :: wAll) ({ frames := 3, cells := 0, slots := 0, locals := 68 } : Room) (va_Pc [.ref (ad 13 l0 0), .int (iI l1), .int (iI l2), .int (iI l3)] (zPre D ca ad lnM nM L aS vS F B sz)) (Q_M_isCrossed D ca ad L r F9 B9 (zA L sz)) 0 0 (zA L sz) := by
  refine zMet (Qc := Q_M_isCrossed D ca ad L r F9 B9) (lv := [(0, .ref (ad 13 l0 0)), (1, .int (iI l1)), (2, .int (iI l2)), (3, .int (iI l3))]) (by decide) (Nat.le_of_ble_eq_true rfl) rfl (fun A p e s m below meth c ls X hZ hS hl => ?_)
  obtain ⟨hx, hb, hr, hml, hown, hts, hlk, hK, hA, hL, hX⟩ := id X
  replace hf : (zbind (f_M_lineAt K l0 l1 l2 F B) (fun r1 F1 B1 => zbind (f_M_lineAt K l0 l1 l3 F1 B1) (fun r2 F2 B2 => zbind (f_M_isOver K l0 r1 r2 F2 B2) (fun r3 F3 B3 => if r32 r3 then (if r3 = 0 then f_M_isCrossed_46 K F3 B3 else zbind (f_M_lineAt K l0 (l1 - 1) l2 F3 B3) (fun r6 F6 B6 => zbind (f_M_lineAt K l0 (l1 - 1) l3 F6 B6) (fun r7 F7 B7 => zbind (f_M_isOver K l0 r6 r7 F7 B7) (fun r8 F8 B8 => if r32 r8 then (if r8 = 0 then f_M_isCrossed_47 K 1 F8 B8 else f_M_isCrossed_46 K F8 B8) else none)))) else none)))) = some (r, F9, B9) := hf
  refine lv_aload_n hx hb (D_42 W_prog_15_method_191_code_0 0 rfl rfl) rfl (lv_at hl 0 rfl) ?_
  refine lv_aload_n hx hb (D_42 W_prog_15_method_191_code_0 1 rfl rfl) rfl (lv_at hl 0 rfl) ?_
  refine lv_iload_n hx hb (D_27 W_prog_15_method_191_code_0 2 rfl rfl) rfl (lv_at hl 1 rfl) ?_
  refine lv_iload_n hx hb (D_28 W_prog_15_method_191_code_0 3 rfl rfl) rfl (lv_at hl 2 rfl) ?_
  obtain ⟨r1, F1, B1, hc1, hf⟩ := gbind hf
  refine va_calli (va_runS (As := [.ref (ad 13 l0 0), .int (iI l1), .int (iI l2)]) (rest := [.ref (ad 13 l0 0)]) ⟨hx, hb, hml, hown, hts⟩ (c_M_lineAt (l := l) hc1) (va_cwS 3 hts (gdS k_15_115 k_15_116 k_1_9 k_15_117) rfl rfl rfl (by decide +kernel) ⟨Nat.le_of_ble_eq_true rfl, Nat.le_of_ble_eq_true rfl⟩) (zPS X hZ hS [.ref (ad 13 l0 0), .int (iI l1), .int (iI l2)]) rfl rfl hl.1 rfl (lv_room (Nat.le_of_ble_eq_true rfl)) (D_184 W_prog_15_method_191_code_0 4 rfl rfl rfl) ⟨Nat.le_of_ble_eq_true rfl, Nat.le_of_ble_eq_true rfl⟩) hS (fun q _ h => zAin X hS q h) (zAin X hS) (fun p1 u1 t1 H1 locs1 ht1 hv1 hw1 hB1 hz1 hk1 hS1 => ?_)
  have hZ1 := zBack X ht1 hB1
  subst hw1
  refine lv_aload_n hx hb (D_42 W_prog_15_method_191_code_0 7 rfl rfl) rfl (lv_at hl 0 rfl) ?_
  refine lv_iload_n hx hb (D_27 W_prog_15_method_191_code_0 8 rfl rfl) rfl (lv_at hl 1 rfl) ?_
  refine lv_iload_n hx hb (D_29 W_prog_15_method_191_code_0 9 rfl rfl) rfl (lv_at hl 3 rfl) ?_
  obtain ⟨r2, F2, B2, hc2, hf⟩ := gbind hf
  refine va_calli (va_runS (As := [.ref (ad 13 l0 0), .int (iI l1), .int (iI l3)]) (rest := [.int (iI r1), .ref (ad 13 l0 0)]) ⟨hx, hb, hml, hown, hts⟩ (c_M_lineAt (l := l) hc2) (va_cwS 3 hts (gdS k_15_115 k_15_116 k_1_9 k_15_117) rfl rfl rfl (by decide +kernel) ⟨Nat.le_of_ble_eq_true rfl, Nat.le_of_ble_eq_true rfl⟩) (zPS X hZ1 hS1 [.ref (ad 13 l0 0), .int (iI l1), .int (iI l3)]) rfl rfl hl.1 rfl (lv_room (Nat.le_of_ble_eq_true rfl)) (D_184 W_prog_15_method_191_code_0 10 rfl rfl rfl) ⟨Nat.le_of_ble_eq_true rfl, Nat.le_of_ble_eq_true rfl⟩) hS1 (fun q _ h => zAin X hS1 q h) (zAin X hS1) (fun p2 u2 t2 H2 locs2 ht2 hv2 hw2 hB2 hz2 hk2 hS2 => ?_)
  have hZ2 := zBack X ht2 hB2
  subst hw2
  obtain ⟨r3, F3, B3, hc3, hf⟩ := gbind hf
  refine va_calli (va_runS (As := [.ref (ad 13 l0 0), .int (iI r1), .int (iI r2)]) (rest := []) ⟨hx, hb, hml, hown, hts⟩ (c_M_isOver (l := l) hc3) (va_cwS 3 hts (gdS k_15_133 k_15_134 k_1_9 k_15_135) rfl rfl rfl (by decide +kernel) ⟨Nat.le_of_ble_eq_true rfl, Nat.le_of_ble_eq_true rfl⟩) (zPS X hZ2 hS2 [.ref (ad 13 l0 0), .int (iI r1), .int (iI r2)]) rfl rfl hl.1 rfl (lv_room (Nat.le_of_ble_eq_true rfl)) (D_184 W_prog_15_method_191_code_0 13 rfl rfl rfl) ⟨Nat.le_of_ble_eq_true rfl, Nat.le_of_ble_eq_true rfl⟩) hS2 (fun q _ h => zAin X hS2 q h) (zAin X hS2) (fun p3 u3 t3 H3 locs3 ht3 hv3 hw3 hB3 hz3 hk3 hS3 => ?_)
  have hZ3 := zBack X ht3 hB3
  subst hw3
  obtain ⟨g4, hf⟩ := gif hf
  refine z0eq (tgt := 46) hx hb g4 (D_153 W_prog_15_method_191_code_0 16 rfl rfl rfl) (by decide) (fun h5 => ?_) (fun h5 => ?_)
  · replace hf := gpos hf h5
    exact b_M_isCrossed_46 X hf hZ3 hS3 (lv_sub hl [] rfl)
  · replace hf := gneg hf h5
    refine lv_aload_n hx hb (D_42 W_prog_15_method_191_code_0 19 rfl rfl) rfl (lv_at hl 0 rfl) ?_
    refine lv_aload_n hx hb (D_42 W_prog_15_method_191_code_0 20 rfl rfl) rfl (lv_at hl 0 rfl) ?_
    refine lv_iload_n hx hb (D_27 W_prog_15_method_191_code_0 21 rfl rfl) rfl (lv_at hl 1 rfl) ?_
    refine lv_iconst (v := iI 1) hx hb (D_4 W_prog_15_method_191_code_0 22 rfl rfl) rfl ?_
    refine zsub hx hb (D_100 W_prog_15_method_191_code_0 23 rfl rfl) ?_
    refine lv_iload_n hx hb (D_28 W_prog_15_method_191_code_0 24 rfl rfl) rfl (lv_at hl 2 rfl) ?_
    obtain ⟨r6, F6, B6, hc6, hf⟩ := gbind hf
    refine va_calli (va_runS (As := [.ref (ad 13 l0 0), .int (iI (l1 - 1)), .int (iI l2)]) (rest := [.ref (ad 13 l0 0)]) ⟨hx, hb, hml, hown, hts⟩ (c_M_lineAt (l := l) hc6) (va_cwS 3 hts (gdS k_15_115 k_15_116 k_1_9 k_15_117) rfl rfl rfl (by decide +kernel) ⟨Nat.le_of_ble_eq_true rfl, Nat.le_of_ble_eq_true rfl⟩) (zPS X hZ3 hS3 [.ref (ad 13 l0 0), .int (iI (l1 - 1)), .int (iI l2)]) rfl rfl hl.1 rfl (lv_room (Nat.le_of_ble_eq_true rfl)) (D_184 W_prog_15_method_191_code_0 25 rfl rfl rfl) ⟨Nat.le_of_ble_eq_true rfl, Nat.le_of_ble_eq_true rfl⟩) hS3 (fun q _ h => zAin X hS3 q h) (zAin X hS3) (fun p6 u6 t6 H6 locs6 ht6 hv6 hw6 hB6 hz6 hk6 hS6 => ?_)
    have hZ6 := zBack X ht6 hB6
    subst hw6
    refine lv_aload_n hx hb (D_42 W_prog_15_method_191_code_0 28 rfl rfl) rfl (lv_at hl 0 rfl) ?_
    refine lv_iload_n hx hb (D_27 W_prog_15_method_191_code_0 29 rfl rfl) rfl (lv_at hl 1 rfl) ?_
    refine lv_iconst (v := iI 1) hx hb (D_4 W_prog_15_method_191_code_0 30 rfl rfl) rfl ?_
    refine zsub hx hb (D_100 W_prog_15_method_191_code_0 31 rfl rfl) ?_
    refine lv_iload_n hx hb (D_29 W_prog_15_method_191_code_32 0 rfl rfl) rfl (lv_at hl 3 rfl) ?_
    obtain ⟨r7, F7, B7, hc7, hf⟩ := gbind hf
    refine va_calli (va_runS (As := [.ref (ad 13 l0 0), .int (iI (l1 - 1)), .int (iI l3)]) (rest := [.int (iI r6), .ref (ad 13 l0 0)]) ⟨hx, hb, hml, hown, hts⟩ (c_M_lineAt (l := l) hc7) (va_cwS 3 hts (gdS k_15_115 k_15_116 k_1_9 k_15_117) rfl rfl rfl (by decide +kernel) ⟨Nat.le_of_ble_eq_true rfl, Nat.le_of_ble_eq_true rfl⟩) (zPS X hZ6 hS6 [.ref (ad 13 l0 0), .int (iI (l1 - 1)), .int (iI l3)]) rfl rfl hl.1 rfl (lv_room (Nat.le_of_ble_eq_true rfl)) (D_184 W_prog_15_method_191_code_32 1 rfl rfl rfl) ⟨Nat.le_of_ble_eq_true rfl, Nat.le_of_ble_eq_true rfl⟩) hS6 (fun q _ h => zAin X hS6 q h) (zAin X hS6) (fun p7 u7 t7 H7 locs7 ht7 hv7 hw7 hB7 hz7 hk7 hS7 => ?_)
    have hZ7 := zBack X ht7 hB7
    subst hw7
    obtain ⟨r8, F8, B8, hc8, hf⟩ := gbind hf
    refine va_calli (va_runS (As := [.ref (ad 13 l0 0), .int (iI r6), .int (iI r7)]) (rest := []) ⟨hx, hb, hml, hown, hts⟩ (c_M_isOver (l := l) hc8) (va_cwS 3 hts (gdS k_15_133 k_15_134 k_1_9 k_15_135) rfl rfl rfl (by decide +kernel) ⟨Nat.le_of_ble_eq_true rfl, Nat.le_of_ble_eq_true rfl⟩) (zPS X hZ7 hS7 [.ref (ad 13 l0 0), .int (iI r6), .int (iI r7)]) rfl rfl hl.1 rfl (lv_room (Nat.le_of_ble_eq_true rfl)) (D_184 W_prog_15_method_191_code_32 4 rfl rfl rfl) ⟨Nat.le_of_ble_eq_true rfl, Nat.le_of_ble_eq_true rfl⟩) hS7 (fun q _ h => zAin X hS7 q h) (zAin X hS7) (fun p8 u8 t8 H8 locs8 ht8 hv8 hw8 hB8 hz8 hk8 hS8 => ?_)
    have hZ8 := zBack X ht8 hB8
    subst hw8
    obtain ⟨g9, hf⟩ := gif hf
    refine z0ne (tgt := 46) hx hb g9 (D_154 W_prog_15_method_191_code_32 7 rfl rfl rfl) (by decide) (fun h10 => ?_) (fun h10 => ?_)
    · replace hf := gneg hf h10
      exact b_M_isCrossed_46 X hf hZ8 hS8 (lv_sub hl [] rfl)
    · replace hf := gpos hf h10
      refine lv_iconst (v := iI 1) hx hb (D_4 W_prog_15_method_191_code_32 10 rfl rfl) rfl ?_
      refine lv_goto (tgt := 47) hx hb (D_167 W_prog_15_method_191_code_32 11 rfl rfl rfl) (by decide) ?_
      exact b_M_isCrossed_47 X hf hZ8 hS8 (lv_sub hl [] rfl)

abbrev Q_M_perfect (D : va_G) (ca : Nat → ClassId) (ad : Nat → Int → Nat → Nat) (L : List Nat) (r : Int) (F : zF) (B : zB) (A : Nat → Prop) : Array Value → State → Outcome → State → Prop := va_Qi (S := Unit) (fun p _ => p = iI r) (fun _ => zPo D ca ad lnM nM L F B A) A
def f_M_perfect_115 (K : Nat) (s0 : Int) (F : zF) (B : zB) : zO := some (s0, F, B)
set_option maxHeartbeats 4000000 in
set_option maxRecDepth 100000 in
theorem b_M_perfect_115 {D : va_G} {ca : Nat → ClassId} {ad : Nat → Int → Nat → Nat} {L : List Nat} {aS vS : Nat → Nat} {A : Nat → Prop} {p : Program} {l : Launch} {e : Env} {s : State} {m : MethodId} {args : Array Value} {below : List Frame} {meth : Method} {c : Code} {K : Nat} {r : Int} {F9 : zF} {B9 : zB} (X : zX D ca L aS vS A p s m args meth c prog_15_method_188_code 8 (Option.some Jvm.ClassFile.FieldType.int) "StaveHouseModel") {s0 : Int} {F : zF} {B : zB} {H : Heap} {locs : List Loc} {ls : Array Slot} (hf : f_M_perfect_115 K s0 F B = some (r, F9, B9)) (hZ : zH D ca ad lnM nM L F B A H) (hS : va_S A s.heap H locs) (hl : lv_has ls 8 []) : W p l e ({ frames := 2, cells := 0, slots := 0, locals := 44 } : Room) s m args below meth c H locs 0 0 (MQ below (Q_M_perfect D ca ad L r F9 B9 A) args s 0 0 A) (F0 m 115 ls [.int (iI s0)]) := by
  obtain ⟨hx, hb, hr, hml, hown, hts, hlk, hK, hA, hL, hX⟩ := id X
  replace hf : (some (s0, F, B)) = some (r, F9, B9) := hf
  cases hf
  exact W.iret hx hb hr (fun t ht hW => ⟨⟨_, (), rfl, rfl, by rw [ht]; exact hZ, va_K.moved hW.alike hK⟩, hS.F ht⟩) hS.2.2 (D_172 W_prog_15_method_188_code_96 19 rfl rfl) hlk

def f_M_perfect_114 (K : Nat)  (F : zF) (B : zB) : zO := f_M_perfect_115 K 0 F B
set_option maxHeartbeats 4000000 in
set_option maxRecDepth 100000 in
theorem b_M_perfect_114 {D : va_G} {ca : Nat → ClassId} {ad : Nat → Int → Nat → Nat} {L : List Nat} {aS vS : Nat → Nat} {A : Nat → Prop} {p : Program} {l : Launch} {e : Env} {s : State} {m : MethodId} {args : Array Value} {below : List Frame} {meth : Method} {c : Code} {K : Nat} {r : Int} {F9 : zF} {B9 : zB} (X : zX D ca L aS vS A p s m args meth c prog_15_method_188_code 8 (Option.some Jvm.ClassFile.FieldType.int) "StaveHouseModel")  {F : zF} {B : zB} {H : Heap} {locs : List Loc} {ls : Array Slot} (hf : f_M_perfect_114 K  F B = some (r, F9, B9)) (hZ : zH D ca ad lnM nM L F B A H) (hS : va_S A s.heap H locs) (hl : lv_has ls 8 []) : W p l e ({ frames := 2, cells := 0, slots := 0, locals := 44 } : Room) s m args below meth c H locs 0 0 (MQ below (Q_M_perfect D ca ad L r F9 B9 A) args s 0 0 A) (F0 m 114 ls []) := by
  obtain ⟨hx, hb, hr, hml, hown, hts, hlk, hK, hA, hL, hX⟩ := id X
  replace hf : (f_M_perfect_115 K 0 F B) = some (r, F9, B9) := hf
  refine lv_iconst (v := iI 0) hx hb (D_3 W_prog_15_method_188_code_96 18 rfl rfl) rfl ?_
  exact b_M_perfect_115 X hf hZ hS (lv_sub hl [] rfl)

def f_M_perfect_97 (K : Nat) (l7 : Int) (l6 : Int) (F : zF) (B : zB) : zO := if r32 l6 then (if l6 = 4 then if r32 l7 then (if l7 = 7 then f_M_perfect_115 K 2 F B else f_M_perfect_114 K F B) else none else f_M_perfect_114 K F B) else none
set_option maxHeartbeats 4000000 in
set_option maxRecDepth 100000 in
theorem b_M_perfect_97 {D : va_G} {ca : Nat → ClassId} {ad : Nat → Int → Nat → Nat} {L : List Nat} {aS vS : Nat → Nat} {A : Nat → Prop} {p : Program} {l : Launch} {e : Env} {s : State} {m : MethodId} {args : Array Value} {below : List Frame} {meth : Method} {c : Code} {K : Nat} {r : Int} {F9 : zF} {B9 : zB} (X : zX D ca L aS vS A p s m args meth c prog_15_method_188_code 8 (Option.some Jvm.ClassFile.FieldType.int) "StaveHouseModel") {l7 : Int} {l6 : Int} {F : zF} {B : zB} {H : Heap} {locs : List Loc} {ls : Array Slot} (hf : f_M_perfect_97 K l7 l6 F B = some (r, F9, B9)) (hZ : zH D ca ad lnM nM L F B A H) (hS : va_S A s.heap H locs) (hl : lv_has ls 8 [(7, .int (iI l7)), (6, .int (iI l6))]) : W p l e ({ frames := 2, cells := 0, slots := 0, locals := 44 } : Room) s m args below meth c H locs 0 0 (MQ below (Q_M_perfect D ca ad L r F9 B9 A) args s 0 0 A) (F0 m 97 ls []) := by
  obtain ⟨hx, hb, hr, hml, hown, hts, hlk, hK, hA, hL, hX⟩ := id X
  replace hf : (if r32 l6 then (if l6 = 4 then if r32 l7 then (if l7 = 7 then f_M_perfect_115 K 2 F B else f_M_perfect_114 K F B) else none else f_M_perfect_114 K F B) else none) = some (r, F9, B9) := hf
  refine lv_iload hx hb (D_21 W_prog_15_method_188_code_96 1 rfl rfl) (lv_at hl 1 rfl) ?_
  refine lv_iconst (v := iI 4) hx hb (D_7 W_prog_15_method_188_code_96 3 rfl rfl) rfl ?_
  obtain ⟨g21, hf⟩ := gif hf
  refine zne (tgt := 114) hx hb g21 (by decide) (D_160 W_prog_15_method_188_code_96 4 rfl rfl rfl) (by decide) (fun h22 => ?_) (fun h22 => ?_)
  · replace hf := gneg hf h22
    exact b_M_perfect_114 X hf hZ hS (lv_sub hl [] rfl)
  · replace hf := gpos hf h22
    refine lv_iload hx hb (D_21 W_prog_15_method_188_code_96 7 rfl rfl) (lv_at hl 0 rfl) ?_
    refine lv_bipush (v := iI 7) hx hb (D_16 W_prog_15_method_188_code_96 9 rfl rfl rfl) (by decide) ?_
    obtain ⟨g23, hf⟩ := gif hf
    refine zne (tgt := 114) hx hb g23 (by decide) (D_160 W_prog_15_method_188_code_96 11 rfl rfl rfl) (by decide) (fun h24 => ?_) (fun h24 => ?_)
    · replace hf := gneg hf h24
      exact b_M_perfect_114 X hf hZ hS (lv_sub hl [] rfl)
    · replace hf := gpos hf h24
      refine lv_iconst (v := iI 2) hx hb (D_5 W_prog_15_method_188_code_96 14 rfl rfl) rfl ?_
      refine lv_goto (tgt := 115) hx hb (D_167 W_prog_15_method_188_code_96 15 rfl rfl rfl) (by decide) ?_
      exact b_M_perfect_115 X hf hZ hS (lv_sub hl [] rfl)

def f_M_perfect_39 (K : Nat) (l4 : Int) (l0 : Int) (s0 : Int) (F : zF) (B : zB) : zO := if 0 ≤ l0 ∧ l0 < 3 then if 0 ≤ l4 ∧ l4 < 24000 then if 0 ≤ s0 ∧ s0 < 24000 then zbind (f_M_mod K ((B 13 l0 28 l4) - (B 13 l0 28 s0)) 7 F B) (fun r13 F13 B13 => zbind (f_M_toneAt K l0 l4 F13 B13) (fun r14 F14 B14 => zbind (f_M_toneAt K l0 s0 F14 B14) (fun r15 F15 B15 => zbind (f_M_mod K (r14 - r15) 12 F15 B15) (fun r16 F16 B16 => if r32 r13 then (if r13 = 0 then if r32 r16 then (if r16 = 0 then f_M_perfect_115 K 1 F16 B16 else f_M_perfect_97 K r16 r13 F16 B16) else none else f_M_perfect_97 K r16 r13 F16 B16) else none)))) else none else none else none
set_option maxHeartbeats 4000000 in
set_option maxRecDepth 100000 in
theorem b_M_perfect_39 {D : va_G} {ca : Nat → ClassId} {ad : Nat → Int → Nat → Nat} {L : List Nat} {aS vS : Nat → Nat} {A : Nat → Prop} {p : Program} {l : Launch} {e : Env} {s : State} {m : MethodId} {args : Array Value} {below : List Frame} {meth : Method} {c : Code} {K : Nat} {r : Int} {F9 : zF} {B9 : zB} (X : zX D ca L aS vS A p s m args meth c prog_15_method_188_code 8 (Option.some Jvm.ClassFile.FieldType.int) "StaveHouseModel") {l4 : Int} {l0 : Int} {s0 : Int} {F : zF} {B : zB} {H : Heap} {locs : List Loc} {ls : Array Slot} (hf : f_M_perfect_39 K l4 l0 s0 F B = some (r, F9, B9)) (hZ : zH D ca ad lnM nM L F B A H) (hS : va_S A s.heap H locs) (hl : lv_has ls 8 [(4, .int (iI l4)), (0, .ref (ad 13 l0 0))]) : W p l e ({ frames := 2, cells := 0, slots := 0, locals := 44 } : Room) s m args below meth c H locs 0 0 (MQ below (Q_M_perfect D ca ad L r F9 B9 A) args s 0 0 A) (F0 m 39 ls [.int (iI s0)]) := by
  obtain ⟨hx, hb, hr, hml, hown, hts, hlk, hK, hA, hL, hX⟩ := id X
  replace hf : (if 0 ≤ l0 ∧ l0 < 3 then if 0 ≤ l4 ∧ l4 < 24000 then if 0 ≤ s0 ∧ s0 < 24000 then zbind (f_M_mod K ((B 13 l0 28 l4) - (B 13 l0 28 s0)) 7 F B) (fun r13 F13 B13 => zbind (f_M_toneAt K l0 l4 F13 B13) (fun r14 F14 B14 => zbind (f_M_toneAt K l0 s0 F14 B14) (fun r15 F15 B15 => zbind (f_M_mod K (r14 - r15) 12 F15 B15) (fun r16 F16 B16 => if r32 r13 then (if r13 = 0 then if r32 r16 then (if r16 = 0 then f_M_perfect_115 K 1 F16 B16 else f_M_perfect_97 K r16 r13 F16 B16) else none else f_M_perfect_97 K r16 r13 F16 B16) else none)))) else none else none else none) = some (r, F9, B9) := hf
  refine lv_istore (lv' := [(5, .int (iI s0)), (4, .int (iI l4)), (0, .ref (ad 13 l0 0))]) hx hb (D_54 W_prog_15_method_188_code_32 7 rfl rfl) hl (by decide) rfl (fun ls hl => ?_)
  refine lv_aload_n hx hb (D_42 W_prog_15_method_188_code_32 9 rfl rfl) rfl (lv_at hl 2 rfl) ?_
  obtain ⟨g10, hf⟩ := gif hf
  refine zget (ci := 13) (C := RX13) (T := TX13) (v := .ref (ad 13 l0 (28 + 1))) (k := 28) hx hb hts inW_13 hown hK hZ g10.1 g10.2 rfl (by decide) k_9_174 rfl (D_180 W_prog_15_method_188_code_32 10 rfl rfl rfl) ?_
  refine lv_iload hx hb (D_21 W_prog_15_method_188_code_32 13 rfl rfl) (lv_at hl 1 rfl) ?_
  obtain ⟨g11, hf⟩ := gif hf
  refine zald (ci := 13) (k := 28) hx hb hK rfl hZ g10.1 g10.2 rfl (Nat.le_of_ble_eq_true rfl) g11.1 g11.2 (D_46 W_prog_15_method_188_code_32 15 rfl rfl) ?_
  refine lv_aload_n hx hb (D_42 W_prog_15_method_188_code_32 16 rfl rfl) rfl (lv_at hl 2 rfl) ?_
  refine zget (ci := 13) (C := RX13) (T := TX13) (v := .ref (ad 13 l0 (28 + 1))) (k := 28) hx hb hts inW_13 hown hK hZ g10.1 g10.2 rfl (by decide) k_9_174 rfl (D_180 W_prog_15_method_188_code_32 17 rfl rfl rfl) ?_
  refine lv_iload hx hb (D_21 W_prog_15_method_188_code_32 20 rfl rfl) (lv_at hl 0 rfl) ?_
  obtain ⟨g12, hf⟩ := gif hf
  refine zald (ci := 13) (k := 28) hx hb hK rfl hZ g10.1 g10.2 rfl (Nat.le_of_ble_eq_true rfl) g12.1 g12.2 (D_46 W_prog_15_method_188_code_32 22 rfl rfl) ?_
  refine zsub hx hb (D_100 W_prog_15_method_188_code_32 23 rfl rfl) ?_
  refine lv_bipush (v := iI 7) hx hb (D_16 W_prog_15_method_188_code_32 24 rfl rfl rfl) (by decide) ?_
  obtain ⟨r13, F13, B13, hc13, hf⟩ := gbind hf
  refine va_calli (va_runS (As := [.int (iI ((B 13 l0 28 l4) - (B 13 l0 28 s0))), .int (iI 7)]) (rest := []) ⟨hx, hb, hml, hown, hts⟩ (c_M_mod (l := l) hc13) (va_cwS 2 hts (gdS k_12_164 k_12_165 k_1_9 k_12_166) rfl rfl rfl (by decide +kernel) ⟨Nat.le_of_ble_eq_true rfl, Nat.le_of_ble_eq_true rfl⟩) (zPS X hZ hS [.int (iI ((B 13 l0 28 l4) - (B 13 l0 28 s0))), .int (iI 7)]) rfl rfl hl.1 rfl (lv_room (Nat.le_of_ble_eq_true rfl)) (D_184 W_prog_15_method_188_code_32 26 rfl rfl rfl) ⟨Nat.le_of_ble_eq_true rfl, Nat.le_of_ble_eq_true rfl⟩) hS (fun q _ h => zAin X hS q h) (zAin X hS) (fun p13 u13 t13 H13 locs13 ht13 hv13 hw13 hB13 hz13 hk13 hS13 => ?_)
  have hZ13 := zBack X ht13 hB13
  subst hw13
  refine lv_istore (lv' := [(6, .int (iI r13)), (5, .int (iI s0)), (4, .int (iI l4)), (0, .ref (ad 13 l0 0))]) hx hb (D_54 W_prog_15_method_188_code_32 29 rfl rfl) hl (by decide) rfl (fun ls hl => ?_)
  refine lv_aload_n hx hb (D_42 W_prog_15_method_188_code_32 31 rfl rfl) rfl (lv_at hl 3 rfl) ?_
  refine lv_iload hx hb (D_21 W_prog_15_method_188_code_64 0 rfl rfl) (lv_at hl 2 rfl) ?_
  obtain ⟨r14, F14, B14, hc14, hf⟩ := gbind hf
  refine va_calli (va_runS (As := [.ref (ad 13 l0 0), .int (iI l4)]) (rest := []) ⟨hx, hb, hml, hown, hts⟩ (c_M_toneAt (l := l) hc14) (va_cwS 2 hts (gdS k_15_121 k_15_122 k_1_9 k_15_123) rfl rfl rfl (by decide +kernel) ⟨Nat.le_of_ble_eq_true rfl, Nat.le_of_ble_eq_true rfl⟩) (zPS X hZ13 hS13 [.ref (ad 13 l0 0), .int (iI l4)]) rfl rfl hl.1 rfl (lv_room (Nat.le_of_ble_eq_true rfl)) (D_184 W_prog_15_method_188_code_64 2 rfl rfl rfl) ⟨Nat.le_of_ble_eq_true rfl, Nat.le_of_ble_eq_true rfl⟩) hS13 (fun q _ h => zAin X hS13 q h) (zAin X hS13) (fun p14 u14 t14 H14 locs14 ht14 hv14 hw14 hB14 hz14 hk14 hS14 => ?_)
  have hZ14 := zBack X ht14 hB14
  subst hw14
  refine lv_aload_n hx hb (D_42 W_prog_15_method_188_code_64 5 rfl rfl) rfl (lv_at hl 3 rfl) ?_
  refine lv_iload hx hb (D_21 W_prog_15_method_188_code_64 6 rfl rfl) (lv_at hl 1 rfl) ?_
  obtain ⟨r15, F15, B15, hc15, hf⟩ := gbind hf
  refine va_calli (va_runS (As := [.ref (ad 13 l0 0), .int (iI s0)]) (rest := [.int (iI r14)]) ⟨hx, hb, hml, hown, hts⟩ (c_M_toneAt (l := l) hc15) (va_cwS 2 hts (gdS k_15_121 k_15_122 k_1_9 k_15_123) rfl rfl rfl (by decide +kernel) ⟨Nat.le_of_ble_eq_true rfl, Nat.le_of_ble_eq_true rfl⟩) (zPS X hZ14 hS14 [.ref (ad 13 l0 0), .int (iI s0)]) rfl rfl hl.1 rfl (lv_room (Nat.le_of_ble_eq_true rfl)) (D_184 W_prog_15_method_188_code_64 8 rfl rfl rfl) ⟨Nat.le_of_ble_eq_true rfl, Nat.le_of_ble_eq_true rfl⟩) hS14 (fun q _ h => zAin X hS14 q h) (zAin X hS14) (fun p15 u15 t15 H15 locs15 ht15 hv15 hw15 hB15 hz15 hk15 hS15 => ?_)
  have hZ15 := zBack X ht15 hB15
  subst hw15
  refine zsub hx hb (D_100 W_prog_15_method_188_code_64 11 rfl rfl) ?_
  refine lv_bipush (v := iI 12) hx hb (D_16 W_prog_15_method_188_code_64 12 rfl rfl rfl) (by decide) ?_
  obtain ⟨r16, F16, B16, hc16, hf⟩ := gbind hf
  refine va_calli (va_runS (As := [.int (iI (r14 - r15)), .int (iI 12)]) (rest := []) ⟨hx, hb, hml, hown, hts⟩ (c_M_mod (l := l) hc16) (va_cwS 2 hts (gdS k_12_164 k_12_165 k_1_9 k_12_166) rfl rfl rfl (by decide +kernel) ⟨Nat.le_of_ble_eq_true rfl, Nat.le_of_ble_eq_true rfl⟩) (zPS X hZ15 hS15 [.int (iI (r14 - r15)), .int (iI 12)]) rfl rfl hl.1 rfl (lv_room (Nat.le_of_ble_eq_true rfl)) (D_184 W_prog_15_method_188_code_64 14 rfl rfl rfl) ⟨Nat.le_of_ble_eq_true rfl, Nat.le_of_ble_eq_true rfl⟩) hS15 (fun q _ h => zAin X hS15 q h) (zAin X hS15) (fun p16 u16 t16 H16 locs16 ht16 hv16 hw16 hB16 hz16 hk16 hS16 => ?_)
  have hZ16 := zBack X ht16 hB16
  subst hw16
  refine lv_istore (lv' := [(7, .int (iI r16)), (6, .int (iI r13)), (5, .int (iI s0)), (4, .int (iI l4)), (0, .ref (ad 13 l0 0))]) hx hb (D_54 W_prog_15_method_188_code_64 17 rfl rfl) hl (by decide) rfl (fun ls hl => ?_)
  refine lv_iload hx hb (D_21 W_prog_15_method_188_code_64 19 rfl rfl) (lv_at hl 1 rfl) ?_
  obtain ⟨g17, hf⟩ := gif hf
  refine z0ne (tgt := 97) hx hb g17 (D_154 W_prog_15_method_188_code_64 21 rfl rfl rfl) (by decide) (fun h18 => ?_) (fun h18 => ?_)
  · replace hf := gneg hf h18
    exact b_M_perfect_97 X hf hZ16 hS16 (lv_sub hl [0, 1] rfl)
  · replace hf := gpos hf h18
    refine lv_iload hx hb (D_21 W_prog_15_method_188_code_64 24 rfl rfl) (lv_at hl 0 rfl) ?_
    obtain ⟨g19, hf⟩ := gif hf
    refine z0ne (tgt := 97) hx hb g19 (D_154 W_prog_15_method_188_code_64 26 rfl rfl rfl) (by decide) (fun h20 => ?_) (fun h20 => ?_)
    · replace hf := gneg hf h20
      exact b_M_perfect_97 X hf hZ16 hS16 (lv_sub hl [0, 1] rfl)
    · replace hf := gpos hf h20
      refine lv_iconst (v := iI 1) hx hb (D_4 W_prog_15_method_188_code_64 29 rfl rfl) rfl ?_
      refine lv_goto (tgt := 115) hx hb (D_167 W_prog_15_method_188_code_64 30 rfl rfl rfl) (by decide) ?_
      exact b_M_perfect_115 X hf hZ16 hS16 (lv_sub hl [] rfl)

def f_M_perfect_28 (K : Nat) (l3 : Int) (l0 : Int) (l1 : Int) (l2 : Int) (s0 : Int) (F : zF) (B : zB) : zO := if r32 l3 then (if l3 = 0 then f_M_perfect_39 K s0 l0 l1 F B else f_M_perfect_39 K s0 l0 l2 F B) else none
set_option maxHeartbeats 4000000 in
set_option maxRecDepth 100000 in
theorem b_M_perfect_28 {D : va_G} {ca : Nat → ClassId} {ad : Nat → Int → Nat → Nat} {L : List Nat} {aS vS : Nat → Nat} {A : Nat → Prop} {p : Program} {l : Launch} {e : Env} {s : State} {m : MethodId} {args : Array Value} {below : List Frame} {meth : Method} {c : Code} {K : Nat} {r : Int} {F9 : zF} {B9 : zB} (X : zX D ca L aS vS A p s m args meth c prog_15_method_188_code 8 (Option.some Jvm.ClassFile.FieldType.int) "StaveHouseModel") {l3 : Int} {l0 : Int} {l1 : Int} {l2 : Int} {s0 : Int} {F : zF} {B : zB} {H : Heap} {locs : List Loc} {ls : Array Slot} (hf : f_M_perfect_28 K l3 l0 l1 l2 s0 F B = some (r, F9, B9)) (hZ : zH D ca ad lnM nM L F B A H) (hS : va_S A s.heap H locs) (hl : lv_has ls 8 [(3, .int (iI l3)), (0, .ref (ad 13 l0 0)), (1, .int (iI l1)), (2, .int (iI l2))]) : W p l e ({ frames := 2, cells := 0, slots := 0, locals := 44 } : Room) s m args below meth c H locs 0 0 (MQ below (Q_M_perfect D ca ad L r F9 B9 A) args s 0 0 A) (F0 m 28 ls [.int (iI s0)]) := by
  obtain ⟨hx, hb, hr, hml, hown, hts, hlk, hK, hA, hL, hX⟩ := id X
  replace hf : (if r32 l3 then (if l3 = 0 then f_M_perfect_39 K s0 l0 l1 F B else f_M_perfect_39 K s0 l0 l2 F B) else none) = some (r, F9, B9) := hf
  refine lv_istore (lv' := [(4, .int (iI s0)), (3, .int (iI l3)), (0, .ref (ad 13 l0 0)), (1, .int (iI l1)), (2, .int (iI l2))]) hx hb (D_54 W_prog_15_method_188_code_0 28 rfl rfl) hl (by decide) rfl (fun ls hl => ?_)
  refine lv_iload_n hx hb (D_29 W_prog_15_method_188_code_0 30 rfl rfl) rfl (lv_at hl 1 rfl) ?_
  obtain ⟨g8, hf⟩ := gif hf
  refine z0eq (tgt := 38) hx hb g8 (D_153 W_prog_15_method_188_code_0 31 rfl rfl rfl) (by decide) (fun h9 => ?_) (fun h9 => ?_)
  · replace hf := gpos hf h9
    refine lv_iload_n hx hb (D_27 W_prog_15_method_188_code_32 6 rfl rfl) rfl (lv_at hl 3 rfl) ?_
    exact b_M_perfect_39 X hf hZ hS (lv_sub hl [0, 2] rfl)
  · replace hf := gneg hf h9
    refine lv_iload_n hx hb (D_28 W_prog_15_method_188_code_32 2 rfl rfl) rfl (lv_at hl 4 rfl) ?_
    refine lv_goto (tgt := 39) hx hb (D_167 W_prog_15_method_188_code_32 3 rfl rfl rfl) (by decide) ?_
    exact b_M_perfect_39 X hf hZ hS (lv_sub hl [0, 2] rfl)

def f_M_perfect_18 (K : Nat) (l0 : Int) (l1 : Int) (l2 : Int) (s0 : Int) (F : zF) (B : zB) : zO := if r32 s0 then (if s0 = 0 then f_M_perfect_28 K s0 l0 l1 l2 l2 F B else f_M_perfect_28 K s0 l0 l1 l2 l1 F B) else none
set_option maxHeartbeats 4000000 in
set_option maxRecDepth 100000 in
theorem b_M_perfect_18 {D : va_G} {ca : Nat → ClassId} {ad : Nat → Int → Nat → Nat} {L : List Nat} {aS vS : Nat → Nat} {A : Nat → Prop} {p : Program} {l : Launch} {e : Env} {s : State} {m : MethodId} {args : Array Value} {below : List Frame} {meth : Method} {c : Code} {K : Nat} {r : Int} {F9 : zF} {B9 : zB} (X : zX D ca L aS vS A p s m args meth c prog_15_method_188_code 8 (Option.some Jvm.ClassFile.FieldType.int) "StaveHouseModel") {l0 : Int} {l1 : Int} {l2 : Int} {s0 : Int} {F : zF} {B : zB} {H : Heap} {locs : List Loc} {ls : Array Slot} (hf : f_M_perfect_18 K l0 l1 l2 s0 F B = some (r, F9, B9)) (hZ : zH D ca ad lnM nM L F B A H) (hS : va_S A s.heap H locs) (hl : lv_has ls 8 [(0, .ref (ad 13 l0 0)), (1, .int (iI l1)), (2, .int (iI l2))]) : W p l e ({ frames := 2, cells := 0, slots := 0, locals := 44 } : Room) s m args below meth c H locs 0 0 (MQ below (Q_M_perfect D ca ad L r F9 B9 A) args s 0 0 A) (F0 m 18 ls [.int (iI s0)]) := by
  obtain ⟨hx, hb, hr, hml, hown, hts, hlk, hK, hA, hL, hX⟩ := id X
  replace hf : (if r32 s0 then (if s0 = 0 then f_M_perfect_28 K s0 l0 l1 l2 l2 F B else f_M_perfect_28 K s0 l0 l1 l2 l1 F B) else none) = some (r, F9, B9) := hf
  refine lv_istore_n (lv' := [(3, .int (iI s0)), (0, .ref (ad 13 l0 0)), (1, .int (iI l1)), (2, .int (iI l2))]) hx hb (D_62 W_prog_15_method_188_code_0 18 rfl rfl) rfl hl (by decide) rfl (fun ls hl => ?_)
  refine lv_iload_n hx hb (D_29 W_prog_15_method_188_code_0 19 rfl rfl) rfl (lv_at hl 0 rfl) ?_
  obtain ⟨g6, hf⟩ := gif hf
  refine z0eq (tgt := 27) hx hb g6 (D_153 W_prog_15_method_188_code_0 20 rfl rfl rfl) (by decide) (fun h7 => ?_) (fun h7 => ?_)
  · replace hf := gpos hf h7
    refine lv_iload_n hx hb (D_28 W_prog_15_method_188_code_0 27 rfl rfl) rfl (lv_at hl 3 rfl) ?_
    exact b_M_perfect_28 X hf hZ hS (lv_sub hl [0, 1, 2, 3] rfl)
  · replace hf := gneg hf h7
    refine lv_iload_n hx hb (D_27 W_prog_15_method_188_code_0 23 rfl rfl) rfl (lv_at hl 2 rfl) ?_
    refine lv_goto (tgt := 28) hx hb (D_167 W_prog_15_method_188_code_0 24 rfl rfl rfl) (by decide) ?_
    exact b_M_perfect_28 X hf hZ hS (lv_sub hl [0, 1, 2, 3] rfl)

def f_M_perfect (K : Nat) (l0 : Int) (l1 : Int) (l2 : Int) (F : zF) (B : zB) : zO := zbind (f_M_toneAt K l0 l1 F B) (fun r1 F1 B1 => zbind (f_M_toneAt K l0 l2 F1 B1) (fun r2 F2 B2 => if r32 r1 then if r32 r2 then (if r1 < r2 then f_M_perfect_18 K l0 l1 l2 0 F2 B2 else f_M_perfect_18 K l0 l1 l2 1 F2 B2) else none else none))
set_option maxHeartbeats 4000000 in
set_option maxRecDepth 100000 in
theorem c_M_perfect {l : Launch} {D : va_G} {ca : Nat → ClassId} {ad : Nat → Int → Nat → Nat} {L : List Nat} {aS vS : Nat → Nat} {sz K : Nat}  {l0 : Int} {l1 : Int} {l2 : Int} {F F9 : zF} {B B9 : zB} {r : Int} (hf : f_M_perfect K l0 l1 l2 F B = some (r, F9, B9)) : Met l ({ cls := "StaveHouseModel", name := "perfect", desc := "(LStaveHouseModel$Piece;II)I" } : Jvm.MethodName) (Cond.code ({ cls := "StaveHouseModel", name := "perfect", desc := "(LStaveHouseModel$Piece;II)I" } : Jvm.MethodName) prog_15_method_188_code 8 (Option.some Jvm.ClassFile.FieldType.int) :: wAll) ({ frames := 2, cells := 0, slots := 0, locals := 44 } : Room) (va_Pc [.ref (ad 13 l0 0), .int (iI l1), .int (iI l2)] (zPre D ca ad lnM nM L aS vS F B sz)) (Q_M_perfect D ca ad L r F9 B9 (zA L sz)) 0 0 (zA L sz) := by
  refine zMet (Qc := Q_M_perfect D ca ad L r F9 B9) (lv := [(0, .ref (ad 13 l0 0)), (1, .int (iI l1)), (2, .int (iI l2))]) (by decide) (Nat.le_of_ble_eq_true rfl) rfl (fun A p e s m below meth c ls X hZ hS hl => ?_)
  obtain ⟨hx, hb, hr, hml, hown, hts, hlk, hK, hA, hL, hX⟩ := id X
  replace hf : (zbind (f_M_toneAt K l0 l1 F B) (fun r1 F1 B1 => zbind (f_M_toneAt K l0 l2 F1 B1) (fun r2 F2 B2 => if r32 r1 then if r32 r2 then (if r1 < r2 then f_M_perfect_18 K l0 l1 l2 0 F2 B2 else f_M_perfect_18 K l0 l1 l2 1 F2 B2) else none else none))) = some (r, F9, B9) := hf
  refine lv_aload_n hx hb (D_42 W_prog_15_method_188_code_0 0 rfl rfl) rfl (lv_at hl 0 rfl) ?_
  refine lv_iload_n hx hb (D_27 W_prog_15_method_188_code_0 1 rfl rfl) rfl (lv_at hl 1 rfl) ?_
  obtain ⟨r1, F1, B1, hc1, hf⟩ := gbind hf
  refine va_calli (va_runS (As := [.ref (ad 13 l0 0), .int (iI l1)]) (rest := []) ⟨hx, hb, hml, hown, hts⟩ (c_M_toneAt (l := l) hc1) (va_cwS 2 hts (gdS k_15_121 k_15_122 k_1_9 k_15_123) rfl rfl rfl (by decide +kernel) ⟨Nat.le_of_ble_eq_true rfl, Nat.le_of_ble_eq_true rfl⟩) (zPS X hZ hS [.ref (ad 13 l0 0), .int (iI l1)]) rfl rfl hl.1 rfl (lv_room (Nat.le_of_ble_eq_true rfl)) (D_184 W_prog_15_method_188_code_0 2 rfl rfl rfl) ⟨Nat.le_of_ble_eq_true rfl, Nat.le_of_ble_eq_true rfl⟩) hS (fun q _ h => zAin X hS q h) (zAin X hS) (fun p1 u1 t1 H1 locs1 ht1 hv1 hw1 hB1 hz1 hk1 hS1 => ?_)
  have hZ1 := zBack X ht1 hB1
  subst hw1
  refine lv_aload_n hx hb (D_42 W_prog_15_method_188_code_0 5 rfl rfl) rfl (lv_at hl 0 rfl) ?_
  refine lv_iload_n hx hb (D_28 W_prog_15_method_188_code_0 6 rfl rfl) rfl (lv_at hl 2 rfl) ?_
  obtain ⟨r2, F2, B2, hc2, hf⟩ := gbind hf
  refine va_calli (va_runS (As := [.ref (ad 13 l0 0), .int (iI l2)]) (rest := [.int (iI r1)]) ⟨hx, hb, hml, hown, hts⟩ (c_M_toneAt (l := l) hc2) (va_cwS 2 hts (gdS k_15_121 k_15_122 k_1_9 k_15_123) rfl rfl rfl (by decide +kernel) ⟨Nat.le_of_ble_eq_true rfl, Nat.le_of_ble_eq_true rfl⟩) (zPS X hZ1 hS1 [.ref (ad 13 l0 0), .int (iI l2)]) rfl rfl hl.1 rfl (lv_room (Nat.le_of_ble_eq_true rfl)) (D_184 W_prog_15_method_188_code_0 7 rfl rfl rfl) ⟨Nat.le_of_ble_eq_true rfl, Nat.le_of_ble_eq_true rfl⟩) hS1 (fun q _ h => zAin X hS1 q h) (zAin X hS1) (fun p2 u2 t2 H2 locs2 ht2 hv2 hw2 hB2 hz2 hk2 hS2 => ?_)
  have hZ2 := zBack X ht2 hB2
  subst hw2
  obtain ⟨g3, hf⟩ := gif hf
  obtain ⟨g4, hf⟩ := gif hf
  refine zlt (tgt := 17) hx hb g3 g4 (D_161 W_prog_15_method_188_code_0 10 rfl rfl rfl) (by decide) (fun h5 => ?_) (fun h5 => ?_)
  · replace hf := gpos hf h5
    refine lv_iconst (v := iI 0) hx hb (D_3 W_prog_15_method_188_code_0 17 rfl rfl) rfl ?_
    exact b_M_perfect_18 X hf hZ2 hS2 (lv_sub hl [0, 1, 2] rfl)
  · replace hf := gneg hf h5
    refine lv_iconst (v := iI 1) hx hb (D_4 W_prog_15_method_188_code_0 13 rfl rfl) rfl ?_
    refine lv_goto (tgt := 18) hx hb (D_167 W_prog_15_method_188_code_0 14 rfl rfl rfl) (by decide) ?_
    exact b_M_perfect_18 X hf hZ2 hS2 (lv_sub hl [0, 1, 2] rfl)

