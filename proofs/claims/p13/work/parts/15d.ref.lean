theorem k_9_134 : (Jvm.Cond.fieldLink "StaveHouseModel" (451 : Nat) "StaveHouseModel$Piece" "clef" "[I") ∈ wAll := wA_9 (j := 134) rfl rfl
theorem k_15_71 : (Jvm.Cond.methodLink "StaveHouseModel" (793 : Nat) ({ cls := "StaveHouseModel", name := "height", desc := "(LStaveHouseModel$Piece;II)I" } : Jvm.MethodName)) ∈ wAll := wA_15 (j := 71) rfl rfl
theorem k_15_72 : (Jvm.Cond.static ({ cls := "StaveHouseModel", name := "height", desc := "(LStaveHouseModel$Piece;II)I" } : Jvm.MethodName)) ∈ wAll := wA_15 (j := 72) rfl rfl
theorem k_15_73 : (Jvm.Cond.code ({ cls := "StaveHouseModel", name := "height", desc := "(LStaveHouseModel$Piece;II)I" } : Jvm.MethodName) prog_15_method_95_code (4 : Nat) (Option.some Jvm.ClassFile.FieldType.int)) ∈ wAll := wA_15 (j := 73) rfl rfl
theorem k_9_204 : (Jvm.Cond.fieldLink "StaveHouseModel" (834 : Nat) "StaveHouseModel$Piece" "columnUp" "[J") ∈ wAll := wA_9 (j := 204) rfl rfl
theorem k_9_206 : (Jvm.Cond.fieldLink "StaveHouseModel" (837 : Nat) "StaveHouseModel$Piece" "columnDown" "[J") ∈ wAll := wA_9 (j := 206) rfl rfl
theorem k_13_132 : (Jvm.Cond.methodLink "StaveHouseModel" (664 : Nat) ({ cls := "StaveHouseModel", name := "minus", desc := "(JJJJ)V" } : Jvm.MethodName)) ∈ wAll := wA_13 (j := 132) rfl rfl
theorem k_13_134 : (Jvm.Cond.instanceMethod ({ cls := "StaveHouseModel", name := "minus", desc := "(JJJJ)V" } : Jvm.MethodName)) ∈ wAll := wA_13 (j := 134) rfl rfl
theorem ks_174 : (Jvm.Cond.selects "StaveHouseModel" ({ cls := "StaveHouseModel", name := "minus", desc := "(JJJJ)V" } : Jvm.MethodName) ({ cls := "StaveHouseModel", name := "minus", desc := "(JJJJ)V" } : Jvm.MethodName)) ∈ wAll := wA_s (j := 174) rfl rfl
theorem k_13_135 : (Jvm.Cond.code ({ cls := "StaveHouseModel", name := "minus", desc := "(JJJJ)V" } : Jvm.MethodName) prog_15_method_4_code (11 : Nat) (Option.none : Option Jvm.ClassFile.FieldType)) ∈ wAll := wA_13 (j := 135) rfl rfl
theorem k_14_227 : (Jvm.Cond.constantLong "StaveHouseModel" (624 : Nat) (128 : Int64)) ∈ wAll := wA_14 (j := 227) rfl rfl
theorem k_9_192 : (Jvm.Cond.fieldLink "StaveHouseModel" (787 : Nat) "StaveHouseModel$Piece" "accidentals" "[I") ∈ wAll := wA_9 (j := 192) rfl rfl
theorem k_10_11 : (Jvm.Cond.fieldLink "StaveHouseModel" (1175 : Nat) "StaveHouseModel$Piece" "moments" "I") ∈ wAll := wA_10 (j := 11) rfl rfl
theorem k_10_13 : (Jvm.Cond.fieldLink "StaveHouseModel" (1182 : Nat) "StaveHouseModel$Piece" "momentUp" "[J") ∈ wAll := wA_10 (j := 13) rfl rfl
theorem k_10_15 : (Jvm.Cond.fieldLink "StaveHouseModel" (1185 : Nat) "StaveHouseModel$Piece" "momentDown" "[J") ∈ wAll := wA_10 (j := 15) rfl rfl
theorem k_10_17 : (Jvm.Cond.fieldLink "StaveHouseModel" (1188 : Nat) "StaveHouseModel$Piece" "lies" "[I") ∈ wAll := wA_10 (j := 17) rfl rfl
theorem k_14_61 : (Jvm.Cond.methodLink "StaveHouseModel" (1237 : Nat) ({ cls := "StaveHouseModel", name := "lineOf", desc := "(LStaveHouseModel$Piece;I)I" } : Jvm.MethodName)) ∈ wAll := wA_14 (j := 61) rfl rfl
theorem k_14_62 : (Jvm.Cond.static ({ cls := "StaveHouseModel", name := "lineOf", desc := "(LStaveHouseModel$Piece;I)I" } : Jvm.MethodName)) ∈ wAll := wA_14 (j := 62) rfl rfl
theorem k_14_63 : (Jvm.Cond.code ({ cls := "StaveHouseModel", name := "lineOf", desc := "(LStaveHouseModel$Piece;I)I" } : Jvm.MethodName) prog_15_method_182_code (4 : Nat) (Option.some Jvm.ClassFile.FieldType.int)) ∈ wAll := wA_14 (j := 63) rfl rfl
theorem k_15_121 : (Jvm.Cond.methodLink "StaveHouseModel" (1266 : Nat) ({ cls := "StaveHouseModel", name := "toneAt", desc := "(LStaveHouseModel$Piece;I)I" } : Jvm.MethodName)) ∈ wAll := wA_15 (j := 121) rfl rfl
theorem k_15_122 : (Jvm.Cond.static ({ cls := "StaveHouseModel", name := "toneAt", desc := "(LStaveHouseModel$Piece;I)I" } : Jvm.MethodName)) ∈ wAll := wA_15 (j := 122) rfl rfl
theorem k_15_123 : (Jvm.Cond.code ({ cls := "StaveHouseModel", name := "toneAt", desc := "(LStaveHouseModel$Piece;I)I" } : Jvm.MethodName) prog_15_method_184_code (2 : Nat) (Option.some Jvm.ClassFile.FieldType.int)) ∈ wAll := wA_15 (j := 123) rfl rfl
theorem k_12_118 : (Jvm.Cond.methodLink "StaveHouseModel" (879 : Nat) ({ cls := "StaveHouseModel", name := "isVoice", desc := "(LStaveHouseModel$Piece;I)Z" } : Jvm.MethodName)) ∈ wAll := wA_12 (j := 118) rfl rfl
theorem k_12_119 : (Jvm.Cond.static ({ cls := "StaveHouseModel", name := "isVoice", desc := "(LStaveHouseModel$Piece;I)Z" } : Jvm.MethodName)) ∈ wAll := wA_12 (j := 119) rfl rfl
theorem k_12_120 : (Jvm.Cond.code ({ cls := "StaveHouseModel", name := "isVoice", desc := "(LStaveHouseModel$Piece;I)Z" } : Jvm.MethodName) prog_15_method_16_code (2 : Nat) (Option.some Jvm.ClassFile.FieldType.boolean)) ∈ wAll := wA_12 (j := 120) rfl rfl
theorem k_9_136 : (Jvm.Cond.fieldLink "StaveHouseModel" (454 : Nat) "StaveHouseModel$Piece" "number" "[I") ∈ wAll := wA_9 (j := 136) rfl rfl
theorem k_9_138 : (Jvm.Cond.fieldLink "StaveHouseModel" (445 : Nat) "StaveHouseModel$Piece" "name" "[J") ∈ wAll := wA_9 (j := 138) rfl rfl
theorem k_9_146 : (Jvm.Cond.fieldLink "StaveHouseModel" (521 : Nat) "StaveHouseModel$Piece" "up" "[J") ∈ wAll := wA_9 (j := 146) rfl rfl
theorem k_9_148 : (Jvm.Cond.fieldLink "StaveHouseModel" (524 : Nat) "StaveHouseModel$Piece" "down" "[J") ∈ wAll := wA_9 (j := 148) rfl rfl
theorem k_9_158 : (Jvm.Cond.fieldLink "StaveHouseModel" (595 : Nat) "StaveHouseModel$Piece" "token" "[I") ∈ wAll := wA_9 (j := 158) rfl rfl
theorem k_9_194 : (Jvm.Cond.fieldLink "StaveHouseModel" (770 : Nat) "StaveHouseModel$Piece" "ledgers" "[I") ∈ wAll := wA_9 (j := 194) rfl rfl
theorem k_9_196 : (Jvm.Cond.fieldLink "StaveHouseModel" (809 : Nat) "StaveHouseModel$Piece" "group" "[I") ∈ wAll := wA_9 (j := 196) rfl rfl
theorem k_9_198 : (Jvm.Cond.fieldLink "StaveHouseModel" (812 : Nat) "StaveHouseModel$Piece" "beams" "[I") ∈ wAll := wA_9 (j := 198) rfl rfl
theorem k_9_200 : (Jvm.Cond.fieldLink "StaveHouseModel" (815 : Nat) "StaveHouseModel$Piece" "stem" "[I") ∈ wAll := wA_9 (j := 200) rfl rfl
theorem k_12_102 : (Jvm.Cond.methodLink "StaveHouseModel" (840 : Nat) ({ cls := "StaveHouseModel", name := "ahead", desc := "(LStaveHouseModel$Piece;I)I" } : Jvm.MethodName)) ∈ wAll := wA_12 (j := 102) rfl rfl
theorem k_12_103 : (Jvm.Cond.static ({ cls := "StaveHouseModel", name := "ahead", desc := "(LStaveHouseModel$Piece;I)I" } : Jvm.MethodName)) ∈ wAll := wA_12 (j := 103) rfl rfl
theorem k_12_104 : (Jvm.Cond.code ({ cls := "StaveHouseModel", name := "ahead", desc := "(LStaveHouseModel$Piece;I)I" } : Jvm.MethodName) prog_15_method_105_code (2 : Nat) (Option.some Jvm.ClassFile.FieldType.int)) ∈ wAll := wA_12 (j := 104) rfl rfl
theorem k_9_210 : (Jvm.Cond.fieldLink "StaveHouseModel" (825 : Nat) "StaveHouseModel$Piece" "barWide" "[I") ∈ wAll := wA_9 (j := 210) rfl rfl
theorem W_prog_15_method_93_code_0 : chW prog_15_method_93_code 0 [29, 158, 0, 14, 43, 28, 29, 4, 100, 184, 3, 10, 167, 0, 4, 2, 54, 6, 21, 6, 156, 0, 7, 2, 167, 0, 13, 43, 21, 6, 21, 4, 21, 5, 184, 2] := chW_of (by decide +kernel)
theorem W_prog_15_method_93_code_32 : chW prog_15_method_93_code 32 [21, 5, 184, 2, 122, 54, 7, 21, 7, 155, 0, 30, 43, 180, 3, 13, 17, 3, 32, 28, 104, 29, 96, 4, 100, 46, 21, 7, 122, 4, 126, 4, 160, 0, 7, 4] := chW_of (by decide +kernel)
theorem W_prog_15_method_93_code_64 : chW prog_15_method_93_code 64 [160, 0, 7, 4, 167, 0, 4, 3, 172] := chW_of (by decide +kernel)
theorem W_prog_15_method_95_code_0 : chW prog_15_method_95_code 0 [42, 180, 1, 195, 27, 46, 62, 28, 29, 154, 0, 8, 16, 30, 167, 0, 25, 29, 4, 160, 0, 8, 16, 18, 167, 0, 15, 29, 5, 160, 0, 8, 16, 24, 167, 0] := chW_of (by decide +kernel)
theorem W_prog_15_method_95_code_32 : chW prog_15_method_95_code 32 [16, 24, 167, 0, 5, 16, 22, 100, 172] := chW_of (by decide +kernel)
theorem W_prog_15_method_96_code_0 : chW prog_15_method_96_code 0 [42, 27, 42, 180, 2, 103, 16, 6, 28, 104, 46, 184, 3, 25, 172] := chW_of (by decide +kernel)
theorem W_prog_15_method_99_code_0 : chW prog_15_method_99_code 0 [43, 28, 29, 184, 3, 10, 155, 0, 23, 43, 180, 2, 246, 17, 3, 32, 28, 104, 29, 96, 46, 6, 161, 0, 7, 4, 167, 0, 4, 3, 172] := chW_of (by decide +kernel)
theorem W_prog_15_method_103_code_0 : chW prog_15_method_103_code 0 [29, 54, 8, 43, 180, 3, 50, 28, 46, 54, 9, 21, 9, 29, 162, 0, 37, 43, 180, 3, 66, 21, 9, 47, 22, 4, 148, 154, 0, 18, 43, 180, 3, 69, 21, 9] := chW_of (by decide +kernel)
theorem W_prog_15_method_103_code_32 : chW prog_15_method_103_code 32 [3, 69, 21, 9, 47, 22, 6, 148, 154, 0, 5, 29, 172, 132, 9, 1, 167, 255, 219, 21, 8, 43, 180, 3, 50, 28, 46, 164, 0, 69, 43, 180, 3, 66, 21, 8] := chW_of (by decide +kernel)
theorem d_15_103_45 : decode prog_15_method_103_code 45 = .ok (.iinc 9 1, 3) := D_132 W_prog_15_method_103_code_32 13 rfl rfl rfl
theorem W_prog_15_method_103_code_64 : chW prog_15_method_103_code 64 [3, 66, 21, 8, 4, 100, 47, 43, 180, 3, 69, 21, 8, 4, 100, 47, 22, 4, 22, 6, 184, 2, 25, 158, 0, 41, 43, 180, 3, 66, 21, 8, 43, 180, 3, 66] := chW_of (by decide +kernel)
theorem W_prog_15_method_103_code_96 : chW prog_15_method_103_code 96 [43, 180, 3, 66, 21, 8, 4, 100, 47, 80, 43, 180, 3, 69, 21, 8, 43, 180, 3, 69, 21, 8, 4, 100, 47, 80, 132, 8, 255, 167, 255, 182, 43, 180, 3, 66] := chW_of (by decide +kernel)
theorem d_15_103_122 : decode prog_15_method_103_code 122 = .ok (.iinc 8 (-1), 3) := D_132 W_prog_15_method_103_code_96 26 rfl rfl rfl
theorem W_prog_15_method_103_code_128 : chW prog_15_method_103_code 128 [43, 180, 3, 66, 21, 8, 22, 4, 80, 43, 180, 3, 69, 21, 8, 22, 6, 80, 29, 4, 96, 172] := chW_of (by decide +kernel)
theorem W_prog_15_method_104_code_0 : chW prog_15_method_104_code 0 [29, 4, 96, 43, 180, 3, 50, 28, 4, 96, 46, 160, 0, 7, 4, 167, 0, 4, 3, 54, 4, 42, 21, 4, 153, 0, 11, 43, 180, 1, 148, 133, 167, 0, 11, 43] := chW_of (by decide +kernel)
theorem W_prog_15_method_104_code_32 : chW prog_15_method_104_code 32 [167, 0, 11, 43, 180, 3, 66, 29, 4, 96, 47, 21, 4, 153, 0, 11, 43, 180, 1, 151, 133, 167, 0, 11, 43, 180, 3, 69, 29, 4, 96, 47, 43, 180, 3, 66] := chW_of (by decide +kernel)
theorem W_prog_15_method_104_code_64 : chW prog_15_method_104_code 64 [43, 180, 3, 66, 29, 47, 43, 180, 3, 69, 29, 47, 182, 2, 152, 20, 2, 112, 42, 180, 0, 9, 105, 55, 5, 3, 54, 7, 22, 5, 42, 180, 0, 13, 21, 7] := chW_of (by decide +kernel)
theorem W_prog_15_method_104_code_96 : chW prog_15_method_104_code 96 [0, 13, 21, 7, 4, 96, 121, 148, 155, 0, 9, 132, 7, 1, 167, 255, 238, 3, 54, 8, 3, 54, 9, 3, 54, 10, 21, 10, 43, 180, 1, 48, 162, 0, 132, 3] := chW_of (by decide +kernel)
theorem d_15_104_107 : decode prog_15_method_104_code 107 = .ok (.iinc 7 1, 3) := D_132 W_prog_15_method_104_code_96 11 rfl rfl rfl
theorem W_prog_15_method_104_code_128 : chW prog_15_method_104_code 128 [162, 0, 132, 3, 54, 11, 21, 11, 43, 180, 2, 211, 21, 10, 46, 162, 0, 111, 17, 3, 32, 21, 10, 104, 21, 11, 96, 54, 12, 43, 180, 2, 237, 21, 12, 46] := chW_of (by decide +kernel)
theorem W_prog_15_method_104_code_256 : chW prog_15_method_104_code 256 [1, 167, 255, 121, 16, 8, 7, 21, 7, 104, 96, 21, 9, 153, 0, 8, 16, 6, 167, 0, 4, 3, 96, 6, 21, 8, 104, 96, 172] := chW_of (by decide +kernel)
theorem W_prog_15_method_104_code_224 : chW prog_15_method_104_code 224 [3, 54, 9, 43, 180, 2, 249, 21, 12, 46, 21, 8, 164, 0, 12, 43, 180, 2, 249, 21, 12, 46, 54, 8, 132, 11, 1, 167, 255, 139, 132, 10, 1, 167, 255, 121] := chW_of (by decide +kernel)
theorem d_15_104_254 : decode prog_15_method_104_code 254 = .ok (.iinc 10 1, 3) := D_132 W_prog_15_method_104_code_224 30 rfl rfl rfl
theorem W_prog_15_method_104_code_160 : chW prog_15_method_104_code 160 [237, 21, 12, 46, 28, 160, 0, 83, 43, 180, 2, 240, 21, 12, 47, 43, 180, 3, 66, 29, 47, 148, 154, 0, 66, 43, 180, 2, 243, 21, 12, 47, 43, 180, 3, 69] := chW_of (by decide +kernel)
theorem W_prog_15_method_104_code_192 : chW prog_15_method_104_code 192 [43, 180, 3, 69, 29, 47, 148, 153, 0, 6, 167, 0, 46, 21, 9, 154, 0, 13, 43, 180, 3, 19, 21, 12, 46, 158, 0, 7, 4, 167, 0, 4, 3, 54, 9, 43] := chW_of (by decide +kernel)
theorem d_15_104_248 : decode prog_15_method_104_code 248 = .ok (.iinc 11 1, 3) := D_132 W_prog_15_method_104_code_224 24 rfl rfl rfl
theorem W_prog_15_method_172_code_0 : chW prog_15_method_172_code 0 [42, 180, 4, 151, 54, 5, 21, 5, 158, 0, 35, 42, 180, 4, 158, 21, 5, 4, 100, 47, 42, 180, 4, 161, 21, 5, 4, 100, 47, 31, 33, 184, 2, 25, 158, 0] := chW_of (by decide +kernel)
theorem W_prog_15_method_172_code_32 : chW prog_15_method_172_code 32 [2, 25, 158, 0, 9, 132, 5, 255, 167, 255, 222, 21, 5, 158, 0, 32, 42, 180, 4, 158, 21, 5, 4, 100, 47, 31, 148, 154, 0, 18, 42, 180, 4, 161, 21, 5] := chW_of (by decide +kernel)
theorem d_15_172_37 : decode prog_15_method_172_code 37 = .ok (.iinc 5 (-1), 3) := D_132 W_prog_15_method_172_code_32 5 rfl rfl rfl
theorem W_prog_15_method_172_code_64 : chW prog_15_method_172_code 64 [4, 161, 21, 5, 4, 100, 47, 33, 148, 154, 0, 4, 177, 42, 180, 4, 151, 54, 6, 21, 6, 21, 5, 164, 0, 41, 42, 180, 4, 158, 21, 6, 42, 180, 4, 158] := chW_of (by decide +kernel)
theorem W_prog_15_method_172_code_128 : chW prog_15_method_172_code 128 [42, 180, 4, 158, 21, 5, 31, 80, 42, 180, 4, 161, 21, 5, 33, 80, 42, 89, 180, 4, 151, 4, 96, 181, 4, 151, 177] := chW_of (by decide +kernel)
theorem W_prog_15_method_172_code_96 : chW prog_15_method_172_code 96 [42, 180, 4, 158, 21, 6, 4, 100, 47, 80, 42, 180, 4, 161, 21, 6, 42, 180, 4, 161, 21, 6, 4, 100, 47, 80, 132, 6, 255, 167, 255, 214, 42, 180, 4, 158] := chW_of (by decide +kernel)
theorem d_15_172_122 : decode prog_15_method_172_code 122 = .ok (.iinc 6 (-1), 3) := D_132 W_prog_15_method_172_code_96 26 rfl rfl rfl
theorem W_prog_15_method_183_code_0 : chW prog_15_method_183_code 0 [42, 17, 3, 232, 28, 104, 42, 180, 4, 164, 7, 27, 104, 28, 96, 46, 96, 184, 4, 213, 172] := chW_of (by decide +kernel)
theorem W_prog_15_method_185_code_0 : chW prog_15_method_185_code 0 [42, 180, 4, 164, 7, 27, 104, 28, 96, 46, 42, 180, 4, 164, 7, 27, 4, 100, 104, 28, 96, 46, 159, 0, 7, 4, 167, 0, 4, 3, 172] := chW_of (by decide +kernel)
theorem W_prog_15_method_184_code_0 : chW prog_15_method_184_code 0 [42, 180, 2, 103, 27, 46, 42, 180, 2, 106, 27, 46, 184, 2, 63, 172] := chW_of (by decide +kernel)
theorem W_prog_15_method_193_code_0 : chW prog_15_method_193_code 0 [26, 154, 0, 13, 27, 154, 0, 7, 4, 167, 0, 4, 3, 172, 26, 4, 160, 0, 19, 27, 4, 159, 0, 8, 27, 5, 160, 0, 7, 4, 167, 0, 4, 3, 172, 26] := chW_of (by decide +kernel)
theorem W_prog_15_method_193_code_32 : chW prog_15_method_193_code 32 [4, 3, 172, 26, 5, 160, 0, 19, 27, 6, 159, 0, 8, 27, 7, 160, 0, 7, 4, 167, 0, 4, 3, 172, 26, 6, 160, 0, 14, 27, 8, 160, 0, 7, 4, 167] := chW_of (by decide +kernel)
theorem W_prog_15_method_193_code_64 : chW prog_15_method_193_code 64 [0, 7, 4, 167, 0, 4, 3, 172, 26, 7, 160, 0, 15, 27, 16, 7, 160, 0, 7, 4, 167, 0, 4, 3, 172, 26, 8, 160, 0, 23, 27, 16, 8, 159, 0, 9] := chW_of (by decide +kernel)
theorem W_prog_15_method_193_code_96 : chW prog_15_method_193_code 96 [8, 159, 0, 9, 27, 16, 9, 160, 0, 7, 4, 167, 0, 24, 3, 167, 0, 20, 27, 16, 10, 159, 0, 9, 27, 16, 11, 160, 0, 7, 4, 167, 0, 4, 3, 172] := chW_of (by decide +kernel)
theorem W_prog_15_method_193_code_128 : chW prog_15_method_193_code 128 [0, 4, 3, 172] := chW_of (by decide +kernel)
theorem W_prog_15_method_187_code_0 : chW prog_15_method_187_code 0 [42, 180, 4, 216, 17, 1, 44, 160, 0, 4, 177, 42, 180, 4, 230, 42, 180, 4, 216, 27, 79, 42, 180, 4, 233, 42, 180, 4, 216, 28, 79, 42, 180, 4, 236, 42] := chW_of (by decide +kernel)
theorem W_prog_15_method_187_code_32 : chW prog_15_method_187_code 32 [180, 4, 236, 42, 180, 4, 216, 29, 79, 42, 180, 4, 239, 42, 180, 4, 216, 21, 4, 79, 42, 89, 180, 4, 216, 4, 96, 181, 4, 216, 177] := chW_of (by decide +kernel)
theorem W_prog_15_method_190_code_0 : chW prog_15_method_190_code 0 [27, 155, 0, 24, 28, 155, 0, 20, 42, 28, 184, 4, 242, 42, 27, 184, 4, 242, 164, 0, 7, 4, 167, 0, 4, 3, 172] := chW_of (by decide +kernel)
theorem W_prog_15_method_204_code_0 : chW prog_15_method_204_code 0 [42, 27, 182, 3, 83, 58, 4, 25, 4, 28, 184, 3, 111, 154, 0, 5, 2, 172, 29, 154, 0, 11, 25, 4, 180, 1, 195, 28, 46, 172, 29, 4, 160, 0, 11, 25] := chW_of (by decide +kernel)
theorem W_prog_15_method_204_code_32 : chW prog_15_method_204_code 32 [160, 0, 11, 25, 4, 180, 1, 198, 28, 46, 172, 29, 5, 160, 0, 11, 25, 4, 180, 2, 3, 28, 46, 172, 29, 6, 160, 0, 13, 25, 4, 180, 2, 211, 28, 46] := chW_of (by decide +kernel)
theorem W_prog_15_method_204_code_64 : chW prog_15_method_204_code 64 [2, 211, 28, 46, 167, 0, 4, 2, 172] := chW_of (by decide +kernel)
theorem W_prog_15_method_205_code_0 : chW prog_15_method_205_code 0 [42, 27, 182, 3, 83, 78, 45, 28, 184, 3, 111, 153, 0, 12, 45, 180, 1, 189, 28, 47, 167, 0, 4, 9, 173] := chW_of (by decide +kernel)
theorem W_prog_15_method_206_code_0 : chW prog_15_method_206_code 0 [42, 27, 182, 3, 83, 58, 5, 25, 5, 28, 184, 3, 111, 153, 0, 18, 29, 155, 0, 14, 29, 25, 5, 180, 2, 3, 28, 46, 161, 0, 7, 20, 3, 79, 173, 17] := chW_of (by decide +kernel)
theorem W_prog_15_method_206_code_32 : chW prog_15_method_206_code 32 [3, 79, 173, 17, 3, 232, 28, 104, 29, 96, 54, 6, 21, 4, 170, 0, 0, 0, 0, 122, 0, 0, 0, 0, 0, 0, 0, 7, 0, 0, 0, 46, 0, 0, 0, 55] := chW_of (by decide +kernel)
theorem d_15_206_46 : decode prog_15_method_206_code 46 = .ok (.tableswitch 122 0 7 #[46, 55, 64, 73, 82, 92, 102, 112], 46) := by decide +kernel
theorem W_prog_15_method_206_code_64 : chW prog_15_method_206_code 64 [0, 0, 0, 55, 0, 0, 0, 64, 0, 0, 0, 73, 0, 0, 0, 82, 0, 0, 0, 92, 0, 0, 0, 102, 0, 0, 0, 112, 25, 5, 180, 2, 9, 21, 6, 47] := chW_of (by decide +kernel)
theorem W_prog_15_method_206_code_96 : chW prog_15_method_206_code 96 [9, 21, 6, 47, 173, 25, 5, 180, 2, 12, 21, 6, 47, 173, 25, 5, 180, 2, 15, 21, 6, 47, 173, 25, 5, 180, 2, 18, 21, 6, 47, 173, 25, 5, 180, 2] := chW_of (by decide +kernel)
theorem W_prog_15_method_206_code_128 : chW prog_15_method_206_code 128 [25, 5, 180, 2, 86, 21, 6, 46, 133, 173, 25, 5, 180, 2, 72, 21, 6, 46, 133, 173, 25, 5, 180, 2, 81, 21, 6, 46, 133, 173, 25, 5, 180, 2, 83, 21] := chW_of (by decide +kernel)
theorem W_prog_15_method_206_code_160 : chW prog_15_method_206_code 160 [180, 2, 83, 21, 6, 46, 133, 173, 20, 3, 79, 173] := chW_of (by decide +kernel)
theorem W_prog_15_method_207_code_0 : chW prog_15_method_207_code 0 [42, 27, 182, 3, 83, 58, 6, 25, 6, 28, 184, 3, 111, 153, 0, 41, 29, 155, 0, 37, 29, 25, 6, 180, 2, 3, 28, 46, 162, 0, 26, 21, 4, 155, 0, 21] := chW_of (by decide +kernel)
theorem W_prog_15_method_207_code_32 : chW prog_15_method_207_code 32 [4, 155, 0, 21, 21, 4, 25, 6, 180, 2, 86, 17, 3, 232, 28, 104, 29, 96, 46, 161, 0, 7, 19, 4, 36, 172, 16, 6, 17, 3, 232, 28, 104, 29, 96, 104] := chW_of (by decide +kernel)
theorem W_prog_15_method_207_code_64 : chW prog_15_method_207_code 64 [104, 29, 96, 104, 21, 4, 96, 54, 7, 21, 5, 154, 0, 12, 25, 6, 180, 2, 103, 21, 7, 46, 172, 21, 5, 4, 160, 0, 12, 25, 6, 180, 2, 106, 21, 7] := chW_of (by decide +kernel)
theorem W_prog_15_method_207_code_96 : chW prog_15_method_207_code 96 [2, 106, 21, 7, 46, 172, 21, 5, 5, 160, 0, 13, 25, 6, 21, 7, 184, 4, 242, 167, 0, 6, 19, 4, 36, 172] := chW_of (by decide +kernel)
theorem W_prog_15_method_208_code_0 : chW prog_15_method_208_code 0 [42, 27, 182, 3, 83, 58, 5, 25, 5, 28, 184, 3, 111, 153, 0, 18, 29, 155, 0, 14, 29, 25, 5, 180, 2, 211, 28, 46, 161, 0, 7, 20, 3, 79, 173, 17] := chW_of (by decide +kernel)
theorem W_prog_15_method_208_code_32 : chW prog_15_method_208_code 32 [3, 79, 173, 17, 3, 32, 28, 104, 29, 96, 54, 6, 21, 4, 170, 0, 0, 0, 0, 180, 0, 0, 0, 0, 0, 0, 0, 11, 0, 0, 0, 62, 0, 0, 0, 72] := chW_of (by decide +kernel)
theorem d_15_208_46 : decode prog_15_method_208_code 46 = .ok (.tableswitch 180 0 11 #[62, 72, 82, 91, 100, 110, 120, 130, 140, 150, 160, 170], 62) := by decide +kernel
theorem W_prog_15_method_208_code_96 : chW prog_15_method_208_code 96 [0, 0, 0, 150, 0, 0, 0, 160, 0, 0, 0, 170, 25, 5, 180, 2, 234, 21, 6, 46, 133, 173, 25, 5, 180, 2, 237, 21, 6, 46, 133, 173, 25, 5, 180, 2] := chW_of (by decide +kernel)
theorem W_prog_15_method_208_code_128 : chW prog_15_method_208_code 128 [25, 5, 180, 2, 240, 21, 6, 47, 173, 25, 5, 180, 2, 243, 21, 6, 47, 173, 25, 5, 180, 2, 246, 21, 6, 46, 133, 173, 25, 5, 180, 2, 249, 21, 6, 46] := chW_of (by decide +kernel)
theorem W_prog_15_method_208_code_160 : chW prog_15_method_208_code 160 [249, 21, 6, 46, 133, 173, 25, 5, 180, 3, 13, 21, 6, 46, 133, 173, 25, 5, 180, 3, 19, 21, 6, 46, 133, 173, 25, 5, 180, 3, 2, 21, 6, 46, 133, 173] := chW_of (by decide +kernel)
theorem W_prog_15_method_208_code_192 : chW prog_15_method_208_code 192 [6, 46, 133, 173, 25, 5, 180, 3, 41, 21, 6, 46, 133, 173, 25, 5, 180, 3, 44, 21, 6, 46, 133, 173, 25, 5, 180, 3, 47, 21, 6, 46, 133, 173, 20, 3] := chW_of (by decide +kernel)
theorem W_prog_15_method_208_code_224 : chW prog_15_method_208_code 224 [133, 173, 20, 3, 79, 173] := chW_of (by decide +kernel)
theorem W_prog_15_method_106_code_0 : chW prog_15_method_106_code 0 [42, 27, 184, 3, 72, 62, 27, 54, 4, 21, 4, 27, 28, 96, 162, 0, 19, 29, 42, 180, 3, 57, 21, 4, 46, 96, 62, 132, 4, 1, 167, 255, 235, 29, 172] := chW_of (by decide +kernel)
theorem W_prog_15_method_106_code_32 : chW prog_15_method_106_code 32 [235, 29, 172] := chW_of (by decide +kernel)
theorem d_15_106_27 : decode prog_15_method_106_code 27 = .ok (.iinc 4 1, 3) := D_132 W_prog_15_method_106_code_0 27 rfl rfl rfl
abbrev Q_M_comesOn (D : va_G) (ca : Nat → ClassId) (ad : Nat → Int → Nat → Nat) (L : List Nat) (r : Int) (F : zF) (B : zB) (A : Nat → Prop) : Array Value → State → Outcome → State → Prop := va_Qi (S := Unit) (fun p _ => p = iI r) (fun _ => zPo D ca ad lnM nM L F B A) A
def f_M_comesOn_72 (K : Nat) (s0 : Int) (F : zF) (B : zB) : zO := if (s0 = 0 ∨ s0 = 1) then some (s0, F, B) else none
set_option maxHeartbeats 4000000 in
set_option maxRecDepth 100000 in
theorem b_M_comesOn_72 {D : va_G} {ca : Nat → ClassId} {ad : Nat → Int → Nat → Nat} {L : List Nat} {aS vS : Nat → Nat} {A : Nat → Prop} {p : Program} {l : Launch} {e : Env} {s : State} {m : MethodId} {args : Array Value} {below : List Frame} {meth : Method} {c : Code} {K : Nat} {r : Int} {F9 : zF} {B9 : zB} (X : zX D ca L aS vS A p s m args meth c prog_15_method_93_code 8 (Option.some Jvm.ClassFile.FieldType.boolean) "StaveHouseModel") {s0 : Int} {F : zF} {B : zB} {H : Heap} {locs : List Loc} {ls : Array Slot} (hf : f_M_comesOn_72 K s0 F B = some (r, F9, B9)) (hZ : zH D ca ad lnM nM L F B A H) (hS : va_S A s.heap H locs) (hl : lv_has ls 8 []) : W p l e ({ frames := 1, cells := 0, slots := 0, locals := 24 } : Room) s m args below meth c H locs 0 0 (MQ below (Q_M_comesOn D ca ad L r F9 B9 A) args s 0 0 A) (F0 m 72 ls [.int (iI s0)]) := by
  obtain ⟨hx, hb, hr, hml, hown, hts, hlk, hK, hA, hL, hX⟩ := id X
  replace hf : (if (s0 = 0 ∨ s0 = 1) then some (s0, F, B) else none) = some (r, F9, B9) := hf
  obtain ⟨g13, hf⟩ := gif hf
  cases hf
  exact W.zret hx hb hr (zbool g13) (fun t ht hW => ⟨⟨_, (), rfl, rfl, by rw [ht]; exact hZ, va_K.moved hW.alike hK⟩, hS.F ht⟩) hS.2.2 (D_172 W_prog_15_method_93_code_64 8 rfl rfl) hlk

def f_M_comesOn_71 (K : Nat)  (F : zF) (B : zB) : zO := f_M_comesOn_72 K 0 F B
set_option maxHeartbeats 4000000 in
set_option maxRecDepth 100000 in
theorem b_M_comesOn_71 {D : va_G} {ca : Nat → ClassId} {ad : Nat → Int → Nat → Nat} {L : List Nat} {aS vS : Nat → Nat} {A : Nat → Prop} {p : Program} {l : Launch} {e : Env} {s : State} {m : MethodId} {args : Array Value} {below : List Frame} {meth : Method} {c : Code} {K : Nat} {r : Int} {F9 : zF} {B9 : zB} (X : zX D ca L aS vS A p s m args meth c prog_15_method_93_code 8 (Option.some Jvm.ClassFile.FieldType.boolean) "StaveHouseModel")  {F : zF} {B : zB} {H : Heap} {locs : List Loc} {ls : Array Slot} (hf : f_M_comesOn_71 K  F B = some (r, F9, B9)) (hZ : zH D ca ad lnM nM L F B A H) (hS : va_S A s.heap H locs) (hl : lv_has ls 8 []) : W p l e ({ frames := 1, cells := 0, slots := 0, locals := 24 } : Room) s m args below meth c H locs 0 0 (MQ below (Q_M_comesOn D ca ad L r F9 B9 A) args s 0 0 A) (F0 m 71 ls []) := by
  obtain ⟨hx, hb, hr, hml, hown, hts, hlk, hK, hA, hL, hX⟩ := id X
  replace hf : (f_M_comesOn_72 K 0 F B) = some (r, F9, B9) := hf
  refine lv_iconst (v := iI 0) hx hb (D_3 W_prog_15_method_93_code_64 7 rfl rfl) rfl ?_
  exact b_M_comesOn_72 X hf hZ hS (lv_sub hl [] rfl)

def f_M_comesOn_37 (K : Nat) (l1 : Int) (l2 : Int) (l3 : Int) (s0 : Int) (F : zF) (B : zB) : zO := if r32 s0 then (if s0 < 0 then f_M_comesOn_71 K F B else if 0 ≤ l1 ∧ l1 < 3 then if 0 ≤ (((800 * l2) + l3) - 1) ∧ (((800 * l2) + l3) - 1) < 3200 then if r32 (zand (zshr (B 13 l1 36 (((800 * l2) + l3) - 1)) s0) 1) then (if (zand (zshr (B 13 l1 36 (((800 * l2) + l3) - 1)) s0) 1) = 1 then f_M_comesOn_72 K 1 F B else f_M_comesOn_71 K F B) else none else none else none) else none
set_option maxHeartbeats 4000000 in
set_option maxRecDepth 100000 in
theorem b_M_comesOn_37 {D : va_G} {ca : Nat → ClassId} {ad : Nat → Int → Nat → Nat} {L : List Nat} {aS vS : Nat → Nat} {A : Nat → Prop} {p : Program} {l : Launch} {e : Env} {s : State} {m : MethodId} {args : Array Value} {below : List Frame} {meth : Method} {c : Code} {K : Nat} {r : Int} {F9 : zF} {B9 : zB} (X : zX D ca L aS vS A p s m args meth c prog_15_method_93_code 8 (Option.some Jvm.ClassFile.FieldType.boolean) "StaveHouseModel") {l1 : Int} {l2 : Int} {l3 : Int} {s0 : Int} {F : zF} {B : zB} {H : Heap} {locs : List Loc} {ls : Array Slot} (hf : f_M_comesOn_37 K l1 l2 l3 s0 F B = some (r, F9, B9)) (hZ : zH D ca ad lnM nM L F B A H) (hS : va_S A s.heap H locs) (hl : lv_has ls 8 [(1, .ref (ad 13 l1 0)), (2, .int (iI l2)), (3, .int (iI l3))]) : W p l e ({ frames := 1, cells := 0, slots := 0, locals := 24 } : Room) s m args below meth c H locs 0 0 (MQ below (Q_M_comesOn D ca ad L r F9 B9 A) args s 0 0 A) (F0 m 37 ls [.int (iI s0)]) := by
  obtain ⟨hx, hb, hr, hml, hown, hts, hlk, hK, hA, hL, hX⟩ := id X
  replace hf : (if r32 s0 then (if s0 < 0 then f_M_comesOn_71 K F B else if 0 ≤ l1 ∧ l1 < 3 then if 0 ≤ (((800 * l2) + l3) - 1) ∧ (((800 * l2) + l3) - 1) < 3200 then if r32 (zand (zshr (B 13 l1 36 (((800 * l2) + l3) - 1)) s0) 1) then (if (zand (zshr (B 13 l1 36 (((800 * l2) + l3) - 1)) s0) 1) = 1 then f_M_comesOn_72 K 1 F B else f_M_comesOn_71 K F B) else none else none else none) else none) = some (r, F9, B9) := hf
  refine lv_istore (lv' := [(7, .int (iI s0)), (1, .ref (ad 13 l1 0)), (2, .int (iI l2)), (3, .int (iI l3))]) hx hb (D_54 W_prog_15_method_93_code_32 5 rfl rfl) hl (by decide) rfl (fun ls hl => ?_)
  refine lv_iload hx hb (D_21 W_prog_15_method_93_code_32 7 rfl rfl) (lv_at hl 0 rfl) ?_
  obtain ⟨g7, hf⟩ := gif hf
  refine z0lt (tgt := 71) hx hb g7 (D_155 W_prog_15_method_93_code_32 9 rfl rfl rfl) (by decide) (fun h8 => ?_) (fun h8 => ?_)
  · replace hf := gpos hf h8
    exact b_M_comesOn_71 X hf hZ hS (lv_sub hl [] rfl)
  · replace hf := gneg hf h8
    refine lv_aload_n hx hb (D_43 W_prog_15_method_93_code_32 12 rfl rfl) rfl (lv_at hl 1 rfl) ?_
    obtain ⟨g9, hf⟩ := gif hf
    refine zget (ci := 13) (C := RX13) (T := TX13) (v := .ref (ad 13 l1 (36 + 1))) (k := 36) hx hb hts inW_13 hown hK hZ g9.1 g9.2 rfl (by decide) k_9_190 rfl (D_180 W_prog_15_method_93_code_32 13 rfl rfl rfl) ?_
    refine lv_sipush (v := iI 800) hx hb (D_17 W_prog_15_method_93_code_32 16 rfl rfl rfl) (by decide) ?_
    refine lv_iload_n hx hb (D_28 W_prog_15_method_93_code_32 19 rfl rfl) rfl (lv_at hl 2 rfl) ?_
    refine zmul hx hb (D_104 W_prog_15_method_93_code_32 20 rfl rfl) ?_
    refine lv_iload_n hx hb (D_29 W_prog_15_method_93_code_32 21 rfl rfl) rfl (lv_at hl 3 rfl) ?_
    refine zadd hx hb (D_96 W_prog_15_method_93_code_32 22 rfl rfl) ?_
    refine lv_iconst (v := iI 1) hx hb (D_4 W_prog_15_method_93_code_32 23 rfl rfl) rfl ?_
    refine zsub hx hb (D_100 W_prog_15_method_93_code_32 24 rfl rfl) ?_
    obtain ⟨g10, hf⟩ := gif hf
    refine zald (ci := 13) (k := 36) hx hb hK rfl hZ g9.1 g9.2 rfl (Nat.le_of_ble_eq_true rfl) g10.1 g10.2 (D_46 W_prog_15_method_93_code_32 25 rfl rfl) ?_
    refine lv_iload hx hb (D_21 W_prog_15_method_93_code_32 26 rfl rfl) (lv_at hl 0 rfl) ?_
    refine zshr_r hx hb (D_122 W_prog_15_method_93_code_32 28 rfl rfl) ?_
    refine lv_iconst (v := iI 1) hx hb (D_4 W_prog_15_method_93_code_32 29 rfl rfl) rfl ?_
    refine zand_r hx hb (D_126 W_prog_15_method_93_code_32 30 rfl rfl) ?_
    refine lv_iconst (v := iI 1) hx hb (D_4 W_prog_15_method_93_code_32 31 rfl rfl) rfl ?_
    obtain ⟨g11, hf⟩ := gif hf
    refine zne (tgt := 71) hx hb g11 (by decide) (D_160 W_prog_15_method_93_code_64 0 rfl rfl rfl) (by decide) (fun h12 => ?_) (fun h12 => ?_)
    · replace hf := gneg hf h12
      exact b_M_comesOn_71 X hf hZ hS (lv_sub hl [] rfl)
    · replace hf := gpos hf h12
      refine lv_iconst (v := iI 1) hx hb (D_4 W_prog_15_method_93_code_64 3 rfl rfl) rfl ?_
      refine lv_goto (tgt := 72) hx hb (D_167 W_prog_15_method_93_code_64 4 rfl rfl rfl) (by decide) ?_
      exact b_M_comesOn_72 X hf hZ hS (lv_sub hl [] rfl)

def f_M_comesOn_16 (K : Nat) (l1 : Int) (l2 : Int) (l3 : Int) (l4 : Int) (l5 : Int) (s0 : Int) (F : zF) (B : zB) : zO := if r32 s0 then (if 0 ≤ s0 then zbind (f_M_has K l1 s0 l4 l5 F B) (fun r6 F6 B6 => f_M_comesOn_37 K l1 l2 l3 r6 F6 B6) else f_M_comesOn_37 K l1 l2 l3 (-1) F B) else none
set_option maxHeartbeats 4000000 in
set_option maxRecDepth 100000 in
theorem b_M_comesOn_16 {D : va_G} {ca : Nat → ClassId} {ad : Nat → Int → Nat → Nat} {L : List Nat} {aS vS : Nat → Nat} {A : Nat → Prop} {p : Program} {l : Launch} {e : Env} {s : State} {m : MethodId} {args : Array Value} {below : List Frame} {meth : Method} {c : Code} {K : Nat} {r : Int} {F9 : zF} {B9 : zB} (X : zX D ca L aS vS A p s m args meth c prog_15_method_93_code 8 (Option.some Jvm.ClassFile.FieldType.boolean) "StaveHouseModel") {l1 : Int} {l2 : Int} {l3 : Int} {l4 : Int} {l5 : Int} {s0 : Int} {F : zF} {B : zB} {H : Heap} {locs : List Loc} {ls : Array Slot} (hf : f_M_comesOn_16 K l1 l2 l3 l4 l5 s0 F B = some (r, F9, B9)) (hZ : zH D ca ad lnM nM L F B A H) (hS : va_S A s.heap H locs) (hl : lv_has ls 8 [(1, .ref (ad 13 l1 0)), (2, .int (iI l2)), (3, .int (iI l3)), (4, .int (iI l4)), (5, .int (iI l5))]) : W p l e ({ frames := 1, cells := 0, slots := 0, locals := 24 } : Room) s m args below meth c H locs 0 0 (MQ below (Q_M_comesOn D ca ad L r F9 B9 A) args s 0 0 A) (F0 m 16 ls [.int (iI s0)]) := by
  obtain ⟨hx, hb, hr, hml, hown, hts, hlk, hK, hA, hL, hX⟩ := id X
  replace hf : (if r32 s0 then (if 0 ≤ s0 then zbind (f_M_has K l1 s0 l4 l5 F B) (fun r6 F6 B6 => f_M_comesOn_37 K l1 l2 l3 r6 F6 B6) else f_M_comesOn_37 K l1 l2 l3 (-1) F B) else none) = some (r, F9, B9) := hf
  refine lv_istore (lv' := [(6, .int (iI s0)), (1, .ref (ad 13 l1 0)), (2, .int (iI l2)), (3, .int (iI l3)), (4, .int (iI l4)), (5, .int (iI l5))]) hx hb (D_54 W_prog_15_method_93_code_0 16 rfl rfl) hl (by decide) rfl (fun ls hl => ?_)
  refine lv_iload hx hb (D_21 W_prog_15_method_93_code_0 18 rfl rfl) (lv_at hl 0 rfl) ?_
  obtain ⟨g4, hf⟩ := gif hf
  refine z0ge (tgt := 27) hx hb g4 (D_156 W_prog_15_method_93_code_0 20 rfl rfl rfl) (by decide) (fun h5 => ?_) (fun h5 => ?_)
  · replace hf := gpos hf h5
    refine lv_aload_n hx hb (D_43 W_prog_15_method_93_code_0 27 rfl rfl) rfl (lv_at hl 1 rfl) ?_
    refine lv_iload hx hb (D_21 W_prog_15_method_93_code_0 28 rfl rfl) (lv_at hl 0 rfl) ?_
    refine lv_iload hx hb (D_21 W_prog_15_method_93_code_0 30 rfl rfl) (lv_at hl 4 rfl) ?_
    refine lv_iload hx hb (D_21 W_prog_15_method_93_code_32 0 rfl rfl) (lv_at hl 5 rfl) ?_
    obtain ⟨r6, F6, B6, hc6, hf⟩ := gbind hf
    refine va_calli (va_runS (As := [.ref (ad 13 l1 0), .int (iI s0), .int (iI l4), .int (iI l5)]) (rest := []) ⟨hx, hb, hml, hown, hts⟩ (c_M_has (l := l) hc6) (va_cwS 4 hts (gdS k_12_132 k_12_133 k_1_9 k_12_134) rfl rfl rfl (by decide +kernel) ⟨Nat.le_of_ble_eq_true rfl, Nat.le_of_ble_eq_true rfl⟩) (zPS X hZ hS [.ref (ad 13 l1 0), .int (iI s0), .int (iI l4), .int (iI l5)]) rfl rfl hl.1 rfl (lv_room (Nat.le_of_ble_eq_true rfl)) (D_184 W_prog_15_method_93_code_32 2 rfl rfl rfl) ⟨Nat.le_of_ble_eq_true rfl, Nat.le_of_ble_eq_true rfl⟩) hS (fun q _ h => zAin X hS q h) (zAin X hS) (fun p6 u6 t6 H6 locs6 ht6 hv6 hw6 hB6 hz6 hk6 hS6 => ?_)
    have hZ6 := zBack X ht6 hB6
    subst hw6
    exact b_M_comesOn_37 X hf hZ6 hS6 (lv_sub hl [1, 2, 3] rfl)
  · replace hf := gneg hf h5
    refine lv_iconst (v := iI (-1)) hx hb (D_2 W_prog_15_method_93_code_0 23 rfl rfl) rfl ?_
    refine lv_goto (tgt := 37) hx hb (D_167 W_prog_15_method_93_code_0 24 rfl rfl rfl) (by decide) ?_
    exact b_M_comesOn_37 X hf hZ hS (lv_sub hl [1, 2, 3] rfl)

def f_M_comesOn (K : Nat) (l1 : Int) (l2 : Int) (l3 : Int) (l4 : Int) (l5 : Int) (F : zF) (B : zB) : zO := if r32 l3 then (if l3 ≤ 0 then f_M_comesOn_16 K l1 l2 l3 l4 l5 (-1) F B else zbind (f_M_sounding K l1 l2 (l3 - 1) F B) (fun r3 F3 B3 => f_M_comesOn_16 K l1 l2 l3 l4 l5 r3 F3 B3)) else none
set_option maxHeartbeats 4000000 in
set_option maxRecDepth 100000 in
theorem c_M_comesOn {l : Launch} {D : va_G} {ca : Nat → ClassId} {ad : Nat → Int → Nat → Nat} {L : List Nat} {aS vS : Nat → Nat} {sz K : Nat}  {l1 : Int} {l2 : Int} {l3 : Int} {l4 : Int} {l5 : Int} {F F9 : zF} {B B9 : zB} {r : Int} (hf : f_M_comesOn K l1 l2 l3 l4 l5 F B = some (r, F9, B9)) : Met l ({ cls := "StaveHouseModel", name := "comesOn", desc := "(LStaveHouseModel$Piece;IIII)Z" } : Jvm.MethodName) (Cond.code ({ cls := "StaveHouseModel", name := "comesOn", desc := "(LStaveHouseModel$Piece;IIII)Z" } : Jvm.MethodName) prog_15_method_93_code 8 (Option.some Jvm.ClassFile.FieldType.boolean) :: wAll) ({ frames := 1, cells := 0, slots := 0, locals := 24 } : Room) (va_Pc [.ref (ad 14 0 0), .ref (ad 13 l1 0), .int (iI l2), .int (iI l3), .int (iI l4), .int (iI l5)] (zPre D ca ad lnM nM L aS vS F B sz)) (Q_M_comesOn D ca ad L r F9 B9 (zA L sz)) 0 0 (zA L sz) := by
  refine zMet (Qc := Q_M_comesOn D ca ad L r F9 B9) (lv := [(0, .ref (ad 14 0 0)), (1, .ref (ad 13 l1 0)), (2, .int (iI l2)), (3, .int (iI l3)), (4, .int (iI l4)), (5, .int (iI l5))]) (by decide) (Nat.le_of_ble_eq_true rfl) rfl (fun A p e s m below meth c ls X hZ hS hl => ?_)
  obtain ⟨hx, hb, hr, hml, hown, hts, hlk, hK, hA, hL, hX⟩ := id X
  replace hf : (if r32 l3 then (if l3 ≤ 0 then f_M_comesOn_16 K l1 l2 l3 l4 l5 (-1) F B else zbind (f_M_sounding K l1 l2 (l3 - 1) F B) (fun r3 F3 B3 => f_M_comesOn_16 K l1 l2 l3 l4 l5 r3 F3 B3)) else none) = some (r, F9, B9) := hf
  refine lv_iload_n hx hb (D_29 W_prog_15_method_93_code_0 0 rfl rfl) rfl (lv_at hl 3 rfl) ?_
  obtain ⟨g1, hf⟩ := gif hf
  refine z0le (tgt := 15) hx hb g1 (D_158 W_prog_15_method_93_code_0 1 rfl rfl rfl) (by decide) (fun h2 => ?_) (fun h2 => ?_)
  · replace hf := gpos hf h2
    refine lv_iconst (v := iI (-1)) hx hb (D_2 W_prog_15_method_93_code_0 15 rfl rfl) rfl ?_
    exact b_M_comesOn_16 X hf hZ hS (lv_sub hl [1, 2, 3, 4, 5] rfl)
  · replace hf := gneg hf h2
    refine lv_aload_n hx hb (D_43 W_prog_15_method_93_code_0 4 rfl rfl) rfl (lv_at hl 1 rfl) ?_
    refine lv_iload_n hx hb (D_28 W_prog_15_method_93_code_0 5 rfl rfl) rfl (lv_at hl 2 rfl) ?_
    refine lv_iload_n hx hb (D_29 W_prog_15_method_93_code_0 6 rfl rfl) rfl (lv_at hl 3 rfl) ?_
    refine lv_iconst (v := iI 1) hx hb (D_4 W_prog_15_method_93_code_0 7 rfl rfl) rfl ?_
    refine zsub hx hb (D_100 W_prog_15_method_93_code_0 8 rfl rfl) ?_
    obtain ⟨r3, F3, B3, hc3, hf⟩ := gbind hf
    refine va_calli (va_runS (As := [.ref (ad 13 l1 0), .int (iI l2), .int (iI (l3 - 1))]) (rest := []) ⟨hx, hb, hml, hown, hts⟩ (c_M_sounding (l := l) hc3) (va_cwS 3 hts (gdS k_13_199 k_13_200 k_1_9 k_13_201) rfl rfl rfl (by decide +kernel) ⟨Nat.le_of_ble_eq_true rfl, Nat.le_of_ble_eq_true rfl⟩) (zPS X hZ hS [.ref (ad 13 l1 0), .int (iI l2), .int (iI (l3 - 1))]) rfl rfl hl.1 rfl (lv_room (Nat.le_of_ble_eq_true rfl)) (D_184 W_prog_15_method_93_code_0 9 rfl rfl rfl) ⟨Nat.le_of_ble_eq_true rfl, Nat.le_of_ble_eq_true rfl⟩) hS (fun q _ h => zAin X hS q h) (zAin X hS) (fun p3 u3 t3 H3 locs3 ht3 hv3 hw3 hB3 hz3 hk3 hS3 => ?_)
    have hZ3 := zBack X ht3 hB3
    subst hw3
    refine lv_goto (tgt := 16) hx hb (D_167 W_prog_15_method_93_code_0 12 rfl rfl rfl) (by decide) ?_
    exact b_M_comesOn_16 X hf hZ3 hS3 (lv_sub hl [1, 2, 3, 4, 5] rfl)

abbrev Q_M_height (D : va_G) (ca : Nat → ClassId) (ad : Nat → Int → Nat → Nat) (L : List Nat) (r : Int) (F : zF) (B : zB) (A : Nat → Prop) : Array Value → State → Outcome → State → Prop := va_Qi (S := Unit) (fun p _ => p = iI r) (fun _ => zPo D ca ad lnM nM L F B A) A
def f_M_height_39 (K : Nat) (s0 : Int) (s1 : Int) (F : zF) (B : zB) : zO := some (s0 - s1, F, B)
set_option maxHeartbeats 4000000 in
set_option maxRecDepth 100000 in
theorem b_M_height_39 {D : va_G} {ca : Nat → ClassId} {ad : Nat → Int → Nat → Nat} {L : List Nat} {aS vS : Nat → Nat} {A : Nat → Prop} {p : Program} {l : Launch} {e : Env} {s : State} {m : MethodId} {args : Array Value} {below : List Frame} {meth : Method} {c : Code} {K : Nat} {r : Int} {F9 : zF} {B9 : zB} (X : zX D ca L aS vS A p s m args meth c prog_15_method_95_code 4 (Option.some Jvm.ClassFile.FieldType.int) "StaveHouseModel") {s0 : Int} {s1 : Int} {F : zF} {B : zB} {H : Heap} {locs : List Loc} {ls : Array Slot} (hf : f_M_height_39 K s0 s1 F B = some (r, F9, B9)) (hZ : zH D ca ad lnM nM L F B A H) (hS : va_S A s.heap H locs) (hl : lv_has ls 4 []) : W p l e ({ frames := 0, cells := 0, slots := 0, locals := 0 } : Room) s m args below meth c H locs 0 0 (MQ below (Q_M_height D ca ad L r F9 B9 A) args s 0 0 A) (F0 m 39 ls [.int (iI s1), .int (iI s0)]) := by
  obtain ⟨hx, hb, hr, hml, hown, hts, hlk, hK, hA, hL, hX⟩ := id X
  replace hf : (some (s0 - s1, F, B)) = some (r, F9, B9) := hf
  refine zsub hx hb (D_100 W_prog_15_method_95_code_32 7 rfl rfl) ?_
  cases hf
  exact W.iret hx hb hr (fun t ht hW => ⟨⟨_, (), rfl, rfl, by rw [ht]; exact hZ, va_K.moved hW.alike hK⟩, hS.F ht⟩) hS.2.2 (D_172 W_prog_15_method_95_code_32 8 rfl rfl) hlk

def f_M_height (K : Nat) (l0 : Int) (l1 : Int) (l2 : Int) (F : zF) (B : zB) : zO := if 0 ≤ l0 ∧ l0 < 3 then if 0 ≤ l1 ∧ l1 < 4 then if r32 (B 13 l0 8 l1) then (if (B 13 l0 8 l1) = 0 then f_M_height_39 K l2 30 F B else (if (B 13 l0 8 l1) = 1 then f_M_height_39 K l2 18 F B else (if (B 13 l0 8 l1) = 2 then f_M_height_39 K l2 24 F B else f_M_height_39 K l2 22 F B))) else none else none else none
set_option maxHeartbeats 4000000 in
set_option maxRecDepth 100000 in
theorem c_M_height {l : Launch} {D : va_G} {ca : Nat → ClassId} {ad : Nat → Int → Nat → Nat} {L : List Nat} {aS vS : Nat → Nat} {sz K : Nat}  {l0 : Int} {l1 : Int} {l2 : Int} {F F9 : zF} {B B9 : zB} {r : Int} (hf : f_M_height K l0 l1 l2 F B = some (r, F9, B9)) : Met l ({ cls := "StaveHouseModel", name := "height", desc := "(LStaveHouseModel$Piece;II)I" } : Jvm.MethodName) (Cond.code ({ cls := "StaveHouseModel", name := "height", desc := "(LStaveHouseModel$Piece;II)I" } : Jvm.MethodName) prog_15_method_95_code 4 (Option.some Jvm.ClassFile.FieldType.int) :: wAll) ({ frames := 0, cells := 0, slots := 0, locals := 0 } : Room) (va_Pc [.ref (ad 13 l0 0), .int (iI l1), .int (iI l2)] (zPre D ca ad lnM nM L aS vS F B sz)) (Q_M_height D ca ad L r F9 B9 (zA L sz)) 0 0 (zA L sz) := by
  refine zMet (Qc := Q_M_height D ca ad L r F9 B9) (lv := [(0, .ref (ad 13 l0 0)), (1, .int (iI l1)), (2, .int (iI l2))]) (by decide) (Nat.le_of_ble_eq_true rfl) rfl (fun A p e s m below meth c ls X hZ hS hl => ?_)
  obtain ⟨hx, hb, hr, hml, hown, hts, hlk, hK, hA, hL, hX⟩ := id X
  replace hf : (if 0 ≤ l0 ∧ l0 < 3 then if 0 ≤ l1 ∧ l1 < 4 then if r32 (B 13 l0 8 l1) then (if (B 13 l0 8 l1) = 0 then f_M_height_39 K l2 30 F B else (if (B 13 l0 8 l1) = 1 then f_M_height_39 K l2 18 F B else (if (B 13 l0 8 l1) = 2 then f_M_height_39 K l2 24 F B else f_M_height_39 K l2 22 F B))) else none else none else none) = some (r, F9, B9) := hf
  refine lv_aload_n hx hb (D_42 W_prog_15_method_95_code_0 0 rfl rfl) rfl (lv_at hl 0 rfl) ?_
  obtain ⟨g1, hf⟩ := gif hf
  refine zget (ci := 13) (C := RX13) (T := TX13) (v := .ref (ad 13 l0 (8 + 1))) (k := 8) hx hb hts inW_13 hown hK hZ g1.1 g1.2 rfl (by decide) k_9_134 rfl (D_180 W_prog_15_method_95_code_0 1 rfl rfl rfl) ?_
  refine lv_iload_n hx hb (D_27 W_prog_15_method_95_code_0 4 rfl rfl) rfl (lv_at hl 1 rfl) ?_
  obtain ⟨g2, hf⟩ := gif hf
  refine zald (ci := 13) (k := 8) hx hb hK rfl hZ g1.1 g1.2 rfl (Nat.le_of_ble_eq_true rfl) g2.1 g2.2 (D_46 W_prog_15_method_95_code_0 5 rfl rfl) ?_
  refine lv_istore_n (lv' := [(3, .int (iI (B 13 l0 8 l1))), (0, .ref (ad 13 l0 0)), (1, .int (iI l1)), (2, .int (iI l2))]) hx hb (D_62 W_prog_15_method_95_code_0 6 rfl rfl) rfl hl (by decide) rfl (fun ls hl => ?_)
  refine lv_iload_n hx hb (D_28 W_prog_15_method_95_code_0 7 rfl rfl) rfl (lv_at hl 3 rfl) ?_
  refine lv_iload_n hx hb (D_29 W_prog_15_method_95_code_0 8 rfl rfl) rfl (lv_at hl 0 rfl) ?_
  obtain ⟨g3, hf⟩ := gif hf
  refine z0ne (tgt := 17) hx hb g3 (D_154 W_prog_15_method_95_code_0 9 rfl rfl rfl) (by decide) (fun h4 => ?_) (fun h4 => ?_)
  · replace hf := gneg hf h4
    refine lv_iload_n hx hb (D_29 W_prog_15_method_95_code_0 17 rfl rfl) rfl (lv_at hl 0 rfl) ?_
    refine lv_iconst (v := iI 1) hx hb (D_4 W_prog_15_method_95_code_0 18 rfl rfl) rfl ?_
    refine zne (tgt := 27) hx hb g3 (by decide) (D_160 W_prog_15_method_95_code_0 19 rfl rfl rfl) (by decide) (fun h5 => ?_) (fun h5 => ?_)
    · replace hf := gneg hf h5
      refine lv_iload_n hx hb (D_29 W_prog_15_method_95_code_0 27 rfl rfl) rfl (lv_at hl 0 rfl) ?_
      refine lv_iconst (v := iI 2) hx hb (D_5 W_prog_15_method_95_code_0 28 rfl rfl) rfl ?_
      refine zne (tgt := 37) hx hb g3 (by decide) (D_160 W_prog_15_method_95_code_0 29 rfl rfl rfl) (by decide) (fun h6 => ?_) (fun h6 => ?_)
      · replace hf := gneg hf h6
        refine lv_bipush (v := iI 22) hx hb (D_16 W_prog_15_method_95_code_32 5 rfl rfl rfl) (by decide) ?_
        exact b_M_height_39 X hf hZ hS (lv_sub hl [] rfl)
      · replace hf := gpos hf h6
        refine lv_bipush (v := iI 24) hx hb (D_16 W_prog_15_method_95_code_32 0 rfl rfl rfl) (by decide) ?_
        refine lv_goto (tgt := 39) hx hb (D_167 W_prog_15_method_95_code_32 2 rfl rfl rfl) (by decide) ?_
        exact b_M_height_39 X hf hZ hS (lv_sub hl [] rfl)
    · replace hf := gpos hf h5
      refine lv_bipush (v := iI 18) hx hb (D_16 W_prog_15_method_95_code_0 22 rfl rfl rfl) (by decide) ?_
      refine lv_goto (tgt := 39) hx hb (D_167 W_prog_15_method_95_code_0 24 rfl rfl rfl) (by decide) ?_
      exact b_M_height_39 X hf hZ hS (lv_sub hl [] rfl)
  · replace hf := gpos hf h4
    refine lv_bipush (v := iI 30) hx hb (D_16 W_prog_15_method_95_code_0 12 rfl rfl rfl) (by decide) ?_
    refine lv_goto (tgt := 39) hx hb (D_167 W_prog_15_method_95_code_0 14 rfl rfl rfl) (by decide) ?_
    exact b_M_height_39 X hf hZ hS (lv_sub hl [] rfl)

abbrev Q_M_lowest (D : va_G) (ca : Nat → ClassId) (ad : Nat → Int → Nat → Nat) (L : List Nat) (r : Int) (F : zF) (B : zB) (A : Nat → Prop) : Array Value → State → Outcome → State → Prop := va_Qi (S := Unit) (fun p _ => p = iI r) (fun _ => zPo D ca ad lnM nM L F B A) A
def f_M_lowest (K : Nat) (l0 : Int) (l1 : Int) (l2 : Int) (F : zF) (B : zB) : zO := if 0 ≤ l0 ∧ l0 < 3 then if 0 ≤ (6 * l2) ∧ (6 * l2) < 24000 then zbind (f_M_height K l0 l1 (B 13 l0 28 (6 * l2)) F B) (fun r3 F3 B3 => some (r3, F3, B3)) else none else none
set_option maxHeartbeats 4000000 in
set_option maxRecDepth 100000 in
theorem c_M_lowest {l : Launch} {D : va_G} {ca : Nat → ClassId} {ad : Nat → Int → Nat → Nat} {L : List Nat} {aS vS : Nat → Nat} {sz K : Nat}  {l0 : Int} {l1 : Int} {l2 : Int} {F F9 : zF} {B B9 : zB} {r : Int} (hf : f_M_lowest K l0 l1 l2 F B = some (r, F9, B9)) : Met l ({ cls := "StaveHouseModel", name := "lowest", desc := "(LStaveHouseModel$Piece;II)I" } : Jvm.MethodName) (Cond.code ({ cls := "StaveHouseModel", name := "lowest", desc := "(LStaveHouseModel$Piece;II)I" } : Jvm.MethodName) prog_15_method_96_code 3 (Option.some Jvm.ClassFile.FieldType.int) :: wAll) ({ frames := 1, cells := 0, slots := 0, locals := 23 } : Room) (va_Pc [.ref (ad 13 l0 0), .int (iI l1), .int (iI l2)] (zPre D ca ad lnM nM L aS vS F B sz)) (Q_M_lowest D ca ad L r F9 B9 (zA L sz)) 0 0 (zA L sz) := by
  refine zMet (Qc := Q_M_lowest D ca ad L r F9 B9) (lv := [(0, .ref (ad 13 l0 0)), (1, .int (iI l1)), (2, .int (iI l2))]) (by decide) (Nat.le_of_ble_eq_true rfl) rfl (fun A p e s m below meth c ls X hZ hS hl => ?_)
  obtain ⟨hx, hb, hr, hml, hown, hts, hlk, hK, hA, hL, hX⟩ := id X
  replace hf : (if 0 ≤ l0 ∧ l0 < 3 then if 0 ≤ (6 * l2) ∧ (6 * l2) < 24000 then zbind (f_M_height K l0 l1 (B 13 l0 28 (6 * l2)) F B) (fun r3 F3 B3 => some (r3, F3, B3)) else none else none) = some (r, F9, B9) := hf
  refine lv_aload_n hx hb (D_42 W_prog_15_method_96_code_0 0 rfl rfl) rfl (lv_at hl 0 rfl) ?_
  refine lv_iload_n hx hb (D_27 W_prog_15_method_96_code_0 1 rfl rfl) rfl (lv_at hl 1 rfl) ?_
  refine lv_aload_n hx hb (D_42 W_prog_15_method_96_code_0 2 rfl rfl) rfl (lv_at hl 0 rfl) ?_
  obtain ⟨g1, hf⟩ := gif hf
  refine zget (ci := 13) (C := RX13) (T := TX13) (v := .ref (ad 13 l0 (28 + 1))) (k := 28) hx hb hts inW_13 hown hK hZ g1.1 g1.2 rfl (by decide) k_9_174 rfl (D_180 W_prog_15_method_96_code_0 3 rfl rfl rfl) ?_
  refine lv_bipush (v := iI 6) hx hb (D_16 W_prog_15_method_96_code_0 6 rfl rfl rfl) (by decide) ?_
  refine lv_iload_n hx hb (D_28 W_prog_15_method_96_code_0 8 rfl rfl) rfl (lv_at hl 2 rfl) ?_
  refine zmul hx hb (D_104 W_prog_15_method_96_code_0 9 rfl rfl) ?_
  obtain ⟨g2, hf⟩ := gif hf
  refine zald (ci := 13) (k := 28) hx hb hK rfl hZ g1.1 g1.2 rfl (Nat.le_of_ble_eq_true rfl) g2.1 g2.2 (D_46 W_prog_15_method_96_code_0 10 rfl rfl) ?_
  obtain ⟨r3, F3, B3, hc3, hf⟩ := gbind hf
  refine va_calli (va_runS (As := [.ref (ad 13 l0 0), .int (iI l1), .int (iI (B 13 l0 28 (6 * l2)))]) (rest := []) ⟨hx, hb, hml, hown, hts⟩ (c_M_height (l := l) hc3) (va_cwS 3 hts (gdS k_15_71 k_15_72 k_1_9 k_15_73) rfl rfl rfl (by decide +kernel) ⟨Nat.le_of_ble_eq_true rfl, Nat.le_of_ble_eq_true rfl⟩) (zPS X hZ hS [.ref (ad 13 l0 0), .int (iI l1), .int (iI (B 13 l0 28 (6 * l2)))]) rfl rfl hl.1 rfl (lv_room (Nat.le_of_ble_eq_true rfl)) (D_184 W_prog_15_method_96_code_0 11 rfl rfl rfl) ⟨Nat.le_of_ble_eq_true rfl, Nat.le_of_ble_eq_true rfl⟩) hS (fun q _ h => zAin X hS q h) (zAin X hS) (fun p3 u3 t3 H3 locs3 ht3 hv3 hw3 hB3 hz3 hk3 hS3 => ?_)
  have hZ3 := zBack X ht3 hB3
  subst hw3
  cases hf
  exact W.iret hx hb hr (fun t ht hW => ⟨⟨_, (), rfl, rfl, by rw [ht]; exact hZ3, va_K.moved hW.alike hK⟩, hS3.F ht⟩) hS3.2.2 (D_172 W_prog_15_method_96_code_0 14 rfl rfl) hlk

abbrev Q_M_isBeamed (D : va_G) (ca : Nat → ClassId) (ad : Nat → Int → Nat → Nat) (L : List Nat) (r : Int) (F : zF) (B : zB) (A : Nat → Prop) : Array Value → State → Outcome → State → Prop := va_Qi (S := Unit) (fun p _ => p = iI r) (fun _ => zPo D ca ad lnM nM L F B A) A
def f_M_isBeamed_30 (K : Nat) (s0 : Int) (F : zF) (B : zB) : zO := if (s0 = 0 ∨ s0 = 1) then some (s0, F, B) else none
set_option maxHeartbeats 4000000 in
set_option maxRecDepth 100000 in
theorem b_M_isBeamed_30 {D : va_G} {ca : Nat → ClassId} {ad : Nat → Int → Nat → Nat} {L : List Nat} {aS vS : Nat → Nat} {A : Nat → Prop} {p : Program} {l : Launch} {e : Env} {s : State} {m : MethodId} {args : Array Value} {below : List Frame} {meth : Method} {c : Code} {K : Nat} {r : Int} {F9 : zF} {B9 : zB} (X : zX D ca L aS vS A p s m args meth c prog_15_method_99_code 4 (Option.some Jvm.ClassFile.FieldType.boolean) "StaveHouseModel") {s0 : Int} {F : zF} {B : zB} {H : Heap} {locs : List Loc} {ls : Array Slot} (hf : f_M_isBeamed_30 K s0 F B = some (r, F9, B9)) (hZ : zH D ca ad lnM nM L F B A H) (hS : va_S A s.heap H locs) (hl : lv_has ls 4 []) : W p l e ({ frames := 1, cells := 0, slots := 0, locals := 23 } : Room) s m args below meth c H locs 0 0 (MQ below (Q_M_isBeamed D ca ad L r F9 B9 A) args s 0 0 A) (F0 m 30 ls [.int (iI s0)]) := by
  obtain ⟨hx, hb, hr, hml, hown, hts, hlk, hK, hA, hL, hX⟩ := id X
  replace hf : (if (s0 = 0 ∨ s0 = 1) then some (s0, F, B) else none) = some (r, F9, B9) := hf
  obtain ⟨g8, hf⟩ := gif hf
  cases hf
  exact W.zret hx hb hr (zbool g8) (fun t ht hW => ⟨⟨_, (), rfl, rfl, by rw [ht]; exact hZ, va_K.moved hW.alike hK⟩, hS.F ht⟩) hS.2.2 (D_172 W_prog_15_method_99_code_0 30 rfl rfl) hlk

def f_M_isBeamed_29 (K : Nat)  (F : zF) (B : zB) : zO := f_M_isBeamed_30 K 0 F B
set_option maxHeartbeats 4000000 in
set_option maxRecDepth 100000 in
theorem b_M_isBeamed_29 {D : va_G} {ca : Nat → ClassId} {ad : Nat → Int → Nat → Nat} {L : List Nat} {aS vS : Nat → Nat} {A : Nat → Prop} {p : Program} {l : Launch} {e : Env} {s : State} {m : MethodId} {args : Array Value} {below : List Frame} {meth : Method} {c : Code} {K : Nat} {r : Int} {F9 : zF} {B9 : zB} (X : zX D ca L aS vS A p s m args meth c prog_15_method_99_code 4 (Option.some Jvm.ClassFile.FieldType.boolean) "StaveHouseModel")  {F : zF} {B : zB} {H : Heap} {locs : List Loc} {ls : Array Slot} (hf : f_M_isBeamed_29 K  F B = some (r, F9, B9)) (hZ : zH D ca ad lnM nM L F B A H) (hS : va_S A s.heap H locs) (hl : lv_has ls 4 []) : W p l e ({ frames := 1, cells := 0, slots := 0, locals := 23 } : Room) s m args below meth c H locs 0 0 (MQ below (Q_M_isBeamed D ca ad L r F9 B9 A) args s 0 0 A) (F0 m 29 ls []) := by
  obtain ⟨hx, hb, hr, hml, hown, hts, hlk, hK, hA, hL, hX⟩ := id X
  replace hf : (f_M_isBeamed_30 K 0 F B) = some (r, F9, B9) := hf
  refine lv_iconst (v := iI 0) hx hb (D_3 W_prog_15_method_99_code_0 29 rfl rfl) rfl ?_
  exact b_M_isBeamed_30 X hf hZ hS (lv_sub hl [] rfl)

def f_M_isBeamed (K : Nat) (l1 : Int) (l2 : Int) (l3 : Int) (F : zF) (B : zB) : zO := zbind (f_M_sounding K l1 l2 l3 F B) (fun r1 F1 B1 => if r32 r1 then (if r1 < 0 then f_M_isBeamed_29 K F1 B1 else if 0 ≤ l1 ∧ l1 < 3 then if 0 ≤ ((800 * l2) + l3) ∧ ((800 * l2) + l3) < 3200 then if r32 (B1 13 l1 34 ((800 * l2) + l3)) then (if (B1 13 l1 34 ((800 * l2) + l3)) < 3 then f_M_isBeamed_29 K F1 B1 else f_M_isBeamed_30 K 1 F1 B1) else none else none else none) else none)
set_option maxHeartbeats 4000000 in
set_option maxRecDepth 100000 in
theorem c_M_isBeamed {l : Launch} {D : va_G} {ca : Nat → ClassId} {ad : Nat → Int → Nat → Nat} {L : List Nat} {aS vS : Nat → Nat} {sz K : Nat}  {l1 : Int} {l2 : Int} {l3 : Int} {F F9 : zF} {B B9 : zB} {r : Int} (hf : f_M_isBeamed K l1 l2 l3 F B = some (r, F9, B9)) : Met l ({ cls := "StaveHouseModel", name := "isBeamed", desc := "(LStaveHouseModel$Piece;II)Z" } : Jvm.MethodName) (Cond.code ({ cls := "StaveHouseModel", name := "isBeamed", desc := "(LStaveHouseModel$Piece;II)Z" } : Jvm.MethodName) prog_15_method_99_code 4 (Option.some Jvm.ClassFile.FieldType.boolean) :: wAll) ({ frames := 1, cells := 0, slots := 0, locals := 23 } : Room) (va_Pc [.ref (ad 14 0 0), .ref (ad 13 l1 0), .int (iI l2), .int (iI l3)] (zPre D ca ad lnM nM L aS vS F B sz)) (Q_M_isBeamed D ca ad L r F9 B9 (zA L sz)) 0 0 (zA L sz) := by
  refine zMet (Qc := Q_M_isBeamed D ca ad L r F9 B9) (lv := [(0, .ref (ad 14 0 0)), (1, .ref (ad 13 l1 0)), (2, .int (iI l2)), (3, .int (iI l3))]) (by decide) (Nat.le_of_ble_eq_true rfl) rfl (fun A p e s m below meth c ls X hZ hS hl => ?_)
  obtain ⟨hx, hb, hr, hml, hown, hts, hlk, hK, hA, hL, hX⟩ := id X
  replace hf : (zbind (f_M_sounding K l1 l2 l3 F B) (fun r1 F1 B1 => if r32 r1 then (if r1 < 0 then f_M_isBeamed_29 K F1 B1 else if 0 ≤ l1 ∧ l1 < 3 then if 0 ≤ ((800 * l2) + l3) ∧ ((800 * l2) + l3) < 3200 then if r32 (B1 13 l1 34 ((800 * l2) + l3)) then (if (B1 13 l1 34 ((800 * l2) + l3)) < 3 then f_M_isBeamed_29 K F1 B1 else f_M_isBeamed_30 K 1 F1 B1) else none else none else none) else none)) = some (r, F9, B9) := hf
  refine lv_aload_n hx hb (D_43 W_prog_15_method_99_code_0 0 rfl rfl) rfl (lv_at hl 1 rfl) ?_
  refine lv_iload_n hx hb (D_28 W_prog_15_method_99_code_0 1 rfl rfl) rfl (lv_at hl 2 rfl) ?_
  refine lv_iload_n hx hb (D_29 W_prog_15_method_99_code_0 2 rfl rfl) rfl (lv_at hl 3 rfl) ?_
  obtain ⟨r1, F1, B1, hc1, hf⟩ := gbind hf
  refine va_calli (va_runS (As := [.ref (ad 13 l1 0), .int (iI l2), .int (iI l3)]) (rest := []) ⟨hx, hb, hml, hown, hts⟩ (c_M_sounding (l := l) hc1) (va_cwS 3 hts (gdS k_13_199 k_13_200 k_1_9 k_13_201) rfl rfl rfl (by decide +kernel) ⟨Nat.le_of_ble_eq_true rfl, Nat.le_of_ble_eq_true rfl⟩) (zPS X hZ hS [.ref (ad 13 l1 0), .int (iI l2), .int (iI l3)]) rfl rfl hl.1 rfl (lv_room (Nat.le_of_ble_eq_true rfl)) (D_184 W_prog_15_method_99_code_0 3 rfl rfl rfl) ⟨Nat.le_of_ble_eq_true rfl, Nat.le_of_ble_eq_true rfl⟩) hS (fun q _ h => zAin X hS q h) (zAin X hS) (fun p1 u1 t1 H1 locs1 ht1 hv1 hw1 hB1 hz1 hk1 hS1 => ?_)
  have hZ1 := zBack X ht1 hB1
  subst hw1
  obtain ⟨g2, hf⟩ := gif hf
  refine z0lt (tgt := 29) hx hb g2 (D_155 W_prog_15_method_99_code_0 6 rfl rfl rfl) (by decide) (fun h3 => ?_) (fun h3 => ?_)
  · replace hf := gpos hf h3
    exact b_M_isBeamed_29 X hf hZ1 hS1 (lv_sub hl [] rfl)
  · replace hf := gneg hf h3
    refine lv_aload_n hx hb (D_43 W_prog_15_method_99_code_0 9 rfl rfl) rfl (lv_at hl 1 rfl) ?_
    obtain ⟨g4, hf⟩ := gif hf
    refine zget (ci := 13) (C := RX13) (T := TX13) (v := .ref (ad 13 l1 (34 + 1))) (k := 34) hx hb hts inW_13 hown hK hZ1 g4.1 g4.2 rfl (by decide) k_9_186 rfl (D_180 W_prog_15_method_99_code_0 10 rfl rfl rfl) ?_
    refine lv_sipush (v := iI 800) hx hb (D_17 W_prog_15_method_99_code_0 13 rfl rfl rfl) (by decide) ?_
    refine lv_iload_n hx hb (D_28 W_prog_15_method_99_code_0 16 rfl rfl) rfl (lv_at hl 2 rfl) ?_
    refine zmul hx hb (D_104 W_prog_15_method_99_code_0 17 rfl rfl) ?_
    refine lv_iload_n hx hb (D_29 W_prog_15_method_99_code_0 18 rfl rfl) rfl (lv_at hl 3 rfl) ?_
    refine zadd hx hb (D_96 W_prog_15_method_99_code_0 19 rfl rfl) ?_
    obtain ⟨g5, hf⟩ := gif hf
    refine zald (ci := 13) (k := 34) hx hb hK rfl hZ1 g4.1 g4.2 rfl (Nat.le_of_ble_eq_true rfl) g5.1 g5.2 (D_46 W_prog_15_method_99_code_0 20 rfl rfl) ?_
    refine lv_iconst (v := iI 3) hx hb (D_6 W_prog_15_method_99_code_0 21 rfl rfl) rfl ?_
    obtain ⟨g6, hf⟩ := gif hf
    refine zlt (tgt := 29) hx hb g6 (by decide) (D_161 W_prog_15_method_99_code_0 22 rfl rfl rfl) (by decide) (fun h7 => ?_) (fun h7 => ?_)
    · replace hf := gpos hf h7
      exact b_M_isBeamed_29 X hf hZ1 hS1 (lv_sub hl [] rfl)
    · replace hf := gneg hf h7
      refine lv_iconst (v := iI 1) hx hb (D_4 W_prog_15_method_99_code_0 25 rfl rfl) rfl ?_
      refine lv_goto (tgt := 30) hx hb (D_167 W_prog_15_method_99_code_0 26 rfl rfl rfl) (by decide) ?_
      exact b_M_isBeamed_30 X hf hZ1 hS1 (lv_sub hl [] rfl)

abbrev Q_M_column (D : va_G) (ca : Nat → ClassId) (ad : Nat → Int → Nat → Nat) (L : List Nat) (r : Int) (F : zF) (B : zB) (A : Nat → Prop) : Array Value → State → Outcome → State → Prop := va_Qi (S := Unit) (fun p _ => p = iI r) (fun _ => zPo D ca ad lnM nM L F B A) A
def f_M_column_128 (K : Nat) (l8 : Int) (l1 : Int) (l3 : Int) (l4 : Int) (l6 : Int) (F : zF) (B : zB) : zO := if 0 ≤ l1 ∧ l1 < 3 then if 0 ≤ l8 ∧ l8 < 3200 then some (l3 + 1, F, (zup4 (zup4 B 13 l1 43 l8 l4) 13 l1 44 l8 l6)) else none else none
set_option maxHeartbeats 4000000 in
set_option maxRecDepth 100000 in
theorem b_M_column_128 {D : va_G} {ca : Nat → ClassId} {ad : Nat → Int → Nat → Nat} {L : List Nat} {aS vS : Nat → Nat} {A : Nat → Prop} {p : Program} {l : Launch} {e : Env} {s : State} {m : MethodId} {args : Array Value} {below : List Frame} {meth : Method} {c : Code} {K : Nat} {r : Int} {F9 : zF} {B9 : zB} (X : zX D ca L aS vS A p s m args meth c prog_15_method_103_code 10 (Option.some Jvm.ClassFile.FieldType.int) "StaveHouseModel") {l8 : Int} {l1 : Int} {l3 : Int} {l4 : Int} {l6 : Int} {F : zF} {B : zB} {H : Heap} {locs : List Loc} {ls : Array Slot} (hf : f_M_column_128 K l8 l1 l3 l4 l6 F B = some (r, F9, B9)) (hZ : zH D ca ad lnM nM L F B A H) (hS : va_S A s.heap H locs) (hl : lv_has ls 10 [(8, .int (iI l8)), (1, .ref (ad 13 l1 0)), (3, .int (iI l3)), (4, .long (lI l4)), (6, .long (lI l6))]) : W p l e ({ frames := 2, cells := 0, slots := 0, locals := 62 } : Room) s m args below meth c H locs 0 0 (MQ below (Q_M_column D ca ad L r F9 B9 A) args s 0 0 A) (F0 m 128 ls []) := by
  obtain ⟨hx, hb, hr, hml, hown, hts, hlk, hK, hA, hL, hX⟩ := id X
  replace hf : (if 0 ≤ l1 ∧ l1 < 3 then if 0 ≤ l8 ∧ l8 < 3200 then some (l3 + 1, F, (zup4 (zup4 B 13 l1 43 l8 l4) 13 l1 44 l8 l6)) else none else none) = some (r, F9, B9) := hf
  refine lv_aload_n hx hb (D_43 W_prog_15_method_103_code_128 0 rfl rfl) rfl (lv_at hl 1 rfl) ?_
  obtain ⟨g26, hf⟩ := gif hf
  refine zget (ci := 13) (C := RX13) (T := TX13) (v := .ref (ad 13 l1 (43 + 1))) (k := 43) hx hb hts inW_13 hown hK hZ g26.1 g26.2 rfl (by decide) k_9_204 rfl (D_180 W_prog_15_method_103_code_128 1 rfl rfl rfl) ?_
  refine lv_iload hx hb (D_21 W_prog_15_method_103_code_128 4 rfl rfl) (lv_at hl 0 rfl) ?_
  refine lv_lload hx hb (D_22 W_prog_15_method_103_code_128 6 rfl rfl) (lv_at hl 3 rfl) ?_
  obtain ⟨g27, hf⟩ := gif hf
  refine zlast (ci := 13) (k := 43) hx hb hK rfl hZ hS g26.1 g26.2 rfl (Nat.le_of_ble_eq_true rfl) g27.1 g27.2 (D_80 W_prog_15_method_103_code_128 8 rfl rfl) (fun H28 locs28 hZ28 hS28 => ?_)
  refine lv_aload_n hx hb (D_43 W_prog_15_method_103_code_128 9 rfl rfl) rfl (lv_at hl 1 rfl) ?_
  refine zget (ci := 13) (C := RX13) (T := TX13) (v := .ref (ad 13 l1 (44 + 1))) (k := 44) hx hb hts inW_13 hown hK hZ28 g26.1 g26.2 rfl (by decide) k_9_206 rfl (D_180 W_prog_15_method_103_code_128 10 rfl rfl rfl) ?_
  refine lv_iload hx hb (D_21 W_prog_15_method_103_code_128 13 rfl rfl) (lv_at hl 0 rfl) ?_
  refine lv_lload hx hb (D_22 W_prog_15_method_103_code_128 15 rfl rfl) (lv_at hl 4 rfl) ?_
  refine zlast (ci := 13) (k := 44) hx hb hK rfl hZ28 hS28 g26.1 g26.2 rfl (Nat.le_of_ble_eq_true rfl) g27.1 g27.2 (D_80 W_prog_15_method_103_code_128 17 rfl rfl) (fun H29 locs29 hZ29 hS29 => ?_)
  refine lv_iload_n hx hb (D_29 W_prog_15_method_103_code_128 18 rfl rfl) rfl (lv_at hl 2 rfl) ?_
  refine lv_iconst (v := iI 1) hx hb (D_4 W_prog_15_method_103_code_128 19 rfl rfl) rfl ?_
  refine zadd hx hb (D_96 W_prog_15_method_103_code_128 20 rfl rfl) ?_
  cases hf
  exact W.iret hx hb hr (fun t ht hW => ⟨⟨_, (), rfl, rfl, by rw [ht]; exact hZ29, va_K.moved hW.alike hK⟩, hS29.F ht⟩) hS29.2.2 (D_172 W_prog_15_method_103_code_128 21 rfl rfl) hlk

def f_M_column_51 (K : Nat) : Nat → Int → Int → Int → Int → Int → Int → zF → zB → zO
  | 0, _, _, _, _, _, _, _, _ => none
  | n + 1, l8, l1, l2, l3, l4, l6, F, B => if 0 ≤ l1 ∧ l1 < 3 then if 0 ≤ l2 ∧ l2 < 101 then if r32 l8 then if r32 (B 13 l1 42 l2) then (if l8 ≤ (B 13 l1 42 l2) then f_M_column_128 K l8 l1 l3 l4 l6 F B else if 0 ≤ (l8 - 1) ∧ (l8 - 1) < 3200 then zbind (f_M_compare K (B 13 l1 43 (l8 - 1)) (B 13 l1 44 (l8 - 1)) l4 l6 F B) (fun r20 F20 B20 => if r32 r20 then (if r20 ≤ 0 then f_M_column_128 K l8 l1 l3 l4 l6 F20 B20 else if 0 ≤ l8 ∧ l8 < 3200 then f_M_column_51 K n (l8 - 1) l1 l2 l3 l4 l6 F20 (zup4 (zup4 B20 13 l1 43 l8 (B20 13 l1 43 (l8 - 1))) 13 l1 44 l8 ((zup4 B20 13 l1 43 l8 (B20 13 l1 43 (l8 - 1))) 13 l1 44 (l8 - 1))) else none) else none) else none) else none else none else none else none
set_option maxHeartbeats 4000000 in
set_option maxRecDepth 100000 in
theorem b_M_column_51 {D : va_G} {ca : Nat → ClassId} {ad : Nat → Int → Nat → Nat} {L : List Nat} {aS vS : Nat → Nat} {A : Nat → Prop} {p : Program} {l : Launch} {e : Env} {s : State} {m : MethodId} {args : Array Value} {below : List Frame} {meth : Method} {c : Code} {K : Nat} {r : Int} {F9 : zF} {B9 : zB} (X : zX D ca L aS vS A p s m args meth c prog_15_method_103_code 10 (Option.some Jvm.ClassFile.FieldType.int) "StaveHouseModel") : ∀ {n : Nat} {l8 : Int} {l1 : Int} {l2 : Int} {l3 : Int} {l4 : Int} {l6 : Int} {F : zF} {B : zB} {H : Heap} {locs : List Loc} {ls : Array Slot}, f_M_column_51 K n l8 l1 l2 l3 l4 l6 F B = some (r, F9, B9) → zH D ca ad lnM nM L F B A H → va_S A s.heap H locs → lv_has ls 10 [(8, .int (iI l8)), (1, .ref (ad 13 l1 0)), (2, .int (iI l2)), (3, .int (iI l3)), (4, .long (lI l4)), (6, .long (lI l6))] → W p l e ({ frames := 2, cells := 0, slots := 0, locals := 62 } : Room) s m args below meth c H locs 0 0 (MQ below (Q_M_column D ca ad L r F9 B9 A) args s 0 0 A) (F0 m 51 ls []) := by
  obtain ⟨hx, hb, hr, hml, hown, hts, hlk, hK, hA, hL, hX⟩ := id X
  intro n
  induction n with
  | zero =>
    intros
    rename_i hf _ _ _
    cases hf
  | succ n ih =>
    intro l8 l1 l2 l3 l4 l6 F B H locs ls hf hZ hS hl
    replace hf : (if 0 ≤ l1 ∧ l1 < 3 then if 0 ≤ l2 ∧ l2 < 101 then if r32 l8 then if r32 (B 13 l1 42 l2) then (if l8 ≤ (B 13 l1 42 l2) then f_M_column_128 K l8 l1 l3 l4 l6 F B else if 0 ≤ (l8 - 1) ∧ (l8 - 1) < 3200 then zbind (f_M_compare K (B 13 l1 43 (l8 - 1)) (B 13 l1 44 (l8 - 1)) l4 l6 F B) (fun r20 F20 B20 => if r32 r20 then (if r20 ≤ 0 then f_M_column_128 K l8 l1 l3 l4 l6 F20 B20 else if 0 ≤ l8 ∧ l8 < 3200 then f_M_column_51 K n (l8 - 1) l1 l2 l3 l4 l6 F20 (zup4 (zup4 B20 13 l1 43 l8 (B20 13 l1 43 (l8 - 1))) 13 l1 44 l8 ((zup4 B20 13 l1 43 l8 (B20 13 l1 43 (l8 - 1))) 13 l1 44 (l8 - 1))) else none) else none) else none) else none else none else none else none) = some (r, F9, B9) := hf
    refine lv_iload hx hb (D_21 W_prog_15_method_103_code_32 19 rfl rfl) (lv_at hl 0 rfl) ?_
    refine lv_aload_n hx hb (D_43 W_prog_15_method_103_code_32 21 rfl rfl) rfl (lv_at hl 1 rfl) ?_
    obtain ⟨g14, hf⟩ := gif hf
    refine zget (ci := 13) (C := RX13) (T := TX13) (v := .ref (ad 13 l1 (42 + 1))) (k := 42) hx hb hts inW_13 hown hK hZ g14.1 g14.2 rfl (by decide) k_9_202 rfl (D_180 W_prog_15_method_103_code_32 22 rfl rfl rfl) ?_
    refine lv_iload_n hx hb (D_28 W_prog_15_method_103_code_32 25 rfl rfl) rfl (lv_at hl 2 rfl) ?_
    obtain ⟨g15, hf⟩ := gif hf
    refine zald (ci := 13) (k := 42) hx hb hK rfl hZ g14.1 g14.2 rfl (Nat.le_of_ble_eq_true rfl) g15.1 g15.2 (D_46 W_prog_15_method_103_code_32 26 rfl rfl) ?_
    obtain ⟨g16, hf⟩ := gif hf
    obtain ⟨g17, hf⟩ := gif hf
    refine zle (tgt := 128) hx hb g16 g17 (D_164 W_prog_15_method_103_code_32 27 rfl rfl rfl) (by decide) (fun h18 => ?_) (fun h18 => ?_)
    · replace hf := gpos hf h18
      exact b_M_column_128 X hf hZ hS (lv_sub hl [0, 1, 3, 4, 5] rfl)
    · replace hf := gneg hf h18
      refine lv_aload_n hx hb (D_43 W_prog_15_method_103_code_32 30 rfl rfl) rfl (lv_at hl 1 rfl) ?_
      refine zget (ci := 13) (C := RX13) (T := TX13) (v := .ref (ad 13 l1 (43 + 1))) (k := 43) hx hb hts inW_13 hown hK hZ g14.1 g14.2 rfl (by decide) k_9_204 rfl (D_180 W_prog_15_method_103_code_32 31 rfl rfl rfl) ?_
      refine lv_iload hx hb (D_21 W_prog_15_method_103_code_64 2 rfl rfl) (lv_at hl 0 rfl) ?_
      refine lv_iconst (v := iI 1) hx hb (D_4 W_prog_15_method_103_code_64 4 rfl rfl) rfl ?_
      refine zsub hx hb (D_100 W_prog_15_method_103_code_64 5 rfl rfl) ?_
      obtain ⟨g19, hf⟩ := gif hf
      refine zlald (ci := 13) (k := 43) hx hb hK rfl hZ g14.1 g14.2 rfl (Nat.le_of_ble_eq_true rfl) g19.1 g19.2 (D_47 W_prog_15_method_103_code_64 6 rfl rfl) ?_
      refine lv_aload_n hx hb (D_43 W_prog_15_method_103_code_64 7 rfl rfl) rfl (lv_at hl 1 rfl) ?_
      refine zget (ci := 13) (C := RX13) (T := TX13) (v := .ref (ad 13 l1 (44 + 1))) (k := 44) hx hb hts inW_13 hown hK hZ g14.1 g14.2 rfl (by decide) k_9_206 rfl (D_180 W_prog_15_method_103_code_64 8 rfl rfl rfl) ?_
      refine lv_iload hx hb (D_21 W_prog_15_method_103_code_64 11 rfl rfl) (lv_at hl 0 rfl) ?_
      refine lv_iconst (v := iI 1) hx hb (D_4 W_prog_15_method_103_code_64 13 rfl rfl) rfl ?_
      refine zsub hx hb (D_100 W_prog_15_method_103_code_64 14 rfl rfl) ?_
      refine zlald (ci := 13) (k := 44) hx hb hK rfl hZ g14.1 g14.2 rfl (Nat.le_of_ble_eq_true rfl) g19.1 g19.2 (D_47 W_prog_15_method_103_code_64 15 rfl rfl) ?_
      refine lv_lload hx hb (D_22 W_prog_15_method_103_code_64 16 rfl rfl) (lv_at hl 4 rfl) ?_
      refine lv_lload hx hb (D_22 W_prog_15_method_103_code_64 18 rfl rfl) (lv_at hl 5 rfl) ?_
      obtain ⟨r20, F20, B20, hc20, hf⟩ := gbind hf
      refine va_calli (va_runS (As := [.long (lI (B 13 l1 43 (l8 - 1))), .long (lI (B 13 l1 44 (l8 - 1))), .long (lI l4), .long (lI l6)]) (rest := []) ⟨hx, hb, hml, hown, hts⟩ (c_M_compare (l := l) hc20) (va_cwS 4 hts (gdS k_13_104 k_13_105 k_1_9 k_13_106) rfl rfl rfl (by decide +kernel) ⟨Nat.le_of_ble_eq_true rfl, Nat.le_of_ble_eq_true rfl⟩) (zPS X hZ hS [.long (lI (B 13 l1 43 (l8 - 1))), .long (lI (B 13 l1 44 (l8 - 1))), .long (lI l4), .long (lI l6)]) rfl rfl hl.1 rfl (lv_room (Nat.le_of_ble_eq_true rfl)) (D_184 W_prog_15_method_103_code_64 20 rfl rfl rfl) ⟨Nat.le_of_ble_eq_true rfl, Nat.le_of_ble_eq_true rfl⟩) hS (fun q _ h => zAin X hS q h) (zAin X hS) (fun p20 u20 t20 H20 locs20 ht20 hv20 hw20 hB20 hz20 hk20 hS20 => ?_)
      have hZ20 := zBack X ht20 hB20
      subst hw20
      obtain ⟨g21, hf⟩ := gif hf
      refine z0le (tgt := 128) hx hb g21 (D_158 W_prog_15_method_103_code_64 23 rfl rfl rfl) (by decide) (fun h22 => ?_) (fun h22 => ?_)
      · replace hf := gpos hf h22
        exact b_M_column_128 X hf hZ20 hS20 (lv_sub hl [0, 1, 3, 4, 5] rfl)
      · replace hf := gneg hf h22
        refine lv_aload_n hx hb (D_43 W_prog_15_method_103_code_64 26 rfl rfl) rfl (lv_at hl 1 rfl) ?_
        refine zget (ci := 13) (C := RX13) (T := TX13) (v := .ref (ad 13 l1 (43 + 1))) (k := 43) hx hb hts inW_13 hown hK hZ20 g14.1 g14.2 rfl (by decide) k_9_204 rfl (D_180 W_prog_15_method_103_code_64 27 rfl rfl rfl) ?_
        refine lv_iload hx hb (D_21 W_prog_15_method_103_code_64 30 rfl rfl) (lv_at hl 0 rfl) ?_
        refine lv_aload_n hx hb (D_43 W_prog_15_method_103_code_96 0 rfl rfl) rfl (lv_at hl 1 rfl) ?_
        refine zget (ci := 13) (C := RX13) (T := TX13) (v := .ref (ad 13 l1 (43 + 1))) (k := 43) hx hb hts inW_13 hown hK hZ20 g14.1 g14.2 rfl (by decide) k_9_204 rfl (D_180 W_prog_15_method_103_code_96 1 rfl rfl rfl) ?_
        refine lv_iload hx hb (D_21 W_prog_15_method_103_code_96 4 rfl rfl) (lv_at hl 0 rfl) ?_
        refine lv_iconst (v := iI 1) hx hb (D_4 W_prog_15_method_103_code_96 6 rfl rfl) rfl ?_
        refine zsub hx hb (D_100 W_prog_15_method_103_code_96 7 rfl rfl) ?_
        refine zlald (ci := 13) (k := 43) hx hb hK rfl hZ20 g14.1 g14.2 rfl (Nat.le_of_ble_eq_true rfl) g19.1 g19.2 (D_47 W_prog_15_method_103_code_96 8 rfl rfl) ?_
        obtain ⟨g23, hf⟩ := gif hf
        refine zlast (ci := 13) (k := 43) hx hb hK rfl hZ20 hS20 g14.1 g14.2 rfl (Nat.le_of_ble_eq_true rfl) g23.1 g23.2 (D_80 W_prog_15_method_103_code_96 9 rfl rfl) (fun H24 locs24 hZ24 hS24 => ?_)
        refine lv_aload_n hx hb (D_43 W_prog_15_method_103_code_96 10 rfl rfl) rfl (lv_at hl 1 rfl) ?_
        refine zget (ci := 13) (C := RX13) (T := TX13) (v := .ref (ad 13 l1 (44 + 1))) (k := 44) hx hb hts inW_13 hown hK hZ24 g14.1 g14.2 rfl (by decide) k_9_206 rfl (D_180 W_prog_15_method_103_code_96 11 rfl rfl rfl) ?_
        refine lv_iload hx hb (D_21 W_prog_15_method_103_code_96 14 rfl rfl) (lv_at hl 0 rfl) ?_
        refine lv_aload_n hx hb (D_43 W_prog_15_method_103_code_96 16 rfl rfl) rfl (lv_at hl 1 rfl) ?_
        refine zget (ci := 13) (C := RX13) (T := TX13) (v := .ref (ad 13 l1 (44 + 1))) (k := 44) hx hb hts inW_13 hown hK hZ24 g14.1 g14.2 rfl (by decide) k_9_206 rfl (D_180 W_prog_15_method_103_code_96 17 rfl rfl rfl) ?_
        refine lv_iload hx hb (D_21 W_prog_15_method_103_code_96 20 rfl rfl) (lv_at hl 0 rfl) ?_
        refine lv_iconst (v := iI 1) hx hb (D_4 W_prog_15_method_103_code_96 22 rfl rfl) rfl ?_
        refine zsub hx hb (D_100 W_prog_15_method_103_code_96 23 rfl rfl) ?_
        refine zlald (ci := 13) (k := 44) hx hb hK rfl hZ24 g14.1 g14.2 rfl (Nat.le_of_ble_eq_true rfl) g19.1 g19.2 (D_47 W_prog_15_method_103_code_96 24 rfl rfl) ?_
        refine zlast (ci := 13) (k := 44) hx hb hK rfl hZ24 hS24 g14.1 g14.2 rfl (Nat.le_of_ble_eq_true rfl) g23.1 g23.2 (D_80 W_prog_15_method_103_code_96 25 rfl rfl) (fun H25 locs25 hZ25 hS25 => ?_)
        refine lv_iinc (v := iI (l8 - 1)) (lv' := [(8, .int (iI (l8 - 1))), (1, .ref (ad 13 l1 0)), (2, .int (iI l2)), (3, .int (iI l3)), (4, .long (lI l4)), (6, .long (lI l6))]) hx hb d_15_103_122 hl (k := 0) rfl (by rw [show Int32.ofInt (-1) = iI (-1) from rfl, iI_add]; congr 1) (by decide) rfl (fun ls hl => ?_)
        refine lv_goto (tgt := 51) hx hb (D_167 W_prog_15_method_103_code_96 29 rfl rfl rfl) (by decide) ?_
        exact ih hf hZ25 hS25 (lv_sub hl [0, 1, 2, 3, 4, 5] rfl)

def f_M_column_45 (rec11 : Int → Int → Int → Int → Int → Int → Int → zF → zB → zO) (K : Nat) (l9 : Int) (l8 : Int) (l1 : Int) (l2 : Int) (l3 : Int) (l4 : Int) (l6 : Int) (F : zF) (B : zB) : zO := rec11 (l9 + 1) l8 l1 l2 l3 l4 l6 F B
set_option maxHeartbeats 4000000 in
set_option maxRecDepth 100000 in
theorem b_M_column_45 {D : va_G} {ca : Nat → ClassId} {ad : Nat → Int → Nat → Nat} {L : List Nat} {aS vS : Nat → Nat} {A : Nat → Prop} {p : Program} {l : Launch} {e : Env} {s : State} {m : MethodId} {args : Array Value} {below : List Frame} {meth : Method} {c : Code} {K : Nat} {r : Int} {F9 : zF} {B9 : zB} (X : zX D ca L aS vS A p s m args meth c prog_15_method_103_code 10 (Option.some Jvm.ClassFile.FieldType.int) "StaveHouseModel") {rec11 : Int → Int → Int → Int → Int → Int → Int → zF → zB → zO} (hrec11 : ∀ {l9 : Int} {l8 : Int} {l1 : Int} {l2 : Int} {l3 : Int} {l4 : Int} {l6 : Int} {F : zF} {B : zB} {H : Heap} {locs : List Loc} {ls : Array Slot}, rec11 l9 l8 l1 l2 l3 l4 l6 F B = some (r, F9, B9) → zH D ca ad lnM nM L F B A H → va_S A s.heap H locs → lv_has ls 10 [(9, .int (iI l9)), (8, .int (iI l8)), (1, .ref (ad 13 l1 0)), (2, .int (iI l2)), (3, .int (iI l3)), (4, .long (lI l4)), (6, .long (lI l6))] → W p l e ({ frames := 2, cells := 0, slots := 0, locals := 62 } : Room) s m args below meth c H locs 0 0 (MQ below (Q_M_column D ca ad L r F9 B9 A) args s 0 0 A) (F0 m 11 ls [])) {l9 : Int} {l8 : Int} {l1 : Int} {l2 : Int} {l3 : Int} {l4 : Int} {l6 : Int} {F : zF} {B : zB} {H : Heap} {locs : List Loc} {ls : Array Slot} (hf : f_M_column_45 rec11 K l9 l8 l1 l2 l3 l4 l6 F B = some (r, F9, B9)) (hZ : zH D ca ad lnM nM L F B A H) (hS : va_S A s.heap H locs) (hl : lv_has ls 10 [(9, .int (iI l9)), (8, .int (iI l8)), (1, .ref (ad 13 l1 0)), (2, .int (iI l2)), (3, .int (iI l3)), (4, .long (lI l4)), (6, .long (lI l6))]) : W p l e ({ frames := 2, cells := 0, slots := 0, locals := 62 } : Room) s m args below meth c H locs 0 0 (MQ below (Q_M_column D ca ad L r F9 B9 A) args s 0 0 A) (F0 m 45 ls []) := by
  obtain ⟨hx, hb, hr, hml, hown, hts, hlk, hK, hA, hL, hX⟩ := id X
  replace hf : (rec11 (l9 + 1) l8 l1 l2 l3 l4 l6 F B) = some (r, F9, B9) := hf
  refine lv_iinc (v := iI (l9 + 1)) (lv' := [(9, .int (iI (l9 + 1))), (8, .int (iI l8)), (1, .ref (ad 13 l1 0)), (2, .int (iI l2)), (3, .int (iI l3)), (4, .long (lI l4)), (6, .long (lI l6))]) hx hb d_15_103_45 hl (k := 0) rfl (iI_add _ 1) (by decide) rfl (fun ls hl => ?_)
  refine lv_goto (tgt := 11) hx hb (D_167 W_prog_15_method_103_code_32 16 rfl rfl rfl) (by decide) ?_
  exact hrec11 hf hZ hS (lv_sub hl [0, 1, 2, 3, 4, 5, 6] rfl)

def f_M_column_11 (K : Nat) : Nat → Int → Int → Int → Int → Int → Int → Int → zF → zB → zO
  | 0, _, _, _, _, _, _, _, _, _ => none
  | n + 1, l9, l8, l1, l2, l3, l4, l6, F, B => if r32 l9 then if r32 l3 then (if l3 ≤ l9 then f_M_column_51 K K l8 l1 l2 l3 l4 l6 F B else if 0 ≤ l1 ∧ l1 < 3 then if 0 ≤ l9 ∧ l9 < 3200 then if r64 (B 13 l1 43 l9) then if r64 l4 then (if (zcmp (B 13 l1 43 l9) l4) = 0 then if r64 (B 13 l1 44 l9) then if r64 l6 then (if (zcmp (B 13 l1 44 l9) l6) = 0 then some (l3, F, B) else f_M_column_45 (f_M_column_11 K n) K l9 l8 l1 l2 l3 l4 l6 F B) else none else none else f_M_column_45 (f_M_column_11 K n) K l9 l8 l1 l2 l3 l4 l6 F B) else none else none else none else none) else none else none
set_option maxHeartbeats 4000000 in
set_option maxRecDepth 100000 in
theorem b_M_column_11 {D : va_G} {ca : Nat → ClassId} {ad : Nat → Int → Nat → Nat} {L : List Nat} {aS vS : Nat → Nat} {A : Nat → Prop} {p : Program} {l : Launch} {e : Env} {s : State} {m : MethodId} {args : Array Value} {below : List Frame} {meth : Method} {c : Code} {K : Nat} {r : Int} {F9 : zF} {B9 : zB} (X : zX D ca L aS vS A p s m args meth c prog_15_method_103_code 10 (Option.some Jvm.ClassFile.FieldType.int) "StaveHouseModel") : ∀ {n : Nat} {l9 : Int} {l8 : Int} {l1 : Int} {l2 : Int} {l3 : Int} {l4 : Int} {l6 : Int} {F : zF} {B : zB} {H : Heap} {locs : List Loc} {ls : Array Slot}, f_M_column_11 K n l9 l8 l1 l2 l3 l4 l6 F B = some (r, F9, B9) → zH D ca ad lnM nM L F B A H → va_S A s.heap H locs → lv_has ls 10 [(9, .int (iI l9)), (8, .int (iI l8)), (1, .ref (ad 13 l1 0)), (2, .int (iI l2)), (3, .int (iI l3)), (4, .long (lI l4)), (6, .long (lI l6))] → W p l e ({ frames := 2, cells := 0, slots := 0, locals := 62 } : Room) s m args below meth c H locs 0 0 (MQ below (Q_M_column D ca ad L r F9 B9 A) args s 0 0 A) (F0 m 11 ls []) := by
  obtain ⟨hx, hb, hr, hml, hown, hts, hlk, hK, hA, hL, hX⟩ := id X
  intro n
  induction n with
  | zero =>
    intros
    rename_i hf _ _ _
    cases hf
  | succ n ih =>
    intro l9 l8 l1 l2 l3 l4 l6 F B H locs ls hf hZ hS hl
    replace hf : (if r32 l9 then if r32 l3 then (if l3 ≤ l9 then f_M_column_51 K K l8 l1 l2 l3 l4 l6 F B else if 0 ≤ l1 ∧ l1 < 3 then if 0 ≤ l9 ∧ l9 < 3200 then if r64 (B 13 l1 43 l9) then if r64 l4 then (if (zcmp (B 13 l1 43 l9) l4) = 0 then if r64 (B 13 l1 44 l9) then if r64 l6 then (if (zcmp (B 13 l1 44 l9) l6) = 0 then some (l3, F, B) else f_M_column_45 (f_M_column_11 K n) K l9 l8 l1 l2 l3 l4 l6 F B) else none else none else f_M_column_45 (f_M_column_11 K n) K l9 l8 l1 l2 l3 l4 l6 F B) else none else none else none else none) else none else none) = some (r, F9, B9) := hf
    refine lv_iload hx hb (D_21 W_prog_15_method_103_code_0 11 rfl rfl) (lv_at hl 0 rfl) ?_
    refine lv_iload_n hx hb (D_29 W_prog_15_method_103_code_0 13 rfl rfl) rfl (lv_at hl 4 rfl) ?_
    obtain ⟨g3, hf⟩ := gif hf
    obtain ⟨g4, hf⟩ := gif hf
    refine zge (tgt := 51) hx hb g3 g4 (D_162 W_prog_15_method_103_code_0 14 rfl rfl rfl) (by decide) (fun h5 => ?_) (fun h5 => ?_)
    · replace hf := gpos hf h5
      exact b_M_column_51 X hf hZ hS (lv_sub hl [1, 2, 3, 4, 5, 6] rfl)
    · replace hf := gneg hf h5
      refine lv_aload_n hx hb (D_43 W_prog_15_method_103_code_0 17 rfl rfl) rfl (lv_at hl 2 rfl) ?_
      obtain ⟨g6, hf⟩ := gif hf
      refine zget (ci := 13) (C := RX13) (T := TX13) (v := .ref (ad 13 l1 (43 + 1))) (k := 43) hx hb hts inW_13 hown hK hZ g6.1 g6.2 rfl (by decide) k_9_204 rfl (D_180 W_prog_15_method_103_code_0 18 rfl rfl rfl) ?_
      refine lv_iload hx hb (D_21 W_prog_15_method_103_code_0 21 rfl rfl) (lv_at hl 0 rfl) ?_
      obtain ⟨g7, hf⟩ := gif hf
      refine zlald (ci := 13) (k := 43) hx hb hK rfl hZ g6.1 g6.2 rfl (Nat.le_of_ble_eq_true rfl) g7.1 g7.2 (D_47 W_prog_15_method_103_code_0 23 rfl rfl) ?_
      refine lv_lload hx hb (D_22 W_prog_15_method_103_code_0 24 rfl rfl) (lv_at hl 5 rfl) ?_
      obtain ⟨g8, hf⟩ := gif hf
      obtain ⟨g9, hf⟩ := gif hf
      refine zcmp_r hx hb g8 g9 (D_148 W_prog_15_method_103_code_0 26 rfl rfl) ?_
      refine z0ne (tgt := 45) hx hb zcmp_32 (D_154 W_prog_15_method_103_code_0 27 rfl rfl rfl) (by decide) (fun h10 => ?_) (fun h10 => ?_)
      · replace hf := gneg hf h10
        exact b_M_column_45 X ih hf hZ hS (lv_sub hl [0, 1, 2, 3, 4, 5, 6] rfl)
      · replace hf := gpos hf h10
        refine lv_aload_n hx hb (D_43 W_prog_15_method_103_code_0 30 rfl rfl) rfl (lv_at hl 2 rfl) ?_
        refine zget (ci := 13) (C := RX13) (T := TX13) (v := .ref (ad 13 l1 (44 + 1))) (k := 44) hx hb hts inW_13 hown hK hZ g6.1 g6.2 rfl (by decide) k_9_206 rfl (D_180 W_prog_15_method_103_code_0 31 rfl rfl rfl) ?_
        refine lv_iload hx hb (D_21 W_prog_15_method_103_code_32 2 rfl rfl) (lv_at hl 0 rfl) ?_
        refine zlald (ci := 13) (k := 44) hx hb hK rfl hZ g6.1 g6.2 rfl (Nat.le_of_ble_eq_true rfl) g7.1 g7.2 (D_47 W_prog_15_method_103_code_32 4 rfl rfl) ?_
        refine lv_lload hx hb (D_22 W_prog_15_method_103_code_32 5 rfl rfl) (lv_at hl 6 rfl) ?_
        obtain ⟨g11, hf⟩ := gif hf
        obtain ⟨g12, hf⟩ := gif hf
        refine zcmp_r hx hb g11 g12 (D_148 W_prog_15_method_103_code_32 7 rfl rfl) ?_
        refine z0ne (tgt := 45) hx hb zcmp_32 (D_154 W_prog_15_method_103_code_32 8 rfl rfl rfl) (by decide) (fun h13 => ?_) (fun h13 => ?_)
        · replace hf := gneg hf h13
          exact b_M_column_45 X ih hf hZ hS (lv_sub hl [0, 1, 2, 3, 4, 5, 6] rfl)
        · replace hf := gpos hf h13
          refine lv_iload_n hx hb (D_29 W_prog_15_method_103_code_32 11 rfl rfl) rfl (lv_at hl 4 rfl) ?_
          cases hf
          exact W.iret hx hb hr (fun t ht hW => ⟨⟨_, (), rfl, rfl, by rw [ht]; exact hZ, va_K.moved hW.alike hK⟩, hS.F ht⟩) hS.2.2 (D_172 W_prog_15_method_103_code_32 12 rfl rfl) hlk

def f_M_column (K : Nat) (l1 : Int) (l2 : Int) (l3 : Int) (l4 : Int) (l6 : Int) (F : zF) (B : zB) : zO := if 0 ≤ l1 ∧ l1 < 3 then if 0 ≤ l2 ∧ l2 < 101 then f_M_column_11 K K (B 13 l1 42 l2) l3 l1 l2 l3 l4 l6 F B else none else none
set_option maxHeartbeats 4000000 in
set_option maxRecDepth 100000 in
theorem c_M_column {l : Launch} {D : va_G} {ca : Nat → ClassId} {ad : Nat → Int → Nat → Nat} {L : List Nat} {aS vS : Nat → Nat} {sz K : Nat}  {l1 : Int} {l2 : Int} {l3 : Int} {l4 : Int} {l6 : Int} {F F9 : zF} {B B9 : zB} {r : Int} (hf : f_M_column K l1 l2 l3 l4 l6 F B = some (r, F9, B9)) : Met l ({ cls := "StaveHouseModel", name := "column", desc := "(LStaveHouseModel$Piece;IIJJ)I" } : Jvm.MethodName) (Cond.code ({ cls := "StaveHouseModel", name := "column", desc := "(LStaveHouseModel$Piece;IIJJ)I" } : Jvm.MethodName) prog_15_method_103_code 10 (Option.some Jvm.ClassFile.FieldType.int) :: wAll) ({ frames := 2, cells := 0, slots := 0, locals := 62 } : Room) (va_Pc [.ref (ad 14 0 0), .ref (ad 13 l1 0), .int (iI l2), .int (iI l3), .long (lI l4), .long (lI l6)] (zPre D ca ad lnM nM L aS vS F B sz)) (Q_M_column D ca ad L r F9 B9 (zA L sz)) 0 0 (zA L sz) := by
  refine zMet (Qc := Q_M_column D ca ad L r F9 B9) (lv := [(0, .ref (ad 14 0 0)), (1, .ref (ad 13 l1 0)), (2, .int (iI l2)), (3, .int (iI l3)), (4, .long (lI l4)), (6, .long (lI l6))]) (by decide) (Nat.le_of_ble_eq_true rfl) rfl (fun A p e s m below meth c ls X hZ hS hl => ?_)
  obtain ⟨hx, hb, hr, hml, hown, hts, hlk, hK, hA, hL, hX⟩ := id X
  replace hf : (if 0 ≤ l1 ∧ l1 < 3 then if 0 ≤ l2 ∧ l2 < 101 then f_M_column_11 K K (B 13 l1 42 l2) l3 l1 l2 l3 l4 l6 F B else none else none) = some (r, F9, B9) := hf
  refine lv_iload_n hx hb (D_29 W_prog_15_method_103_code_0 0 rfl rfl) rfl (lv_at hl 3 rfl) ?_
  refine lv_istore (lv' := [(8, .int (iI l3)), (0, .ref (ad 14 0 0)), (1, .ref (ad 13 l1 0)), (2, .int (iI l2)), (3, .int (iI l3)), (4, .long (lI l4)), (6, .long (lI l6))]) hx hb (D_54 W_prog_15_method_103_code_0 1 rfl rfl) hl (by decide) rfl (fun ls hl => ?_)
  refine lv_aload_n hx hb (D_43 W_prog_15_method_103_code_0 3 rfl rfl) rfl (lv_at hl 2 rfl) ?_
  obtain ⟨g1, hf⟩ := gif hf
  refine zget (ci := 13) (C := RX13) (T := TX13) (v := .ref (ad 13 l1 (42 + 1))) (k := 42) hx hb hts inW_13 hown hK hZ g1.1 g1.2 rfl (by decide) k_9_202 rfl (D_180 W_prog_15_method_103_code_0 4 rfl rfl rfl) ?_
  refine lv_iload_n hx hb (D_28 W_prog_15_method_103_code_0 7 rfl rfl) rfl (lv_at hl 3 rfl) ?_
  obtain ⟨g2, hf⟩ := gif hf
  refine zald (ci := 13) (k := 42) hx hb hK rfl hZ g1.1 g1.2 rfl (Nat.le_of_ble_eq_true rfl) g2.1 g2.2 (D_46 W_prog_15_method_103_code_0 8 rfl rfl) ?_
  refine lv_istore (lv' := [(9, .int (iI (B 13 l1 42 l2))), (8, .int (iI l3)), (0, .ref (ad 14 0 0)), (1, .ref (ad 13 l1 0)), (2, .int (iI l2)), (3, .int (iI l3)), (4, .long (lI l4)), (6, .long (lI l6))]) hx hb (D_54 W_prog_15_method_103_code_0 9 rfl rfl) hl (by decide) rfl (fun ls hl => ?_)
  exact b_M_column_11 X hf hZ hS (lv_sub hl [0, 1, 3, 4, 5, 6, 7] rfl)

abbrev Q_M_wide (D : va_G) (ca : Nat → ClassId) (ad : Nat → Int → Nat → Nat) (L : List Nat) (r : Int) (F : zF) (B : zB) (A : Nat → Prop) : Array Value → State → Outcome → State → Prop := va_Qi (S := Unit) (fun p _ => p = iI r) (fun _ => zPo D ca ad lnM nM L F B A) A
def f_M_wide_278 (K : Nat) (l8 : Int) (s0 : Int) (s1 : Int) (F : zF) (B : zB) : zO := some ((s0 + s1) + (3 * l8), F, B)
set_option maxHeartbeats 4000000 in
set_option maxRecDepth 100000 in
theorem b_M_wide_278 {D : va_G} {ca : Nat → ClassId} {ad : Nat → Int → Nat → Nat} {L : List Nat} {aS vS : Nat → Nat} {A : Nat → Prop} {p : Program} {l : Launch} {e : Env} {s : State} {m : MethodId} {args : Array Value} {below : List Frame} {meth : Method} {c : Code} {K : Nat} {r : Int} {F9 : zF} {B9 : zB} (X : zX D ca L aS vS A p s m args meth c prog_15_method_104_code 13 (Option.some Jvm.ClassFile.FieldType.int) "StaveHouseModel") {l8 : Int} {s0 : Int} {s1 : Int} {F : zF} {B : zB} {H : Heap} {locs : List Loc} {ls : Array Slot} (hf : f_M_wide_278 K l8 s0 s1 F B = some (r, F9, B9)) (hZ : zH D ca ad lnM nM L F B A H) (hS : va_S A s.heap H locs) (hl : lv_has ls 13 [(8, .int (iI l8))]) : W p l e ({ frames := 3, cells := 0, slots := 0, locals := 85 } : Room) s m args below meth c H locs 0 0 (MQ below (Q_M_wide D ca ad L r F9 B9 A) args s 0 0 A) (F0 m 278 ls [.int (iI s1), .int (iI s0)]) := by
  obtain ⟨hx, hb, hr, hml, hown, hts, hlk, hK, hA, hL, hX⟩ := id X
  replace hf : (some ((s0 + s1) + (3 * l8), F, B)) = some (r, F9, B9) := hf
  refine zadd hx hb (D_96 W_prog_15_method_104_code_256 22 rfl rfl) ?_
  refine lv_iconst (v := iI 3) hx hb (D_6 W_prog_15_method_104_code_256 23 rfl rfl) rfl ?_
  refine lv_iload hx hb (D_21 W_prog_15_method_104_code_256 24 rfl rfl) (lv_at hl 0 rfl) ?_
  refine zmul hx hb (D_104 W_prog_15_method_104_code_256 26 rfl rfl) ?_
  refine zadd hx hb (D_96 W_prog_15_method_104_code_256 27 rfl rfl) ?_
  cases hf
  exact W.iret hx hb hr (fun t ht hW => ⟨⟨_, (), rfl, rfl, by rw [ht]; exact hZ, va_K.moved hW.alike hK⟩, hS.F ht⟩) hS.2.2 (D_172 W_prog_15_method_104_code_256 28 rfl rfl) hlk

def f_M_wide_248 (rec122 : Int → Int → Int → Int → Int → Int → Int → zF → zB → zO) (rec134 : Int → Int → Int → Int → Int → Int → Int → Int → zF → zB → zO) (K : Nat) (l11 : Int) (l10 : Int) (l9 : Int) (l8 : Int) (l7 : Int) (l1 : Int) (l2 : Int) (l3 : Int) (F : zF) (B : zB) : zO := rec134 (l11 + 1) l10 l9 l8 l7 l1 l2 l3 F B
set_option maxHeartbeats 4000000 in
set_option maxRecDepth 100000 in
theorem b_M_wide_248 {D : va_G} {ca : Nat → ClassId} {ad : Nat → Int → Nat → Nat} {L : List Nat} {aS vS : Nat → Nat} {A : Nat → Prop} {p : Program} {l : Launch} {e : Env} {s : State} {m : MethodId} {args : Array Value} {below : List Frame} {meth : Method} {c : Code} {K : Nat} {r : Int} {F9 : zF} {B9 : zB} (X : zX D ca L aS vS A p s m args meth c prog_15_method_104_code 13 (Option.some Jvm.ClassFile.FieldType.int) "StaveHouseModel") {rec122 : Int → Int → Int → Int → Int → Int → Int → zF → zB → zO} {rec134 : Int → Int → Int → Int → Int → Int → Int → Int → zF → zB → zO} (hrec122 : ∀ {l10 : Int} {l9 : Int} {l8 : Int} {l7 : Int} {l1 : Int} {l2 : Int} {l3 : Int} {F : zF} {B : zB} {H : Heap} {locs : List Loc} {ls : Array Slot}, rec122 l10 l9 l8 l7 l1 l2 l3 F B = some (r, F9, B9) → zH D ca ad lnM nM L F B A H → va_S A s.heap H locs → lv_has ls 13 [(10, .int (iI l10)), (9, .int (iI l9)), (8, .int (iI l8)), (7, .int (iI l7)), (1, .ref (ad 13 l1 0)), (2, .int (iI l2)), (3, .int (iI l3))] → W p l e ({ frames := 3, cells := 0, slots := 0, locals := 85 } : Room) s m args below meth c H locs 0 0 (MQ below (Q_M_wide D ca ad L r F9 B9 A) args s 0 0 A) (F0 m 122 ls [])) (hrec134 : ∀ {l11 : Int} {l10 : Int} {l9 : Int} {l8 : Int} {l7 : Int} {l1 : Int} {l2 : Int} {l3 : Int} {F : zF} {B : zB} {H : Heap} {locs : List Loc} {ls : Array Slot}, rec134 l11 l10 l9 l8 l7 l1 l2 l3 F B = some (r, F9, B9) → zH D ca ad lnM nM L F B A H → va_S A s.heap H locs → lv_has ls 13 [(11, .int (iI l11)), (10, .int (iI l10)), (9, .int (iI l9)), (8, .int (iI l8)), (7, .int (iI l7)), (1, .ref (ad 13 l1 0)), (2, .int (iI l2)), (3, .int (iI l3))] → W p l e ({ frames := 3, cells := 0, slots := 0, locals := 85 } : Room) s m args below meth c H locs 0 0 (MQ below (Q_M_wide D ca ad L r F9 B9 A) args s 0 0 A) (F0 m 134 ls [])) {l11 : Int} {l10 : Int} {l9 : Int} {l8 : Int} {l7 : Int} {l1 : Int} {l2 : Int} {l3 : Int} {F : zF} {B : zB} {H : Heap} {locs : List Loc} {ls : Array Slot} (hf : f_M_wide_248 rec122 rec134 K l11 l10 l9 l8 l7 l1 l2 l3 F B = some (r, F9, B9)) (hZ : zH D ca ad lnM nM L F B A H) (hS : va_S A s.heap H locs) (hl : lv_has ls 13 [(11, .int (iI l11)), (10, .int (iI l10)), (9, .int (iI l9)), (8, .int (iI l8)), (7, .int (iI l7)), (1, .ref (ad 13 l1 0)), (2, .int (iI l2)), (3, .int (iI l3))]) : W p l e ({ frames := 3, cells := 0, slots := 0, locals := 85 } : Room) s m args below meth c H locs 0 0 (MQ below (Q_M_wide D ca ad L r F9 B9 A) args s 0 0 A) (F0 m 248 ls []) := by
  obtain ⟨hx, hb, hr, hml, hown, hts, hlk, hK, hA, hL, hX⟩ := id X
  replace hf : (rec134 (l11 + 1) l10 l9 l8 l7 l1 l2 l3 F B) = some (r, F9, B9) := hf
  refine lv_iinc (v := iI (l11 + 1)) (lv' := [(11, .int (iI (l11 + 1))), (10, .int (iI l10)), (9, .int (iI l9)), (8, .int (iI l8)), (7, .int (iI l7)), (1, .ref (ad 13 l1 0)), (2, .int (iI l2)), (3, .int (iI l3))]) hx hb d_15_104_248 hl (k := 0) rfl (iI_add _ 1) (by decide) rfl (fun ls hl => ?_)
  refine lv_goto (tgt := 134) hx hb (D_167 W_prog_15_method_104_code_224 27 rfl rfl rfl) (by decide) ?_
  exact hrec134 hf hZ hS (lv_sub hl [0, 1, 2, 3, 4, 5, 6, 7] rfl)

def f_M_wide_225 (rec122 : Int → Int → Int → Int → Int → Int → Int → zF → zB → zO) (rec134 : Int → Int → Int → Int → Int → Int → Int → Int → zF → zB → zO) (K : Nat) (l12 : Int) (l11 : Int) (l10 : Int) (l8 : Int) (l7 : Int) (l1 : Int) (l2 : Int) (l3 : Int) (s0 : Int) (F : zF) (B : zB) : zO := if 0 ≤ l1 ∧ l1 < 3 then if 0 ≤ l12 ∧ l12 < 3200 then if r32 (B 13 l1 35 l12) then if r32 l8 then (if (B 13 l1 35 l12) ≤ l8 then f_M_wide_248 rec122 rec134 K l11 l10 s0 l8 l7 l1 l2 l3 F B else f_M_wide_248 rec122 rec134 K l11 l10 s0 (B 13 l1 35 l12) l7 l1 l2 l3 F B) else none else none else none else none
set_option maxHeartbeats 4000000 in
set_option maxRecDepth 100000 in
theorem b_M_wide_225 {D : va_G} {ca : Nat → ClassId} {ad : Nat → Int → Nat → Nat} {L : List Nat} {aS vS : Nat → Nat} {A : Nat → Prop} {p : Program} {l : Launch} {e : Env} {s : State} {m : MethodId} {args : Array Value} {below : List Frame} {meth : Method} {c : Code} {K : Nat} {r : Int} {F9 : zF} {B9 : zB} (X : zX D ca L aS vS A p s m args meth c prog_15_method_104_code 13 (Option.some Jvm.ClassFile.FieldType.int) "StaveHouseModel") {rec122 : Int → Int → Int → Int → Int → Int → Int → zF → zB → zO} {rec134 : Int → Int → Int → Int → Int → Int → Int → Int → zF → zB → zO} (hrec122 : ∀ {l10 : Int} {l9 : Int} {l8 : Int} {l7 : Int} {l1 : Int} {l2 : Int} {l3 : Int} {F : zF} {B : zB} {H : Heap} {locs : List Loc} {ls : Array Slot}, rec122 l10 l9 l8 l7 l1 l2 l3 F B = some (r, F9, B9) → zH D ca ad lnM nM L F B A H → va_S A s.heap H locs → lv_has ls 13 [(10, .int (iI l10)), (9, .int (iI l9)), (8, .int (iI l8)), (7, .int (iI l7)), (1, .ref (ad 13 l1 0)), (2, .int (iI l2)), (3, .int (iI l3))] → W p l e ({ frames := 3, cells := 0, slots := 0, locals := 85 } : Room) s m args below meth c H locs 0 0 (MQ below (Q_M_wide D ca ad L r F9 B9 A) args s 0 0 A) (F0 m 122 ls [])) (hrec134 : ∀ {l11 : Int} {l10 : Int} {l9 : Int} {l8 : Int} {l7 : Int} {l1 : Int} {l2 : Int} {l3 : Int} {F : zF} {B : zB} {H : Heap} {locs : List Loc} {ls : Array Slot}, rec134 l11 l10 l9 l8 l7 l1 l2 l3 F B = some (r, F9, B9) → zH D ca ad lnM nM L F B A H → va_S A s.heap H locs → lv_has ls 13 [(11, .int (iI l11)), (10, .int (iI l10)), (9, .int (iI l9)), (8, .int (iI l8)), (7, .int (iI l7)), (1, .ref (ad 13 l1 0)), (2, .int (iI l2)), (3, .int (iI l3))] → W p l e ({ frames := 3, cells := 0, slots := 0, locals := 85 } : Room) s m args below meth c H locs 0 0 (MQ below (Q_M_wide D ca ad L r F9 B9 A) args s 0 0 A) (F0 m 134 ls [])) {l12 : Int} {l11 : Int} {l10 : Int} {l8 : Int} {l7 : Int} {l1 : Int} {l2 : Int} {l3 : Int} {s0 : Int} {F : zF} {B : zB} {H : Heap} {locs : List Loc} {ls : Array Slot} (hf : f_M_wide_225 rec122 rec134 K l12 l11 l10 l8 l7 l1 l2 l3 s0 F B = some (r, F9, B9)) (hZ : zH D ca ad lnM nM L F B A H) (hS : va_S A s.heap H locs) (hl : lv_has ls 13 [(12, .int (iI l12)), (11, .int (iI l11)), (10, .int (iI l10)), (8, .int (iI l8)), (7, .int (iI l7)), (1, .ref (ad 13 l1 0)), (2, .int (iI l2)), (3, .int (iI l3))]) : W p l e ({ frames := 3, cells := 0, slots := 0, locals := 85 } : Room) s m args below meth c H locs 0 0 (MQ below (Q_M_wide D ca ad L r F9 B9 A) args s 0 0 A) (F0 m 225 ls [.int (iI s0)]) := by
  obtain ⟨hx, hb, hr, hml, hown, hts, hlk, hK, hA, hL, hX⟩ := id X
  replace hf : (if 0 ≤ l1 ∧ l1 < 3 then if 0 ≤ l12 ∧ l12 < 3200 then if r32 (B 13 l1 35 l12) then if r32 l8 then (if (B 13 l1 35 l12) ≤ l8 then f_M_wide_248 rec122 rec134 K l11 l10 s0 l8 l7 l1 l2 l3 F B else f_M_wide_248 rec122 rec134 K l11 l10 s0 (B 13 l1 35 l12) l7 l1 l2 l3 F B) else none else none else none else none) = some (r, F9, B9) := hf
  refine lv_istore (lv' := [(9, .int (iI s0)), (12, .int (iI l12)), (11, .int (iI l11)), (10, .int (iI l10)), (8, .int (iI l8)), (7, .int (iI l7)), (1, .ref (ad 13 l1 0)), (2, .int (iI l2)), (3, .int (iI l3))]) hx hb (D_54 W_prog_15_method_104_code_224 1 rfl rfl) hl (by decide) rfl (fun ls hl => ?_)
  refine lv_aload_n hx hb (D_43 W_prog_15_method_104_code_224 3 rfl rfl) rfl (lv_at hl 6 rfl) ?_
  obtain ⟨g51, hf⟩ := gif hf
  refine zget (ci := 13) (C := RX13) (T := TX13) (v := .ref (ad 13 l1 (35 + 1))) (k := 35) hx hb hts inW_13 hown hK hZ g51.1 g51.2 rfl (by decide) k_9_188 rfl (D_180 W_prog_15_method_104_code_224 4 rfl rfl rfl) ?_
  refine lv_iload hx hb (D_21 W_prog_15_method_104_code_224 7 rfl rfl) (lv_at hl 1 rfl) ?_
  obtain ⟨g52, hf⟩ := gif hf
  refine zald (ci := 13) (k := 35) hx hb hK rfl hZ g51.1 g51.2 rfl (Nat.le_of_ble_eq_true rfl) g52.1 g52.2 (D_46 W_prog_15_method_104_code_224 9 rfl rfl) ?_
  refine lv_iload hx hb (D_21 W_prog_15_method_104_code_224 10 rfl rfl) (lv_at hl 4 rfl) ?_
  obtain ⟨g53, hf⟩ := gif hf
  obtain ⟨g54, hf⟩ := gif hf
  refine zle (tgt := 248) hx hb g53 g54 (D_164 W_prog_15_method_104_code_224 12 rfl rfl rfl) (by decide) (fun h55 => ?_) (fun h55 => ?_)
  · replace hf := gpos hf h55
    exact b_M_wide_248 X hrec122 hrec134 hf hZ hS (lv_sub hl [2, 3, 0, 4, 5, 6, 7, 8] rfl)
  · replace hf := gneg hf h55
    refine lv_aload_n hx hb (D_43 W_prog_15_method_104_code_224 15 rfl rfl) rfl (lv_at hl 6 rfl) ?_
    refine zget (ci := 13) (C := RX13) (T := TX13) (v := .ref (ad 13 l1 (35 + 1))) (k := 35) hx hb hts inW_13 hown hK hZ g51.1 g51.2 rfl (by decide) k_9_188 rfl (D_180 W_prog_15_method_104_code_224 16 rfl rfl rfl) ?_
    refine lv_iload hx hb (D_21 W_prog_15_method_104_code_224 19 rfl rfl) (lv_at hl 1 rfl) ?_
    refine zald (ci := 13) (k := 35) hx hb hK rfl hZ g51.1 g51.2 rfl (Nat.le_of_ble_eq_true rfl) g52.1 g52.2 (D_46 W_prog_15_method_104_code_224 21 rfl rfl) ?_
    refine lv_istore (lv' := [(8, .int (iI (B 13 l1 35 l12))), (9, .int (iI s0)), (12, .int (iI l12)), (11, .int (iI l11)), (10, .int (iI l10)), (7, .int (iI l7)), (1, .ref (ad 13 l1 0)), (2, .int (iI l2)), (3, .int (iI l3))]) hx hb (D_54 W_prog_15_method_104_code_224 22 rfl rfl) hl (by decide) rfl (fun ls hl => ?_)
    exact b_M_wide_248 X hrec122 hrec134 hf hZ hS (lv_sub hl [3, 4, 1, 0, 5, 6, 7, 8] rfl)

def f_M_wide_220 (rec122 : Int → Int → Int → Int → Int → Int → Int → zF → zB → zO) (rec134 : Int → Int → Int → Int → Int → Int → Int → Int → zF → zB → zO) (K : Nat) (l12 : Int) (l11 : Int) (l10 : Int) (l8 : Int) (l7 : Int) (l1 : Int) (l2 : Int) (l3 : Int) (F : zF) (B : zB) : zO := f_M_wide_225 rec122 rec134 K l12 l11 l10 l8 l7 l1 l2 l3 1 F B
set_option maxHeartbeats 4000000 in
set_option maxRecDepth 100000 in
theorem b_M_wide_220 {D : va_G} {ca : Nat → ClassId} {ad : Nat → Int → Nat → Nat} {L : List Nat} {aS vS : Nat → Nat} {A : Nat → Prop} {p : Program} {l : Launch} {e : Env} {s : State} {m : MethodId} {args : Array Value} {below : List Frame} {meth : Method} {c : Code} {K : Nat} {r : Int} {F9 : zF} {B9 : zB} (X : zX D ca L aS vS A p s m args meth c prog_15_method_104_code 13 (Option.some Jvm.ClassFile.FieldType.int) "StaveHouseModel") {rec122 : Int → Int → Int → Int → Int → Int → Int → zF → zB → zO} {rec134 : Int → Int → Int → Int → Int → Int → Int → Int → zF → zB → zO} (hrec122 : ∀ {l10 : Int} {l9 : Int} {l8 : Int} {l7 : Int} {l1 : Int} {l2 : Int} {l3 : Int} {F : zF} {B : zB} {H : Heap} {locs : List Loc} {ls : Array Slot}, rec122 l10 l9 l8 l7 l1 l2 l3 F B = some (r, F9, B9) → zH D ca ad lnM nM L F B A H → va_S A s.heap H locs → lv_has ls 13 [(10, .int (iI l10)), (9, .int (iI l9)), (8, .int (iI l8)), (7, .int (iI l7)), (1, .ref (ad 13 l1 0)), (2, .int (iI l2)), (3, .int (iI l3))] → W p l e ({ frames := 3, cells := 0, slots := 0, locals := 85 } : Room) s m args below meth c H locs 0 0 (MQ below (Q_M_wide D ca ad L r F9 B9 A) args s 0 0 A) (F0 m 122 ls [])) (hrec134 : ∀ {l11 : Int} {l10 : Int} {l9 : Int} {l8 : Int} {l7 : Int} {l1 : Int} {l2 : Int} {l3 : Int} {F : zF} {B : zB} {H : Heap} {locs : List Loc} {ls : Array Slot}, rec134 l11 l10 l9 l8 l7 l1 l2 l3 F B = some (r, F9, B9) → zH D ca ad lnM nM L F B A H → va_S A s.heap H locs → lv_has ls 13 [(11, .int (iI l11)), (10, .int (iI l10)), (9, .int (iI l9)), (8, .int (iI l8)), (7, .int (iI l7)), (1, .ref (ad 13 l1 0)), (2, .int (iI l2)), (3, .int (iI l3))] → W p l e ({ frames := 3, cells := 0, slots := 0, locals := 85 } : Room) s m args below meth c H locs 0 0 (MQ below (Q_M_wide D ca ad L r F9 B9 A) args s 0 0 A) (F0 m 134 ls [])) {l12 : Int} {l11 : Int} {l10 : Int} {l8 : Int} {l7 : Int} {l1 : Int} {l2 : Int} {l3 : Int} {F : zF} {B : zB} {H : Heap} {locs : List Loc} {ls : Array Slot} (hf : f_M_wide_220 rec122 rec134 K l12 l11 l10 l8 l7 l1 l2 l3 F B = some (r, F9, B9)) (hZ : zH D ca ad lnM nM L F B A H) (hS : va_S A s.heap H locs) (hl : lv_has ls 13 [(12, .int (iI l12)), (11, .int (iI l11)), (10, .int (iI l10)), (8, .int (iI l8)), (7, .int (iI l7)), (1, .ref (ad 13 l1 0)), (2, .int (iI l2)), (3, .int (iI l3))]) : W p l e ({ frames := 3, cells := 0, slots := 0, locals := 85 } : Room) s m args below meth c H locs 0 0 (MQ below (Q_M_wide D ca ad L r F9 B9 A) args s 0 0 A) (F0 m 220 ls []) := by
  obtain ⟨hx, hb, hr, hml, hown, hts, hlk, hK, hA, hL, hX⟩ := id X
  replace hf : (f_M_wide_225 rec122 rec134 K l12 l11 l10 l8 l7 l1 l2 l3 1 F B) = some (r, F9, B9) := hf
  refine lv_iconst (v := iI 1) hx hb (D_4 W_prog_15_method_104_code_192 28 rfl rfl) rfl ?_
  refine lv_goto (tgt := 225) hx hb (D_167 W_prog_15_method_104_code_192 29 rfl rfl rfl) (by decide) ?_
  exact b_M_wide_225 X hrec122 hrec134 hf hZ hS (lv_sub hl [0, 1, 2, 3, 4, 5, 6, 7] rfl)

def f_M_wide_134 (rec122 : Int → Int → Int → Int → Int → Int → Int → zF → zB → zO) (K : Nat) : Nat → Int → Int → Int → Int → Int → Int → Int → Int → zF → zB → zO
  | 0, _, _, _, _, _, _, _, _, _, _ => none
  | n + 1, l11, l10, l9, l8, l7, l1, l2, l3, F, B => if 0 ≤ l1 ∧ l1 < 3 then if 0 ≤ l10 ∧ l10 < 4 then if r32 l11 then if r32 (B 13 l1 13 l10) then (if (B 13 l1 13 l10) ≤ l11 then rec122 (l10 + 1) l9 l8 l7 l1 l2 l3 F B else if 0 ≤ ((800 * l10) + l11) ∧ ((800 * l10) + l11) < 3200 then if r32 (B 13 l1 31 ((800 * l10) + l11)) then if r32 l2 then (if (B 13 l1 31 ((800 * l10) + l11)) = l2 then if 0 ≤ l3 ∧ l3 < 3200 then if r64 (B 13 l1 32 ((800 * l10) + l11)) then if r64 (B 13 l1 43 l3) then (if (zcmp (B 13 l1 32 ((800 * l10) + l11)) (B 13 l1 43 l3)) = 0 then if r64 (B 13 l1 33 ((800 * l10) + l11)) then if r64 (B 13 l1 44 l3) then (if (zcmp (B 13 l1 33 ((800 * l10) + l11)) (B 13 l1 44 l3)) = 0 then if r32 l9 then (if l9 = 0 then if r32 (B 13 l1 37 ((800 * l10) + l11)) then (if (B 13 l1 37 ((800 * l10) + l11)) ≤ 0 then f_M_wide_225 rec122 (f_M_wide_134 rec122 K n) K ((800 * l10) + l11) l11 l10 l8 l7 l1 l2 l3 0 F B else f_M_wide_220 rec122 (f_M_wide_134 rec122 K n) K ((800 * l10) + l11) l11 l10 l8 l7 l1 l2 l3 F B) else none else f_M_wide_220 rec122 (f_M_wide_134 rec122 K n) K ((800 * l10) + l11) l11 l10 l8 l7 l1 l2 l3 F B) else none else f_M_wide_248 rec122 (f_M_wide_134 rec122 K n) K l11 l10 l9 l8 l7 l1 l2 l3 F B) else none else none else f_M_wide_248 rec122 (f_M_wide_134 rec122 K n) K l11 l10 l9 l8 l7 l1 l2 l3 F B) else none else none else none else f_M_wide_248 rec122 (f_M_wide_134 rec122 K n) K l11 l10 l9 l8 l7 l1 l2 l3 F B) else none else none else none) else none else none else none else none
set_option maxHeartbeats 4000000 in
set_option maxRecDepth 100000 in
theorem b_M_wide_134 {D : va_G} {ca : Nat → ClassId} {ad : Nat → Int → Nat → Nat} {L : List Nat} {aS vS : Nat → Nat} {A : Nat → Prop} {p : Program} {l : Launch} {e : Env} {s : State} {m : MethodId} {args : Array Value} {below : List Frame} {meth : Method} {c : Code} {K : Nat} {r : Int} {F9 : zF} {B9 : zB} (X : zX D ca L aS vS A p s m args meth c prog_15_method_104_code 13 (Option.some Jvm.ClassFile.FieldType.int) "StaveHouseModel") {rec122 : Int → Int → Int → Int → Int → Int → Int → zF → zB → zO} (hrec122 : ∀ {l10 : Int} {l9 : Int} {l8 : Int} {l7 : Int} {l1 : Int} {l2 : Int} {l3 : Int} {F : zF} {B : zB} {H : Heap} {locs : List Loc} {ls : Array Slot}, rec122 l10 l9 l8 l7 l1 l2 l3 F B = some (r, F9, B9) → zH D ca ad lnM nM L F B A H → va_S A s.heap H locs → lv_has ls 13 [(10, .int (iI l10)), (9, .int (iI l9)), (8, .int (iI l8)), (7, .int (iI l7)), (1, .ref (ad 13 l1 0)), (2, .int (iI l2)), (3, .int (iI l3))] → W p l e ({ frames := 3, cells := 0, slots := 0, locals := 85 } : Room) s m args below meth c H locs 0 0 (MQ below (Q_M_wide D ca ad L r F9 B9 A) args s 0 0 A) (F0 m 122 ls [])) : ∀ {n : Nat} {l11 : Int} {l10 : Int} {l9 : Int} {l8 : Int} {l7 : Int} {l1 : Int} {l2 : Int} {l3 : Int} {F : zF} {B : zB} {H : Heap} {locs : List Loc} {ls : Array Slot}, f_M_wide_134 rec122 K n l11 l10 l9 l8 l7 l1 l2 l3 F B = some (r, F9, B9) → zH D ca ad lnM nM L F B A H → va_S A s.heap H locs → lv_has ls 13 [(11, .int (iI l11)), (10, .int (iI l10)), (9, .int (iI l9)), (8, .int (iI l8)), (7, .int (iI l7)), (1, .ref (ad 13 l1 0)), (2, .int (iI l2)), (3, .int (iI l3))] → W p l e ({ frames := 3, cells := 0, slots := 0, locals := 85 } : Room) s m args below meth c H locs 0 0 (MQ below (Q_M_wide D ca ad L r F9 B9 A) args s 0 0 A) (F0 m 134 ls []) := by
  obtain ⟨hx, hb, hr, hml, hown, hts, hlk, hK, hA, hL, hX⟩ := id X
  intro n
  induction n with
  | zero =>
    intros
    rename_i hf _ _ _
    cases hf
  | succ n ih =>
    intro l11 l10 l9 l8 l7 l1 l2 l3 F B H locs ls hf hZ hS hl
    replace hf : (if 0 ≤ l1 ∧ l1 < 3 then if 0 ≤ l10 ∧ l10 < 4 then if r32 l11 then if r32 (B 13 l1 13 l10) then (if (B 13 l1 13 l10) ≤ l11 then rec122 (l10 + 1) l9 l8 l7 l1 l2 l3 F B else if 0 ≤ ((800 * l10) + l11) ∧ ((800 * l10) + l11) < 3200 then if r32 (B 13 l1 31 ((800 * l10) + l11)) then if r32 l2 then (if (B 13 l1 31 ((800 * l10) + l11)) = l2 then if 0 ≤ l3 ∧ l3 < 3200 then if r64 (B 13 l1 32 ((800 * l10) + l11)) then if r64 (B 13 l1 43 l3) then (if (zcmp (B 13 l1 32 ((800 * l10) + l11)) (B 13 l1 43 l3)) = 0 then if r64 (B 13 l1 33 ((800 * l10) + l11)) then if r64 (B 13 l1 44 l3) then (if (zcmp (B 13 l1 33 ((800 * l10) + l11)) (B 13 l1 44 l3)) = 0 then if r32 l9 then (if l9 = 0 then if r32 (B 13 l1 37 ((800 * l10) + l11)) then (if (B 13 l1 37 ((800 * l10) + l11)) ≤ 0 then f_M_wide_225 rec122 (f_M_wide_134 rec122 K n) K ((800 * l10) + l11) l11 l10 l8 l7 l1 l2 l3 0 F B else f_M_wide_220 rec122 (f_M_wide_134 rec122 K n) K ((800 * l10) + l11) l11 l10 l8 l7 l1 l2 l3 F B) else none else f_M_wide_220 rec122 (f_M_wide_134 rec122 K n) K ((800 * l10) + l11) l11 l10 l8 l7 l1 l2 l3 F B) else none else f_M_wide_248 rec122 (f_M_wide_134 rec122 K n) K l11 l10 l9 l8 l7 l1 l2 l3 F B) else none else none else f_M_wide_248 rec122 (f_M_wide_134 rec122 K n) K l11 l10 l9 l8 l7 l1 l2 l3 F B) else none else none else none else f_M_wide_248 rec122 (f_M_wide_134 rec122 K n) K l11 l10 l9 l8 l7 l1 l2 l3 F B) else none else none else none) else none else none else none else none) = some (r, F9, B9) := hf
    refine lv_iload hx hb (D_21 W_prog_15_method_104_code_128 6 rfl rfl) (lv_at hl 0 rfl) ?_
    refine lv_aload_n hx hb (D_43 W_prog_15_method_104_code_128 8 rfl rfl) rfl (lv_at hl 5 rfl) ?_
    obtain ⟨g30, hf⟩ := gif hf
    refine zget (ci := 13) (C := RX13) (T := TX13) (v := .ref (ad 13 l1 (13 + 1))) (k := 13) hx hb hts inW_13 hown hK hZ g30.1 g30.2 rfl (by decide) k_9_144 rfl (D_180 W_prog_15_method_104_code_128 9 rfl rfl rfl) ?_
    refine lv_iload hx hb (D_21 W_prog_15_method_104_code_128 12 rfl rfl) (lv_at hl 1 rfl) ?_
    obtain ⟨g31, hf⟩ := gif hf
    refine zald (ci := 13) (k := 13) hx hb hK rfl hZ g30.1 g30.2 rfl (Nat.le_of_ble_eq_true rfl) g31.1 g31.2 (D_46 W_prog_15_method_104_code_128 14 rfl rfl) ?_
    obtain ⟨g33, hf⟩ := gif hf
    obtain ⟨g34, hf⟩ := gif hf
    refine zge (tgt := 254) hx hb g33 g34 (D_162 W_prog_15_method_104_code_128 15 rfl rfl rfl) (by decide) (fun h35 => ?_) (fun h35 => ?_)
    · replace hf := gpos hf h35
      refine lv_iinc (v := iI (l10 + 1)) (lv' := [(10, .int (iI (l10 + 1))), (11, .int (iI l11)), (9, .int (iI l9)), (8, .int (iI l8)), (7, .int (iI l7)), (1, .ref (ad 13 l1 0)), (2, .int (iI l2)), (3, .int (iI l3))]) hx hb d_15_104_254 hl (k := 1) rfl (iI_add _ 1) (by decide) rfl (fun ls hl => ?_)
      refine lv_goto (tgt := 122) hx hb (D_167 W_prog_15_method_104_code_256 1 rfl rfl rfl) (by decide) ?_
      exact hrec122 hf hZ hS (lv_sub hl [0, 2, 3, 4, 5, 6, 7] rfl)
    · replace hf := gneg hf h35
      refine lv_sipush (v := iI 800) hx hb (D_17 W_prog_15_method_104_code_128 18 rfl rfl rfl) (by decide) ?_
      refine lv_iload hx hb (D_21 W_prog_15_method_104_code_128 21 rfl rfl) (lv_at hl 1 rfl) ?_
      refine zmul hx hb (D_104 W_prog_15_method_104_code_128 23 rfl rfl) ?_
      refine lv_iload hx hb (D_21 W_prog_15_method_104_code_128 24 rfl rfl) (lv_at hl 0 rfl) ?_
      refine zadd hx hb (D_96 W_prog_15_method_104_code_128 26 rfl rfl) ?_
      refine lv_istore (lv' := [(12, .int (iI ((800 * l10) + l11))), (11, .int (iI l11)), (10, .int (iI l10)), (9, .int (iI l9)), (8, .int (iI l8)), (7, .int (iI l7)), (1, .ref (ad 13 l1 0)), (2, .int (iI l2)), (3, .int (iI l3))]) hx hb (D_54 W_prog_15_method_104_code_128 27 rfl rfl) hl (by decide) rfl (fun ls hl => ?_)
      refine lv_aload_n hx hb (D_43 W_prog_15_method_104_code_128 29 rfl rfl) rfl (lv_at hl 6 rfl) ?_
      refine zget (ci := 13) (C := RX13) (T := TX13) (v := .ref (ad 13 l1 (31 + 1))) (k := 31) hx hb hts inW_13 hown hK hZ g30.1 g30.2 rfl (by decide) k_9_180 rfl (D_180 W_prog_15_method_104_code_128 30 rfl rfl rfl) ?_
      refine lv_iload hx hb (D_21 W_prog_15_method_104_code_160 1 rfl rfl) (lv_at hl 0 rfl) ?_
      obtain ⟨g36, hf⟩ := gif hf
      refine zald (ci := 13) (k := 31) hx hb hK rfl hZ g30.1 g30.2 rfl (Nat.le_of_ble_eq_true rfl) g36.1 g36.2 (D_46 W_prog_15_method_104_code_160 3 rfl rfl) ?_
      refine lv_iload_n hx hb (D_28 W_prog_15_method_104_code_160 4 rfl rfl) rfl (lv_at hl 7 rfl) ?_
      obtain ⟨g37, hf⟩ := gif hf
      obtain ⟨g38, hf⟩ := gif hf
      refine zne (tgt := 248) hx hb g37 g38 (D_160 W_prog_15_method_104_code_160 5 rfl rfl rfl) (by decide) (fun h39 => ?_) (fun h39 => ?_)
      · replace hf := gneg hf h39
        exact b_M_wide_248 X hrec122 ih hf hZ hS (lv_sub hl [1, 2, 3, 4, 5, 6, 7, 8] rfl)
      · replace hf := gpos hf h39
        refine lv_aload_n hx hb (D_43 W_prog_15_method_104_code_160 8 rfl rfl) rfl (lv_at hl 6 rfl) ?_
        refine zget (ci := 13) (C := RX13) (T := TX13) (v := .ref (ad 13 l1 (32 + 1))) (k := 32) hx hb hts inW_13 hown hK hZ g30.1 g30.2 rfl (by decide) k_9_182 rfl (D_180 W_prog_15_method_104_code_160 9 rfl rfl rfl) ?_
        refine lv_iload hx hb (D_21 W_prog_15_method_104_code_160 12 rfl rfl) (lv_at hl 0 rfl) ?_
        refine zlald (ci := 13) (k := 32) hx hb hK rfl hZ g30.1 g30.2 rfl (Nat.le_of_ble_eq_true rfl) g36.1 g36.2 (D_47 W_prog_15_method_104_code_160 14 rfl rfl) ?_
        refine lv_aload_n hx hb (D_43 W_prog_15_method_104_code_160 15 rfl rfl) rfl (lv_at hl 6 rfl) ?_
        refine zget (ci := 13) (C := RX13) (T := TX13) (v := .ref (ad 13 l1 (43 + 1))) (k := 43) hx hb hts inW_13 hown hK hZ g30.1 g30.2 rfl (by decide) k_9_204 rfl (D_180 W_prog_15_method_104_code_160 16 rfl rfl rfl) ?_
        refine lv_iload_n hx hb (D_29 W_prog_15_method_104_code_160 19 rfl rfl) rfl (lv_at hl 8 rfl) ?_
        obtain ⟨g40, hf⟩ := gif hf
        refine zlald (ci := 13) (k := 43) hx hb hK rfl hZ g30.1 g30.2 rfl (Nat.le_of_ble_eq_true rfl) g40.1 g40.2 (D_47 W_prog_15_method_104_code_160 20 rfl rfl) ?_
        obtain ⟨g41, hf⟩ := gif hf
        obtain ⟨g42, hf⟩ := gif hf
        refine zcmp_r hx hb g41 g42 (D_148 W_prog_15_method_104_code_160 21 rfl rfl) ?_
        refine z0ne (tgt := 248) hx hb zcmp_32 (D_154 W_prog_15_method_104_code_160 22 rfl rfl rfl) (by decide) (fun h43 => ?_) (fun h43 => ?_)
        · replace hf := gneg hf h43
          exact b_M_wide_248 X hrec122 ih hf hZ hS (lv_sub hl [1, 2, 3, 4, 5, 6, 7, 8] rfl)
        · replace hf := gpos hf h43
          refine lv_aload_n hx hb (D_43 W_prog_15_method_104_code_160 25 rfl rfl) rfl (lv_at hl 6 rfl) ?_
          refine zget (ci := 13) (C := RX13) (T := TX13) (v := .ref (ad 13 l1 (33 + 1))) (k := 33) hx hb hts inW_13 hown hK hZ g30.1 g30.2 rfl (by decide) k_9_184 rfl (D_180 W_prog_15_method_104_code_160 26 rfl rfl rfl) ?_
          refine lv_iload hx hb (D_21 W_prog_15_method_104_code_160 29 rfl rfl) (lv_at hl 0 rfl) ?_
          refine zlald (ci := 13) (k := 33) hx hb hK rfl hZ g30.1 g30.2 rfl (Nat.le_of_ble_eq_true rfl) g36.1 g36.2 (D_47 W_prog_15_method_104_code_160 31 rfl rfl) ?_
          refine lv_aload_n hx hb (D_43 W_prog_15_method_104_code_192 0 rfl rfl) rfl (lv_at hl 6 rfl) ?_
          refine zget (ci := 13) (C := RX13) (T := TX13) (v := .ref (ad 13 l1 (44 + 1))) (k := 44) hx hb hts inW_13 hown hK hZ g30.1 g30.2 rfl (by decide) k_9_206 rfl (D_180 W_prog_15_method_104_code_192 1 rfl rfl rfl) ?_
          refine lv_iload_n hx hb (D_29 W_prog_15_method_104_code_192 4 rfl rfl) rfl (lv_at hl 8 rfl) ?_
          refine zlald (ci := 13) (k := 44) hx hb hK rfl hZ g30.1 g30.2 rfl (Nat.le_of_ble_eq_true rfl) g40.1 g40.2 (D_47 W_prog_15_method_104_code_192 5 rfl rfl) ?_
          obtain ⟨g44, hf⟩ := gif hf
          obtain ⟨g45, hf⟩ := gif hf
          refine zcmp_r hx hb g44 g45 (D_148 W_prog_15_method_104_code_192 6 rfl rfl) ?_
          refine z0eq (tgt := 205) hx hb zcmp_32 (D_153 W_prog_15_method_104_code_192 7 rfl rfl rfl) (by decide) (fun h46 => ?_) (fun h46 => ?_)
          · replace hf := gpos hf h46
            refine lv_iload hx hb (D_21 W_prog_15_method_104_code_192 13 rfl rfl) (lv_at hl 3 rfl) ?_
            obtain ⟨g47, hf⟩ := gif hf
            refine z0ne (tgt := 220) hx hb g47 (D_154 W_prog_15_method_104_code_192 15 rfl rfl rfl) (by decide) (fun h48 => ?_) (fun h48 => ?_)
            · replace hf := gneg hf h48
              exact b_M_wide_220 X hrec122 ih hf hZ hS (lv_sub hl [0, 1, 2, 4, 5, 6, 7, 8] rfl)
            · replace hf := gpos hf h48
              refine lv_aload_n hx hb (D_43 W_prog_15_method_104_code_192 18 rfl rfl) rfl (lv_at hl 6 rfl) ?_
              refine zget (ci := 13) (C := RX13) (T := TX13) (v := .ref (ad 13 l1 (37 + 1))) (k := 37) hx hb hts inW_13 hown hK hZ g30.1 g30.2 rfl (by decide) k_9_192 rfl (D_180 W_prog_15_method_104_code_192 19 rfl rfl rfl) ?_
              refine lv_iload hx hb (D_21 W_prog_15_method_104_code_192 22 rfl rfl) (lv_at hl 0 rfl) ?_
              refine zald (ci := 13) (k := 37) hx hb hK rfl hZ g30.1 g30.2 rfl (Nat.le_of_ble_eq_true rfl) g36.1 g36.2 (D_46 W_prog_15_method_104_code_192 24 rfl rfl) ?_
              obtain ⟨g49, hf⟩ := gif hf
              refine z0le (tgt := 224) hx hb g49 (D_158 W_prog_15_method_104_code_192 25 rfl rfl rfl) (by decide) (fun h50 => ?_) (fun h50 => ?_)
              · replace hf := gpos hf h50
                refine lv_iconst (v := iI 0) hx hb (D_3 W_prog_15_method_104_code_224 0 rfl rfl) rfl ?_
                exact b_M_wide_225 X hrec122 ih hf hZ hS (lv_sub hl [0, 1, 2, 4, 5, 6, 7, 8] rfl)
              · replace hf := gneg hf h50
                exact b_M_wide_220 X hrec122 ih hf hZ hS (lv_sub hl [0, 1, 2, 4, 5, 6, 7, 8] rfl)
          · replace hf := gneg hf h46
            refine lv_goto (tgt := 248) hx hb (D_167 W_prog_15_method_104_code_192 10 rfl rfl rfl) (by decide) ?_
            exact b_M_wide_248 X hrec122 ih hf hZ hS (lv_sub hl [1, 2, 3, 4, 5, 6, 7, 8] rfl)

def f_M_wide_122 (K : Nat) : Nat → Int → Int → Int → Int → Int → Int → Int → zF → zB → zO
  | 0, _, _, _, _, _, _, _, _, _ => none
  | n + 1, l10, l9, l8, l7, l1, l2, l3, F, B => if 0 ≤ l1 ∧ l1 < 3 then if r32 l10 then if r32 (F 13 l1 1) then (if (F 13 l1 1) ≤ l10 then if r32 l9 then (if l9 = 0 then f_M_wide_278 K l8 (8 + (4 * l7)) 0 F B else f_M_wide_278 K l8 (8 + (4 * l7)) 6 F B) else none else f_M_wide_134 (f_M_wide_122 K n) K K 0 l10 l9 l8 l7 l1 l2 l3 F B) else none else none else none
set_option maxHeartbeats 4000000 in
set_option maxRecDepth 100000 in
theorem b_M_wide_122 {D : va_G} {ca : Nat → ClassId} {ad : Nat → Int → Nat → Nat} {L : List Nat} {aS vS : Nat → Nat} {A : Nat → Prop} {p : Program} {l : Launch} {e : Env} {s : State} {m : MethodId} {args : Array Value} {below : List Frame} {meth : Method} {c : Code} {K : Nat} {r : Int} {F9 : zF} {B9 : zB} (X : zX D ca L aS vS A p s m args meth c prog_15_method_104_code 13 (Option.some Jvm.ClassFile.FieldType.int) "StaveHouseModel") : ∀ {n : Nat} {l10 : Int} {l9 : Int} {l8 : Int} {l7 : Int} {l1 : Int} {l2 : Int} {l3 : Int} {F : zF} {B : zB} {H : Heap} {locs : List Loc} {ls : Array Slot}, f_M_wide_122 K n l10 l9 l8 l7 l1 l2 l3 F B = some (r, F9, B9) → zH D ca ad lnM nM L F B A H → va_S A s.heap H locs → lv_has ls 13 [(10, .int (iI l10)), (9, .int (iI l9)), (8, .int (iI l8)), (7, .int (iI l7)), (1, .ref (ad 13 l1 0)), (2, .int (iI l2)), (3, .int (iI l3))] → W p l e ({ frames := 3, cells := 0, slots := 0, locals := 85 } : Room) s m args below meth c H locs 0 0 (MQ below (Q_M_wide D ca ad L r F9 B9 A) args s 0 0 A) (F0 m 122 ls []) := by
  obtain ⟨hx, hb, hr, hml, hown, hts, hlk, hK, hA, hL, hX⟩ := id X
  intro n
  induction n with
  | zero =>
    intros
    rename_i hf _ _ _
    cases hf
  | succ n ih =>
    intro l10 l9 l8 l7 l1 l2 l3 F B H locs ls hf hZ hS hl
    replace hf : (if 0 ≤ l1 ∧ l1 < 3 then if r32 l10 then if r32 (F 13 l1 1) then (if (F 13 l1 1) ≤ l10 then if r32 l9 then (if l9 = 0 then f_M_wide_278 K l8 (8 + (4 * l7)) 0 F B else f_M_wide_278 K l8 (8 + (4 * l7)) 6 F B) else none else f_M_wide_134 (f_M_wide_122 K n) K K 0 l10 l9 l8 l7 l1 l2 l3 F B) else none else none else none) = some (r, F9, B9) := hf
    refine lv_iload hx hb (D_21 W_prog_15_method_104_code_96 26 rfl rfl) (lv_at hl 0 rfl) ?_
    refine lv_aload_n hx hb (D_43 W_prog_15_method_104_code_96 28 rfl rfl) rfl (lv_at hl 4 rfl) ?_
    obtain ⟨g24, hf⟩ := gif hf
    refine zget (ci := 13) (C := RX13) (T := TX13) (v := .int (iI (F 13 l1 1))) (k := 1) hx hb hts inW_13 hown hK hZ g24.1 g24.2 rfl (by decide) k_9_126 rfl (D_180 W_prog_15_method_104_code_96 29 rfl rfl rfl) ?_
    obtain ⟨g25, hf⟩ := gif hf
    obtain ⟨g26, hf⟩ := gif hf
    refine zge (tgt := 260) hx hb g25 g26 (D_162 W_prog_15_method_104_code_128 0 rfl rfl rfl) (by decide) (fun h27 => ?_) (fun h27 => ?_)
    · replace hf := gpos hf h27
      refine lv_bipush (v := iI 8) hx hb (D_16 W_prog_15_method_104_code_256 4 rfl rfl rfl) (by decide) ?_
      refine lv_iconst (v := iI 4) hx hb (D_7 W_prog_15_method_104_code_256 6 rfl rfl) rfl ?_
      refine lv_iload hx hb (D_21 W_prog_15_method_104_code_256 7 rfl rfl) (lv_at hl 3 rfl) ?_
      refine zmul hx hb (D_104 W_prog_15_method_104_code_256 9 rfl rfl) ?_
      refine zadd hx hb (D_96 W_prog_15_method_104_code_256 10 rfl rfl) ?_
      refine lv_iload hx hb (D_21 W_prog_15_method_104_code_256 11 rfl rfl) (lv_at hl 1 rfl) ?_
      obtain ⟨g28, hf⟩ := gif hf
      refine z0eq (tgt := 277) hx hb g28 (D_153 W_prog_15_method_104_code_256 13 rfl rfl rfl) (by decide) (fun h29 => ?_) (fun h29 => ?_)
      · replace hf := gpos hf h29
        refine lv_iconst (v := iI 0) hx hb (D_3 W_prog_15_method_104_code_256 21 rfl rfl) rfl ?_
        exact b_M_wide_278 X hf hZ hS (lv_sub hl [2] rfl)
      · replace hf := gneg hf h29
        refine lv_bipush (v := iI 6) hx hb (D_16 W_prog_15_method_104_code_256 16 rfl rfl rfl) (by decide) ?_
        refine lv_goto (tgt := 278) hx hb (D_167 W_prog_15_method_104_code_256 18 rfl rfl rfl) (by decide) ?_
        exact b_M_wide_278 X hf hZ hS (lv_sub hl [2] rfl)
    · replace hf := gneg hf h27
      refine lv_iconst (v := iI 0) hx hb (D_3 W_prog_15_method_104_code_128 3 rfl rfl) rfl ?_
      refine lv_istore (lv' := [(11, .int (iI 0)), (10, .int (iI l10)), (9, .int (iI l9)), (8, .int (iI l8)), (7, .int (iI l7)), (1, .ref (ad 13 l1 0)), (2, .int (iI l2)), (3, .int (iI l3))]) hx hb (D_54 W_prog_15_method_104_code_128 4 rfl rfl) hl (by decide) rfl (fun ls hl => ?_)
      exact b_M_wide_134 X ih hf hZ hS (lv_sub hl [0, 1, 2, 3, 4, 5, 6, 7] rfl)

def f_M_wide_92 (K : Nat) : Nat → Int → Int → Int → Int → Int → zF → zB → zO
  | 0, _, _, _, _, _, _, _ => none
  | n + 1, l7, l5, l1, l2, l3, F, B => if r64 l5 then if r64 (zlshl (F 14 0 1) (l7 + 1)) then (if (zcmp l5 (zlshl (F 14 0 1) (l7 + 1))) < 0 then f_M_wide_122 K K 0 0 0 l7 l1 l2 l3 F B else f_M_wide_92 K n (l7 + 1) l5 l1 l2 l3 F B) else none else none
set_option maxHeartbeats 4000000 in
set_option maxRecDepth 100000 in
theorem b_M_wide_92 {D : va_G} {ca : Nat → ClassId} {ad : Nat → Int → Nat → Nat} {L : List Nat} {aS vS : Nat → Nat} {A : Nat → Prop} {p : Program} {l : Launch} {e : Env} {s : State} {m : MethodId} {args : Array Value} {below : List Frame} {meth : Method} {c : Code} {K : Nat} {r : Int} {F9 : zF} {B9 : zB} (X : zX D ca L aS vS A p s m args meth c prog_15_method_104_code 13 (Option.some Jvm.ClassFile.FieldType.int) "StaveHouseModel") : ∀ {n : Nat} {l7 : Int} {l5 : Int} {l1 : Int} {l2 : Int} {l3 : Int} {F : zF} {B : zB} {H : Heap} {locs : List Loc} {ls : Array Slot}, f_M_wide_92 K n l7 l5 l1 l2 l3 F B = some (r, F9, B9) → zH D ca ad lnM nM L F B A H → va_S A s.heap H locs → lv_has ls 13 [(7, .int (iI l7)), (5, .long (lI l5)), (0, .ref (ad 14 0 0)), (1, .ref (ad 13 l1 0)), (2, .int (iI l2)), (3, .int (iI l3))] → W p l e ({ frames := 3, cells := 0, slots := 0, locals := 85 } : Room) s m args below meth c H locs 0 0 (MQ below (Q_M_wide D ca ad L r F9 B9 A) args s 0 0 A) (F0 m 92 ls []) := by
  obtain ⟨hx, hb, hr, hml, hown, hts, hlk, hK, hA, hL, hX⟩ := id X
  intro n
  induction n with
  | zero =>
    intros
    rename_i hf _ _ _
    cases hf
  | succ n ih =>
    intro l7 l5 l1 l2 l3 F B H locs ls hf hZ hS hl
    replace hf : (if r64 l5 then if r64 (zlshl (F 14 0 1) (l7 + 1)) then (if (zcmp l5 (zlshl (F 14 0 1) (l7 + 1))) < 0 then f_M_wide_122 K K 0 0 0 l7 l1 l2 l3 F B else f_M_wide_92 K n (l7 + 1) l5 l1 l2 l3 F B) else none else none) = some (r, F9, B9) := hf
    refine lv_lload hx hb (D_22 W_prog_15_method_104_code_64 28 rfl rfl) (lv_at hl 1 rfl) ?_
    refine lv_aload_n hx hb (D_42 W_prog_15_method_104_code_64 30 rfl rfl) rfl (lv_at hl 2 rfl) ?_
    refine zget (ci := 14) (C := RX14) (T := TX14) (v := .long (lI (F 14 0 1))) (k := 1) hx hb hts inW_14 hown hK hZ (by decide) (by decide) rfl (by decide) k_10_239 rfl (D_180 W_prog_15_method_104_code_64 31 rfl rfl rfl) ?_
    refine lv_iload hx hb (D_21 W_prog_15_method_104_code_96 2 rfl rfl) (lv_at hl 0 rfl) ?_
    refine lv_iconst (v := iI 1) hx hb (D_4 W_prog_15_method_104_code_96 4 rfl rfl) rfl ?_
    refine zadd hx hb (D_96 W_prog_15_method_104_code_96 5 rfl rfl) ?_
    refine zlshl_r hx hb (D_121 W_prog_15_method_104_code_96 6 rfl rfl) ?_
    obtain ⟨g21, hf⟩ := gif hf
    obtain ⟨g22, hf⟩ := gif hf
    refine zcmp_r hx hb g21 g22 (D_148 W_prog_15_method_104_code_96 7 rfl rfl) ?_
    refine z0lt (tgt := 113) hx hb zcmp_32 (D_155 W_prog_15_method_104_code_96 8 rfl rfl rfl) (by decide) (fun h23 => ?_) (fun h23 => ?_)
    · replace hf := gpos hf h23
      refine lv_iconst (v := iI 0) hx hb (D_3 W_prog_15_method_104_code_96 17 rfl rfl) rfl ?_
      refine lv_istore (lv' := [(8, .int (iI 0)), (7, .int (iI l7)), (5, .long (lI l5)), (0, .ref (ad 14 0 0)), (1, .ref (ad 13 l1 0)), (2, .int (iI l2)), (3, .int (iI l3))]) hx hb (D_54 W_prog_15_method_104_code_96 18 rfl rfl) hl (by decide) rfl (fun ls hl => ?_)
      refine lv_iconst (v := iI 0) hx hb (D_3 W_prog_15_method_104_code_96 20 rfl rfl) rfl ?_
      refine lv_istore (lv' := [(9, .int (iI 0)), (8, .int (iI 0)), (7, .int (iI l7)), (5, .long (lI l5)), (0, .ref (ad 14 0 0)), (1, .ref (ad 13 l1 0)), (2, .int (iI l2)), (3, .int (iI l3))]) hx hb (D_54 W_prog_15_method_104_code_96 21 rfl rfl) hl (by decide) rfl (fun ls hl => ?_)
      refine lv_iconst (v := iI 0) hx hb (D_3 W_prog_15_method_104_code_96 23 rfl rfl) rfl ?_
      refine lv_istore (lv' := [(10, .int (iI 0)), (9, .int (iI 0)), (8, .int (iI 0)), (7, .int (iI l7)), (5, .long (lI l5)), (0, .ref (ad 14 0 0)), (1, .ref (ad 13 l1 0)), (2, .int (iI l2)), (3, .int (iI l3))]) hx hb (D_54 W_prog_15_method_104_code_96 24 rfl rfl) hl (by decide) rfl (fun ls hl => ?_)
      exact b_M_wide_122 X hf hZ hS (lv_sub hl [0, 1, 2, 3, 6, 7, 8] rfl)
    · replace hf := gneg hf h23
      refine lv_iinc (v := iI (l7 + 1)) (lv' := [(7, .int (iI (l7 + 1))), (5, .long (lI l5)), (0, .ref (ad 14 0 0)), (1, .ref (ad 13 l1 0)), (2, .int (iI l2)), (3, .int (iI l3))]) hx hb d_15_104_107 hl (k := 0) rfl (iI_add _ 1) (by decide) rfl (fun ls hl => ?_)
      refine lv_goto (tgt := 92) hx hb (D_167 W_prog_15_method_104_code_96 14 rfl rfl rfl) (by decide) ?_
      exact ih hf hZ hS (lv_sub hl [0, 1, 2, 3, 4, 5] rfl)

def f_M_wide_64 (K : Nat) (l1 : Int) (l2 : Int) (l3 : Int) (s1 : Int) (s2 : Int) (F : zF) (B : zB) : zO := if 0 ≤ l1 ∧ l1 < 3 then if 0 ≤ l3 ∧ l3 < 3200 then zbind (f_M_minus K s1 s2 (B 13 l1 43 l3) (B 13 l1 44 l3) F B) (fun r20 F20 B20 => f_M_wide_92 K K 0 (128 * (F20 14 0 0)) l1 l2 l3 F20 B20) else none else none
set_option maxHeartbeats 4000000 in
set_option maxRecDepth 100000 in
theorem b_M_wide_64 {D : va_G} {ca : Nat → ClassId} {ad : Nat → Int → Nat → Nat} {L : List Nat} {aS vS : Nat → Nat} {A : Nat → Prop} {p : Program} {l : Launch} {e : Env} {s : State} {m : MethodId} {args : Array Value} {below : List Frame} {meth : Method} {c : Code} {K : Nat} {r : Int} {F9 : zF} {B9 : zB} (X : zX D ca L aS vS A p s m args meth c prog_15_method_104_code 13 (Option.some Jvm.ClassFile.FieldType.int) "StaveHouseModel") {l1 : Int} {l2 : Int} {l3 : Int} {s1 : Int} {s2 : Int} {F : zF} {B : zB} {H : Heap} {locs : List Loc} {ls : Array Slot} (hf : f_M_wide_64 K l1 l2 l3 s1 s2 F B = some (r, F9, B9)) (hZ : zH D ca ad lnM nM L F B A H) (hS : va_S A s.heap H locs) (hl : lv_has ls 13 [(0, .ref (ad 14 0 0)), (1, .ref (ad 13 l1 0)), (2, .int (iI l2)), (3, .int (iI l3))]) : W p l e ({ frames := 3, cells := 0, slots := 0, locals := 85 } : Room) s m args below meth c H locs 0 0 (MQ below (Q_M_wide D ca ad L r F9 B9 A) args s 0 0 A) (F0 m 64 ls [.long (lI s2), .long (lI s1), .ref (ad 14 0 0)]) := by
  obtain ⟨hx, hb, hr, hml, hown, hts, hlk, hK, hA, hL, hX⟩ := id X
  replace hf : (if 0 ≤ l1 ∧ l1 < 3 then if 0 ≤ l3 ∧ l3 < 3200 then zbind (f_M_minus K s1 s2 (B 13 l1 43 l3) (B 13 l1 44 l3) F B) (fun r20 F20 B20 => f_M_wide_92 K K 0 (128 * (F20 14 0 0)) l1 l2 l3 F20 B20) else none else none) = some (r, F9, B9) := hf
  refine lv_aload_n hx hb (D_43 W_prog_15_method_104_code_64 0 rfl rfl) rfl (lv_at hl 1 rfl) ?_
  obtain ⟨g18, hf⟩ := gif hf
  refine zget (ci := 13) (C := RX13) (T := TX13) (v := .ref (ad 13 l1 (43 + 1))) (k := 43) hx hb hts inW_13 hown hK hZ g18.1 g18.2 rfl (by decide) k_9_204 rfl (D_180 W_prog_15_method_104_code_64 1 rfl rfl rfl) ?_
  refine lv_iload_n hx hb (D_29 W_prog_15_method_104_code_64 4 rfl rfl) rfl (lv_at hl 3 rfl) ?_
  obtain ⟨g19, hf⟩ := gif hf
  refine zlald (ci := 13) (k := 43) hx hb hK rfl hZ g18.1 g18.2 rfl (Nat.le_of_ble_eq_true rfl) g19.1 g19.2 (D_47 W_prog_15_method_104_code_64 5 rfl rfl) ?_
  refine lv_aload_n hx hb (D_43 W_prog_15_method_104_code_64 6 rfl rfl) rfl (lv_at hl 1 rfl) ?_
  refine zget (ci := 13) (C := RX13) (T := TX13) (v := .ref (ad 13 l1 (44 + 1))) (k := 44) hx hb hts inW_13 hown hK hZ g18.1 g18.2 rfl (by decide) k_9_206 rfl (D_180 W_prog_15_method_104_code_64 7 rfl rfl rfl) ?_
  refine lv_iload_n hx hb (D_29 W_prog_15_method_104_code_64 10 rfl rfl) rfl (lv_at hl 3 rfl) ?_
  refine zlald (ci := 13) (k := 44) hx hb hK rfl hZ g18.1 g18.2 rfl (Nat.le_of_ble_eq_true rfl) g19.1 g19.2 (D_47 W_prog_15_method_104_code_64 11 rfl rfl) ?_
  obtain ⟨r20, F20, B20, hc20, hf⟩ := gbind hf
  refine va_callv (va_runV (As := [.long (lI s1), .long (lI s2), .long (lI (B 13 l1 43 l3)), .long (lI (B 13 l1 44 l3))]) (rest := []) ⟨hx, hb, hml, hown, hts⟩ (c_M_minus (l := l) hc20) (cwV 4 hts (gdV k_13_132 k_13_134 ks_174 k_1_9 k_13_135) rfl rfl rfl (by decide +kernel) ⟨Nat.le_of_ble_eq_true rfl, Nat.le_of_ble_eq_true rfl⟩) (zPV X hZ hS (ci := 14) (by decide) (by decide) (r := (RX14, TX14, 107)) rfl [.long (lI s1), .long (lI s2), .long (lI (B 13 l1 43 l3)), .long (lI (B 13 l1 44 l3))]) rfl rfl hl.1 rfl (lv_room (Nat.le_of_ble_eq_true rfl)) (D_182 W_prog_15_method_104_code_64 12 rfl rfl rfl) ⟨Nat.le_of_ble_eq_true rfl, Nat.le_of_ble_eq_true rfl⟩) hS (fun q _ h => zAin X hS q h) (zAin X hS) (fun u20 t20 H20 locs20 ht20 hv20 hw20 hB20 hz20 hk20 hS20 => ?_)
  have hZ20 := zBack X ht20 hB20
  refine lv_ldc2 hx hb hown (hts _ k_14_227) (D_20 W_prog_15_method_104_code_64 15 rfl rfl rfl) ?_
  refine W.eq (g2 := F0 m 82 ls [.long (lI 128)]) rfl ?_
  refine lv_aload_n hx hb (D_42 W_prog_15_method_104_code_64 18 rfl rfl) rfl (lv_at hl 0 rfl) ?_
  refine zget (ci := 14) (C := RX14) (T := TX14) (v := .long (lI (F20 14 0 0))) (k := 0) hx hb hts inW_14 hown hK hZ20 (by decide) (by decide) rfl (by decide) k_10_238 rfl (D_180 W_prog_15_method_104_code_64 19 rfl rfl rfl) ?_
  refine zlmul hx hb (D_105 W_prog_15_method_104_code_64 22 rfl rfl) ?_
  refine lv_lstore (lv' := [(5, .long (lI (128 * (F20 14 0 0)))), (0, .ref (ad 14 0 0)), (1, .ref (ad 13 l1 0)), (2, .int (iI l2)), (3, .int (iI l3))]) hx hb (D_55 W_prog_15_method_104_code_64 23 rfl rfl) hl (by decide) rfl (fun ls hl => ?_)
  refine lv_iconst (v := iI 0) hx hb (D_3 W_prog_15_method_104_code_64 25 rfl rfl) rfl ?_
  refine lv_istore (lv' := [(7, .int (iI 0)), (5, .long (lI (128 * (F20 14 0 0)))), (0, .ref (ad 14 0 0)), (1, .ref (ad 13 l1 0)), (2, .int (iI l2)), (3, .int (iI l3))]) hx hb (D_54 W_prog_15_method_104_code_64 26 rfl rfl) hl (by decide) rfl (fun ls hl => ?_)
  exact b_M_wide_92 X hf hZ20 hS20 (lv_sub hl [0, 1, 2, 3, 4, 5] rfl)

def f_M_wide_43 (K : Nat) (l4 : Int) (l1 : Int) (l2 : Int) (l3 : Int) (s1 : Int) (F : zF) (B : zB) : zO := if r32 l4 then (if l4 = 0 then if 0 ≤ l1 ∧ l1 < 3 then if 0 ≤ (l3 + 1) ∧ (l3 + 1) < 3200 then f_M_wide_64 K l1 l2 l3 s1 (B 13 l1 44 (l3 + 1)) F B else none else none else if 0 ≤ l1 ∧ l1 < 3 then if r32 (F 13 l1 5) then f_M_wide_64 K l1 l2 l3 s1 (F 13 l1 5) F B else none else none) else none
set_option maxHeartbeats 4000000 in
set_option maxRecDepth 100000 in
theorem b_M_wide_43 {D : va_G} {ca : Nat → ClassId} {ad : Nat → Int → Nat → Nat} {L : List Nat} {aS vS : Nat → Nat} {A : Nat → Prop} {p : Program} {l : Launch} {e : Env} {s : State} {m : MethodId} {args : Array Value} {below : List Frame} {meth : Method} {c : Code} {K : Nat} {r : Int} {F9 : zF} {B9 : zB} (X : zX D ca L aS vS A p s m args meth c prog_15_method_104_code 13 (Option.some Jvm.ClassFile.FieldType.int) "StaveHouseModel") {l4 : Int} {l1 : Int} {l2 : Int} {l3 : Int} {s1 : Int} {F : zF} {B : zB} {H : Heap} {locs : List Loc} {ls : Array Slot} (hf : f_M_wide_43 K l4 l1 l2 l3 s1 F B = some (r, F9, B9)) (hZ : zH D ca ad lnM nM L F B A H) (hS : va_S A s.heap H locs) (hl : lv_has ls 13 [(4, .int (iI l4)), (0, .ref (ad 14 0 0)), (1, .ref (ad 13 l1 0)), (2, .int (iI l2)), (3, .int (iI l3))]) : W p l e ({ frames := 3, cells := 0, slots := 0, locals := 85 } : Room) s m args below meth c H locs 0 0 (MQ below (Q_M_wide D ca ad L r F9 B9 A) args s 0 0 A) (F0 m 43 ls [.long (lI s1), .ref (ad 14 0 0)]) := by
  obtain ⟨hx, hb, hr, hml, hown, hts, hlk, hK, hA, hL, hX⟩ := id X
  replace hf : (if r32 l4 then (if l4 = 0 then if 0 ≤ l1 ∧ l1 < 3 then if 0 ≤ (l3 + 1) ∧ (l3 + 1) < 3200 then f_M_wide_64 K l1 l2 l3 s1 (B 13 l1 44 (l3 + 1)) F B else none else none else if 0 ≤ l1 ∧ l1 < 3 then if r32 (F 13 l1 5) then f_M_wide_64 K l1 l2 l3 s1 (F 13 l1 5) F B else none else none) else none) = some (r, F9, B9) := hf
  refine lv_iload hx hb (D_21 W_prog_15_method_104_code_32 11 rfl rfl) (lv_at hl 0 rfl) ?_
  obtain ⟨g12, hf⟩ := gif hf
  refine z0eq (tgt := 56) hx hb g12 (D_153 W_prog_15_method_104_code_32 13 rfl rfl rfl) (by decide) (fun h13 => ?_) (fun h13 => ?_)
  · replace hf := gpos hf h13
    refine lv_aload_n hx hb (D_43 W_prog_15_method_104_code_32 24 rfl rfl) rfl (lv_at hl 2 rfl) ?_
    obtain ⟨g14, hf⟩ := gif hf
    refine zget (ci := 13) (C := RX13) (T := TX13) (v := .ref (ad 13 l1 (44 + 1))) (k := 44) hx hb hts inW_13 hown hK hZ g14.1 g14.2 rfl (by decide) k_9_206 rfl (D_180 W_prog_15_method_104_code_32 25 rfl rfl rfl) ?_
    refine lv_iload_n hx hb (D_29 W_prog_15_method_104_code_32 28 rfl rfl) rfl (lv_at hl 4 rfl) ?_
    refine lv_iconst (v := iI 1) hx hb (D_4 W_prog_15_method_104_code_32 29 rfl rfl) rfl ?_
    refine zadd hx hb (D_96 W_prog_15_method_104_code_32 30 rfl rfl) ?_
    obtain ⟨g15, hf⟩ := gif hf
    refine zlald (ci := 13) (k := 44) hx hb hK rfl hZ g14.1 g14.2 rfl (Nat.le_of_ble_eq_true rfl) g15.1 g15.2 (D_47 W_prog_15_method_104_code_32 31 rfl rfl) ?_
    exact b_M_wide_64 X hf hZ hS (lv_sub hl [1, 2, 3, 4] rfl)
  · replace hf := gneg hf h13
    refine lv_aload_n hx hb (D_43 W_prog_15_method_104_code_32 16 rfl rfl) rfl (lv_at hl 2 rfl) ?_
    obtain ⟨g16, hf⟩ := gif hf
    refine zget (ci := 13) (C := RX13) (T := TX13) (v := .int (iI (F 13 l1 5))) (k := 5) hx hb hts inW_13 hown hK hZ g16.1 g16.2 rfl (by decide) k_9_130 rfl (D_180 W_prog_15_method_104_code_32 17 rfl rfl rfl) ?_
    obtain ⟨g17, hf⟩ := gif hf
    refine zi2l hx hb g17 (D_133 W_prog_15_method_104_code_32 20 rfl rfl) ?_
    refine lv_goto (tgt := 64) hx hb (D_167 W_prog_15_method_104_code_32 21 rfl rfl rfl) (by decide) ?_
    exact b_M_wide_64 X hf hZ hS (lv_sub hl [1, 2, 3, 4] rfl)

def f_M_wide_19 (K : Nat) (l1 : Int) (l2 : Int) (l3 : Int) (s0 : Int) (F : zF) (B : zB) : zO := if r32 s0 then (if s0 = 0 then if 0 ≤ l1 ∧ l1 < 3 then if 0 ≤ (l3 + 1) ∧ (l3 + 1) < 3200 then f_M_wide_43 K s0 l1 l2 l3 (B 13 l1 43 (l3 + 1)) F B else none else none else if 0 ≤ l1 ∧ l1 < 3 then if r32 (F 13 l1 4) then f_M_wide_43 K s0 l1 l2 l3 (F 13 l1 4) F B else none else none) else none
set_option maxHeartbeats 4000000 in
set_option maxRecDepth 100000 in
theorem b_M_wide_19 {D : va_G} {ca : Nat → ClassId} {ad : Nat → Int → Nat → Nat} {L : List Nat} {aS vS : Nat → Nat} {A : Nat → Prop} {p : Program} {l : Launch} {e : Env} {s : State} {m : MethodId} {args : Array Value} {below : List Frame} {meth : Method} {c : Code} {K : Nat} {r : Int} {F9 : zF} {B9 : zB} (X : zX D ca L aS vS A p s m args meth c prog_15_method_104_code 13 (Option.some Jvm.ClassFile.FieldType.int) "StaveHouseModel") {l1 : Int} {l2 : Int} {l3 : Int} {s0 : Int} {F : zF} {B : zB} {H : Heap} {locs : List Loc} {ls : Array Slot} (hf : f_M_wide_19 K l1 l2 l3 s0 F B = some (r, F9, B9)) (hZ : zH D ca ad lnM nM L F B A H) (hS : va_S A s.heap H locs) (hl : lv_has ls 13 [(0, .ref (ad 14 0 0)), (1, .ref (ad 13 l1 0)), (2, .int (iI l2)), (3, .int (iI l3))]) : W p l e ({ frames := 3, cells := 0, slots := 0, locals := 85 } : Room) s m args below meth c H locs 0 0 (MQ below (Q_M_wide D ca ad L r F9 B9 A) args s 0 0 A) (F0 m 19 ls [.int (iI s0)]) := by
  obtain ⟨hx, hb, hr, hml, hown, hts, hlk, hK, hA, hL, hX⟩ := id X
  replace hf : (if r32 s0 then (if s0 = 0 then if 0 ≤ l1 ∧ l1 < 3 then if 0 ≤ (l3 + 1) ∧ (l3 + 1) < 3200 then f_M_wide_43 K s0 l1 l2 l3 (B 13 l1 43 (l3 + 1)) F B else none else none else if 0 ≤ l1 ∧ l1 < 3 then if r32 (F 13 l1 4) then f_M_wide_43 K s0 l1 l2 l3 (F 13 l1 4) F B else none else none) else none) = some (r, F9, B9) := hf
  refine lv_istore (lv' := [(4, .int (iI s0)), (0, .ref (ad 14 0 0)), (1, .ref (ad 13 l1 0)), (2, .int (iI l2)), (3, .int (iI l3))]) hx hb (D_54 W_prog_15_method_104_code_0 19 rfl rfl) hl (by decide) rfl (fun ls hl => ?_)
  refine lv_aload_n hx hb (D_42 W_prog_15_method_104_code_0 21 rfl rfl) rfl (lv_at hl 1 rfl) ?_
  refine lv_iload hx hb (D_21 W_prog_15_method_104_code_0 22 rfl rfl) (lv_at hl 0 rfl) ?_
  obtain ⟨g6, hf⟩ := gif hf
  refine z0eq (tgt := 35) hx hb g6 (D_153 W_prog_15_method_104_code_0 24 rfl rfl rfl) (by decide) (fun h7 => ?_) (fun h7 => ?_)
  · replace hf := gpos hf h7
    refine lv_aload_n hx hb (D_43 W_prog_15_method_104_code_32 3 rfl rfl) rfl (lv_at hl 2 rfl) ?_
    obtain ⟨g8, hf⟩ := gif hf
    refine zget (ci := 13) (C := RX13) (T := TX13) (v := .ref (ad 13 l1 (43 + 1))) (k := 43) hx hb hts inW_13 hown hK hZ g8.1 g8.2 rfl (by decide) k_9_204 rfl (D_180 W_prog_15_method_104_code_32 4 rfl rfl rfl) ?_
    refine lv_iload_n hx hb (D_29 W_prog_15_method_104_code_32 7 rfl rfl) rfl (lv_at hl 4 rfl) ?_
    refine lv_iconst (v := iI 1) hx hb (D_4 W_prog_15_method_104_code_32 8 rfl rfl) rfl ?_
    refine zadd hx hb (D_96 W_prog_15_method_104_code_32 9 rfl rfl) ?_
    obtain ⟨g9, hf⟩ := gif hf
    refine zlald (ci := 13) (k := 43) hx hb hK rfl hZ g8.1 g8.2 rfl (Nat.le_of_ble_eq_true rfl) g9.1 g9.2 (D_47 W_prog_15_method_104_code_32 10 rfl rfl) ?_
    exact b_M_wide_43 X hf hZ hS (lv_sub hl [0, 1, 2, 3, 4] rfl)
  · replace hf := gneg hf h7
    refine lv_aload_n hx hb (D_43 W_prog_15_method_104_code_0 27 rfl rfl) rfl (lv_at hl 2 rfl) ?_
    obtain ⟨g10, hf⟩ := gif hf
    refine zget (ci := 13) (C := RX13) (T := TX13) (v := .int (iI (F 13 l1 4))) (k := 4) hx hb hts inW_13 hown hK hZ g10.1 g10.2 rfl (by decide) k_9_129 rfl (D_180 W_prog_15_method_104_code_0 28 rfl rfl rfl) ?_
    obtain ⟨g11, hf⟩ := gif hf
    refine zi2l hx hb g11 (D_133 W_prog_15_method_104_code_0 31 rfl rfl) ?_
    refine lv_goto (tgt := 43) hx hb (D_167 W_prog_15_method_104_code_32 0 rfl rfl rfl) (by decide) ?_
    exact b_M_wide_43 X hf hZ hS (lv_sub hl [0, 1, 2, 3, 4] rfl)

def f_M_wide (K : Nat) (l1 : Int) (l2 : Int) (l3 : Int) (F : zF) (B : zB) : zO := if 0 ≤ l1 ∧ l1 < 3 then if 0 ≤ (l2 + 1) ∧ (l2 + 1) < 101 then if r32 (l3 + 1) then if r32 (B 13 l1 42 (l2 + 1)) then (if (l3 + 1) = (B 13 l1 42 (l2 + 1)) then f_M_wide_19 K l1 l2 l3 1 F B else f_M_wide_19 K l1 l2 l3 0 F B) else none else none else none else none
set_option maxHeartbeats 4000000 in
set_option maxRecDepth 100000 in
theorem c_M_wide {l : Launch} {D : va_G} {ca : Nat → ClassId} {ad : Nat → Int → Nat → Nat} {L : List Nat} {aS vS : Nat → Nat} {sz K : Nat}  {l1 : Int} {l2 : Int} {l3 : Int} {F F9 : zF} {B B9 : zB} {r : Int} (hf : f_M_wide K l1 l2 l3 F B = some (r, F9, B9)) : Met l ({ cls := "StaveHouseModel", name := "wide", desc := "(LStaveHouseModel$Piece;II)I" } : Jvm.MethodName) (Cond.code ({ cls := "StaveHouseModel", name := "wide", desc := "(LStaveHouseModel$Piece;II)I" } : Jvm.MethodName) prog_15_method_104_code 13 (Option.some Jvm.ClassFile.FieldType.int) :: wAll) ({ frames := 3, cells := 0, slots := 0, locals := 85 } : Room) (va_Pc [.ref (ad 14 0 0), .ref (ad 13 l1 0), .int (iI l2), .int (iI l3)] (zPre D ca ad lnM nM L aS vS F B sz)) (Q_M_wide D ca ad L r F9 B9 (zA L sz)) 0 0 (zA L sz) := by
  refine zMet (Qc := Q_M_wide D ca ad L r F9 B9) (lv := [(0, .ref (ad 14 0 0)), (1, .ref (ad 13 l1 0)), (2, .int (iI l2)), (3, .int (iI l3))]) (by decide) (Nat.le_of_ble_eq_true rfl) rfl (fun A p e s m below meth c ls X hZ hS hl => ?_)
  obtain ⟨hx, hb, hr, hml, hown, hts, hlk, hK, hA, hL, hX⟩ := id X
  replace hf : (if 0 ≤ l1 ∧ l1 < 3 then if 0 ≤ (l2 + 1) ∧ (l2 + 1) < 101 then if r32 (l3 + 1) then if r32 (B 13 l1 42 (l2 + 1)) then (if (l3 + 1) = (B 13 l1 42 (l2 + 1)) then f_M_wide_19 K l1 l2 l3 1 F B else f_M_wide_19 K l1 l2 l3 0 F B) else none else none else none else none) = some (r, F9, B9) := hf
  refine lv_iload_n hx hb (D_29 W_prog_15_method_104_code_0 0 rfl rfl) rfl (lv_at hl 3 rfl) ?_
  refine lv_iconst (v := iI 1) hx hb (D_4 W_prog_15_method_104_code_0 1 rfl rfl) rfl ?_
  refine zadd hx hb (D_96 W_prog_15_method_104_code_0 2 rfl rfl) ?_
  refine lv_aload_n hx hb (D_43 W_prog_15_method_104_code_0 3 rfl rfl) rfl (lv_at hl 1 rfl) ?_
  obtain ⟨g1, hf⟩ := gif hf
  refine zget (ci := 13) (C := RX13) (T := TX13) (v := .ref (ad 13 l1 (42 + 1))) (k := 42) hx hb hts inW_13 hown hK hZ g1.1 g1.2 rfl (by decide) k_9_202 rfl (D_180 W_prog_15_method_104_code_0 4 rfl rfl rfl) ?_
  refine lv_iload_n hx hb (D_28 W_prog_15_method_104_code_0 7 rfl rfl) rfl (lv_at hl 2 rfl) ?_
  refine lv_iconst (v := iI 1) hx hb (D_4 W_prog_15_method_104_code_0 8 rfl rfl) rfl ?_
  refine zadd hx hb (D_96 W_prog_15_method_104_code_0 9 rfl rfl) ?_
  obtain ⟨g2, hf⟩ := gif hf
  refine zald (ci := 13) (k := 42) hx hb hK rfl hZ g1.1 g1.2 rfl (Nat.le_of_ble_eq_true rfl) g2.1 g2.2 (D_46 W_prog_15_method_104_code_0 10 rfl rfl) ?_
  obtain ⟨g3, hf⟩ := gif hf
  obtain ⟨g4, hf⟩ := gif hf
  refine zne (tgt := 18) hx hb g3 g4 (D_160 W_prog_15_method_104_code_0 11 rfl rfl rfl) (by decide) (fun h5 => ?_) (fun h5 => ?_)
  · replace hf := gneg hf h5
    refine lv_iconst (v := iI 0) hx hb (D_3 W_prog_15_method_104_code_0 18 rfl rfl) rfl ?_
    exact b_M_wide_19 X hf hZ hS (lv_sub hl [0, 1, 2, 3] rfl)
  · replace hf := gpos hf h5
    refine lv_iconst (v := iI 1) hx hb (D_4 W_prog_15_method_104_code_0 14 rfl rfl) rfl ?_
    refine lv_goto (tgt := 19) hx hb (D_167 W_prog_15_method_104_code_0 15 rfl rfl rfl) (by decide) ?_
    exact b_M_wide_19 X hf hZ hS (lv_sub hl [0, 1, 2, 3] rfl)

abbrev Q_M_moment_1 (D : va_G) (ca : Nat → ClassId) (ad : Nat → Int → Nat → Nat) (L : List Nat) (r : Int) (F : zF) (B : zB) (A : Nat → Prop) : Array Value → State → Outcome → State → Prop := va_Qv (S := Unit) (fun _ => True) (fun _ => zPo D ca ad lnM nM L F B A) A
def f_M_moment_1_83 (K : Nat) : Nat → Int → Int → Int → Int → Int → zF → zB → zO
  | 0, _, _, _, _, _, _, _ => none
  | n + 1, l6, l5, l0, l1, l3, F, B => if r32 l6 then if r32 l5 then (if l6 ≤ l5 then if 0 ≤ l0 ∧ l0 < 3 then if 0 ≤ l5 ∧ l5 < 800 then some (0, (zup3 F 13 l0 72 ((F 13 l0 72) + 1)), (zup4 (zup4 B 13 l0 73 l5 l1) 13 l0 74 l5 l3)) else none else none else if 0 ≤ l0 ∧ l0 < 3 then if 0 ≤ (l6 - 1) ∧ (l6 - 1) < 800 then if 0 ≤ l6 ∧ l6 < 800 then f_M_moment_1_83 K n (l6 - 1) l5 l0 l1 l3 F (zup4 (zup4 B 13 l0 73 l6 (B 13 l0 73 (l6 - 1))) 13 l0 74 l6 ((zup4 B 13 l0 73 l6 (B 13 l0 73 (l6 - 1))) 13 l0 74 (l6 - 1))) else none else none else none) else none else none
set_option maxHeartbeats 4000000 in
set_option maxRecDepth 100000 in
theorem b_M_moment_1_83 {D : va_G} {ca : Nat → ClassId} {ad : Nat → Int → Nat → Nat} {L : List Nat} {aS vS : Nat → Nat} {A : Nat → Prop} {p : Program} {l : Launch} {e : Env} {s : State} {m : MethodId} {args : Array Value} {below : List Frame} {meth : Method} {c : Code} {K : Nat} {r : Int} {F9 : zF} {B9 : zB} (X : zX D ca L aS vS A p s m args meth c prog_15_method_172_code 7 (Option.none : Option Jvm.ClassFile.FieldType) "StaveHouseModel") : ∀ {n : Nat} {l6 : Int} {l5 : Int} {l0 : Int} {l1 : Int} {l3 : Int} {F : zF} {B : zB} {H : Heap} {locs : List Loc} {ls : Array Slot}, f_M_moment_1_83 K n l6 l5 l0 l1 l3 F B = some (r, F9, B9) → zH D ca ad lnM nM L F B A H → va_S A s.heap H locs → lv_has ls 7 [(6, .int (iI l6)), (5, .int (iI l5)), (0, .ref (ad 13 l0 0)), (1, .long (lI l1)), (3, .long (lI l3))] → W p l e ({ frames := 2, cells := 0, slots := 0, locals := 62 } : Room) s m args below meth c H locs 0 0 (MQ below (Q_M_moment_1 D ca ad L r F9 B9 A) args s 0 0 A) (F0 m 83 ls []) := by
  obtain ⟨hx, hb, hr, hml, hown, hts, hlk, hK, hA, hL, hX⟩ := id X
  intro n
  induction n with
  | zero =>
    intros
    rename_i hf _ _ _
    cases hf
  | succ n ih =>
    intro l6 l5 l0 l1 l3 F B H locs ls hf hZ hS hl
    replace hf : (if r32 l6 then if r32 l5 then (if l6 ≤ l5 then if 0 ≤ l0 ∧ l0 < 3 then if 0 ≤ l5 ∧ l5 < 800 then some (0, (zup3 F 13 l0 72 ((F 13 l0 72) + 1)), (zup4 (zup4 B 13 l0 73 l5 l1) 13 l0 74 l5 l3)) else none else none else if 0 ≤ l0 ∧ l0 < 3 then if 0 ≤ (l6 - 1) ∧ (l6 - 1) < 800 then if 0 ≤ l6 ∧ l6 < 800 then f_M_moment_1_83 K n (l6 - 1) l5 l0 l1 l3 F (zup4 (zup4 B 13 l0 73 l6 (B 13 l0 73 (l6 - 1))) 13 l0 74 l6 ((zup4 B 13 l0 73 l6 (B 13 l0 73 (l6 - 1))) 13 l0 74 (l6 - 1))) else none else none else none) else none else none) = some (r, F9, B9) := hf
    refine lv_iload hx hb (D_21 W_prog_15_method_172_code_64 19 rfl rfl) (lv_at hl 0 rfl) ?_
    refine lv_iload hx hb (D_21 W_prog_15_method_172_code_64 21 rfl rfl) (lv_at hl 1 rfl) ?_
    obtain ⟨g20, hf⟩ := gif hf
    obtain ⟨g21, hf⟩ := gif hf
    refine zle (tgt := 128) hx hb g20 g21 (D_164 W_prog_15_method_172_code_64 23 rfl rfl rfl) (by decide) (fun h22 => ?_) (fun h22 => ?_)
    · replace hf := gpos hf h22
      refine lv_aload_n hx hb (D_42 W_prog_15_method_172_code_128 0 rfl rfl) rfl (lv_at hl 2 rfl) ?_
      obtain ⟨g23, hf⟩ := gif hf
      refine zget (ci := 13) (C := RX13) (T := TX13) (v := .ref (ad 13 l0 (73 + 1))) (k := 73) hx hb hts inW_13 hown hK hZ g23.1 g23.2 rfl (by decide) k_10_13 rfl (D_180 W_prog_15_method_172_code_128 1 rfl rfl rfl) ?_
      refine lv_iload hx hb (D_21 W_prog_15_method_172_code_128 4 rfl rfl) (lv_at hl 1 rfl) ?_
      refine lv_lload_n hx hb (D_31 W_prog_15_method_172_code_128 6 rfl rfl) rfl (lv_at hl 3 rfl) ?_
      obtain ⟨g24, hf⟩ := gif hf
      refine zlast (ci := 13) (k := 73) hx hb hK rfl hZ hS g23.1 g23.2 rfl (Nat.le_of_ble_eq_true rfl) g24.1 g24.2 (D_80 W_prog_15_method_172_code_128 7 rfl rfl) (fun H25 locs25 hZ25 hS25 => ?_)
      refine lv_aload_n hx hb (D_42 W_prog_15_method_172_code_128 8 rfl rfl) rfl (lv_at hl 2 rfl) ?_
      refine zget (ci := 13) (C := RX13) (T := TX13) (v := .ref (ad 13 l0 (74 + 1))) (k := 74) hx hb hts inW_13 hown hK hZ25 g23.1 g23.2 rfl (by decide) k_10_15 rfl (D_180 W_prog_15_method_172_code_128 9 rfl rfl rfl) ?_
      refine lv_iload hx hb (D_21 W_prog_15_method_172_code_128 12 rfl rfl) (lv_at hl 1 rfl) ?_
      refine lv_lload_n hx hb (D_33 W_prog_15_method_172_code_128 14 rfl rfl) rfl (lv_at hl 4 rfl) ?_
      refine zlast (ci := 13) (k := 74) hx hb hK rfl hZ25 hS25 g23.1 g23.2 rfl (Nat.le_of_ble_eq_true rfl) g24.1 g24.2 (D_80 W_prog_15_method_172_code_128 15 rfl rfl) (fun H26 locs26 hZ26 hS26 => ?_)
      refine lv_aload_n hx hb (D_42 W_prog_15_method_172_code_128 16 rfl rfl) rfl (lv_at hl 2 rfl) ?_
      refine lv_dup hx hb (D_89 W_prog_15_method_172_code_128 17 rfl rfl) rfl ?_
      refine zget (ci := 13) (C := RX13) (T := TX13) (v := .int (iI (F 13 l0 72))) (k := 72) hx hb hts inW_13 hown hK hZ26 g23.1 g23.2 rfl (by decide) k_10_11 rfl (D_180 W_prog_15_method_172_code_128 18 rfl rfl rfl) ?_
      refine lv_iconst (v := iI 1) hx hb (D_4 W_prog_15_method_172_code_128 21 rfl rfl) rfl ?_
      refine zadd hx hb (D_96 W_prog_15_method_172_code_128 22 rfl rfl) ?_
      refine zput (ci := 13) (C := RX13) (T := TX13) (k := 72) (v := ((F 13 l0 72) + 1)) (w := .int (iI ((F 13 l0 72) + 1))) hx hb hts inW_13 tyX13 tyX13_ok nmX13 hown hK hZ26 hS26 g23.1 g23.2 rfl (by decide) k_10_11 rfl (fun G h => congrArg (fun q => Value.int (iI q)) h) rfl rfl (zno (by decide)) (D_181 W_prog_15_method_172_code_128 23 rfl rfl rfl) (fun H27 locs27 hZ27 hS27 => ?_)
      cases hf
      exact W.vret hx hb hr (fun t ht hW => ⟨⟨(), rfl, trivial, by rw [ht]; exact hZ27, va_K.moved hW.alike hK⟩, hS27.F ht⟩) hS27.2.2 (D_177 W_prog_15_method_172_code_128 26 rfl rfl) hlk
    · replace hf := gneg hf h22
      refine lv_aload_n hx hb (D_42 W_prog_15_method_172_code_64 26 rfl rfl) rfl (lv_at hl 2 rfl) ?_
      obtain ⟨g28, hf⟩ := gif hf
      refine zget (ci := 13) (C := RX13) (T := TX13) (v := .ref (ad 13 l0 (73 + 1))) (k := 73) hx hb hts inW_13 hown hK hZ g28.1 g28.2 rfl (by decide) k_10_13 rfl (D_180 W_prog_15_method_172_code_64 27 rfl rfl rfl) ?_
      refine lv_iload hx hb (D_21 W_prog_15_method_172_code_64 30 rfl rfl) (lv_at hl 0 rfl) ?_
      refine lv_aload_n hx hb (D_42 W_prog_15_method_172_code_96 0 rfl rfl) rfl (lv_at hl 2 rfl) ?_
      refine zget (ci := 13) (C := RX13) (T := TX13) (v := .ref (ad 13 l0 (73 + 1))) (k := 73) hx hb hts inW_13 hown hK hZ g28.1 g28.2 rfl (by decide) k_10_13 rfl (D_180 W_prog_15_method_172_code_96 1 rfl rfl rfl) ?_
      refine lv_iload hx hb (D_21 W_prog_15_method_172_code_96 4 rfl rfl) (lv_at hl 0 rfl) ?_
      refine lv_iconst (v := iI 1) hx hb (D_4 W_prog_15_method_172_code_96 6 rfl rfl) rfl ?_
      refine zsub hx hb (D_100 W_prog_15_method_172_code_96 7 rfl rfl) ?_
      obtain ⟨g29, hf⟩ := gif hf
      refine zlald (ci := 13) (k := 73) hx hb hK rfl hZ g28.1 g28.2 rfl (Nat.le_of_ble_eq_true rfl) g29.1 g29.2 (D_47 W_prog_15_method_172_code_96 8 rfl rfl) ?_
      obtain ⟨g30, hf⟩ := gif hf
      refine zlast (ci := 13) (k := 73) hx hb hK rfl hZ hS g28.1 g28.2 rfl (Nat.le_of_ble_eq_true rfl) g30.1 g30.2 (D_80 W_prog_15_method_172_code_96 9 rfl rfl) (fun H31 locs31 hZ31 hS31 => ?_)
      refine lv_aload_n hx hb (D_42 W_prog_15_method_172_code_96 10 rfl rfl) rfl (lv_at hl 2 rfl) ?_
      refine zget (ci := 13) (C := RX13) (T := TX13) (v := .ref (ad 13 l0 (74 + 1))) (k := 74) hx hb hts inW_13 hown hK hZ31 g28.1 g28.2 rfl (by decide) k_10_15 rfl (D_180 W_prog_15_method_172_code_96 11 rfl rfl rfl) ?_
      refine lv_iload hx hb (D_21 W_prog_15_method_172_code_96 14 rfl rfl) (lv_at hl 0 rfl) ?_
      refine lv_aload_n hx hb (D_42 W_prog_15_method_172_code_96 16 rfl rfl) rfl (lv_at hl 2 rfl) ?_
      refine zget (ci := 13) (C := RX13) (T := TX13) (v := .ref (ad 13 l0 (74 + 1))) (k := 74) hx hb hts inW_13 hown hK hZ31 g28.1 g28.2 rfl (by decide) k_10_15 rfl (D_180 W_prog_15_method_172_code_96 17 rfl rfl rfl) ?_
      refine lv_iload hx hb (D_21 W_prog_15_method_172_code_96 20 rfl rfl) (lv_at hl 0 rfl) ?_
      refine lv_iconst (v := iI 1) hx hb (D_4 W_prog_15_method_172_code_96 22 rfl rfl) rfl ?_
      refine zsub hx hb (D_100 W_prog_15_method_172_code_96 23 rfl rfl) ?_
      refine zlald (ci := 13) (k := 74) hx hb hK rfl hZ31 g28.1 g28.2 rfl (Nat.le_of_ble_eq_true rfl) g29.1 g29.2 (D_47 W_prog_15_method_172_code_96 24 rfl rfl) ?_
      refine zlast (ci := 13) (k := 74) hx hb hK rfl hZ31 hS31 g28.1 g28.2 rfl (Nat.le_of_ble_eq_true rfl) g30.1 g30.2 (D_80 W_prog_15_method_172_code_96 25 rfl rfl) (fun H33 locs33 hZ33 hS33 => ?_)
      refine lv_iinc (v := iI (l6 - 1)) (lv' := [(6, .int (iI (l6 - 1))), (5, .int (iI l5)), (0, .ref (ad 13 l0 0)), (1, .long (lI l1)), (3, .long (lI l3))]) hx hb d_15_172_122 hl (k := 0) rfl (by rw [show Int32.ofInt (-1) = iI (-1) from rfl, iI_add]; congr 1) (by decide) rfl (fun ls hl => ?_)
      refine lv_goto (tgt := 83) hx hb (D_167 W_prog_15_method_172_code_96 29 rfl rfl rfl) (by decide) ?_
      exact ih hf hZ33 hS33 (lv_sub hl [0, 1, 2, 3, 4] rfl)

def f_M_moment_1_77 (K : Nat) (l5 : Int) (l0 : Int) (l1 : Int) (l3 : Int) (F : zF) (B : zB) : zO := if 0 ≤ l0 ∧ l0 < 3 then f_M_moment_1_83 K K (F 13 l0 72) l5 l0 l1 l3 F B else none
set_option maxHeartbeats 4000000 in
set_option maxRecDepth 100000 in
theorem b_M_moment_1_77 {D : va_G} {ca : Nat → ClassId} {ad : Nat → Int → Nat → Nat} {L : List Nat} {aS vS : Nat → Nat} {A : Nat → Prop} {p : Program} {l : Launch} {e : Env} {s : State} {m : MethodId} {args : Array Value} {below : List Frame} {meth : Method} {c : Code} {K : Nat} {r : Int} {F9 : zF} {B9 : zB} (X : zX D ca L aS vS A p s m args meth c prog_15_method_172_code 7 (Option.none : Option Jvm.ClassFile.FieldType) "StaveHouseModel") {l5 : Int} {l0 : Int} {l1 : Int} {l3 : Int} {F : zF} {B : zB} {H : Heap} {locs : List Loc} {ls : Array Slot} (hf : f_M_moment_1_77 K l5 l0 l1 l3 F B = some (r, F9, B9)) (hZ : zH D ca ad lnM nM L F B A H) (hS : va_S A s.heap H locs) (hl : lv_has ls 7 [(5, .int (iI l5)), (0, .ref (ad 13 l0 0)), (1, .long (lI l1)), (3, .long (lI l3))]) : W p l e ({ frames := 2, cells := 0, slots := 0, locals := 62 } : Room) s m args below meth c H locs 0 0 (MQ below (Q_M_moment_1 D ca ad L r F9 B9 A) args s 0 0 A) (F0 m 77 ls []) := by
  obtain ⟨hx, hb, hr, hml, hown, hts, hlk, hK, hA, hL, hX⟩ := id X
  replace hf : (if 0 ≤ l0 ∧ l0 < 3 then f_M_moment_1_83 K K (F 13 l0 72) l5 l0 l1 l3 F B else none) = some (r, F9, B9) := hf
  refine lv_aload_n hx hb (D_42 W_prog_15_method_172_code_64 13 rfl rfl) rfl (lv_at hl 1 rfl) ?_
  obtain ⟨g19, hf⟩ := gif hf
  refine zget (ci := 13) (C := RX13) (T := TX13) (v := .int (iI (F 13 l0 72))) (k := 72) hx hb hts inW_13 hown hK hZ g19.1 g19.2 rfl (by decide) k_10_11 rfl (D_180 W_prog_15_method_172_code_64 14 rfl rfl rfl) ?_
  refine lv_istore (lv' := [(6, .int (iI (F 13 l0 72))), (5, .int (iI l5)), (0, .ref (ad 13 l0 0)), (1, .long (lI l1)), (3, .long (lI l3))]) hx hb (D_54 W_prog_15_method_172_code_64 17 rfl rfl) hl (by decide) rfl (fun ls hl => ?_)
  exact b_M_moment_1_83 X hf hZ hS (lv_sub hl [0, 1, 2, 3, 4] rfl)

def f_M_moment_1_43 (K : Nat) (l5 : Int) (l0 : Int) (l1 : Int) (l3 : Int) (F : zF) (B : zB) : zO := if r32 l5 then (if l5 ≤ 0 then f_M_moment_1_77 K l5 l0 l1 l3 F B else if 0 ≤ l0 ∧ l0 < 3 then if 0 ≤ (l5 - 1) ∧ (l5 - 1) < 800 then if r64 (B 13 l0 73 (l5 - 1)) then if r64 l1 then (if (zcmp (B 13 l0 73 (l5 - 1)) l1) = 0 then if r64 (B 13 l0 74 (l5 - 1)) then if r64 l3 then (if (zcmp (B 13 l0 74 (l5 - 1)) l3) = 0 then some (0, F, B) else f_M_moment_1_77 K l5 l0 l1 l3 F B) else none else none else f_M_moment_1_77 K l5 l0 l1 l3 F B) else none else none else none else none) else none
set_option maxHeartbeats 4000000 in
set_option maxRecDepth 100000 in
theorem b_M_moment_1_43 {D : va_G} {ca : Nat → ClassId} {ad : Nat → Int → Nat → Nat} {L : List Nat} {aS vS : Nat → Nat} {A : Nat → Prop} {p : Program} {l : Launch} {e : Env} {s : State} {m : MethodId} {args : Array Value} {below : List Frame} {meth : Method} {c : Code} {K : Nat} {r : Int} {F9 : zF} {B9 : zB} (X : zX D ca L aS vS A p s m args meth c prog_15_method_172_code 7 (Option.none : Option Jvm.ClassFile.FieldType) "StaveHouseModel") {l5 : Int} {l0 : Int} {l1 : Int} {l3 : Int} {F : zF} {B : zB} {H : Heap} {locs : List Loc} {ls : Array Slot} (hf : f_M_moment_1_43 K l5 l0 l1 l3 F B = some (r, F9, B9)) (hZ : zH D ca ad lnM nM L F B A H) (hS : va_S A s.heap H locs) (hl : lv_has ls 7 [(5, .int (iI l5)), (0, .ref (ad 13 l0 0)), (1, .long (lI l1)), (3, .long (lI l3))]) : W p l e ({ frames := 2, cells := 0, slots := 0, locals := 62 } : Room) s m args below meth c H locs 0 0 (MQ below (Q_M_moment_1 D ca ad L r F9 B9 A) args s 0 0 A) (F0 m 43 ls []) := by
  obtain ⟨hx, hb, hr, hml, hown, hts, hlk, hK, hA, hL, hX⟩ := id X
  replace hf : (if r32 l5 then (if l5 ≤ 0 then f_M_moment_1_77 K l5 l0 l1 l3 F B else if 0 ≤ l0 ∧ l0 < 3 then if 0 ≤ (l5 - 1) ∧ (l5 - 1) < 800 then if r64 (B 13 l0 73 (l5 - 1)) then if r64 l1 then (if (zcmp (B 13 l0 73 (l5 - 1)) l1) = 0 then if r64 (B 13 l0 74 (l5 - 1)) then if r64 l3 then (if (zcmp (B 13 l0 74 (l5 - 1)) l3) = 0 then some (0, F, B) else f_M_moment_1_77 K l5 l0 l1 l3 F B) else none else none else f_M_moment_1_77 K l5 l0 l1 l3 F B) else none else none else none else none) else none) = some (r, F9, B9) := hf
  refine lv_iload hx hb (D_21 W_prog_15_method_172_code_32 11 rfl rfl) (lv_at hl 0 rfl) ?_
  obtain ⟨g9, hf⟩ := gif hf
  refine z0le (tgt := 77) hx hb g9 (D_158 W_prog_15_method_172_code_32 13 rfl rfl rfl) (by decide) (fun h10 => ?_) (fun h10 => ?_)
  · replace hf := gpos hf h10
    exact b_M_moment_1_77 X hf hZ hS (lv_sub hl [0, 1, 2, 3] rfl)
  · replace hf := gneg hf h10
    refine lv_aload_n hx hb (D_42 W_prog_15_method_172_code_32 16 rfl rfl) rfl (lv_at hl 1 rfl) ?_
    obtain ⟨g11, hf⟩ := gif hf
    refine zget (ci := 13) (C := RX13) (T := TX13) (v := .ref (ad 13 l0 (73 + 1))) (k := 73) hx hb hts inW_13 hown hK hZ g11.1 g11.2 rfl (by decide) k_10_13 rfl (D_180 W_prog_15_method_172_code_32 17 rfl rfl rfl) ?_
    refine lv_iload hx hb (D_21 W_prog_15_method_172_code_32 20 rfl rfl) (lv_at hl 0 rfl) ?_
    refine lv_iconst (v := iI 1) hx hb (D_4 W_prog_15_method_172_code_32 22 rfl rfl) rfl ?_
    refine zsub hx hb (D_100 W_prog_15_method_172_code_32 23 rfl rfl) ?_
    obtain ⟨g12, hf⟩ := gif hf
    refine zlald (ci := 13) (k := 73) hx hb hK rfl hZ g11.1 g11.2 rfl (Nat.le_of_ble_eq_true rfl) g12.1 g12.2 (D_47 W_prog_15_method_172_code_32 24 rfl rfl) ?_
    refine lv_lload_n hx hb (D_31 W_prog_15_method_172_code_32 25 rfl rfl) rfl (lv_at hl 2 rfl) ?_
    obtain ⟨g13, hf⟩ := gif hf
    obtain ⟨g14, hf⟩ := gif hf
    refine zcmp_r hx hb g13 g14 (D_148 W_prog_15_method_172_code_32 26 rfl rfl) ?_
    refine z0ne (tgt := 77) hx hb zcmp_32 (D_154 W_prog_15_method_172_code_32 27 rfl rfl rfl) (by decide) (fun h15 => ?_) (fun h15 => ?_)
    · replace hf := gneg hf h15
      exact b_M_moment_1_77 X hf hZ hS (lv_sub hl [0, 1, 2, 3] rfl)
    · replace hf := gpos hf h15
      refine lv_aload_n hx hb (D_42 W_prog_15_method_172_code_32 30 rfl rfl) rfl (lv_at hl 1 rfl) ?_
      refine zget (ci := 13) (C := RX13) (T := TX13) (v := .ref (ad 13 l0 (74 + 1))) (k := 74) hx hb hts inW_13 hown hK hZ g11.1 g11.2 rfl (by decide) k_10_15 rfl (D_180 W_prog_15_method_172_code_32 31 rfl rfl rfl) ?_
      refine lv_iload hx hb (D_21 W_prog_15_method_172_code_64 2 rfl rfl) (lv_at hl 0 rfl) ?_
      refine lv_iconst (v := iI 1) hx hb (D_4 W_prog_15_method_172_code_64 4 rfl rfl) rfl ?_
      refine zsub hx hb (D_100 W_prog_15_method_172_code_64 5 rfl rfl) ?_
      refine zlald (ci := 13) (k := 74) hx hb hK rfl hZ g11.1 g11.2 rfl (Nat.le_of_ble_eq_true rfl) g12.1 g12.2 (D_47 W_prog_15_method_172_code_64 6 rfl rfl) ?_
      refine lv_lload_n hx hb (D_33 W_prog_15_method_172_code_64 7 rfl rfl) rfl (lv_at hl 3 rfl) ?_
      obtain ⟨g16, hf⟩ := gif hf
      obtain ⟨g17, hf⟩ := gif hf
      refine zcmp_r hx hb g16 g17 (D_148 W_prog_15_method_172_code_64 8 rfl rfl) ?_
      refine z0ne (tgt := 77) hx hb zcmp_32 (D_154 W_prog_15_method_172_code_64 9 rfl rfl rfl) (by decide) (fun h18 => ?_) (fun h18 => ?_)
      · replace hf := gneg hf h18
        exact b_M_moment_1_77 X hf hZ hS (lv_sub hl [0, 1, 2, 3] rfl)
      · replace hf := gpos hf h18
        cases hf
        exact W.vret hx hb hr (fun t ht hW => ⟨⟨(), rfl, trivial, by rw [ht]; exact hZ, va_K.moved hW.alike hK⟩, hS.F ht⟩) hS.2.2 (D_177 W_prog_15_method_172_code_64 12 rfl rfl) hlk

def f_M_moment_1_6 (K : Nat) : Nat → Int → Int → Int → Int → zF → zB → zO
  | 0, _, _, _, _, _, _ => none
  | n + 1, l5, l0, l1, l3, F, B => if r32 l5 then (if l5 ≤ 0 then f_M_moment_1_43 K l5 l0 l1 l3 F B else if 0 ≤ l0 ∧ l0 < 3 then if 0 ≤ (l5 - 1) ∧ (l5 - 1) < 800 then zbind (f_M_compare K (B 13 l0 73 (l5 - 1)) (B 13 l0 74 (l5 - 1)) l1 l3 F B) (fun r6 F6 B6 => if r32 r6 then (if r6 ≤ 0 then f_M_moment_1_43 K l5 l0 l1 l3 F6 B6 else f_M_moment_1_6 K n (l5 - 1) l0 l1 l3 F6 B6) else none) else none else none) else none
set_option maxHeartbeats 4000000 in
set_option maxRecDepth 100000 in
theorem b_M_moment_1_6 {D : va_G} {ca : Nat → ClassId} {ad : Nat → Int → Nat → Nat} {L : List Nat} {aS vS : Nat → Nat} {A : Nat → Prop} {p : Program} {l : Launch} {e : Env} {s : State} {m : MethodId} {args : Array Value} {below : List Frame} {meth : Method} {c : Code} {K : Nat} {r : Int} {F9 : zF} {B9 : zB} (X : zX D ca L aS vS A p s m args meth c prog_15_method_172_code 7 (Option.none : Option Jvm.ClassFile.FieldType) "StaveHouseModel") : ∀ {n : Nat} {l5 : Int} {l0 : Int} {l1 : Int} {l3 : Int} {F : zF} {B : zB} {H : Heap} {locs : List Loc} {ls : Array Slot}, f_M_moment_1_6 K n l5 l0 l1 l3 F B = some (r, F9, B9) → zH D ca ad lnM nM L F B A H → va_S A s.heap H locs → lv_has ls 7 [(5, .int (iI l5)), (0, .ref (ad 13 l0 0)), (1, .long (lI l1)), (3, .long (lI l3))] → W p l e ({ frames := 2, cells := 0, slots := 0, locals := 62 } : Room) s m args below meth c H locs 0 0 (MQ below (Q_M_moment_1 D ca ad L r F9 B9 A) args s 0 0 A) (F0 m 6 ls []) := by
  obtain ⟨hx, hb, hr, hml, hown, hts, hlk, hK, hA, hL, hX⟩ := id X
  intro n
  induction n with
  | zero =>
    intros
    rename_i hf _ _ _
    cases hf
  | succ n ih =>
    intro l5 l0 l1 l3 F B H locs ls hf hZ hS hl
    replace hf : (if r32 l5 then (if l5 ≤ 0 then f_M_moment_1_43 K l5 l0 l1 l3 F B else if 0 ≤ l0 ∧ l0 < 3 then if 0 ≤ (l5 - 1) ∧ (l5 - 1) < 800 then zbind (f_M_compare K (B 13 l0 73 (l5 - 1)) (B 13 l0 74 (l5 - 1)) l1 l3 F B) (fun r6 F6 B6 => if r32 r6 then (if r6 ≤ 0 then f_M_moment_1_43 K l5 l0 l1 l3 F6 B6 else f_M_moment_1_6 K n (l5 - 1) l0 l1 l3 F6 B6) else none) else none else none) else none) = some (r, F9, B9) := hf
    refine lv_iload hx hb (D_21 W_prog_15_method_172_code_0 6 rfl rfl) (lv_at hl 0 rfl) ?_
    obtain ⟨g2, hf⟩ := gif hf
    refine z0le (tgt := 43) hx hb g2 (D_158 W_prog_15_method_172_code_0 8 rfl rfl rfl) (by decide) (fun h3 => ?_) (fun h3 => ?_)
    · replace hf := gpos hf h3
      exact b_M_moment_1_43 X hf hZ hS (lv_sub hl [0, 1, 2, 3] rfl)
    · replace hf := gneg hf h3
      refine lv_aload_n hx hb (D_42 W_prog_15_method_172_code_0 11 rfl rfl) rfl (lv_at hl 1 rfl) ?_
      obtain ⟨g4, hf⟩ := gif hf
      refine zget (ci := 13) (C := RX13) (T := TX13) (v := .ref (ad 13 l0 (73 + 1))) (k := 73) hx hb hts inW_13 hown hK hZ g4.1 g4.2 rfl (by decide) k_10_13 rfl (D_180 W_prog_15_method_172_code_0 12 rfl rfl rfl) ?_
      refine lv_iload hx hb (D_21 W_prog_15_method_172_code_0 15 rfl rfl) (lv_at hl 0 rfl) ?_
      refine lv_iconst (v := iI 1) hx hb (D_4 W_prog_15_method_172_code_0 17 rfl rfl) rfl ?_
      refine zsub hx hb (D_100 W_prog_15_method_172_code_0 18 rfl rfl) ?_
      obtain ⟨g5, hf⟩ := gif hf
      refine zlald (ci := 13) (k := 73) hx hb hK rfl hZ g4.1 g4.2 rfl (Nat.le_of_ble_eq_true rfl) g5.1 g5.2 (D_47 W_prog_15_method_172_code_0 19 rfl rfl) ?_
      refine lv_aload_n hx hb (D_42 W_prog_15_method_172_code_0 20 rfl rfl) rfl (lv_at hl 1 rfl) ?_
      refine zget (ci := 13) (C := RX13) (T := TX13) (v := .ref (ad 13 l0 (74 + 1))) (k := 74) hx hb hts inW_13 hown hK hZ g4.1 g4.2 rfl (by decide) k_10_15 rfl (D_180 W_prog_15_method_172_code_0 21 rfl rfl rfl) ?_
      refine lv_iload hx hb (D_21 W_prog_15_method_172_code_0 24 rfl rfl) (lv_at hl 0 rfl) ?_
      refine lv_iconst (v := iI 1) hx hb (D_4 W_prog_15_method_172_code_0 26 rfl rfl) rfl ?_
      refine zsub hx hb (D_100 W_prog_15_method_172_code_0 27 rfl rfl) ?_
      refine zlald (ci := 13) (k := 74) hx hb hK rfl hZ g4.1 g4.2 rfl (Nat.le_of_ble_eq_true rfl) g5.1 g5.2 (D_47 W_prog_15_method_172_code_0 28 rfl rfl) ?_
      refine lv_lload_n hx hb (D_31 W_prog_15_method_172_code_0 29 rfl rfl) rfl (lv_at hl 2 rfl) ?_
      refine lv_lload_n hx hb (D_33 W_prog_15_method_172_code_0 30 rfl rfl) rfl (lv_at hl 3 rfl) ?_
      obtain ⟨r6, F6, B6, hc6, hf⟩ := gbind hf
      refine va_calli (va_runS (As := [.long (lI (B 13 l0 73 (l5 - 1))), .long (lI (B 13 l0 74 (l5 - 1))), .long (lI l1), .long (lI l3)]) (rest := []) ⟨hx, hb, hml, hown, hts⟩ (c_M_compare (l := l) hc6) (va_cwS 4 hts (gdS k_13_104 k_13_105 k_1_9 k_13_106) rfl rfl rfl (by decide +kernel) ⟨Nat.le_of_ble_eq_true rfl, Nat.le_of_ble_eq_true rfl⟩) (zPS X hZ hS [.long (lI (B 13 l0 73 (l5 - 1))), .long (lI (B 13 l0 74 (l5 - 1))), .long (lI l1), .long (lI l3)]) rfl rfl hl.1 rfl (lv_room (Nat.le_of_ble_eq_true rfl)) (D_184 W_prog_15_method_172_code_0 31 rfl rfl rfl) ⟨Nat.le_of_ble_eq_true rfl, Nat.le_of_ble_eq_true rfl⟩) hS (fun q _ h => zAin X hS q h) (zAin X hS) (fun p6 u6 t6 H6 locs6 ht6 hv6 hw6 hB6 hz6 hk6 hS6 => ?_)
      have hZ6 := zBack X ht6 hB6
      subst hw6
      obtain ⟨g7, hf⟩ := gif hf
      refine z0le (tgt := 43) hx hb g7 (D_158 W_prog_15_method_172_code_32 2 rfl rfl rfl) (by decide) (fun h8 => ?_) (fun h8 => ?_)
      · replace hf := gpos hf h8
        exact b_M_moment_1_43 X hf hZ6 hS6 (lv_sub hl [0, 1, 2, 3] rfl)
      · replace hf := gneg hf h8
        refine lv_iinc (v := iI (l5 - 1)) (lv' := [(5, .int (iI (l5 - 1))), (0, .ref (ad 13 l0 0)), (1, .long (lI l1)), (3, .long (lI l3))]) hx hb d_15_172_37 hl (k := 0) rfl (by rw [show Int32.ofInt (-1) = iI (-1) from rfl, iI_add]; congr 1) (by decide) rfl (fun ls hl => ?_)
        refine lv_goto (tgt := 6) hx hb (D_167 W_prog_15_method_172_code_32 8 rfl rfl rfl) (by decide) ?_
        exact ih hf hZ6 hS6 (lv_sub hl [0, 1, 2, 3] rfl)

def f_M_moment_1 (K : Nat) (l0 : Int) (l1 : Int) (l3 : Int) (F : zF) (B : zB) : zO := if 0 ≤ l0 ∧ l0 < 3 then f_M_moment_1_6 K K (F 13 l0 72) l0 l1 l3 F B else none
set_option maxHeartbeats 4000000 in
set_option maxRecDepth 100000 in
theorem c_M_moment_1 {l : Launch} {D : va_G} {ca : Nat → ClassId} {ad : Nat → Int → Nat → Nat} {L : List Nat} {aS vS : Nat → Nat} {sz K : Nat}  {l0 : Int} {l1 : Int} {l3 : Int} {F F9 : zF} {B B9 : zB} {r : Int} (hf : f_M_moment_1 K l0 l1 l3 F B = some (r, F9, B9)) : Met l ({ cls := "StaveHouseModel", name := "moment", desc := "(LStaveHouseModel$Piece;JJ)V" } : Jvm.MethodName) (Cond.code ({ cls := "StaveHouseModel", name := "moment", desc := "(LStaveHouseModel$Piece;JJ)V" } : Jvm.MethodName) prog_15_method_172_code 7 (Option.none : Option Jvm.ClassFile.FieldType) :: wAll) ({ frames := 2, cells := 0, slots := 0, locals := 62 } : Room) (va_Pc [.ref (ad 13 l0 0), .long (lI l1), .long (lI l3)] (zPre D ca ad lnM nM L aS vS F B sz)) (Q_M_moment_1 D ca ad L r F9 B9 (zA L sz)) 0 0 (zA L sz) := by
  refine zMet (Qc := Q_M_moment_1 D ca ad L r F9 B9) (lv := [(0, .ref (ad 13 l0 0)), (1, .long (lI l1)), (3, .long (lI l3))]) (by decide) (Nat.le_of_ble_eq_true rfl) rfl (fun A p e s m below meth c ls X hZ hS hl => ?_)
  obtain ⟨hx, hb, hr, hml, hown, hts, hlk, hK, hA, hL, hX⟩ := id X
  replace hf : (if 0 ≤ l0 ∧ l0 < 3 then f_M_moment_1_6 K K (F 13 l0 72) l0 l1 l3 F B else none) = some (r, F9, B9) := hf
  refine lv_aload_n hx hb (D_42 W_prog_15_method_172_code_0 0 rfl rfl) rfl (lv_at hl 0 rfl) ?_
  obtain ⟨g1, hf⟩ := gif hf
  refine zget (ci := 13) (C := RX13) (T := TX13) (v := .int (iI (F 13 l0 72))) (k := 72) hx hb hts inW_13 hown hK hZ g1.1 g1.2 rfl (by decide) k_10_11 rfl (D_180 W_prog_15_method_172_code_0 1 rfl rfl rfl) ?_
  refine lv_istore (lv' := [(5, .int (iI (F 13 l0 72))), (0, .ref (ad 13 l0 0)), (1, .long (lI l1)), (3, .long (lI l3))]) hx hb (D_54 W_prog_15_method_172_code_0 4 rfl rfl) hl (by decide) rfl (fun ls hl => ?_)
  exact b_M_moment_1_6 X hf hZ hS (lv_sub hl [0, 1, 2, 3] rfl)

abbrev Q_M_lineAt (D : va_G) (ca : Nat → ClassId) (ad : Nat → Int → Nat → Nat) (L : List Nat) (r : Int) (F : zF) (B : zB) (A : Nat → Prop) : Array Value → State → Outcome → State → Prop := va_Qi (S := Unit) (fun p _ => p = iI r) (fun _ => zPo D ca ad lnM nM L F B A) A
def f_M_lineAt (K : Nat) (l0 : Int) (l1 : Int) (l2 : Int) (F : zF) (B : zB) : zO := if 0 ≤ l0 ∧ l0 < 3 then if 0 ≤ ((4 * l1) + l2) ∧ ((4 * l1) + l2) < 3200 then zbind (f_M_lineOf K l0 ((1000 * l2) + (B 13 l0 75 ((4 * l1) + l2))) F B) (fun r3 F3 B3 => some (r3, F3, B3)) else none else none
set_option maxHeartbeats 4000000 in
set_option maxRecDepth 100000 in
theorem c_M_lineAt {l : Launch} {D : va_G} {ca : Nat → ClassId} {ad : Nat → Int → Nat → Nat} {L : List Nat} {aS vS : Nat → Nat} {sz K : Nat}  {l0 : Int} {l1 : Int} {l2 : Int} {F F9 : zF} {B B9 : zB} {r : Int} (hf : f_M_lineAt K l0 l1 l2 F B = some (r, F9, B9)) : Met l ({ cls := "StaveHouseModel", name := "lineAt", desc := "(LStaveHouseModel$Piece;II)I" } : Jvm.MethodName) (Cond.code ({ cls := "StaveHouseModel", name := "lineAt", desc := "(LStaveHouseModel$Piece;II)I" } : Jvm.MethodName) prog_15_method_183_code 3 (Option.some Jvm.ClassFile.FieldType.int) :: wAll) ({ frames := 2, cells := 0, slots := 0, locals := 46 } : Room) (va_Pc [.ref (ad 13 l0 0), .int (iI l1), .int (iI l2)] (zPre D ca ad lnM nM L aS vS F B sz)) (Q_M_lineAt D ca ad L r F9 B9 (zA L sz)) 0 0 (zA L sz) := by
  refine zMet (Qc := Q_M_lineAt D ca ad L r F9 B9) (lv := [(0, .ref (ad 13 l0 0)), (1, .int (iI l1)), (2, .int (iI l2))]) (by decide) (Nat.le_of_ble_eq_true rfl) rfl (fun A p e s m below meth c ls X hZ hS hl => ?_)
  obtain ⟨hx, hb, hr, hml, hown, hts, hlk, hK, hA, hL, hX⟩ := id X
  replace hf : (if 0 ≤ l0 ∧ l0 < 3 then if 0 ≤ ((4 * l1) + l2) ∧ ((4 * l1) + l2) < 3200 then zbind (f_M_lineOf K l0 ((1000 * l2) + (B 13 l0 75 ((4 * l1) + l2))) F B) (fun r3 F3 B3 => some (r3, F3, B3)) else none else none) = some (r, F9, B9) := hf
  refine lv_aload_n hx hb (D_42 W_prog_15_method_183_code_0 0 rfl rfl) rfl (lv_at hl 0 rfl) ?_
  refine lv_sipush (v := iI 1000) hx hb (D_17 W_prog_15_method_183_code_0 1 rfl rfl rfl) (by decide) ?_
  refine lv_iload_n hx hb (D_28 W_prog_15_method_183_code_0 4 rfl rfl) rfl (lv_at hl 2 rfl) ?_
  refine zmul hx hb (D_104 W_prog_15_method_183_code_0 5 rfl rfl) ?_
  refine lv_aload_n hx hb (D_42 W_prog_15_method_183_code_0 6 rfl rfl) rfl (lv_at hl 0 rfl) ?_
  obtain ⟨g1, hf⟩ := gif hf
  refine zget (ci := 13) (C := RX13) (T := TX13) (v := .ref (ad 13 l0 (75 + 1))) (k := 75) hx hb hts inW_13 hown hK hZ g1.1 g1.2 rfl (by decide) k_10_17 rfl (D_180 W_prog_15_method_183_code_0 7 rfl rfl rfl) ?_
  refine lv_iconst (v := iI 4) hx hb (D_7 W_prog_15_method_183_code_0 10 rfl rfl) rfl ?_
  refine lv_iload_n hx hb (D_27 W_prog_15_method_183_code_0 11 rfl rfl) rfl (lv_at hl 1 rfl) ?_
  refine zmul hx hb (D_104 W_prog_15_method_183_code_0 12 rfl rfl) ?_
  refine lv_iload_n hx hb (D_28 W_prog_15_method_183_code_0 13 rfl rfl) rfl (lv_at hl 2 rfl) ?_
  refine zadd hx hb (D_96 W_prog_15_method_183_code_0 14 rfl rfl) ?_
  obtain ⟨g2, hf⟩ := gif hf
  refine zald (ci := 13) (k := 75) hx hb hK rfl hZ g1.1 g1.2 rfl (Nat.le_of_ble_eq_true rfl) g2.1 g2.2 (D_46 W_prog_15_method_183_code_0 15 rfl rfl) ?_
  refine zadd hx hb (D_96 W_prog_15_method_183_code_0 16 rfl rfl) ?_
  obtain ⟨r3, F3, B3, hc3, hf⟩ := gbind hf
  refine va_calli (va_runS (As := [.ref (ad 13 l0 0), .int (iI ((1000 * l2) + (B 13 l0 75 ((4 * l1) + l2))))]) (rest := []) ⟨hx, hb, hml, hown, hts⟩ (c_M_lineOf (l := l) hc3) (va_cwS 2 hts (gdS k_14_61 k_14_62 k_1_9 k_14_63) rfl rfl rfl (by decide +kernel) ⟨Nat.le_of_ble_eq_true rfl, Nat.le_of_ble_eq_true rfl⟩) (zPS X hZ hS [.ref (ad 13 l0 0), .int (iI ((1000 * l2) + (B 13 l0 75 ((4 * l1) + l2))))]) rfl rfl hl.1 rfl (lv_room (Nat.le_of_ble_eq_true rfl)) (D_184 W_prog_15_method_183_code_0 17 rfl rfl rfl) ⟨Nat.le_of_ble_eq_true rfl, Nat.le_of_ble_eq_true rfl⟩) hS (fun q _ h => zAin X hS q h) (zAin X hS) (fun p3 u3 t3 H3 locs3 ht3 hv3 hw3 hB3 hz3 hk3 hS3 => ?_)
  have hZ3 := zBack X ht3 hB3
  subst hw3
  cases hf
  exact W.iret hx hb hr (fun t ht hW => ⟨⟨_, (), rfl, rfl, by rw [ht]; exact hZ3, va_K.moved hW.alike hK⟩, hS3.F ht⟩) hS3.2.2 (D_172 W_prog_15_method_183_code_0 20 rfl rfl) hlk

abbrev Q_M_beginsAt (D : va_G) (ca : Nat → ClassId) (ad : Nat → Int → Nat → Nat) (L : List Nat) (r : Int) (F : zF) (B : zB) (A : Nat → Prop) : Array Value → State → Outcome → State → Prop := va_Qi (S := Unit) (fun p _ => p = iI r) (fun _ => zPo D ca ad lnM nM L F B A) A
def f_M_beginsAt_30 (K : Nat) (s0 : Int) (F : zF) (B : zB) : zO := if (s0 = 0 ∨ s0 = 1) then some (s0, F, B) else none
set_option maxHeartbeats 4000000 in
set_option maxRecDepth 100000 in
theorem b_M_beginsAt_30 {D : va_G} {ca : Nat → ClassId} {ad : Nat → Int → Nat → Nat} {L : List Nat} {aS vS : Nat → Nat} {A : Nat → Prop} {p : Program} {l : Launch} {e : Env} {s : State} {m : MethodId} {args : Array Value} {below : List Frame} {meth : Method} {c : Code} {K : Nat} {r : Int} {F9 : zF} {B9 : zB} (X : zX D ca L aS vS A p s m args meth c prog_15_method_185_code 3 (Option.some Jvm.ClassFile.FieldType.boolean) "StaveHouseModel") {s0 : Int} {F : zF} {B : zB} {H : Heap} {locs : List Loc} {ls : Array Slot} (hf : f_M_beginsAt_30 K s0 F B = some (r, F9, B9)) (hZ : zH D ca ad lnM nM L F B A H) (hS : va_S A s.heap H locs) (hl : lv_has ls 3 []) : W p l e ({ frames := 0, cells := 0, slots := 0, locals := 0 } : Room) s m args below meth c H locs 0 0 (MQ below (Q_M_beginsAt D ca ad L r F9 B9 A) args s 0 0 A) (F0 m 30 ls [.int (iI s0)]) := by
  obtain ⟨hx, hb, hr, hml, hown, hts, hlk, hK, hA, hL, hX⟩ := id X
  replace hf : (if (s0 = 0 ∨ s0 = 1) then some (s0, F, B) else none) = some (r, F9, B9) := hf
  obtain ⟨g7, hf⟩ := gif hf
  cases hf
  exact W.zret hx hb hr (zbool g7) (fun t ht hW => ⟨⟨_, (), rfl, rfl, by rw [ht]; exact hZ, va_K.moved hW.alike hK⟩, hS.F ht⟩) hS.2.2 (D_172 W_prog_15_method_185_code_0 30 rfl rfl) hlk

def f_M_beginsAt (K : Nat) (l0 : Int) (l1 : Int) (l2 : Int) (F : zF) (B : zB) : zO := if 0 ≤ l0 ∧ l0 < 3 then if 0 ≤ ((4 * l1) + l2) ∧ ((4 * l1) + l2) < 3200 then if 0 ≤ ((4 * (l1 - 1)) + l2) ∧ ((4 * (l1 - 1)) + l2) < 3200 then if r32 (B 13 l0 75 ((4 * l1) + l2)) then if r32 (B 13 l0 75 ((4 * (l1 - 1)) + l2)) then (if (B 13 l0 75 ((4 * l1) + l2)) = (B 13 l0 75 ((4 * (l1 - 1)) + l2)) then f_M_beginsAt_30 K 0 F B else f_M_beginsAt_30 K 1 F B) else none else none else none else none else none
set_option maxHeartbeats 4000000 in
set_option maxRecDepth 100000 in
theorem c_M_beginsAt {l : Launch} {D : va_G} {ca : Nat → ClassId} {ad : Nat → Int → Nat → Nat} {L : List Nat} {aS vS : Nat → Nat} {sz K : Nat}  {l0 : Int} {l1 : Int} {l2 : Int} {F F9 : zF} {B B9 : zB} {r : Int} (hf : f_M_beginsAt K l0 l1 l2 F B = some (r, F9, B9)) : Met l ({ cls := "StaveHouseModel", name := "beginsAt", desc := "(LStaveHouseModel$Piece;II)Z" } : Jvm.MethodName) (Cond.code ({ cls := "StaveHouseModel", name := "beginsAt", desc := "(LStaveHouseModel$Piece;II)Z" } : Jvm.MethodName) prog_15_method_185_code 3 (Option.some Jvm.ClassFile.FieldType.boolean) :: wAll) ({ frames := 0, cells := 0, slots := 0, locals := 0 } : Room) (va_Pc [.ref (ad 13 l0 0), .int (iI l1), .int (iI l2)] (zPre D ca ad lnM nM L aS vS F B sz)) (Q_M_beginsAt D ca ad L r F9 B9 (zA L sz)) 0 0 (zA L sz) := by
  refine zMet (Qc := Q_M_beginsAt D ca ad L r F9 B9) (lv := [(0, .ref (ad 13 l0 0)), (1, .int (iI l1)), (2, .int (iI l2))]) (by decide) (Nat.le_of_ble_eq_true rfl) rfl (fun A p e s m below meth c ls X hZ hS hl => ?_)
  obtain ⟨hx, hb, hr, hml, hown, hts, hlk, hK, hA, hL, hX⟩ := id X
  replace hf : (if 0 ≤ l0 ∧ l0 < 3 then if 0 ≤ ((4 * l1) + l2) ∧ ((4 * l1) + l2) < 3200 then if 0 ≤ ((4 * (l1 - 1)) + l2) ∧ ((4 * (l1 - 1)) + l2) < 3200 then if r32 (B 13 l0 75 ((4 * l1) + l2)) then if r32 (B 13 l0 75 ((4 * (l1 - 1)) + l2)) then (if (B 13 l0 75 ((4 * l1) + l2)) = (B 13 l0 75 ((4 * (l1 - 1)) + l2)) then f_M_beginsAt_30 K 0 F B else f_M_beginsAt_30 K 1 F B) else none else none else none else none else none) = some (r, F9, B9) := hf
  refine lv_aload_n hx hb (D_42 W_prog_15_method_185_code_0 0 rfl rfl) rfl (lv_at hl 0 rfl) ?_
  obtain ⟨g1, hf⟩ := gif hf
  refine zget (ci := 13) (C := RX13) (T := TX13) (v := .ref (ad 13 l0 (75 + 1))) (k := 75) hx hb hts inW_13 hown hK hZ g1.1 g1.2 rfl (by decide) k_10_17 rfl (D_180 W_prog_15_method_185_code_0 1 rfl rfl rfl) ?_
  refine lv_iconst (v := iI 4) hx hb (D_7 W_prog_15_method_185_code_0 4 rfl rfl) rfl ?_
  refine lv_iload_n hx hb (D_27 W_prog_15_method_185_code_0 5 rfl rfl) rfl (lv_at hl 1 rfl) ?_
  refine zmul hx hb (D_104 W_prog_15_method_185_code_0 6 rfl rfl) ?_
  refine lv_iload_n hx hb (D_28 W_prog_15_method_185_code_0 7 rfl rfl) rfl (lv_at hl 2 rfl) ?_
  refine zadd hx hb (D_96 W_prog_15_method_185_code_0 8 rfl rfl) ?_
  obtain ⟨g2, hf⟩ := gif hf
  refine zald (ci := 13) (k := 75) hx hb hK rfl hZ g1.1 g1.2 rfl (Nat.le_of_ble_eq_true rfl) g2.1 g2.2 (D_46 W_prog_15_method_185_code_0 9 rfl rfl) ?_
  refine lv_aload_n hx hb (D_42 W_prog_15_method_185_code_0 10 rfl rfl) rfl (lv_at hl 0 rfl) ?_
  refine zget (ci := 13) (C := RX13) (T := TX13) (v := .ref (ad 13 l0 (75 + 1))) (k := 75) hx hb hts inW_13 hown hK hZ g1.1 g1.2 rfl (by decide) k_10_17 rfl (D_180 W_prog_15_method_185_code_0 11 rfl rfl rfl) ?_
  refine lv_iconst (v := iI 4) hx hb (D_7 W_prog_15_method_185_code_0 14 rfl rfl) rfl ?_
  refine lv_iload_n hx hb (D_27 W_prog_15_method_185_code_0 15 rfl rfl) rfl (lv_at hl 1 rfl) ?_
  refine lv_iconst (v := iI 1) hx hb (D_4 W_prog_15_method_185_code_0 16 rfl rfl) rfl ?_
  refine zsub hx hb (D_100 W_prog_15_method_185_code_0 17 rfl rfl) ?_
  refine zmul hx hb (D_104 W_prog_15_method_185_code_0 18 rfl rfl) ?_
  refine lv_iload_n hx hb (D_28 W_prog_15_method_185_code_0 19 rfl rfl) rfl (lv_at hl 2 rfl) ?_
  refine zadd hx hb (D_96 W_prog_15_method_185_code_0 20 rfl rfl) ?_
  obtain ⟨g3, hf⟩ := gif hf
  refine zald (ci := 13) (k := 75) hx hb hK rfl hZ g1.1 g1.2 rfl (Nat.le_of_ble_eq_true rfl) g3.1 g3.2 (D_46 W_prog_15_method_185_code_0 21 rfl rfl) ?_
  obtain ⟨g4, hf⟩ := gif hf
  obtain ⟨g5, hf⟩ := gif hf
  refine zeq (tgt := 29) hx hb g4 g5 (D_159 W_prog_15_method_185_code_0 22 rfl rfl rfl) (by decide) (fun h6 => ?_) (fun h6 => ?_)
  · replace hf := gpos hf h6
    refine lv_iconst (v := iI 0) hx hb (D_3 W_prog_15_method_185_code_0 29 rfl rfl) rfl ?_
    exact b_M_beginsAt_30 X hf hZ hS (lv_sub hl [] rfl)
  · replace hf := gneg hf h6
    refine lv_iconst (v := iI 1) hx hb (D_4 W_prog_15_method_185_code_0 25 rfl rfl) rfl ?_
    refine lv_goto (tgt := 30) hx hb (D_167 W_prog_15_method_185_code_0 26 rfl rfl rfl) (by decide) ?_
    exact b_M_beginsAt_30 X hf hZ hS (lv_sub hl [] rfl)

abbrev Q_M_toneAt (D : va_G) (ca : Nat → ClassId) (ad : Nat → Int → Nat → Nat) (L : List Nat) (r : Int) (F : zF) (B : zB) (A : Nat → Prop) : Array Value → State → Outcome → State → Prop := va_Qi (S := Unit) (fun p _ => p = iI r) (fun _ => zPo D ca ad lnM nM L F B A) A
def f_M_toneAt (K : Nat) (l0 : Int) (l1 : Int) (F : zF) (B : zB) : zO := if 0 ≤ l0 ∧ l0 < 3 then if 0 ≤ l1 ∧ l1 < 24000 then zbind (f_M_tone K (B 13 l0 28 l1) (B 13 l0 29 l1) F B) (fun r3 F3 B3 => some (r3, F3, B3)) else none else none
set_option maxHeartbeats 4000000 in
set_option maxRecDepth 100000 in
theorem c_M_toneAt {l : Launch} {D : va_G} {ca : Nat → ClassId} {ad : Nat → Int → Nat → Nat} {L : List Nat} {aS vS : Nat → Nat} {sz K : Nat}  {l0 : Int} {l1 : Int} {F F9 : zF} {B B9 : zB} {r : Int} (hf : f_M_toneAt K l0 l1 F B = some (r, F9, B9)) : Met l ({ cls := "StaveHouseModel", name := "toneAt", desc := "(LStaveHouseModel$Piece;I)I" } : Jvm.MethodName) (Cond.code ({ cls := "StaveHouseModel", name := "toneAt", desc := "(LStaveHouseModel$Piece;I)I" } : Jvm.MethodName) prog_15_method_184_code 2 (Option.some Jvm.ClassFile.FieldType.int) :: wAll) ({ frames := 1, cells := 0, slots := 0, locals := 23 } : Room) (va_Pc [.ref (ad 13 l0 0), .int (iI l1)] (zPre D ca ad lnM nM L aS vS F B sz)) (Q_M_toneAt D ca ad L r F9 B9 (zA L sz)) 0 0 (zA L sz) := by
  refine zMet (Qc := Q_M_toneAt D ca ad L r F9 B9) (lv := [(0, .ref (ad 13 l0 0)), (1, .int (iI l1))]) (by decide) (Nat.le_of_ble_eq_true rfl) rfl (fun A p e s m below meth c ls X hZ hS hl => ?_)
  obtain ⟨hx, hb, hr, hml, hown, hts, hlk, hK, hA, hL, hX⟩ := id X
  replace hf : (if 0 ≤ l0 ∧ l0 < 3 then if 0 ≤ l1 ∧ l1 < 24000 then zbind (f_M_tone K (B 13 l0 28 l1) (B 13 l0 29 l1) F B) (fun r3 F3 B3 => some (r3, F3, B3)) else none else none) = some (r, F9, B9) := hf
  refine lv_aload_n hx hb (D_42 W_prog_15_method_184_code_0 0 rfl rfl) rfl (lv_at hl 0 rfl) ?_
  obtain ⟨g1, hf⟩ := gif hf
  refine zget (ci := 13) (C := RX13) (T := TX13) (v := .ref (ad 13 l0 (28 + 1))) (k := 28) hx hb hts inW_13 hown hK hZ g1.1 g1.2 rfl (by decide) k_9_174 rfl (D_180 W_prog_15_method_184_code_0 1 rfl rfl rfl) ?_
  refine lv_iload_n hx hb (D_27 W_prog_15_method_184_code_0 4 rfl rfl) rfl (lv_at hl 1 rfl) ?_
  obtain ⟨g2, hf⟩ := gif hf
  refine zald (ci := 13) (k := 28) hx hb hK rfl hZ g1.1 g1.2 rfl (Nat.le_of_ble_eq_true rfl) g2.1 g2.2 (D_46 W_prog_15_method_184_code_0 5 rfl rfl) ?_
  refine lv_aload_n hx hb (D_42 W_prog_15_method_184_code_0 6 rfl rfl) rfl (lv_at hl 0 rfl) ?_
  refine zget (ci := 13) (C := RX13) (T := TX13) (v := .ref (ad 13 l0 (29 + 1))) (k := 29) hx hb hts inW_13 hown hK hZ g1.1 g1.2 rfl (by decide) k_9_176 rfl (D_180 W_prog_15_method_184_code_0 7 rfl rfl rfl) ?_
  refine lv_iload_n hx hb (D_27 W_prog_15_method_184_code_0 10 rfl rfl) rfl (lv_at hl 1 rfl) ?_
  refine zald (ci := 13) (k := 29) hx hb hK rfl hZ g1.1 g1.2 rfl (Nat.le_of_ble_eq_true rfl) g2.1 g2.2 (D_46 W_prog_15_method_184_code_0 11 rfl rfl) ?_
  obtain ⟨r3, F3, B3, hc3, hf⟩ := gbind hf
  refine va_calli (va_runS (As := [.int (iI (B 13 l0 28 l1)), .int (iI (B 13 l0 29 l1))]) (rest := []) ⟨hx, hb, hml, hown, hts⟩ (c_M_tone (l := l) hc3) (va_cwS 2 hts (gdS k_12_158 k_12_159 k_1_9 k_12_160) rfl rfl rfl (by decide +kernel) ⟨Nat.le_of_ble_eq_true rfl, Nat.le_of_ble_eq_true rfl⟩) (zPS X hZ hS [.int (iI (B 13 l0 28 l1)), .int (iI (B 13 l0 29 l1))]) rfl rfl hl.1 rfl (lv_room (Nat.le_of_ble_eq_true rfl)) (D_184 W_prog_15_method_184_code_0 12 rfl rfl rfl) ⟨Nat.le_of_ble_eq_true rfl, Nat.le_of_ble_eq_true rfl⟩) hS (fun q _ h => zAin X hS q h) (zAin X hS) (fun p3 u3 t3 H3 locs3 ht3 hv3 hw3 hB3 hz3 hk3 hS3 => ?_)
  have hZ3 := zBack X ht3 hB3
  subst hw3
  cases hf
  exact W.iret hx hb hr (fun t ht hW => ⟨⟨_, (), rfl, rfl, by rw [ht]; exact hZ3, va_K.moved hW.alike hK⟩, hS3.F ht⟩) hS3.2.2 (D_172 W_prog_15_method_184_code_0 15 rfl rfl) hlk

abbrev Q_M_isPlainStep (D : va_G) (ca : Nat → ClassId) (ad : Nat → Int → Nat → Nat) (L : List Nat) (r : Int) (F : zF) (B : zB) (A : Nat → Prop) : Array Value → State → Outcome → State → Prop := va_Qi (S := Unit) (fun p _ => p = iI r) (fun _ => zPo D ca ad lnM nM L F B A) A
def f_M_isPlainStep_131 (K : Nat) (s0 : Int) (F : zF) (B : zB) : zO := if (s0 = 0 ∨ s0 = 1) then some (s0, F, B) else none
set_option maxHeartbeats 4000000 in
set_option maxRecDepth 100000 in
theorem b_M_isPlainStep_131 {D : va_G} {ca : Nat → ClassId} {ad : Nat → Int → Nat → Nat} {L : List Nat} {aS vS : Nat → Nat} {A : Nat → Prop} {p : Program} {l : Launch} {e : Env} {s : State} {m : MethodId} {args : Array Value} {below : List Frame} {meth : Method} {c : Code} {K : Nat} {r : Int} {F9 : zF} {B9 : zB} (X : zX D ca L aS vS A p s m args meth c prog_15_method_193_code 2 (Option.some Jvm.ClassFile.FieldType.boolean) "StaveHouseModel") {s0 : Int} {F : zF} {B : zB} {H : Heap} {locs : List Loc} {ls : Array Slot} (hf : f_M_isPlainStep_131 K s0 F B = some (r, F9, B9)) (hZ : zH D ca ad lnM nM L F B A H) (hS : va_S A s.heap H locs) (hl : lv_has ls 2 []) : W p l e ({ frames := 0, cells := 0, slots := 0, locals := 0 } : Room) s m args below meth c H locs 0 0 (MQ below (Q_M_isPlainStep D ca ad L r F9 B9 A) args s 0 0 A) (F0 m 131 ls [.int (iI s0)]) := by
  obtain ⟨hx, hb, hr, hml, hown, hts, hlk, hK, hA, hL, hX⟩ := id X
  replace hf : (if (s0 = 0 ∨ s0 = 1) then some (s0, F, B) else none) = some (r, F9, B9) := hf
  obtain ⟨g31, hf⟩ := gif hf
  cases hf
  exact W.zret hx hb hr (zbool g31) (fun t ht hW => ⟨⟨_, (), rfl, rfl, by rw [ht]; exact hZ, va_K.moved hW.alike hK⟩, hS.F ht⟩) hS.2.2 (D_172 W_prog_15_method_193_code_128 3 rfl rfl) hlk

def f_M_isPlainStep_126 (K : Nat)  (F : zF) (B : zB) : zO := f_M_isPlainStep_131 K 1 F B
set_option maxHeartbeats 4000000 in
set_option maxRecDepth 100000 in
theorem b_M_isPlainStep_126 {D : va_G} {ca : Nat → ClassId} {ad : Nat → Int → Nat → Nat} {L : List Nat} {aS vS : Nat → Nat} {A : Nat → Prop} {p : Program} {l : Launch} {e : Env} {s : State} {m : MethodId} {args : Array Value} {below : List Frame} {meth : Method} {c : Code} {K : Nat} {r : Int} {F9 : zF} {B9 : zB} (X : zX D ca L aS vS A p s m args meth c prog_15_method_193_code 2 (Option.some Jvm.ClassFile.FieldType.boolean) "StaveHouseModel")  {F : zF} {B : zB} {H : Heap} {locs : List Loc} {ls : Array Slot} (hf : f_M_isPlainStep_126 K  F B = some (r, F9, B9)) (hZ : zH D ca ad lnM nM L F B A H) (hS : va_S A s.heap H locs) (hl : lv_has ls 2 []) : W p l e ({ frames := 0, cells := 0, slots := 0, locals := 0 } : Room) s m args below meth c H locs 0 0 (MQ below (Q_M_isPlainStep D ca ad L r F9 B9 A) args s 0 0 A) (F0 m 126 ls []) := by
  obtain ⟨hx, hb, hr, hml, hown, hts, hlk, hK, hA, hL, hX⟩ := id X
  replace hf : (f_M_isPlainStep_131 K 1 F B) = some (r, F9, B9) := hf
  refine lv_iconst (v := iI 1) hx hb (D_4 W_prog_15_method_193_code_96 30 rfl rfl) rfl ?_
  refine lv_goto (tgt := 131) hx hb (D_167 W_prog_15_method_193_code_96 31 rfl rfl rfl) (by decide) ?_
  exact b_M_isPlainStep_131 X hf hZ hS (lv_sub hl [] rfl)

def f_M_isPlainStep_106 (K : Nat)  (F : zF) (B : zB) : zO := f_M_isPlainStep_131 K 1 F B
set_option maxHeartbeats 4000000 in
set_option maxRecDepth 100000 in
theorem b_M_isPlainStep_106 {D : va_G} {ca : Nat → ClassId} {ad : Nat → Int → Nat → Nat} {L : List Nat} {aS vS : Nat → Nat} {A : Nat → Prop} {p : Program} {l : Launch} {e : Env} {s : State} {m : MethodId} {args : Array Value} {below : List Frame} {meth : Method} {c : Code} {K : Nat} {r : Int} {F9 : zF} {B9 : zB} (X : zX D ca L aS vS A p s m args meth c prog_15_method_193_code 2 (Option.some Jvm.ClassFile.FieldType.boolean) "StaveHouseModel")  {F : zF} {B : zB} {H : Heap} {locs : List Loc} {ls : Array Slot} (hf : f_M_isPlainStep_106 K  F B = some (r, F9, B9)) (hZ : zH D ca ad lnM nM L F B A H) (hS : va_S A s.heap H locs) (hl : lv_has ls 2 []) : W p l e ({ frames := 0, cells := 0, slots := 0, locals := 0 } : Room) s m args below meth c H locs 0 0 (MQ below (Q_M_isPlainStep D ca ad L r F9 B9 A) args s 0 0 A) (F0 m 106 ls []) := by
  obtain ⟨hx, hb, hr, hml, hown, hts, hlk, hK, hA, hL, hX⟩ := id X
  replace hf : (f_M_isPlainStep_131 K 1 F B) = some (r, F9, B9) := hf
  refine lv_iconst (v := iI 1) hx hb (D_4 W_prog_15_method_193_code_96 10 rfl rfl) rfl ?_
  refine lv_goto (tgt := 131) hx hb (D_167 W_prog_15_method_193_code_96 11 rfl rfl rfl) (by decide) ?_
  exact b_M_isPlainStep_131 X hf hZ hS (lv_sub hl [] rfl)

def f_M_isPlainStep_88 (K : Nat) (s0 : Int) (F : zF) (B : zB) : zO := if (s0 = 0 ∨ s0 = 1) then some (s0, F, B) else none
set_option maxHeartbeats 4000000 in
set_option maxRecDepth 100000 in
theorem b_M_isPlainStep_88 {D : va_G} {ca : Nat → ClassId} {ad : Nat → Int → Nat → Nat} {L : List Nat} {aS vS : Nat → Nat} {A : Nat → Prop} {p : Program} {l : Launch} {e : Env} {s : State} {m : MethodId} {args : Array Value} {below : List Frame} {meth : Method} {c : Code} {K : Nat} {r : Int} {F9 : zF} {B9 : zB} (X : zX D ca L aS vS A p s m args meth c prog_15_method_193_code 2 (Option.some Jvm.ClassFile.FieldType.boolean) "StaveHouseModel") {s0 : Int} {F : zF} {B : zB} {H : Heap} {locs : List Loc} {ls : Array Slot} (hf : f_M_isPlainStep_88 K s0 F B = some (r, F9, B9)) (hZ : zH D ca ad lnM nM L F B A H) (hS : va_S A s.heap H locs) (hl : lv_has ls 2 []) : W p l e ({ frames := 0, cells := 0, slots := 0, locals := 0 } : Room) s m args below meth c H locs 0 0 (MQ below (Q_M_isPlainStep D ca ad L r F9 B9 A) args s 0 0 A) (F0 m 88 ls [.int (iI s0)]) := by
  obtain ⟨hx, hb, hr, hml, hown, hts, hlk, hK, hA, hL, hX⟩ := id X
  replace hf : (if (s0 = 0 ∨ s0 = 1) then some (s0, F, B) else none) = some (r, F9, B9) := hf
  obtain ⟨g30, hf⟩ := gif hf
  cases hf
  exact W.zret hx hb hr (zbool g30) (fun t ht hW => ⟨⟨_, (), rfl, rfl, by rw [ht]; exact hZ, va_K.moved hW.alike hK⟩, hS.F ht⟩) hS.2.2 (D_172 W_prog_15_method_193_code_64 24 rfl rfl) hlk

def f_M_isPlainStep_71 (K : Nat) (s0 : Int) (F : zF) (B : zB) : zO := if (s0 = 0 ∨ s0 = 1) then some (s0, F, B) else none
set_option maxHeartbeats 4000000 in
set_option maxRecDepth 100000 in
theorem b_M_isPlainStep_71 {D : va_G} {ca : Nat → ClassId} {ad : Nat → Int → Nat → Nat} {L : List Nat} {aS vS : Nat → Nat} {A : Nat → Prop} {p : Program} {l : Launch} {e : Env} {s : State} {m : MethodId} {args : Array Value} {below : List Frame} {meth : Method} {c : Code} {K : Nat} {r : Int} {F9 : zF} {B9 : zB} (X : zX D ca L aS vS A p s m args meth c prog_15_method_193_code 2 (Option.some Jvm.ClassFile.FieldType.boolean) "StaveHouseModel") {s0 : Int} {F : zF} {B : zB} {H : Heap} {locs : List Loc} {ls : Array Slot} (hf : f_M_isPlainStep_71 K s0 F B = some (r, F9, B9)) (hZ : zH D ca ad lnM nM L F B A H) (hS : va_S A s.heap H locs) (hl : lv_has ls 2 []) : W p l e ({ frames := 0, cells := 0, slots := 0, locals := 0 } : Room) s m args below meth c H locs 0 0 (MQ below (Q_M_isPlainStep D ca ad L r F9 B9 A) args s 0 0 A) (F0 m 71 ls [.int (iI s0)]) := by
  obtain ⟨hx, hb, hr, hml, hown, hts, hlk, hK, hA, hL, hX⟩ := id X
  replace hf : (if (s0 = 0 ∨ s0 = 1) then some (s0, F, B) else none) = some (r, F9, B9) := hf
  obtain ⟨g29, hf⟩ := gif hf
  cases hf
  exact W.zret hx hb hr (zbool g29) (fun t ht hW => ⟨⟨_, (), rfl, rfl, by rw [ht]; exact hZ, va_K.moved hW.alike hK⟩, hS.F ht⟩) hS.2.2 (D_172 W_prog_15_method_193_code_64 7 rfl rfl) hlk

def f_M_isPlainStep_55 (K : Nat) (s0 : Int) (F : zF) (B : zB) : zO := if (s0 = 0 ∨ s0 = 1) then some (s0, F, B) else none
set_option maxHeartbeats 4000000 in
set_option maxRecDepth 100000 in
theorem b_M_isPlainStep_55 {D : va_G} {ca : Nat → ClassId} {ad : Nat → Int → Nat → Nat} {L : List Nat} {aS vS : Nat → Nat} {A : Nat → Prop} {p : Program} {l : Launch} {e : Env} {s : State} {m : MethodId} {args : Array Value} {below : List Frame} {meth : Method} {c : Code} {K : Nat} {r : Int} {F9 : zF} {B9 : zB} (X : zX D ca L aS vS A p s m args meth c prog_15_method_193_code 2 (Option.some Jvm.ClassFile.FieldType.boolean) "StaveHouseModel") {s0 : Int} {F : zF} {B : zB} {H : Heap} {locs : List Loc} {ls : Array Slot} (hf : f_M_isPlainStep_55 K s0 F B = some (r, F9, B9)) (hZ : zH D ca ad lnM nM L F B A H) (hS : va_S A s.heap H locs) (hl : lv_has ls 2 []) : W p l e ({ frames := 0, cells := 0, slots := 0, locals := 0 } : Room) s m args below meth c H locs 0 0 (MQ below (Q_M_isPlainStep D ca ad L r F9 B9 A) args s 0 0 A) (F0 m 55 ls [.int (iI s0)]) := by
  obtain ⟨hx, hb, hr, hml, hown, hts, hlk, hK, hA, hL, hX⟩ := id X
  replace hf : (if (s0 = 0 ∨ s0 = 1) then some (s0, F, B) else none) = some (r, F9, B9) := hf
  obtain ⟨g28, hf⟩ := gif hf
  cases hf
  exact W.zret hx hb hr (zbool g28) (fun t ht hW => ⟨⟨_, (), rfl, rfl, by rw [ht]; exact hZ, va_K.moved hW.alike hK⟩, hS.F ht⟩) hS.2.2 (D_172 W_prog_15_method_193_code_32 23 rfl rfl) hlk

def f_M_isPlainStep_50 (K : Nat)  (F : zF) (B : zB) : zO := f_M_isPlainStep_55 K 1 F B
set_option maxHeartbeats 4000000 in
set_option maxRecDepth 100000 in
theorem b_M_isPlainStep_50 {D : va_G} {ca : Nat → ClassId} {ad : Nat → Int → Nat → Nat} {L : List Nat} {aS vS : Nat → Nat} {A : Nat → Prop} {p : Program} {l : Launch} {e : Env} {s : State} {m : MethodId} {args : Array Value} {below : List Frame} {meth : Method} {c : Code} {K : Nat} {r : Int} {F9 : zF} {B9 : zB} (X : zX D ca L aS vS A p s m args meth c prog_15_method_193_code 2 (Option.some Jvm.ClassFile.FieldType.boolean) "StaveHouseModel")  {F : zF} {B : zB} {H : Heap} {locs : List Loc} {ls : Array Slot} (hf : f_M_isPlainStep_50 K  F B = some (r, F9, B9)) (hZ : zH D ca ad lnM nM L F B A H) (hS : va_S A s.heap H locs) (hl : lv_has ls 2 []) : W p l e ({ frames := 0, cells := 0, slots := 0, locals := 0 } : Room) s m args below meth c H locs 0 0 (MQ below (Q_M_isPlainStep D ca ad L r F9 B9 A) args s 0 0 A) (F0 m 50 ls []) := by
  obtain ⟨hx, hb, hr, hml, hown, hts, hlk, hK, hA, hL, hX⟩ := id X
  replace hf : (f_M_isPlainStep_55 K 1 F B) = some (r, F9, B9) := hf
  refine lv_iconst (v := iI 1) hx hb (D_4 W_prog_15_method_193_code_32 18 rfl rfl) rfl ?_
  refine lv_goto (tgt := 55) hx hb (D_167 W_prog_15_method_193_code_32 19 rfl rfl rfl) (by decide) ?_
  exact b_M_isPlainStep_55 X hf hZ hS (lv_sub hl [] rfl)

def f_M_isPlainStep_34 (K : Nat) (s0 : Int) (F : zF) (B : zB) : zO := if (s0 = 0 ∨ s0 = 1) then some (s0, F, B) else none
set_option maxHeartbeats 4000000 in
set_option maxRecDepth 100000 in
theorem b_M_isPlainStep_34 {D : va_G} {ca : Nat → ClassId} {ad : Nat → Int → Nat → Nat} {L : List Nat} {aS vS : Nat → Nat} {A : Nat → Prop} {p : Program} {l : Launch} {e : Env} {s : State} {m : MethodId} {args : Array Value} {below : List Frame} {meth : Method} {c : Code} {K : Nat} {r : Int} {F9 : zF} {B9 : zB} (X : zX D ca L aS vS A p s m args meth c prog_15_method_193_code 2 (Option.some Jvm.ClassFile.FieldType.boolean) "StaveHouseModel") {s0 : Int} {F : zF} {B : zB} {H : Heap} {locs : List Loc} {ls : Array Slot} (hf : f_M_isPlainStep_34 K s0 F B = some (r, F9, B9)) (hZ : zH D ca ad lnM nM L F B A H) (hS : va_S A s.heap H locs) (hl : lv_has ls 2 []) : W p l e ({ frames := 0, cells := 0, slots := 0, locals := 0 } : Room) s m args below meth c H locs 0 0 (MQ below (Q_M_isPlainStep D ca ad L r F9 B9 A) args s 0 0 A) (F0 m 34 ls [.int (iI s0)]) := by
  obtain ⟨hx, hb, hr, hml, hown, hts, hlk, hK, hA, hL, hX⟩ := id X
  replace hf : (if (s0 = 0 ∨ s0 = 1) then some (s0, F, B) else none) = some (r, F9, B9) := hf
  obtain ⟨g27, hf⟩ := gif hf
  cases hf
  exact W.zret hx hb hr (zbool g27) (fun t ht hW => ⟨⟨_, (), rfl, rfl, by rw [ht]; exact hZ, va_K.moved hW.alike hK⟩, hS.F ht⟩) hS.2.2 (D_172 W_prog_15_method_193_code_32 2 rfl rfl) hlk

def f_M_isPlainStep_29 (K : Nat)  (F : zF) (B : zB) : zO := f_M_isPlainStep_34 K 1 F B
set_option maxHeartbeats 4000000 in
set_option maxRecDepth 100000 in
theorem b_M_isPlainStep_29 {D : va_G} {ca : Nat → ClassId} {ad : Nat → Int → Nat → Nat} {L : List Nat} {aS vS : Nat → Nat} {A : Nat → Prop} {p : Program} {l : Launch} {e : Env} {s : State} {m : MethodId} {args : Array Value} {below : List Frame} {meth : Method} {c : Code} {K : Nat} {r : Int} {F9 : zF} {B9 : zB} (X : zX D ca L aS vS A p s m args meth c prog_15_method_193_code 2 (Option.some Jvm.ClassFile.FieldType.boolean) "StaveHouseModel")  {F : zF} {B : zB} {H : Heap} {locs : List Loc} {ls : Array Slot} (hf : f_M_isPlainStep_29 K  F B = some (r, F9, B9)) (hZ : zH D ca ad lnM nM L F B A H) (hS : va_S A s.heap H locs) (hl : lv_has ls 2 []) : W p l e ({ frames := 0, cells := 0, slots := 0, locals := 0 } : Room) s m args below meth c H locs 0 0 (MQ below (Q_M_isPlainStep D ca ad L r F9 B9 A) args s 0 0 A) (F0 m 29 ls []) := by
  obtain ⟨hx, hb, hr, hml, hown, hts, hlk, hK, hA, hL, hX⟩ := id X
  replace hf : (f_M_isPlainStep_34 K 1 F B) = some (r, F9, B9) := hf
  refine lv_iconst (v := iI 1) hx hb (D_4 W_prog_15_method_193_code_0 29 rfl rfl) rfl ?_
  refine lv_goto (tgt := 34) hx hb (D_167 W_prog_15_method_193_code_0 30 rfl rfl rfl) (by decide) ?_
  exact b_M_isPlainStep_34 X hf hZ hS (lv_sub hl [] rfl)

def f_M_isPlainStep_13 (K : Nat) (s0 : Int) (F : zF) (B : zB) : zO := if (s0 = 0 ∨ s0 = 1) then some (s0, F, B) else none
set_option maxHeartbeats 4000000 in
set_option maxRecDepth 100000 in
theorem b_M_isPlainStep_13 {D : va_G} {ca : Nat → ClassId} {ad : Nat → Int → Nat → Nat} {L : List Nat} {aS vS : Nat → Nat} {A : Nat → Prop} {p : Program} {l : Launch} {e : Env} {s : State} {m : MethodId} {args : Array Value} {below : List Frame} {meth : Method} {c : Code} {K : Nat} {r : Int} {F9 : zF} {B9 : zB} (X : zX D ca L aS vS A p s m args meth c prog_15_method_193_code 2 (Option.some Jvm.ClassFile.FieldType.boolean) "StaveHouseModel") {s0 : Int} {F : zF} {B : zB} {H : Heap} {locs : List Loc} {ls : Array Slot} (hf : f_M_isPlainStep_13 K s0 F B = some (r, F9, B9)) (hZ : zH D ca ad lnM nM L F B A H) (hS : va_S A s.heap H locs) (hl : lv_has ls 2 []) : W p l e ({ frames := 0, cells := 0, slots := 0, locals := 0 } : Room) s m args below meth c H locs 0 0 (MQ below (Q_M_isPlainStep D ca ad L r F9 B9 A) args s 0 0 A) (F0 m 13 ls [.int (iI s0)]) := by
  obtain ⟨hx, hb, hr, hml, hown, hts, hlk, hK, hA, hL, hX⟩ := id X
  replace hf : (if (s0 = 0 ∨ s0 = 1) then some (s0, F, B) else none) = some (r, F9, B9) := hf
  obtain ⟨g26, hf⟩ := gif hf
  cases hf
  exact W.zret hx hb hr (zbool g26) (fun t ht hW => ⟨⟨_, (), rfl, rfl, by rw [ht]; exact hZ, va_K.moved hW.alike hK⟩, hS.F ht⟩) hS.2.2 (D_172 W_prog_15_method_193_code_0 13 rfl rfl) hlk

def f_M_isPlainStep (K : Nat) (l0 : Int) (l1 : Int) (F : zF) (B : zB) : zO := if r32 l0 then (if l0 = 0 then if r32 l1 then (if l1 = 0 then f_M_isPlainStep_13 K 1 F B else f_M_isPlainStep_13 K 0 F B) else none else (if l0 = 1 then if r32 l1 then (if l1 = 1 then f_M_isPlainStep_29 K F B else (if l1 = 2 then f_M_isPlainStep_29 K F B else f_M_isPlainStep_34 K 0 F B)) else none else (if l0 = 2 then if r32 l1 then (if l1 = 3 then f_M_isPlainStep_50 K F B else (if l1 = 4 then f_M_isPlainStep_50 K F B else f_M_isPlainStep_55 K 0 F B)) else none else (if l0 = 3 then if r32 l1 then (if l1 = 5 then f_M_isPlainStep_71 K 1 F B else f_M_isPlainStep_71 K 0 F B) else none else (if l0 = 4 then if r32 l1 then (if l1 = 7 then f_M_isPlainStep_88 K 1 F B else f_M_isPlainStep_88 K 0 F B) else none else (if l0 = 5 then if r32 l1 then (if l1 = 8 then f_M_isPlainStep_106 K F B else (if l1 = 9 then f_M_isPlainStep_106 K F B else f_M_isPlainStep_131 K 0 F B)) else none else if r32 l1 then (if l1 = 10 then f_M_isPlainStep_126 K F B else (if l1 = 11 then f_M_isPlainStep_126 K F B else f_M_isPlainStep_131 K 0 F B)) else none)))))) else none
set_option maxHeartbeats 4000000 in
set_option maxRecDepth 100000 in
theorem c_M_isPlainStep {l : Launch} {D : va_G} {ca : Nat → ClassId} {ad : Nat → Int → Nat → Nat} {L : List Nat} {aS vS : Nat → Nat} {sz K : Nat}  {l0 : Int} {l1 : Int} {F F9 : zF} {B B9 : zB} {r : Int} (hf : f_M_isPlainStep K l0 l1 F B = some (r, F9, B9)) : Met l ({ cls := "StaveHouseModel", name := "isPlainStep", desc := "(II)Z" } : Jvm.MethodName) (Cond.code ({ cls := "StaveHouseModel", name := "isPlainStep", desc := "(II)Z" } : Jvm.MethodName) prog_15_method_193_code 2 (Option.some Jvm.ClassFile.FieldType.boolean) :: wAll) ({ frames := 0, cells := 0, slots := 0, locals := 0 } : Room) (va_Pc [.int (iI l0), .int (iI l1)] (zPre D ca ad lnM nM L aS vS F B sz)) (Q_M_isPlainStep D ca ad L r F9 B9 (zA L sz)) 0 0 (zA L sz) := by
  refine zMet (Qc := Q_M_isPlainStep D ca ad L r F9 B9) (lv := [(0, .int (iI l0)), (1, .int (iI l1))]) (by decide) (Nat.le_of_ble_eq_true rfl) rfl (fun A p e s m below meth c ls X hZ hS hl => ?_)
  obtain ⟨hx, hb, hr, hml, hown, hts, hlk, hK, hA, hL, hX⟩ := id X
  replace hf : (if r32 l0 then (if l0 = 0 then if r32 l1 then (if l1 = 0 then f_M_isPlainStep_13 K 1 F B else f_M_isPlainStep_13 K 0 F B) else none else (if l0 = 1 then if r32 l1 then (if l1 = 1 then f_M_isPlainStep_29 K F B else (if l1 = 2 then f_M_isPlainStep_29 K F B else f_M_isPlainStep_34 K 0 F B)) else none else (if l0 = 2 then if r32 l1 then (if l1 = 3 then f_M_isPlainStep_50 K F B else (if l1 = 4 then f_M_isPlainStep_50 K F B else f_M_isPlainStep_55 K 0 F B)) else none else (if l0 = 3 then if r32 l1 then (if l1 = 5 then f_M_isPlainStep_71 K 1 F B else f_M_isPlainStep_71 K 0 F B) else none else (if l0 = 4 then if r32 l1 then (if l1 = 7 then f_M_isPlainStep_88 K 1 F B else f_M_isPlainStep_88 K 0 F B) else none else (if l0 = 5 then if r32 l1 then (if l1 = 8 then f_M_isPlainStep_106 K F B else (if l1 = 9 then f_M_isPlainStep_106 K F B else f_M_isPlainStep_131 K 0 F B)) else none else if r32 l1 then (if l1 = 10 then f_M_isPlainStep_126 K F B else (if l1 = 11 then f_M_isPlainStep_126 K F B else f_M_isPlainStep_131 K 0 F B)) else none)))))) else none) = some (r, F9, B9) := hf
  refine lv_iload_n hx hb (D_26 W_prog_15_method_193_code_0 0 rfl rfl) rfl (lv_at hl 0 rfl) ?_
  obtain ⟨g1, hf⟩ := gif hf
  refine z0ne (tgt := 14) hx hb g1 (D_154 W_prog_15_method_193_code_0 1 rfl rfl rfl) (by decide) (fun h2 => ?_) (fun h2 => ?_)
  · replace hf := gneg hf h2
    refine lv_iload_n hx hb (D_26 W_prog_15_method_193_code_0 14 rfl rfl) rfl (lv_at hl 0 rfl) ?_
    refine lv_iconst (v := iI 1) hx hb (D_4 W_prog_15_method_193_code_0 15 rfl rfl) rfl ?_
    refine zne (tgt := 35) hx hb g1 (by decide) (D_160 W_prog_15_method_193_code_0 16 rfl rfl rfl) (by decide) (fun h3 => ?_) (fun h3 => ?_)
    · replace hf := gneg hf h3
      refine lv_iload_n hx hb (D_26 W_prog_15_method_193_code_32 3 rfl rfl) rfl (lv_at hl 0 rfl) ?_
      refine lv_iconst (v := iI 2) hx hb (D_5 W_prog_15_method_193_code_32 4 rfl rfl) rfl ?_
      refine zne (tgt := 56) hx hb g1 (by decide) (D_160 W_prog_15_method_193_code_32 5 rfl rfl rfl) (by decide) (fun h4 => ?_) (fun h4 => ?_)
      · replace hf := gneg hf h4
        refine lv_iload_n hx hb (D_26 W_prog_15_method_193_code_32 24 rfl rfl) rfl (lv_at hl 0 rfl) ?_
        refine lv_iconst (v := iI 3) hx hb (D_6 W_prog_15_method_193_code_32 25 rfl rfl) rfl ?_
        refine zne (tgt := 72) hx hb g1 (by decide) (D_160 W_prog_15_method_193_code_32 26 rfl rfl rfl) (by decide) (fun h5 => ?_) (fun h5 => ?_)
        · replace hf := gneg hf h5
          refine lv_iload_n hx hb (D_26 W_prog_15_method_193_code_64 8 rfl rfl) rfl (lv_at hl 0 rfl) ?_
          refine lv_iconst (v := iI 4) hx hb (D_7 W_prog_15_method_193_code_64 9 rfl rfl) rfl ?_
          refine zne (tgt := 89) hx hb g1 (by decide) (D_160 W_prog_15_method_193_code_64 10 rfl rfl rfl) (by decide) (fun h6 => ?_) (fun h6 => ?_)
          · replace hf := gneg hf h6
            refine lv_iload_n hx hb (D_26 W_prog_15_method_193_code_64 25 rfl rfl) rfl (lv_at hl 0 rfl) ?_
            refine lv_iconst (v := iI 5) hx hb (D_8 W_prog_15_method_193_code_64 26 rfl rfl) rfl ?_
            refine zne (tgt := 114) hx hb g1 (by decide) (D_160 W_prog_15_method_193_code_64 27 rfl rfl rfl) (by decide) (fun h7 => ?_) (fun h7 => ?_)
            · replace hf := gneg hf h7
              refine lv_iload_n hx hb (D_27 W_prog_15_method_193_code_96 18 rfl rfl) rfl (lv_at hl 1 rfl) ?_
              refine lv_bipush (v := iI 10) hx hb (D_16 W_prog_15_method_193_code_96 19 rfl rfl rfl) (by decide) ?_
              obtain ⟨g8, hf⟩ := gif hf
              refine zeq (tgt := 126) hx hb g8 (by decide) (D_159 W_prog_15_method_193_code_96 21 rfl rfl rfl) (by decide) (fun h9 => ?_) (fun h9 => ?_)
              · replace hf := gpos hf h9
                exact b_M_isPlainStep_126 X hf hZ hS (lv_sub hl [] rfl)
              · replace hf := gneg hf h9
                refine lv_iload_n hx hb (D_27 W_prog_15_method_193_code_96 24 rfl rfl) rfl (lv_at hl 1 rfl) ?_
                refine lv_bipush (v := iI 11) hx hb (D_16 W_prog_15_method_193_code_96 25 rfl rfl rfl) (by decide) ?_
                refine zne (tgt := 130) hx hb g8 (by decide) (D_160 W_prog_15_method_193_code_96 27 rfl rfl rfl) (by decide) (fun h10 => ?_) (fun h10 => ?_)
                · replace hf := gneg hf h10
                  refine lv_iconst (v := iI 0) hx hb (D_3 W_prog_15_method_193_code_128 2 rfl rfl) rfl ?_
                  exact b_M_isPlainStep_131 X hf hZ hS (lv_sub hl [] rfl)
                · replace hf := gpos hf h10
                  exact b_M_isPlainStep_126 X hf hZ hS (lv_sub hl [] rfl)
            · replace hf := gpos hf h7
              refine lv_iload_n hx hb (D_27 W_prog_15_method_193_code_64 30 rfl rfl) rfl (lv_at hl 1 rfl) ?_
              refine lv_bipush (v := iI 8) hx hb (D_16 W_prog_15_method_193_code_64 31 rfl rfl rfl) (by decide) ?_
              obtain ⟨g11, hf⟩ := gif hf
              refine zeq (tgt := 106) hx hb g11 (by decide) (D_159 W_prog_15_method_193_code_96 1 rfl rfl rfl) (by decide) (fun h12 => ?_) (fun h12 => ?_)
              · replace hf := gpos hf h12
                exact b_M_isPlainStep_106 X hf hZ hS (lv_sub hl [] rfl)
              · replace hf := gneg hf h12
                refine lv_iload_n hx hb (D_27 W_prog_15_method_193_code_96 4 rfl rfl) rfl (lv_at hl 1 rfl) ?_
                refine lv_bipush (v := iI 9) hx hb (D_16 W_prog_15_method_193_code_96 5 rfl rfl rfl) (by decide) ?_
                refine zne (tgt := 110) hx hb g11 (by decide) (D_160 W_prog_15_method_193_code_96 7 rfl rfl rfl) (by decide) (fun h13 => ?_) (fun h13 => ?_)
                · replace hf := gneg hf h13
                  refine lv_iconst (v := iI 0) hx hb (D_3 W_prog_15_method_193_code_96 14 rfl rfl) rfl ?_
                  refine lv_goto (tgt := 131) hx hb (D_167 W_prog_15_method_193_code_96 15 rfl rfl rfl) (by decide) ?_
                  exact b_M_isPlainStep_131 X hf hZ hS (lv_sub hl [] rfl)
                · replace hf := gpos hf h13
                  exact b_M_isPlainStep_106 X hf hZ hS (lv_sub hl [] rfl)
          · replace hf := gpos hf h6
            refine lv_iload_n hx hb (D_27 W_prog_15_method_193_code_64 13 rfl rfl) rfl (lv_at hl 1 rfl) ?_
            refine lv_bipush (v := iI 7) hx hb (D_16 W_prog_15_method_193_code_64 14 rfl rfl rfl) (by decide) ?_
            obtain ⟨g14, hf⟩ := gif hf
            refine zne (tgt := 87) hx hb g14 (by decide) (D_160 W_prog_15_method_193_code_64 16 rfl rfl rfl) (by decide) (fun h15 => ?_) (fun h15 => ?_)
            · replace hf := gneg hf h15
              refine lv_iconst (v := iI 0) hx hb (D_3 W_prog_15_method_193_code_64 23 rfl rfl) rfl ?_
              exact b_M_isPlainStep_88 X hf hZ hS (lv_sub hl [] rfl)
            · replace hf := gpos hf h15
              refine lv_iconst (v := iI 1) hx hb (D_4 W_prog_15_method_193_code_64 19 rfl rfl) rfl ?_
              refine lv_goto (tgt := 88) hx hb (D_167 W_prog_15_method_193_code_64 20 rfl rfl rfl) (by decide) ?_
              exact b_M_isPlainStep_88 X hf hZ hS (lv_sub hl [] rfl)
        · replace hf := gpos hf h5
          refine lv_iload_n hx hb (D_27 W_prog_15_method_193_code_32 29 rfl rfl) rfl (lv_at hl 1 rfl) ?_
          refine lv_iconst (v := iI 5) hx hb (D_8 W_prog_15_method_193_code_32 30 rfl rfl) rfl ?_
          obtain ⟨g16, hf⟩ := gif hf
          refine zne (tgt := 70) hx hb g16 (by decide) (D_160 W_prog_15_method_193_code_32 31 rfl rfl rfl) (by decide) (fun h17 => ?_) (fun h17 => ?_)
          · replace hf := gneg hf h17
            refine lv_iconst (v := iI 0) hx hb (D_3 W_prog_15_method_193_code_64 6 rfl rfl) rfl ?_
            exact b_M_isPlainStep_71 X hf hZ hS (lv_sub hl [] rfl)
          · replace hf := gpos hf h17
            refine lv_iconst (v := iI 1) hx hb (D_4 W_prog_15_method_193_code_64 2 rfl rfl) rfl ?_
            refine lv_goto (tgt := 71) hx hb (D_167 W_prog_15_method_193_code_64 3 rfl rfl rfl) (by decide) ?_
            exact b_M_isPlainStep_71 X hf hZ hS (lv_sub hl [] rfl)
      · replace hf := gpos hf h4
        refine lv_iload_n hx hb (D_27 W_prog_15_method_193_code_32 8 rfl rfl) rfl (lv_at hl 1 rfl) ?_
        refine lv_iconst (v := iI 3) hx hb (D_6 W_prog_15_method_193_code_32 9 rfl rfl) rfl ?_
        obtain ⟨g18, hf⟩ := gif hf
        refine zeq (tgt := 50) hx hb g18 (by decide) (D_159 W_prog_15_method_193_code_32 10 rfl rfl rfl) (by decide) (fun h19 => ?_) (fun h19 => ?_)
        · replace hf := gpos hf h19
          exact b_M_isPlainStep_50 X hf hZ hS (lv_sub hl [] rfl)
        · replace hf := gneg hf h19
          refine lv_iload_n hx hb (D_27 W_prog_15_method_193_code_32 13 rfl rfl) rfl (lv_at hl 1 rfl) ?_
          refine lv_iconst (v := iI 4) hx hb (D_7 W_prog_15_method_193_code_32 14 rfl rfl) rfl ?_
          refine zne (tgt := 54) hx hb g18 (by decide) (D_160 W_prog_15_method_193_code_32 15 rfl rfl rfl) (by decide) (fun h20 => ?_) (fun h20 => ?_)
          · replace hf := gneg hf h20
            refine lv_iconst (v := iI 0) hx hb (D_3 W_prog_15_method_193_code_32 22 rfl rfl) rfl ?_
            exact b_M_isPlainStep_55 X hf hZ hS (lv_sub hl [] rfl)
          · replace hf := gpos hf h20
            exact b_M_isPlainStep_50 X hf hZ hS (lv_sub hl [] rfl)
    · replace hf := gpos hf h3
      refine lv_iload_n hx hb (D_27 W_prog_15_method_193_code_0 19 rfl rfl) rfl (lv_at hl 1 rfl) ?_
      refine lv_iconst (v := iI 1) hx hb (D_4 W_prog_15_method_193_code_0 20 rfl rfl) rfl ?_
      obtain ⟨g21, hf⟩ := gif hf
      refine zeq (tgt := 29) hx hb g21 (by decide) (D_159 W_prog_15_method_193_code_0 21 rfl rfl rfl) (by decide) (fun h22 => ?_) (fun h22 => ?_)
      · replace hf := gpos hf h22
        exact b_M_isPlainStep_29 X hf hZ hS (lv_sub hl [] rfl)
      · replace hf := gneg hf h22
        refine lv_iload_n hx hb (D_27 W_prog_15_method_193_code_0 24 rfl rfl) rfl (lv_at hl 1 rfl) ?_
        refine lv_iconst (v := iI 2) hx hb (D_5 W_prog_15_method_193_code_0 25 rfl rfl) rfl ?_
        refine zne (tgt := 33) hx hb g21 (by decide) (D_160 W_prog_15_method_193_code_0 26 rfl rfl rfl) (by decide) (fun h23 => ?_) (fun h23 => ?_)
        · replace hf := gneg hf h23
          refine lv_iconst (v := iI 0) hx hb (D_3 W_prog_15_method_193_code_32 1 rfl rfl) rfl ?_
          exact b_M_isPlainStep_34 X hf hZ hS (lv_sub hl [] rfl)
        · replace hf := gpos hf h23
          exact b_M_isPlainStep_29 X hf hZ hS (lv_sub hl [] rfl)
  · replace hf := gpos hf h2
    refine lv_iload_n hx hb (D_27 W_prog_15_method_193_code_0 4 rfl rfl) rfl (lv_at hl 1 rfl) ?_
    obtain ⟨g24, hf⟩ := gif hf
    refine z0ne (tgt := 12) hx hb g24 (D_154 W_prog_15_method_193_code_0 5 rfl rfl rfl) (by decide) (fun h25 => ?_) (fun h25 => ?_)
    · replace hf := gneg hf h25
      refine lv_iconst (v := iI 0) hx hb (D_3 W_prog_15_method_193_code_0 12 rfl rfl) rfl ?_
      exact b_M_isPlainStep_13 X hf hZ hS (lv_sub hl [] rfl)
    · replace hf := gpos hf h25
      refine lv_iconst (v := iI 1) hx hb (D_4 W_prog_15_method_193_code_0 8 rfl rfl) rfl ?_
      refine lv_goto (tgt := 13) hx hb (D_167 W_prog_15_method_193_code_0 9 rfl rfl rfl) (by decide) ?_
      exact b_M_isPlainStep_13 X hf hZ hS (lv_sub hl [] rfl)

abbrev Q_M_fault_1 (D : va_G) (ca : Nat → ClassId) (ad : Nat → Int → Nat → Nat) (L : List Nat) (r : Int) (F : zF) (B : zB) (A : Nat → Prop) : Array Value → State → Outcome → State → Prop := va_Qv (S := Unit) (fun _ => True) (fun _ => zPo D ca ad lnM nM L F B A) A
def f_M_fault_1 (K : Nat) (l0 : Int) (l1 : Int) (l2 : Int) (l3 : Int) (l4 : Int) (F : zF) (B : zB) : zO := if 0 ≤ l0 ∧ l0 < 3 then if r32 (F 13 l0 76) then (if (F 13 l0 76) = 300 then some (0, F, B) else if 0 ≤ (F 13 l0 76) ∧ (F 13 l0 76) < 300 then some (0, (zup3 F 13 l0 76 ((F 13 l0 76) + 1)), (zup4 (zup4 (zup4 (zup4 B 13 l0 77 (F 13 l0 76) l1) 13 l0 78 (F 13 l0 76) l2) 13 l0 79 (F 13 l0 76) l3) 13 l0 80 (F 13 l0 76) l4)) else none) else none else none
set_option maxHeartbeats 4000000 in
set_option maxRecDepth 100000 in
theorem c_M_fault_1 {l : Launch} {D : va_G} {ca : Nat → ClassId} {ad : Nat → Int → Nat → Nat} {L : List Nat} {aS vS : Nat → Nat} {sz K : Nat}  {l0 : Int} {l1 : Int} {l2 : Int} {l3 : Int} {l4 : Int} {F F9 : zF} {B B9 : zB} {r : Int} (hf : f_M_fault_1 K l0 l1 l2 l3 l4 F B = some (r, F9, B9)) : Met l ({ cls := "StaveHouseModel", name := "fault", desc := "(LStaveHouseModel$Piece;IIII)V" } : Jvm.MethodName) (Cond.code ({ cls := "StaveHouseModel", name := "fault", desc := "(LStaveHouseModel$Piece;IIII)V" } : Jvm.MethodName) prog_15_method_187_code 5 (Option.none : Option Jvm.ClassFile.FieldType) :: wAll) ({ frames := 0, cells := 0, slots := 0, locals := 0 } : Room) (va_Pc [.ref (ad 13 l0 0), .int (iI l1), .int (iI l2), .int (iI l3), .int (iI l4)] (zPre D ca ad lnM nM L aS vS F B sz)) (Q_M_fault_1 D ca ad L r F9 B9 (zA L sz)) 0 0 (zA L sz) := by
  refine zMet (Qc := Q_M_fault_1 D ca ad L r F9 B9) (lv := [(0, .ref (ad 13 l0 0)), (1, .int (iI l1)), (2, .int (iI l2)), (3, .int (iI l3)), (4, .int (iI l4))]) (by decide) (Nat.le_of_ble_eq_true rfl) rfl (fun A p e s m below meth c ls X hZ hS hl => ?_)
  obtain ⟨hx, hb, hr, hml, hown, hts, hlk, hK, hA, hL, hX⟩ := id X
  replace hf : (if 0 ≤ l0 ∧ l0 < 3 then if r32 (F 13 l0 76) then (if (F 13 l0 76) = 300 then some (0, F, B) else if 0 ≤ (F 13 l0 76) ∧ (F 13 l0 76) < 300 then some (0, (zup3 F 13 l0 76 ((F 13 l0 76) + 1)), (zup4 (zup4 (zup4 (zup4 B 13 l0 77 (F 13 l0 76) l1) 13 l0 78 (F 13 l0 76) l2) 13 l0 79 (F 13 l0 76) l3) 13 l0 80 (F 13 l0 76) l4)) else none) else none else none) = some (r, F9, B9) := hf
  refine lv_aload_n hx hb (D_42 W_prog_15_method_187_code_0 0 rfl rfl) rfl (lv_at hl 0 rfl) ?_
  obtain ⟨g1, hf⟩ := gif hf
  refine zget (ci := 13) (C := RX13) (T := TX13) (v := .int (iI (F 13 l0 76))) (k := 76) hx hb hts inW_13 hown hK hZ g1.1 g1.2 rfl (by decide) k_10_18 rfl (D_180 W_prog_15_method_187_code_0 1 rfl rfl rfl) ?_
  refine lv_sipush (v := iI 300) hx hb (D_17 W_prog_15_method_187_code_0 4 rfl rfl rfl) (by decide) ?_
  obtain ⟨g2, hf⟩ := gif hf
  refine zne (tgt := 11) hx hb g2 (by decide) (D_160 W_prog_15_method_187_code_0 7 rfl rfl rfl) (by decide) (fun h3 => ?_) (fun h3 => ?_)
  · replace hf := gneg hf h3
    refine lv_aload_n hx hb (D_42 W_prog_15_method_187_code_0 11 rfl rfl) rfl (lv_at hl 0 rfl) ?_
    refine zget (ci := 13) (C := RX13) (T := TX13) (v := .ref (ad 13 l0 (77 + 1))) (k := 77) hx hb hts inW_13 hown hK hZ g1.1 g1.2 rfl (by decide) k_10_20 rfl (D_180 W_prog_15_method_187_code_0 12 rfl rfl rfl) ?_
    refine lv_aload_n hx hb (D_42 W_prog_15_method_187_code_0 15 rfl rfl) rfl (lv_at hl 0 rfl) ?_
    refine zget (ci := 13) (C := RX13) (T := TX13) (v := .int (iI (F 13 l0 76))) (k := 76) hx hb hts inW_13 hown hK hZ g1.1 g1.2 rfl (by decide) k_10_18 rfl (D_180 W_prog_15_method_187_code_0 16 rfl rfl rfl) ?_
    refine lv_iload_n hx hb (D_27 W_prog_15_method_187_code_0 19 rfl rfl) rfl (lv_at hl 1 rfl) ?_
    obtain ⟨g4, hf⟩ := gif hf
    refine zast (ci := 13) (k := 77) hx hb hK rfl hZ hS g1.1 g1.2 rfl (Nat.le_of_ble_eq_true rfl) g4.1 g4.2 (D_79 W_prog_15_method_187_code_0 20 rfl rfl) (fun H5 locs5 hZ5 hS5 => ?_)
    refine lv_aload_n hx hb (D_42 W_prog_15_method_187_code_0 21 rfl rfl) rfl (lv_at hl 0 rfl) ?_
    refine zget (ci := 13) (C := RX13) (T := TX13) (v := .ref (ad 13 l0 (78 + 1))) (k := 78) hx hb hts inW_13 hown hK hZ5 g1.1 g1.2 rfl (by decide) k_10_22 rfl (D_180 W_prog_15_method_187_code_0 22 rfl rfl rfl) ?_
    refine lv_aload_n hx hb (D_42 W_prog_15_method_187_code_0 25 rfl rfl) rfl (lv_at hl 0 rfl) ?_
    refine zget (ci := 13) (C := RX13) (T := TX13) (v := .int (iI (F 13 l0 76))) (k := 76) hx hb hts inW_13 hown hK hZ5 g1.1 g1.2 rfl (by decide) k_10_18 rfl (D_180 W_prog_15_method_187_code_0 26 rfl rfl rfl) ?_
    refine lv_iload_n hx hb (D_28 W_prog_15_method_187_code_0 29 rfl rfl) rfl (lv_at hl 2 rfl) ?_
    refine zast (ci := 13) (k := 78) hx hb hK rfl hZ5 hS5 g1.1 g1.2 rfl (Nat.le_of_ble_eq_true rfl) g4.1 g4.2 (D_79 W_prog_15_method_187_code_0 30 rfl rfl) (fun H6 locs6 hZ6 hS6 => ?_)
    refine lv_aload_n hx hb (D_42 W_prog_15_method_187_code_0 31 rfl rfl) rfl (lv_at hl 0 rfl) ?_
    refine zget (ci := 13) (C := RX13) (T := TX13) (v := .ref (ad 13 l0 (79 + 1))) (k := 79) hx hb hts inW_13 hown hK hZ6 g1.1 g1.2 rfl (by decide) k_10_24 rfl (D_180 W_prog_15_method_187_code_32 0 rfl rfl rfl) ?_
    refine lv_aload_n hx hb (D_42 W_prog_15_method_187_code_32 3 rfl rfl) rfl (lv_at hl 0 rfl) ?_
    refine zget (ci := 13) (C := RX13) (T := TX13) (v := .int (iI (F 13 l0 76))) (k := 76) hx hb hts inW_13 hown hK hZ6 g1.1 g1.2 rfl (by decide) k_10_18 rfl (D_180 W_prog_15_method_187_code_32 4 rfl rfl rfl) ?_
    refine lv_iload_n hx hb (D_29 W_prog_15_method_187_code_32 7 rfl rfl) rfl (lv_at hl 3 rfl) ?_
    refine zast (ci := 13) (k := 79) hx hb hK rfl hZ6 hS6 g1.1 g1.2 rfl (Nat.le_of_ble_eq_true rfl) g4.1 g4.2 (D_79 W_prog_15_method_187_code_32 8 rfl rfl) (fun H7 locs7 hZ7 hS7 => ?_)
    refine lv_aload_n hx hb (D_42 W_prog_15_method_187_code_32 9 rfl rfl) rfl (lv_at hl 0 rfl) ?_
    refine zget (ci := 13) (C := RX13) (T := TX13) (v := .ref (ad 13 l0 (80 + 1))) (k := 80) hx hb hts inW_13 hown hK hZ7 g1.1 g1.2 rfl (by decide) k_10_26 rfl (D_180 W_prog_15_method_187_code_32 10 rfl rfl rfl) ?_
    refine lv_aload_n hx hb (D_42 W_prog_15_method_187_code_32 13 rfl rfl) rfl (lv_at hl 0 rfl) ?_
    refine zget (ci := 13) (C := RX13) (T := TX13) (v := .int (iI (F 13 l0 76))) (k := 76) hx hb hts inW_13 hown hK hZ7 g1.1 g1.2 rfl (by decide) k_10_18 rfl (D_180 W_prog_15_method_187_code_32 14 rfl rfl rfl) ?_
    refine lv_iload hx hb (D_21 W_prog_15_method_187_code_32 17 rfl rfl) (lv_at hl 4 rfl) ?_
    refine zast (ci := 13) (k := 80) hx hb hK rfl hZ7 hS7 g1.1 g1.2 rfl (Nat.le_of_ble_eq_true rfl) g4.1 g4.2 (D_79 W_prog_15_method_187_code_32 19 rfl rfl) (fun H8 locs8 hZ8 hS8 => ?_)
    refine lv_aload_n hx hb (D_42 W_prog_15_method_187_code_32 20 rfl rfl) rfl (lv_at hl 0 rfl) ?_
    refine lv_dup hx hb (D_89 W_prog_15_method_187_code_32 21 rfl rfl) rfl ?_
    refine zget (ci := 13) (C := RX13) (T := TX13) (v := .int (iI (F 13 l0 76))) (k := 76) hx hb hts inW_13 hown hK hZ8 g1.1 g1.2 rfl (by decide) k_10_18 rfl (D_180 W_prog_15_method_187_code_32 22 rfl rfl rfl) ?_
    refine lv_iconst (v := iI 1) hx hb (D_4 W_prog_15_method_187_code_32 25 rfl rfl) rfl ?_
    refine zadd hx hb (D_96 W_prog_15_method_187_code_32 26 rfl rfl) ?_
    refine zput (ci := 13) (C := RX13) (T := TX13) (k := 76) (v := ((F 13 l0 76) + 1)) (w := .int (iI ((F 13 l0 76) + 1))) hx hb hts inW_13 tyX13 tyX13_ok nmX13 hown hK hZ8 hS8 g1.1 g1.2 rfl (by decide) k_10_18 rfl (fun G h => congrArg (fun q => Value.int (iI q)) h) rfl rfl (zno (by decide)) (D_181 W_prog_15_method_187_code_32 27 rfl rfl rfl) (fun H9 locs9 hZ9 hS9 => ?_)
    cases hf
    exact W.vret hx hb hr (fun t ht hW => ⟨⟨(), rfl, trivial, by rw [ht]; exact hZ9, va_K.moved hW.alike hK⟩, hS9.F ht⟩) hS9.2.2 (D_177 W_prog_15_method_187_code_32 30 rfl rfl) hlk
  · replace hf := gpos hf h3
    cases hf
    exact W.vret hx hb hr (fun t ht hW => ⟨⟨(), rfl, trivial, by rw [ht]; exact hZ, va_K.moved hW.alike hK⟩, hS.F ht⟩) hS.2.2 (D_177 W_prog_15_method_187_code_0 10 rfl rfl) hlk

abbrev Q_M_isOver (D : va_G) (ca : Nat → ClassId) (ad : Nat → Int → Nat → Nat) (L : List Nat) (r : Int) (F : zF) (B : zB) (A : Nat → Prop) : Array Value → State → Outcome → State → Prop := va_Qi (S := Unit) (fun p _ => p = iI r) (fun _ => zPo D ca ad lnM nM L F B A) A
def f_M_isOver_26 (K : Nat) (s0 : Int) (F : zF) (B : zB) : zO := if (s0 = 0 ∨ s0 = 1) then some (s0, F, B) else none
set_option maxHeartbeats 4000000 in
set_option maxRecDepth 100000 in
theorem b_M_isOver_26 {D : va_G} {ca : Nat → ClassId} {ad : Nat → Int → Nat → Nat} {L : List Nat} {aS vS : Nat → Nat} {A : Nat → Prop} {p : Program} {l : Launch} {e : Env} {s : State} {m : MethodId} {args : Array Value} {below : List Frame} {meth : Method} {c : Code} {K : Nat} {r : Int} {F9 : zF} {B9 : zB} (X : zX D ca L aS vS A p s m args meth c prog_15_method_190_code 3 (Option.some Jvm.ClassFile.FieldType.boolean) "StaveHouseModel") {s0 : Int} {F : zF} {B : zB} {H : Heap} {locs : List Loc} {ls : Array Slot} (hf : f_M_isOver_26 K s0 F B = some (r, F9, B9)) (hZ : zH D ca ad lnM nM L F B A H) (hS : va_S A s.heap H locs) (hl : lv_has ls 3 []) : W p l e ({ frames := 2, cells := 0, slots := 0, locals := 44 } : Room) s m args below meth c H locs 0 0 (MQ below (Q_M_isOver D ca ad L r F9 B9 A) args s 0 0 A) (F0 m 26 ls [.int (iI s0)]) := by
  obtain ⟨hx, hb, hr, hml, hown, hts, hlk, hK, hA, hL, hX⟩ := id X
  replace hf : (if (s0 = 0 ∨ s0 = 1) then some (s0, F, B) else none) = some (r, F9, B9) := hf
  obtain ⟨g10, hf⟩ := gif hf
  cases hf
  exact W.zret hx hb hr (zbool g10) (fun t ht hW => ⟨⟨_, (), rfl, rfl, by rw [ht]; exact hZ, va_K.moved hW.alike hK⟩, hS.F ht⟩) hS.2.2 (D_172 W_prog_15_method_190_code_0 26 rfl rfl) hlk

def f_M_isOver_25 (K : Nat)  (F : zF) (B : zB) : zO := f_M_isOver_26 K 0 F B
set_option maxHeartbeats 4000000 in
set_option maxRecDepth 100000 in
theorem b_M_isOver_25 {D : va_G} {ca : Nat → ClassId} {ad : Nat → Int → Nat → Nat} {L : List Nat} {aS vS : Nat → Nat} {A : Nat → Prop} {p : Program} {l : Launch} {e : Env} {s : State} {m : MethodId} {args : Array Value} {below : List Frame} {meth : Method} {c : Code} {K : Nat} {r : Int} {F9 : zF} {B9 : zB} (X : zX D ca L aS vS A p s m args meth c prog_15_method_190_code 3 (Option.some Jvm.ClassFile.FieldType.boolean) "StaveHouseModel")  {F : zF} {B : zB} {H : Heap} {locs : List Loc} {ls : Array Slot} (hf : f_M_isOver_25 K  F B = some (r, F9, B9)) (hZ : zH D ca ad lnM nM L F B A H) (hS : va_S A s.heap H locs) (hl : lv_has ls 3 []) : W p l e ({ frames := 2, cells := 0, slots := 0, locals := 44 } : Room) s m args below meth c H locs 0 0 (MQ below (Q_M_isOver D ca ad L r F9 B9 A) args s 0 0 A) (F0 m 25 ls []) := by
  obtain ⟨hx, hb, hr, hml, hown, hts, hlk, hK, hA, hL, hX⟩ := id X
  replace hf : (f_M_isOver_26 K 0 F B) = some (r, F9, B9) := hf
  refine lv_iconst (v := iI 0) hx hb (D_3 W_prog_15_method_190_code_0 25 rfl rfl) rfl ?_
  exact b_M_isOver_26 X hf hZ hS (lv_sub hl [] rfl)

def f_M_isOver (K : Nat) (l0 : Int) (l1 : Int) (l2 : Int) (F : zF) (B : zB) : zO := if r32 l1 then (if l1 < 0 then f_M_isOver_25 K F B else if r32 l2 then (if l2 < 0 then f_M_isOver_25 K F B else zbind (f_M_toneAt K l0 l2 F B) (fun r5 F5 B5 => zbind (f_M_toneAt K l0 l1 F5 B5) (fun r6 F6 B6 => if r32 r5 then if r32 r6 then (if r5 ≤ r6 then f_M_isOver_25 K F6 B6 else f_M_isOver_26 K 1 F6 B6) else none else none))) else none) else none
set_option maxHeartbeats 4000000 in
set_option maxRecDepth 100000 in
theorem c_M_isOver {l : Launch} {D : va_G} {ca : Nat → ClassId} {ad : Nat → Int → Nat → Nat} {L : List Nat} {aS vS : Nat → Nat} {sz K : Nat}  {l0 : Int} {l1 : Int} {l2 : Int} {F F9 : zF} {B B9 : zB} {r : Int} (hf : f_M_isOver K l0 l1 l2 F B = some (r, F9, B9)) : Met l ({ cls := "StaveHouseModel", name := "isOver", desc := "(LStaveHouseModel$Piece;II)Z" } : Jvm.MethodName) (Cond.code ({ cls := "StaveHouseModel", name := "isOver", desc := "(LStaveHouseModel$Piece;II)Z" } : Jvm.MethodName) prog_15_method_190_code 3 (Option.some Jvm.ClassFile.FieldType.boolean) :: wAll) ({ frames := 2, cells := 0, slots := 0, locals := 44 } : Room) (va_Pc [.ref (ad 13 l0 0), .int (iI l1), .int (iI l2)] (zPre D ca ad lnM nM L aS vS F B sz)) (Q_M_isOver D ca ad L r F9 B9 (zA L sz)) 0 0 (zA L sz) := by
  refine zMet (Qc := Q_M_isOver D ca ad L r F9 B9) (lv := [(0, .ref (ad 13 l0 0)), (1, .int (iI l1)), (2, .int (iI l2))]) (by decide) (Nat.le_of_ble_eq_true rfl) rfl (fun A p e s m below meth c ls X hZ hS hl => ?_)
  obtain ⟨hx, hb, hr, hml, hown, hts, hlk, hK, hA, hL, hX⟩ := id X
  replace hf : (if r32 l1 then (if l1 < 0 then f_M_isOver_25 K F B else if r32 l2 then (if l2 < 0 then f_M_isOver_25 K F B else zbind (f_M_toneAt K l0 l2 F B) (fun r5 F5 B5 => zbind (f_M_toneAt K l0 l1 F5 B5) (fun r6 F6 B6 => if r32 r5 then if r32 r6 then (if r5 ≤ r6 then f_M_isOver_25 K F6 B6 else f_M_isOver_26 K 1 F6 B6) else none else none))) else none) else none) = some (r, F9, B9) := hf
  refine lv_iload_n hx hb (D_27 W_prog_15_method_190_code_0 0 rfl rfl) rfl (lv_at hl 1 rfl) ?_
  obtain ⟨g1, hf⟩ := gif hf
  refine z0lt (tgt := 25) hx hb g1 (D_155 W_prog_15_method_190_code_0 1 rfl rfl rfl) (by decide) (fun h2 => ?_) (fun h2 => ?_)
  · replace hf := gpos hf h2
    exact b_M_isOver_25 X hf hZ hS (lv_sub hl [] rfl)
  · replace hf := gneg hf h2
    refine lv_iload_n hx hb (D_28 W_prog_15_method_190_code_0 4 rfl rfl) rfl (lv_at hl 2 rfl) ?_
    obtain ⟨g3, hf⟩ := gif hf
    refine z0lt (tgt := 25) hx hb g3 (D_155 W_prog_15_method_190_code_0 5 rfl rfl rfl) (by decide) (fun h4 => ?_) (fun h4 => ?_)
    · replace hf := gpos hf h4
      exact b_M_isOver_25 X hf hZ hS (lv_sub hl [] rfl)
    · replace hf := gneg hf h4
      refine lv_aload_n hx hb (D_42 W_prog_15_method_190_code_0 8 rfl rfl) rfl (lv_at hl 0 rfl) ?_
      refine lv_iload_n hx hb (D_28 W_prog_15_method_190_code_0 9 rfl rfl) rfl (lv_at hl 2 rfl) ?_
      obtain ⟨r5, F5, B5, hc5, hf⟩ := gbind hf
      refine va_calli (va_runS (As := [.ref (ad 13 l0 0), .int (iI l2)]) (rest := []) ⟨hx, hb, hml, hown, hts⟩ (c_M_toneAt (l := l) hc5) (va_cwS 2 hts (gdS k_15_121 k_15_122 k_1_9 k_15_123) rfl rfl rfl (by decide +kernel) ⟨Nat.le_of_ble_eq_true rfl, Nat.le_of_ble_eq_true rfl⟩) (zPS X hZ hS [.ref (ad 13 l0 0), .int (iI l2)]) rfl rfl hl.1 rfl (lv_room (Nat.le_of_ble_eq_true rfl)) (D_184 W_prog_15_method_190_code_0 10 rfl rfl rfl) ⟨Nat.le_of_ble_eq_true rfl, Nat.le_of_ble_eq_true rfl⟩) hS (fun q _ h => zAin X hS q h) (zAin X hS) (fun p5 u5 t5 H5 locs5 ht5 hv5 hw5 hB5 hz5 hk5 hS5 => ?_)
      have hZ5 := zBack X ht5 hB5
      subst hw5
      refine lv_aload_n hx hb (D_42 W_prog_15_method_190_code_0 13 rfl rfl) rfl (lv_at hl 0 rfl) ?_
      refine lv_iload_n hx hb (D_27 W_prog_15_method_190_code_0 14 rfl rfl) rfl (lv_at hl 1 rfl) ?_
      obtain ⟨r6, F6, B6, hc6, hf⟩ := gbind hf
      refine va_calli (va_runS (As := [.ref (ad 13 l0 0), .int (iI l1)]) (rest := [.int (iI r5)]) ⟨hx, hb, hml, hown, hts⟩ (c_M_toneAt (l := l) hc6) (va_cwS 2 hts (gdS k_15_121 k_15_122 k_1_9 k_15_123) rfl rfl rfl (by decide +kernel) ⟨Nat.le_of_ble_eq_true rfl, Nat.le_of_ble_eq_true rfl⟩) (zPS X hZ5 hS5 [.ref (ad 13 l0 0), .int (iI l1)]) rfl rfl hl.1 rfl (lv_room (Nat.le_of_ble_eq_true rfl)) (D_184 W_prog_15_method_190_code_0 15 rfl rfl rfl) ⟨Nat.le_of_ble_eq_true rfl, Nat.le_of_ble_eq_true rfl⟩) hS5 (fun q _ h => zAin X hS5 q h) (zAin X hS5) (fun p6 u6 t6 H6 locs6 ht6 hv6 hw6 hB6 hz6 hk6 hS6 => ?_)
      have hZ6 := zBack X ht6 hB6
      subst hw6
      obtain ⟨g7, hf⟩ := gif hf
      obtain ⟨g8, hf⟩ := gif hf
      refine zle (tgt := 25) hx hb g7 g8 (D_164 W_prog_15_method_190_code_0 18 rfl rfl rfl) (by decide) (fun h9 => ?_) (fun h9 => ?_)
      · replace hf := gpos hf h9
        exact b_M_isOver_25 X hf hZ6 hS6 (lv_sub hl [] rfl)
      · replace hf := gneg hf h9
        refine lv_iconst (v := iI 1) hx hb (D_4 W_prog_15_method_190_code_0 21 rfl rfl) rfl ?_
        refine lv_goto (tgt := 26) hx hb (D_167 W_prog_15_method_190_code_0 22 rfl rfl rfl) (by decide) ?_
        exact b_M_isOver_26 X hf hZ6 hS6 (lv_sub hl [] rfl)

abbrev Q_M_voice (D : va_G) (ca : Nat → ClassId) (ad : Nat → Int → Nat → Nat) (L : List Nat) (r : Int) (F : zF) (B : zB) (A : Nat → Prop) : Array Value → State → Outcome → State → Prop := va_Qi (S := Unit) (fun p _ => p = iI r) (fun _ => zPo D ca ad lnM nM L F B A) A
def f_M_voice_72 (K : Nat) (s0 : Int) (F : zF) (B : zB) : zO := some (s0, F, B)
set_option maxHeartbeats 4000000 in
set_option maxRecDepth 100000 in
theorem b_M_voice_72 {D : va_G} {ca : Nat → ClassId} {ad : Nat → Int → Nat → Nat} {L : List Nat} {aS vS : Nat → Nat} {A : Nat → Prop} {p : Program} {l : Launch} {e : Env} {s : State} {m : MethodId} {args : Array Value} {below : List Frame} {meth : Method} {c : Code} {K : Nat} {r : Int} {F9 : zF} {B9 : zB} (X : zX D ca L aS vS A p s m args meth c prog_15_method_204_code 5 (Option.some Jvm.ClassFile.FieldType.int) "StaveHouseModel") {s0 : Int} {F : zF} {B : zB} {H : Heap} {locs : List Loc} {ls : Array Slot} (hf : f_M_voice_72 K s0 F B = some (r, F9, B9)) (hZ : zH D ca ad lnM nM L F B A H) (hS : va_S A s.heap H locs) (hl : lv_has ls 5 []) : W p l e ({ frames := 1, cells := 0, slots := 0, locals := 21 } : Room) s m args below meth c H locs 0 0 (MQ below (Q_M_voice D ca ad L r F9 B9 A) args s 0 0 A) (F0 m 72 ls [.int (iI s0)]) := by
  obtain ⟨hx, hb, hr, hml, hown, hts, hlk, hK, hA, hL, hX⟩ := id X
  replace hf : (some (s0, F, B)) = some (r, F9, B9) := hf
  cases hf
  exact W.iret hx hb hr (fun t ht hW => ⟨⟨_, (), rfl, rfl, by rw [ht]; exact hZ, va_K.moved hW.alike hK⟩, hS.F ht⟩) hS.2.2 (D_172 W_prog_15_method_204_code_64 8 rfl rfl) hlk

def f_M_voice (K : Nat) (l1 : Int) (l2 : Int) (l3 : Int) (F : zF) (B : zB) : zO := zbind (f_M_piece K l1 F B) (fun r1 F1 B1 => zbind (f_M_isVoice K r1 l2 F1 B1) (fun r2 F2 B2 => if r32 r2 then (if r2 = 0 then some ((-1), F2, B2) else if r32 l3 then (if l3 = 0 then if 0 ≤ r1 ∧ r1 < 3 then if 0 ≤ l2 ∧ l2 < 4 then some (B2 13 r1 8 l2, F2, B2) else none else none else (if l3 = 1 then if 0 ≤ r1 ∧ r1 < 3 then if 0 ≤ l2 ∧ l2 < 4 then some (B2 13 r1 9 l2, F2, B2) else none else none else (if l3 = 2 then if 0 ≤ r1 ∧ r1 < 3 then if 0 ≤ l2 ∧ l2 < 4 then some (B2 13 r1 12 l2, F2, B2) else none else none else (if l3 = 3 then if 0 ≤ r1 ∧ r1 < 3 then if 0 ≤ l2 ∧ l2 < 4 then f_M_voice_72 K (B2 13 r1 13 l2) F2 B2 else none else none else f_M_voice_72 K (-1) F2 B2)))) else none) else none))
set_option maxHeartbeats 4000000 in
set_option maxRecDepth 100000 in
theorem c_M_voice {l : Launch} {D : va_G} {ca : Nat → ClassId} {ad : Nat → Int → Nat → Nat} {L : List Nat} {aS vS : Nat → Nat} {sz K : Nat}  {l1 : Int} {l2 : Int} {l3 : Int} {F F9 : zF} {B B9 : zB} {r : Int} (hf : f_M_voice K l1 l2 l3 F B = some (r, F9, B9)) : Met l ({ cls := "StaveHouseModel", name := "voice", desc := "(III)I" } : Jvm.MethodName) (Cond.code ({ cls := "StaveHouseModel", name := "voice", desc := "(III)I" } : Jvm.MethodName) prog_15_method_204_code 5 (Option.some Jvm.ClassFile.FieldType.int) :: wAll) ({ frames := 1, cells := 0, slots := 0, locals := 21 } : Room) (va_Pc [.ref (ad 14 0 0), .int (iI l1), .int (iI l2), .int (iI l3)] (zPre D ca ad lnM nM L aS vS F B sz)) (Q_M_voice D ca ad L r F9 B9 (zA L sz)) 0 0 (zA L sz) := by
  refine zMet (Qc := Q_M_voice D ca ad L r F9 B9) (lv := [(0, .ref (ad 14 0 0)), (1, .int (iI l1)), (2, .int (iI l2)), (3, .int (iI l3))]) (by decide) (Nat.le_of_ble_eq_true rfl) rfl (fun A p e s m below meth c ls X hZ hS hl => ?_)
  obtain ⟨hx, hb, hr, hml, hown, hts, hlk, hK, hA, hL, hX⟩ := id X
  replace hf : (zbind (f_M_piece K l1 F B) (fun r1 F1 B1 => zbind (f_M_isVoice K r1 l2 F1 B1) (fun r2 F2 B2 => if r32 r2 then (if r2 = 0 then some ((-1), F2, B2) else if r32 l3 then (if l3 = 0 then if 0 ≤ r1 ∧ r1 < 3 then if 0 ≤ l2 ∧ l2 < 4 then some (B2 13 r1 8 l2, F2, B2) else none else none else (if l3 = 1 then if 0 ≤ r1 ∧ r1 < 3 then if 0 ≤ l2 ∧ l2 < 4 then some (B2 13 r1 9 l2, F2, B2) else none else none else (if l3 = 2 then if 0 ≤ r1 ∧ r1 < 3 then if 0 ≤ l2 ∧ l2 < 4 then some (B2 13 r1 12 l2, F2, B2) else none else none else (if l3 = 3 then if 0 ≤ r1 ∧ r1 < 3 then if 0 ≤ l2 ∧ l2 < 4 then f_M_voice_72 K (B2 13 r1 13 l2) F2 B2 else none else none else f_M_voice_72 K (-1) F2 B2)))) else none) else none))) = some (r, F9, B9) := hf
  refine lv_aload_n hx hb (D_42 W_prog_15_method_204_code_0 0 rfl rfl) rfl (lv_at hl 0 rfl) ?_
  refine lv_iload_n hx hb (D_27 W_prog_15_method_204_code_0 1 rfl rfl) rfl (lv_at hl 1 rfl) ?_
  obtain ⟨r1, F1, B1, hc1, hf⟩ := gbind hf
  refine va_callq (va_runV (As := [.int (iI l1)]) (rest := []) ⟨hx, hb, hml, hown, hts⟩ (c_M_piece (l := l) hc1) (cwV 1 hts (gdV k_12_92 k_12_94 ks_131 k_1_9 k_12_95) rfl rfl rfl (by decide +kernel) ⟨Nat.le_of_ble_eq_true rfl, Nat.le_of_ble_eq_true rfl⟩) (zPV X hZ hS (ci := 14) (by decide) (by decide) (r := (RX14, TX14, 107)) rfl [.int (iI l1)]) rfl rfl hl.1 rfl (lv_room (Nat.le_of_ble_eq_true rfl)) (D_182 W_prog_15_method_204_code_0 2 rfl rfl rfl) ⟨Nat.le_of_ble_eq_true rfl, Nat.le_of_ble_eq_true rfl⟩) hS (fun q _ h => zAin X hS q h) (zAin X hS) (fun p1 u1 t1 H1 locs1 ht1 hv1 hw1 hB1 hz1 hk1 hS1 => ?_)
  have hZ1 := zBack X ht1 hB1
  subst hw1
  refine zastore (lv' := [(0, .ref (ad 14 0 0)), (1, .int (iI l1)), (2, .int (iI l2)), (3, .int (iI l3))]) hx hb (D_58 W_prog_15_method_204_code_0 5 rfl rfl) hl (by decide) (fun _ _ => rfl) (fun ls hl => ?_)
  refine zaload hx hb (D_25 W_prog_15_method_204_code_0 7 rfl rfl) (lv_at hl 0 rfl) ?_
  refine lv_iload_n hx hb (D_28 W_prog_15_method_204_code_0 9 rfl rfl) rfl (lv_at hl 3 rfl) ?_
  obtain ⟨r2, F2, B2, hc2, hf⟩ := gbind hf
  refine va_calli (va_runS (As := [va_rf (zrf ad 13 r1), .int (iI l2)]) (rest := []) ⟨hx, hb, hml, hown, hts⟩ (c_M_isVoice (l := l) hc2) (va_cwS 2 hts (gdS k_12_118 k_12_119 k_1_9 k_12_120) rfl rfl rfl (by decide +kernel) ⟨Nat.le_of_ble_eq_true rfl, Nat.le_of_ble_eq_true rfl⟩) (zPS X hZ1 hS1 [va_rf (zrf ad 13 r1), .int (iI l2)]) rfl rfl hl.1 rfl (lv_room (Nat.le_of_ble_eq_true rfl)) (D_184 W_prog_15_method_204_code_0 10 rfl rfl rfl) ⟨Nat.le_of_ble_eq_true rfl, Nat.le_of_ble_eq_true rfl⟩) hS1 (fun q _ h => zAin X hS1 q h) (zAin X hS1) (fun p2 u2 t2 H2 locs2 ht2 hv2 hw2 hB2 hz2 hk2 hS2 => ?_)
  have hZ2 := zBack X ht2 hB2
  subst hw2
  obtain ⟨g3, hf⟩ := gif hf
  refine z0ne (tgt := 18) hx hb g3 (D_154 W_prog_15_method_204_code_0 13 rfl rfl rfl) (by decide) (fun h4 => ?_) (fun h4 => ?_)
  · replace hf := gneg hf h4
    refine lv_iload_n hx hb (D_29 W_prog_15_method_204_code_0 18 rfl rfl) rfl (lv_at hl 4 rfl) ?_
    obtain ⟨g5, hf⟩ := gif hf
    refine z0ne (tgt := 30) hx hb g5 (D_154 W_prog_15_method_204_code_0 19 rfl rfl rfl) (by decide) (fun h6 => ?_) (fun h6 => ?_)
    · replace hf := gneg hf h6
      refine lv_iload_n hx hb (D_29 W_prog_15_method_204_code_0 30 rfl rfl) rfl (lv_at hl 4 rfl) ?_
      refine lv_iconst (v := iI 1) hx hb (D_4 W_prog_15_method_204_code_0 31 rfl rfl) rfl ?_
      refine zne (tgt := 43) hx hb g5 (by decide) (D_160 W_prog_15_method_204_code_32 0 rfl rfl rfl) (by decide) (fun h7 => ?_) (fun h7 => ?_)
      · replace hf := gneg hf h7
        refine lv_iload_n hx hb (D_29 W_prog_15_method_204_code_32 11 rfl rfl) rfl (lv_at hl 4 rfl) ?_
        refine lv_iconst (v := iI 2) hx hb (D_5 W_prog_15_method_204_code_32 12 rfl rfl) rfl ?_
        refine zne (tgt := 56) hx hb g5 (by decide) (D_160 W_prog_15_method_204_code_32 13 rfl rfl rfl) (by decide) (fun h8 => ?_) (fun h8 => ?_)
        · replace hf := gneg hf h8
          refine lv_iload_n hx hb (D_29 W_prog_15_method_204_code_32 24 rfl rfl) rfl (lv_at hl 4 rfl) ?_
          refine lv_iconst (v := iI 3) hx hb (D_6 W_prog_15_method_204_code_32 25 rfl rfl) rfl ?_
          refine zne (tgt := 71) hx hb g5 (by decide) (D_160 W_prog_15_method_204_code_32 26 rfl rfl rfl) (by decide) (fun h9 => ?_) (fun h9 => ?_)
          · replace hf := gneg hf h9
            refine lv_iconst (v := iI (-1)) hx hb (D_2 W_prog_15_method_204_code_64 7 rfl rfl) rfl ?_
            exact b_M_voice_72 X hf hZ2 hS2 (lv_sub hl [] rfl)
          · replace hf := gpos hf h9
            refine zaload hx hb (D_25 W_prog_15_method_204_code_32 29 rfl rfl) (lv_at hl 0 rfl) ?_
            obtain ⟨g10, hf⟩ := gif hf
            refine zunrf g10.1 ?_
            refine zget (ci := 13) (C := RX13) (T := TX13) (v := .ref (ad 13 r1 (13 + 1))) (k := 13) hx hb hts inW_13 hown hK hZ2 g10.1 g10.2 rfl (by decide) k_9_144 rfl (D_180 W_prog_15_method_204_code_32 31 rfl rfl rfl) ?_
            refine lv_iload_n hx hb (D_28 W_prog_15_method_204_code_64 2 rfl rfl) rfl (lv_at hl 3 rfl) ?_
            obtain ⟨g11, hf⟩ := gif hf
            refine zald (ci := 13) (k := 13) hx hb hK rfl hZ2 g10.1 g10.2 rfl (Nat.le_of_ble_eq_true rfl) g11.1 g11.2 (D_46 W_prog_15_method_204_code_64 3 rfl rfl) ?_
            refine lv_goto (tgt := 72) hx hb (D_167 W_prog_15_method_204_code_64 4 rfl rfl rfl) (by decide) ?_
            exact b_M_voice_72 X hf hZ2 hS2 (lv_sub hl [] rfl)
        · replace hf := gpos hf h8
          refine zaload hx hb (D_25 W_prog_15_method_204_code_32 16 rfl rfl) (lv_at hl 0 rfl) ?_
          obtain ⟨g12, hf⟩ := gif hf
          refine zunrf g12.1 ?_
          refine zget (ci := 13) (C := RX13) (T := TX13) (v := .ref (ad 13 r1 (12 + 1))) (k := 12) hx hb hts inW_13 hown hK hZ2 g12.1 g12.2 rfl (by decide) k_9_142 rfl (D_180 W_prog_15_method_204_code_32 18 rfl rfl rfl) ?_
          refine lv_iload_n hx hb (D_28 W_prog_15_method_204_code_32 21 rfl rfl) rfl (lv_at hl 3 rfl) ?_
          obtain ⟨g13, hf⟩ := gif hf
          refine zald (ci := 13) (k := 12) hx hb hK rfl hZ2 g12.1 g12.2 rfl (Nat.le_of_ble_eq_true rfl) g13.1 g13.2 (D_46 W_prog_15_method_204_code_32 22 rfl rfl) ?_
          cases hf
          exact W.iret hx hb hr (fun t ht hW => ⟨⟨_, (), rfl, rfl, by rw [ht]; exact hZ2, va_K.moved hW.alike hK⟩, hS2.F ht⟩) hS2.2.2 (D_172 W_prog_15_method_204_code_32 23 rfl rfl) hlk
      · replace hf := gpos hf h7
        refine zaload hx hb (D_25 W_prog_15_method_204_code_32 3 rfl rfl) (lv_at hl 0 rfl) ?_
        obtain ⟨g14, hf⟩ := gif hf
        refine zunrf g14.1 ?_
        refine zget (ci := 13) (C := RX13) (T := TX13) (v := .ref (ad 13 r1 (9 + 1))) (k := 9) hx hb hts inW_13 hown hK hZ2 g14.1 g14.2 rfl (by decide) k_9_136 rfl (D_180 W_prog_15_method_204_code_32 5 rfl rfl rfl) ?_
        refine lv_iload_n hx hb (D_28 W_prog_15_method_204_code_32 8 rfl rfl) rfl (lv_at hl 3 rfl) ?_
        obtain ⟨g15, hf⟩ := gif hf
        refine zald (ci := 13) (k := 9) hx hb hK rfl hZ2 g14.1 g14.2 rfl (Nat.le_of_ble_eq_true rfl) g15.1 g15.2 (D_46 W_prog_15_method_204_code_32 9 rfl rfl) ?_
        cases hf
        exact W.iret hx hb hr (fun t ht hW => ⟨⟨_, (), rfl, rfl, by rw [ht]; exact hZ2, va_K.moved hW.alike hK⟩, hS2.F ht⟩) hS2.2.2 (D_172 W_prog_15_method_204_code_32 10 rfl rfl) hlk
    · replace hf := gpos hf h6
      refine zaload hx hb (D_25 W_prog_15_method_204_code_0 22 rfl rfl) (lv_at hl 0 rfl) ?_
      obtain ⟨g16, hf⟩ := gif hf
      refine zunrf g16.1 ?_
      refine zget (ci := 13) (C := RX13) (T := TX13) (v := .ref (ad 13 r1 (8 + 1))) (k := 8) hx hb hts inW_13 hown hK hZ2 g16.1 g16.2 rfl (by decide) k_9_134 rfl (D_180 W_prog_15_method_204_code_0 24 rfl rfl rfl) ?_
      refine lv_iload_n hx hb (D_28 W_prog_15_method_204_code_0 27 rfl rfl) rfl (lv_at hl 3 rfl) ?_
      obtain ⟨g17, hf⟩ := gif hf
      refine zald (ci := 13) (k := 8) hx hb hK rfl hZ2 g16.1 g16.2 rfl (Nat.le_of_ble_eq_true rfl) g17.1 g17.2 (D_46 W_prog_15_method_204_code_0 28 rfl rfl) ?_
      cases hf
      exact W.iret hx hb hr (fun t ht hW => ⟨⟨_, (), rfl, rfl, by rw [ht]; exact hZ2, va_K.moved hW.alike hK⟩, hS2.F ht⟩) hS2.2.2 (D_172 W_prog_15_method_204_code_0 29 rfl rfl) hlk
  · replace hf := gpos hf h4
    refine lv_iconst (v := iI (-1)) hx hb (D_2 W_prog_15_method_204_code_0 16 rfl rfl) rfl ?_
    cases hf
    exact W.iret hx hb hr (fun t ht hW => ⟨⟨_, (), rfl, rfl, by rw [ht]; exact hZ2, va_K.moved hW.alike hK⟩, hS2.F ht⟩) hS2.2.2 (D_172 W_prog_15_method_204_code_0 17 rfl rfl) hlk

abbrev Q_M_name (D : va_G) (ca : Nat → ClassId) (ad : Nat → Int → Nat → Nat) (L : List Nat) (r : Int) (F : zF) (B : zB) (A : Nat → Prop) : Array Value → State → Outcome → State → Prop := va_Ql (S := Unit) (fun p _ => p = lI r) (fun _ => zPo D ca ad lnM nM L F B A) A
def f_M_name_24 (K : Nat) (s0 : Int) (F : zF) (B : zB) : zO := some (s0, F, B)
set_option maxHeartbeats 4000000 in
set_option maxRecDepth 100000 in
theorem b_M_name_24 {D : va_G} {ca : Nat → ClassId} {ad : Nat → Int → Nat → Nat} {L : List Nat} {aS vS : Nat → Nat} {A : Nat → Prop} {p : Program} {l : Launch} {e : Env} {s : State} {m : MethodId} {args : Array Value} {below : List Frame} {meth : Method} {c : Code} {K : Nat} {r : Int} {F9 : zF} {B9 : zB} (X : zX D ca L aS vS A p s m args meth c prog_15_method_205_code 4 (Option.some Jvm.ClassFile.FieldType.long) "StaveHouseModel") {s0 : Int} {F : zF} {B : zB} {H : Heap} {locs : List Loc} {ls : Array Slot} (hf : f_M_name_24 K s0 F B = some (r, F9, B9)) (hZ : zH D ca ad lnM nM L F B A H) (hS : va_S A s.heap H locs) (hl : lv_has ls 4 []) : W p l e ({ frames := 1, cells := 0, slots := 0, locals := 21 } : Room) s m args below meth c H locs 0 0 (MQ below (Q_M_name D ca ad L r F9 B9 A) args s 0 0 A) (F0 m 24 ls [.long (lI s0)]) := by
  obtain ⟨hx, hb, hr, hml, hown, hts, hlk, hK, hA, hL, hX⟩ := id X
  replace hf : (some (s0, F, B)) = some (r, F9, B9) := hf
  cases hf
  exact W.lret hx hb hr (fun t ht hW => ⟨⟨_, (), rfl, rfl, by rw [ht]; exact hZ, va_K.moved hW.alike hK⟩, hS.F ht⟩) hS.2.2 (D_173 W_prog_15_method_205_code_0 24 rfl rfl) hlk

def f_M_name (K : Nat) (l1 : Int) (l2 : Int) (F : zF) (B : zB) : zO := zbind (f_M_piece K l1 F B) (fun r1 F1 B1 => zbind (f_M_isVoice K r1 l2 F1 B1) (fun r2 F2 B2 => if r32 r2 then (if r2 = 0 then f_M_name_24 K 0 F2 B2 else if 0 ≤ r1 ∧ r1 < 3 then if 0 ≤ l2 ∧ l2 < 4 then f_M_name_24 K (B2 13 r1 10 l2) F2 B2 else none else none) else none))
set_option maxHeartbeats 4000000 in
set_option maxRecDepth 100000 in
theorem c_M_name {l : Launch} {D : va_G} {ca : Nat → ClassId} {ad : Nat → Int → Nat → Nat} {L : List Nat} {aS vS : Nat → Nat} {sz K : Nat}  {l1 : Int} {l2 : Int} {F F9 : zF} {B B9 : zB} {r : Int} (hf : f_M_name K l1 l2 F B = some (r, F9, B9)) : Met l ({ cls := "StaveHouseModel", name := "name", desc := "(II)J" } : Jvm.MethodName) (Cond.code ({ cls := "StaveHouseModel", name := "name", desc := "(II)J" } : Jvm.MethodName) prog_15_method_205_code 4 (Option.some Jvm.ClassFile.FieldType.long) :: wAll) ({ frames := 1, cells := 0, slots := 0, locals := 21 } : Room) (va_Pc [.ref (ad 14 0 0), .int (iI l1), .int (iI l2)] (zPre D ca ad lnM nM L aS vS F B sz)) (Q_M_name D ca ad L r F9 B9 (zA L sz)) 0 0 (zA L sz) := by
  refine zMet (Qc := Q_M_name D ca ad L r F9 B9) (lv := [(0, .ref (ad 14 0 0)), (1, .int (iI l1)), (2, .int (iI l2))]) (by decide) (Nat.le_of_ble_eq_true rfl) rfl (fun A p e s m below meth c ls X hZ hS hl => ?_)
  obtain ⟨hx, hb, hr, hml, hown, hts, hlk, hK, hA, hL, hX⟩ := id X
  replace hf : (zbind (f_M_piece K l1 F B) (fun r1 F1 B1 => zbind (f_M_isVoice K r1 l2 F1 B1) (fun r2 F2 B2 => if r32 r2 then (if r2 = 0 then f_M_name_24 K 0 F2 B2 else if 0 ≤ r1 ∧ r1 < 3 then if 0 ≤ l2 ∧ l2 < 4 then f_M_name_24 K (B2 13 r1 10 l2) F2 B2 else none else none) else none))) = some (r, F9, B9) := hf
  refine lv_aload_n hx hb (D_42 W_prog_15_method_205_code_0 0 rfl rfl) rfl (lv_at hl 0 rfl) ?_
  refine lv_iload_n hx hb (D_27 W_prog_15_method_205_code_0 1 rfl rfl) rfl (lv_at hl 1 rfl) ?_
  obtain ⟨r1, F1, B1, hc1, hf⟩ := gbind hf
  refine va_callq (va_runV (As := [.int (iI l1)]) (rest := []) ⟨hx, hb, hml, hown, hts⟩ (c_M_piece (l := l) hc1) (cwV 1 hts (gdV k_12_92 k_12_94 ks_131 k_1_9 k_12_95) rfl rfl rfl (by decide +kernel) ⟨Nat.le_of_ble_eq_true rfl, Nat.le_of_ble_eq_true rfl⟩) (zPV X hZ hS (ci := 14) (by decide) (by decide) (r := (RX14, TX14, 107)) rfl [.int (iI l1)]) rfl rfl hl.1 rfl (lv_room (Nat.le_of_ble_eq_true rfl)) (D_182 W_prog_15_method_205_code_0 2 rfl rfl rfl) ⟨Nat.le_of_ble_eq_true rfl, Nat.le_of_ble_eq_true rfl⟩) hS (fun q _ h => zAin X hS q h) (zAin X hS) (fun p1 u1 t1 H1 locs1 ht1 hv1 hw1 hB1 hz1 hk1 hS1 => ?_)
  have hZ1 := zBack X ht1 hB1
  subst hw1
  refine zastore_n (lv' := [(0, .ref (ad 14 0 0)), (1, .int (iI l1)), (2, .int (iI l2))]) hx hb (D_78 W_prog_15_method_205_code_0 5 rfl rfl) rfl hl (by decide) (fun _ _ => rfl) (fun ls hl => ?_)
  refine zaload_n hx hb (D_45 W_prog_15_method_205_code_0 6 rfl rfl) rfl (lv_at hl 0 rfl) ?_
  refine lv_iload_n hx hb (D_28 W_prog_15_method_205_code_0 7 rfl rfl) rfl (lv_at hl 3 rfl) ?_
  obtain ⟨r2, F2, B2, hc2, hf⟩ := gbind hf
  refine va_calli (va_runS (As := [va_rf (zrf ad 13 r1), .int (iI l2)]) (rest := []) ⟨hx, hb, hml, hown, hts⟩ (c_M_isVoice (l := l) hc2) (va_cwS 2 hts (gdS k_12_118 k_12_119 k_1_9 k_12_120) rfl rfl rfl (by decide +kernel) ⟨Nat.le_of_ble_eq_true rfl, Nat.le_of_ble_eq_true rfl⟩) (zPS X hZ1 hS1 [va_rf (zrf ad 13 r1), .int (iI l2)]) rfl rfl hl.1 rfl (lv_room (Nat.le_of_ble_eq_true rfl)) (D_184 W_prog_15_method_205_code_0 8 rfl rfl rfl) ⟨Nat.le_of_ble_eq_true rfl, Nat.le_of_ble_eq_true rfl⟩) hS1 (fun q _ h => zAin X hS1 q h) (zAin X hS1) (fun p2 u2 t2 H2 locs2 ht2 hv2 hw2 hB2 hz2 hk2 hS2 => ?_)
  have hZ2 := zBack X ht2 hB2
  subst hw2
  obtain ⟨g3, hf⟩ := gif hf
  refine z0eq (tgt := 23) hx hb g3 (D_153 W_prog_15_method_205_code_0 11 rfl rfl rfl) (by decide) (fun h4 => ?_) (fun h4 => ?_)
  · replace hf := gpos hf h4
    refine lv_lconst (v := lI 0) hx hb (D_9 W_prog_15_method_205_code_0 23 rfl rfl) (by decide) ?_
    exact b_M_name_24 X hf hZ2 hS2 (lv_sub hl [] rfl)
  · replace hf := gneg hf h4
    refine zaload_n hx hb (D_45 W_prog_15_method_205_code_0 14 rfl rfl) rfl (lv_at hl 0 rfl) ?_
    obtain ⟨g5, hf⟩ := gif hf
    refine zunrf g5.1 ?_
    refine zget (ci := 13) (C := RX13) (T := TX13) (v := .ref (ad 13 r1 (10 + 1))) (k := 10) hx hb hts inW_13 hown hK hZ2 g5.1 g5.2 rfl (by decide) k_9_138 rfl (D_180 W_prog_15_method_205_code_0 15 rfl rfl rfl) ?_
    refine lv_iload_n hx hb (D_28 W_prog_15_method_205_code_0 18 rfl rfl) rfl (lv_at hl 3 rfl) ?_
    obtain ⟨g6, hf⟩ := gif hf
    refine zlald (ci := 13) (k := 10) hx hb hK rfl hZ2 g5.1 g5.2 rfl (Nat.le_of_ble_eq_true rfl) g6.1 g6.2 (D_47 W_prog_15_method_205_code_0 19 rfl rfl) ?_
    refine lv_goto (tgt := 24) hx hb (D_167 W_prog_15_method_205_code_0 20 rfl rfl rfl) (by decide) ?_
    exact b_M_name_24 X hf hZ2 hS2 (lv_sub hl [] rfl)

abbrev Q_M_event_1 (D : va_G) (ca : Nat → ClassId) (ad : Nat → Int → Nat → Nat) (L : List Nat) (r : Int) (F : zF) (B : zB) (A : Nat → Prop) : Array Value → State → Outcome → State → Prop := va_Ql (S := Unit) (fun p _ => p = lI r) (fun _ => zPo D ca ad lnM nM L F B A) A
def f_M_event_1_31 (K : Nat)  (F : zF) (B : zB) : zO := some ((-1), F, B)
set_option maxHeartbeats 4000000 in
set_option maxRecDepth 100000 in
theorem b_M_event_1_31 {D : va_G} {ca : Nat → ClassId} {ad : Nat → Int → Nat → Nat} {L : List Nat} {aS vS : Nat → Nat} {A : Nat → Prop} {p : Program} {l : Launch} {e : Env} {s : State} {m : MethodId} {args : Array Value} {below : List Frame} {meth : Method} {c : Code} {K : Nat} {r : Int} {F9 : zF} {B9 : zB} (X : zX D ca L aS vS A p s m args meth c prog_15_method_206_code 7 (Option.some Jvm.ClassFile.FieldType.long) "StaveHouseModel")  {F : zF} {B : zB} {H : Heap} {locs : List Loc} {ls : Array Slot} (hf : f_M_event_1_31 K  F B = some (r, F9, B9)) (hZ : zH D ca ad lnM nM L F B A H) (hS : va_S A s.heap H locs) (hl : lv_has ls 7 []) : W p l e ({ frames := 1, cells := 0, slots := 0, locals := 21 } : Room) s m args below meth c H locs 0 0 (MQ below (Q_M_event_1 D ca ad L r F9 B9 A) args s 0 0 A) (F0 m 31 ls []) := by
  obtain ⟨hx, hb, hr, hml, hown, hts, hlk, hK, hA, hL, hX⟩ := id X
  replace hf : (some ((-1), F, B)) = some (r, F9, B9) := hf
  refine lv_ldc2 hx hb hown (hts _ k_12_105) (D_20 W_prog_15_method_206_code_0 31 rfl rfl rfl) ?_
  refine W.eq (g2 := F0 m 34 ls [.long (lI (-1))]) rfl ?_
  cases hf
  exact W.lret hx hb hr (fun t ht hW => ⟨⟨_, (), rfl, rfl, by rw [ht]; exact hZ, va_K.moved hW.alike hK⟩, hS.F ht⟩) hS.2.2 (D_173 W_prog_15_method_206_code_32 2 rfl rfl) hlk

def f_M_event_1 (K : Nat) (l1 : Int) (l2 : Int) (l3 : Int) (l4 : Int) (F : zF) (B : zB) : zO := zbind (f_M_piece K l1 F B) (fun r1 F1 B1 => zbind (f_M_isVoice K r1 l2 F1 B1) (fun r2 F2 B2 => if r32 r2 then (if r2 = 0 then f_M_event_1_31 K F2 B2 else if r32 l3 then (if l3 < 0 then f_M_event_1_31 K F2 B2 else if 0 ≤ r1 ∧ r1 < 3 then if 0 ≤ l2 ∧ l2 < 4 then if r32 (B2 13 r1 12 l2) then (if l3 < (B2 13 r1 12 l2) then if r32 l4 then (if l4 = 0 then if 0 ≤ ((1000 * l2) + l3) ∧ ((1000 * l2) + l3) < 4000 then some (B2 13 r1 14 ((1000 * l2) + l3), F2, B2) else none else (if l4 = 1 then if 0 ≤ ((1000 * l2) + l3) ∧ ((1000 * l2) + l3) < 4000 then some (B2 13 r1 15 ((1000 * l2) + l3), F2, B2) else none else (if l4 = 2 then if 0 ≤ ((1000 * l2) + l3) ∧ ((1000 * l2) + l3) < 4000 then some (B2 13 r1 16 ((1000 * l2) + l3), F2, B2) else none else (if l4 = 3 then if 0 ≤ ((1000 * l2) + l3) ∧ ((1000 * l2) + l3) < 4000 then some (B2 13 r1 17 ((1000 * l2) + l3), F2, B2) else none else (if l4 = 4 then if 0 ≤ ((1000 * l2) + l3) ∧ ((1000 * l2) + l3) < 4000 then if r32 (B2 13 r1 21 ((1000 * l2) + l3)) then some (B2 13 r1 21 ((1000 * l2) + l3), F2, B2) else none else none else (if l4 = 5 then if 0 ≤ ((1000 * l2) + l3) ∧ ((1000 * l2) + l3) < 4000 then if r32 (B2 13 r1 18 ((1000 * l2) + l3)) then some (B2 13 r1 18 ((1000 * l2) + l3), F2, B2) else none else none else (if l4 = 6 then if 0 ≤ ((1000 * l2) + l3) ∧ ((1000 * l2) + l3) < 4000 then if r32 (B2 13 r1 19 ((1000 * l2) + l3)) then some (B2 13 r1 19 ((1000 * l2) + l3), F2, B2) else none else none else (if l4 = 7 then if 0 ≤ ((1000 * l2) + l3) ∧ ((1000 * l2) + l3) < 4000 then if r32 (B2 13 r1 20 ((1000 * l2) + l3)) then some (B2 13 r1 20 ((1000 * l2) + l3), F2, B2) else none else none else some ((-1), F2, B2))))))))) else none else f_M_event_1_31 K F2 B2) else none else none else none) else none) else none))
set_option maxHeartbeats 4000000 in
set_option maxRecDepth 100000 in
theorem c_M_event_1 {l : Launch} {D : va_G} {ca : Nat → ClassId} {ad : Nat → Int → Nat → Nat} {L : List Nat} {aS vS : Nat → Nat} {sz K : Nat}  {l1 : Int} {l2 : Int} {l3 : Int} {l4 : Int} {F F9 : zF} {B B9 : zB} {r : Int} (hf : f_M_event_1 K l1 l2 l3 l4 F B = some (r, F9, B9)) : Met l ({ cls := "StaveHouseModel", name := "event", desc := "(IIII)J" } : Jvm.MethodName) (Cond.code ({ cls := "StaveHouseModel", name := "event", desc := "(IIII)J" } : Jvm.MethodName) prog_15_method_206_code 7 (Option.some Jvm.ClassFile.FieldType.long) :: wAll) ({ frames := 1, cells := 0, slots := 0, locals := 21 } : Room) (va_Pc [.ref (ad 14 0 0), .int (iI l1), .int (iI l2), .int (iI l3), .int (iI l4)] (zPre D ca ad lnM nM L aS vS F B sz)) (Q_M_event_1 D ca ad L r F9 B9 (zA L sz)) 0 0 (zA L sz) := by
  refine zMet (Qc := Q_M_event_1 D ca ad L r F9 B9) (lv := [(0, .ref (ad 14 0 0)), (1, .int (iI l1)), (2, .int (iI l2)), (3, .int (iI l3)), (4, .int (iI l4))]) (by decide) (Nat.le_of_ble_eq_true rfl) rfl (fun A p e s m below meth c ls X hZ hS hl => ?_)
  obtain ⟨hx, hb, hr, hml, hown, hts, hlk, hK, hA, hL, hX⟩ := id X
  replace hf : (zbind (f_M_piece K l1 F B) (fun r1 F1 B1 => zbind (f_M_isVoice K r1 l2 F1 B1) (fun r2 F2 B2 => if r32 r2 then (if r2 = 0 then f_M_event_1_31 K F2 B2 else if r32 l3 then (if l3 < 0 then f_M_event_1_31 K F2 B2 else if 0 ≤ r1 ∧ r1 < 3 then if 0 ≤ l2 ∧ l2 < 4 then if r32 (B2 13 r1 12 l2) then (if l3 < (B2 13 r1 12 l2) then if r32 l4 then (if l4 = 0 then if 0 ≤ ((1000 * l2) + l3) ∧ ((1000 * l2) + l3) < 4000 then some (B2 13 r1 14 ((1000 * l2) + l3), F2, B2) else none else (if l4 = 1 then if 0 ≤ ((1000 * l2) + l3) ∧ ((1000 * l2) + l3) < 4000 then some (B2 13 r1 15 ((1000 * l2) + l3), F2, B2) else none else (if l4 = 2 then if 0 ≤ ((1000 * l2) + l3) ∧ ((1000 * l2) + l3) < 4000 then some (B2 13 r1 16 ((1000 * l2) + l3), F2, B2) else none else (if l4 = 3 then if 0 ≤ ((1000 * l2) + l3) ∧ ((1000 * l2) + l3) < 4000 then some (B2 13 r1 17 ((1000 * l2) + l3), F2, B2) else none else (if l4 = 4 then if 0 ≤ ((1000 * l2) + l3) ∧ ((1000 * l2) + l3) < 4000 then if r32 (B2 13 r1 21 ((1000 * l2) + l3)) then some (B2 13 r1 21 ((1000 * l2) + l3), F2, B2) else none else none else (if l4 = 5 then if 0 ≤ ((1000 * l2) + l3) ∧ ((1000 * l2) + l3) < 4000 then if r32 (B2 13 r1 18 ((1000 * l2) + l3)) then some (B2 13 r1 18 ((1000 * l2) + l3), F2, B2) else none else none else (if l4 = 6 then if 0 ≤ ((1000 * l2) + l3) ∧ ((1000 * l2) + l3) < 4000 then if r32 (B2 13 r1 19 ((1000 * l2) + l3)) then some (B2 13 r1 19 ((1000 * l2) + l3), F2, B2) else none else none else (if l4 = 7 then if 0 ≤ ((1000 * l2) + l3) ∧ ((1000 * l2) + l3) < 4000 then if r32 (B2 13 r1 20 ((1000 * l2) + l3)) then some (B2 13 r1 20 ((1000 * l2) + l3), F2, B2) else none else none else some ((-1), F2, B2))))))))) else none else f_M_event_1_31 K F2 B2) else none else none else none) else none) else none))) = some (r, F9, B9) := hf
  refine lv_aload_n hx hb (D_42 W_prog_15_method_206_code_0 0 rfl rfl) rfl (lv_at hl 0 rfl) ?_
  refine lv_iload_n hx hb (D_27 W_prog_15_method_206_code_0 1 rfl rfl) rfl (lv_at hl 1 rfl) ?_
  obtain ⟨r1, F1, B1, hc1, hf⟩ := gbind hf
  refine va_callq (va_runV (As := [.int (iI l1)]) (rest := []) ⟨hx, hb, hml, hown, hts⟩ (c_M_piece (l := l) hc1) (cwV 1 hts (gdV k_12_92 k_12_94 ks_131 k_1_9 k_12_95) rfl rfl rfl (by decide +kernel) ⟨Nat.le_of_ble_eq_true rfl, Nat.le_of_ble_eq_true rfl⟩) (zPV X hZ hS (ci := 14) (by decide) (by decide) (r := (RX14, TX14, 107)) rfl [.int (iI l1)]) rfl rfl hl.1 rfl (lv_room (Nat.le_of_ble_eq_true rfl)) (D_182 W_prog_15_method_206_code_0 2 rfl rfl rfl) ⟨Nat.le_of_ble_eq_true rfl, Nat.le_of_ble_eq_true rfl⟩) hS (fun q _ h => zAin X hS q h) (zAin X hS) (fun p1 u1 t1 H1 locs1 ht1 hv1 hw1 hB1 hz1 hk1 hS1 => ?_)
  have hZ1 := zBack X ht1 hB1
  subst hw1
  refine zastore (lv' := [(0, .ref (ad 14 0 0)), (1, .int (iI l1)), (2, .int (iI l2)), (3, .int (iI l3)), (4, .int (iI l4))]) hx hb (D_58 W_prog_15_method_206_code_0 5 rfl rfl) hl (by decide) (fun _ _ => rfl) (fun ls hl => ?_)
  refine zaload hx hb (D_25 W_prog_15_method_206_code_0 7 rfl rfl) (lv_at hl 0 rfl) ?_
  refine lv_iload_n hx hb (D_28 W_prog_15_method_206_code_0 9 rfl rfl) rfl (lv_at hl 3 rfl) ?_
  obtain ⟨r2, F2, B2, hc2, hf⟩ := gbind hf
  refine va_calli (va_runS (As := [va_rf (zrf ad 13 r1), .int (iI l2)]) (rest := []) ⟨hx, hb, hml, hown, hts⟩ (c_M_isVoice (l := l) hc2) (va_cwS 2 hts (gdS k_12_118 k_12_119 k_1_9 k_12_120) rfl rfl rfl (by decide +kernel) ⟨Nat.le_of_ble_eq_true rfl, Nat.le_of_ble_eq_true rfl⟩) (zPS X hZ1 hS1 [va_rf (zrf ad 13 r1), .int (iI l2)]) rfl rfl hl.1 rfl (lv_room (Nat.le_of_ble_eq_true rfl)) (D_184 W_prog_15_method_206_code_0 10 rfl rfl rfl) ⟨Nat.le_of_ble_eq_true rfl, Nat.le_of_ble_eq_true rfl⟩) hS1 (fun q _ h => zAin X hS1 q h) (zAin X hS1) (fun p2 u2 t2 H2 locs2 ht2 hv2 hw2 hB2 hz2 hk2 hS2 => ?_)
  have hZ2 := zBack X ht2 hB2
  subst hw2
  obtain ⟨g3, hf⟩ := gif hf
  refine z0eq (tgt := 31) hx hb g3 (D_153 W_prog_15_method_206_code_0 13 rfl rfl rfl) (by decide) (fun h4 => ?_) (fun h4 => ?_)
  · replace hf := gpos hf h4
    exact b_M_event_1_31 X hf hZ2 hS2 (lv_sub hl [] rfl)
  · replace hf := gneg hf h4
    refine lv_iload_n hx hb (D_29 W_prog_15_method_206_code_0 16 rfl rfl) rfl (lv_at hl 4 rfl) ?_
    obtain ⟨g5, hf⟩ := gif hf
    refine z0lt (tgt := 31) hx hb g5 (D_155 W_prog_15_method_206_code_0 17 rfl rfl rfl) (by decide) (fun h6 => ?_) (fun h6 => ?_)
    · replace hf := gpos hf h6
      exact b_M_event_1_31 X hf hZ2 hS2 (lv_sub hl [] rfl)
    · replace hf := gneg hf h6
      refine lv_iload_n hx hb (D_29 W_prog_15_method_206_code_0 20 rfl rfl) rfl (lv_at hl 4 rfl) ?_
      refine zaload hx hb (D_25 W_prog_15_method_206_code_0 21 rfl rfl) (lv_at hl 0 rfl) ?_
      obtain ⟨g7, hf⟩ := gif hf
      refine zunrf g7.1 ?_
      refine zget (ci := 13) (C := RX13) (T := TX13) (v := .ref (ad 13 r1 (12 + 1))) (k := 12) hx hb hts inW_13 hown hK hZ2 g7.1 g7.2 rfl (by decide) k_9_142 rfl (D_180 W_prog_15_method_206_code_0 23 rfl rfl rfl) ?_
      refine lv_iload_n hx hb (D_28 W_prog_15_method_206_code_0 26 rfl rfl) rfl (lv_at hl 3 rfl) ?_
      obtain ⟨g8, hf⟩ := gif hf
      refine zald (ci := 13) (k := 12) hx hb hK rfl hZ2 g7.1 g7.2 rfl (Nat.le_of_ble_eq_true rfl) g8.1 g8.2 (D_46 W_prog_15_method_206_code_0 27 rfl rfl) ?_
      obtain ⟨g9, hf⟩ := gif hf
      refine zlt (tgt := 35) hx hb g5 g9 (D_161 W_prog_15_method_206_code_0 28 rfl rfl rfl) (by decide) (fun h10 => ?_) (fun h10 => ?_)
      · replace hf := gpos hf h10
        refine lv_sipush (v := iI 1000) hx hb (D_17 W_prog_15_method_206_code_32 3 rfl rfl rfl) (by decide) ?_
        refine lv_iload_n hx hb (D_28 W_prog_15_method_206_code_32 6 rfl rfl) rfl (lv_at hl 3 rfl) ?_
        refine zmul hx hb (D_104 W_prog_15_method_206_code_32 7 rfl rfl) ?_
        refine lv_iload_n hx hb (D_29 W_prog_15_method_206_code_32 8 rfl rfl) rfl (lv_at hl 4 rfl) ?_
        refine zadd hx hb (D_96 W_prog_15_method_206_code_32 9 rfl rfl) ?_
        refine lv_istore (lv' := [(6, .int (iI ((1000 * l2) + l3))), (5, va_rf (zrf ad 13 r1)), (0, .ref (ad 14 0 0)), (1, .int (iI l1)), (2, .int (iI l2)), (3, .int (iI l3)), (4, .int (iI l4))]) hx hb (D_54 W_prog_15_method_206_code_32 10 rfl rfl) hl (by decide) (by cases zrf ad 13 r1 <;> rfl) (fun ls hl => ?_)
        refine lv_iload hx hb (D_21 W_prog_15_method_206_code_32 12 rfl rfl) (lv_at hl 6 rfl) ?_
        obtain ⟨g11, hf⟩ := gif hf
        by_cases h12 : l4 = 0
        · replace hf := gpos hf h12
          refine lv_tableIn (off := 46) (tgt := 92) hx hb d_15_206_46 (by rw [iI_to g11, h12]; decide) (by rw [iI_to g11, h12]; decide) (by rw [iI_to g11, h12]; rfl) (by decide) ?_
          refine zaload hx hb (D_25 W_prog_15_method_206_code_64 28 rfl rfl) (lv_at hl 1 rfl) ?_
          refine zunrf g7.1 ?_
          refine zget (ci := 13) (C := RX13) (T := TX13) (v := .ref (ad 13 r1 (14 + 1))) (k := 14) hx hb hts inW_13 hown hK hZ2 g7.1 g7.2 rfl (by decide) k_9_146 rfl (D_180 W_prog_15_method_206_code_64 30 rfl rfl rfl) ?_
          refine lv_iload hx hb (D_21 W_prog_15_method_206_code_96 1 rfl rfl) (lv_at hl 0 rfl) ?_
          obtain ⟨g13, hf⟩ := gif hf
          refine zlald (ci := 13) (k := 14) hx hb hK rfl hZ2 g7.1 g7.2 rfl (Nat.le_of_ble_eq_true rfl) g13.1 g13.2 (D_47 W_prog_15_method_206_code_96 3 rfl rfl) ?_
          cases hf
          exact W.lret hx hb hr (fun t ht hW => ⟨⟨_, (), rfl, rfl, by rw [ht]; exact hZ2, va_K.moved hW.alike hK⟩, hS2.F ht⟩) hS2.2.2 (D_173 W_prog_15_method_206_code_96 4 rfl rfl) hlk
        replace hf := gneg hf h12
        by_cases h14 : l4 = 1
        · replace hf := gpos hf h14
          refine lv_tableIn (off := 55) (tgt := 101) hx hb d_15_206_46 (by rw [iI_to g11, h14]; decide) (by rw [iI_to g11, h14]; decide) (by rw [iI_to g11, h14]; rfl) (by decide) ?_
          refine zaload hx hb (D_25 W_prog_15_method_206_code_96 5 rfl rfl) (lv_at hl 1 rfl) ?_
          refine zunrf g7.1 ?_
          refine zget (ci := 13) (C := RX13) (T := TX13) (v := .ref (ad 13 r1 (15 + 1))) (k := 15) hx hb hts inW_13 hown hK hZ2 g7.1 g7.2 rfl (by decide) k_9_148 rfl (D_180 W_prog_15_method_206_code_96 7 rfl rfl rfl) ?_
          refine lv_iload hx hb (D_21 W_prog_15_method_206_code_96 10 rfl rfl) (lv_at hl 0 rfl) ?_
          obtain ⟨g15, hf⟩ := gif hf
          refine zlald (ci := 13) (k := 15) hx hb hK rfl hZ2 g7.1 g7.2 rfl (Nat.le_of_ble_eq_true rfl) g15.1 g15.2 (D_47 W_prog_15_method_206_code_96 12 rfl rfl) ?_
          cases hf
          exact W.lret hx hb hr (fun t ht hW => ⟨⟨_, (), rfl, rfl, by rw [ht]; exact hZ2, va_K.moved hW.alike hK⟩, hS2.F ht⟩) hS2.2.2 (D_173 W_prog_15_method_206_code_96 13 rfl rfl) hlk
        replace hf := gneg hf h14
        by_cases h16 : l4 = 2
        · replace hf := gpos hf h16
          refine lv_tableIn (off := 64) (tgt := 110) hx hb d_15_206_46 (by rw [iI_to g11, h16]; decide) (by rw [iI_to g11, h16]; decide) (by rw [iI_to g11, h16]; rfl) (by decide) ?_
          refine zaload hx hb (D_25 W_prog_15_method_206_code_96 14 rfl rfl) (lv_at hl 1 rfl) ?_
          refine zunrf g7.1 ?_
          refine zget (ci := 13) (C := RX13) (T := TX13) (v := .ref (ad 13 r1 (16 + 1))) (k := 16) hx hb hts inW_13 hown hK hZ2 g7.1 g7.2 rfl (by decide) k_9_150 rfl (D_180 W_prog_15_method_206_code_96 16 rfl rfl rfl) ?_
          refine lv_iload hx hb (D_21 W_prog_15_method_206_code_96 19 rfl rfl) (lv_at hl 0 rfl) ?_
          obtain ⟨g17, hf⟩ := gif hf
          refine zlald (ci := 13) (k := 16) hx hb hK rfl hZ2 g7.1 g7.2 rfl (Nat.le_of_ble_eq_true rfl) g17.1 g17.2 (D_47 W_prog_15_method_206_code_96 21 rfl rfl) ?_
          cases hf
          exact W.lret hx hb hr (fun t ht hW => ⟨⟨_, (), rfl, rfl, by rw [ht]; exact hZ2, va_K.moved hW.alike hK⟩, hS2.F ht⟩) hS2.2.2 (D_173 W_prog_15_method_206_code_96 22 rfl rfl) hlk
        replace hf := gneg hf h16
        by_cases h18 : l4 = 3
        · replace hf := gpos hf h18
          refine lv_tableIn (off := 73) (tgt := 119) hx hb d_15_206_46 (by rw [iI_to g11, h18]; decide) (by rw [iI_to g11, h18]; decide) (by rw [iI_to g11, h18]; rfl) (by decide) ?_
          refine zaload hx hb (D_25 W_prog_15_method_206_code_96 23 rfl rfl) (lv_at hl 1 rfl) ?_
          refine zunrf g7.1 ?_
          refine zget (ci := 13) (C := RX13) (T := TX13) (v := .ref (ad 13 r1 (17 + 1))) (k := 17) hx hb hts inW_13 hown hK hZ2 g7.1 g7.2 rfl (by decide) k_9_152 rfl (D_180 W_prog_15_method_206_code_96 25 rfl rfl rfl) ?_
          refine lv_iload hx hb (D_21 W_prog_15_method_206_code_96 28 rfl rfl) (lv_at hl 0 rfl) ?_
          obtain ⟨g19, hf⟩ := gif hf
          refine zlald (ci := 13) (k := 17) hx hb hK rfl hZ2 g7.1 g7.2 rfl (Nat.le_of_ble_eq_true rfl) g19.1 g19.2 (D_47 W_prog_15_method_206_code_96 30 rfl rfl) ?_
          cases hf
          exact W.lret hx hb hr (fun t ht hW => ⟨⟨_, (), rfl, rfl, by rw [ht]; exact hZ2, va_K.moved hW.alike hK⟩, hS2.F ht⟩) hS2.2.2 (D_173 W_prog_15_method_206_code_96 31 rfl rfl) hlk
        replace hf := gneg hf h18
        by_cases h20 : l4 = 4
        · replace hf := gpos hf h20
          refine lv_tableIn (off := 82) (tgt := 128) hx hb d_15_206_46 (by rw [iI_to g11, h20]; decide) (by rw [iI_to g11, h20]; decide) (by rw [iI_to g11, h20]; rfl) (by decide) ?_
          refine zaload hx hb (D_25 W_prog_15_method_206_code_128 0 rfl rfl) (lv_at hl 1 rfl) ?_
          refine zunrf g7.1 ?_
          refine zget (ci := 13) (C := RX13) (T := TX13) (v := .ref (ad 13 r1 (21 + 1))) (k := 21) hx hb hts inW_13 hown hK hZ2 g7.1 g7.2 rfl (by decide) k_9_160 rfl (D_180 W_prog_15_method_206_code_128 2 rfl rfl rfl) ?_
          refine lv_iload hx hb (D_21 W_prog_15_method_206_code_128 5 rfl rfl) (lv_at hl 0 rfl) ?_
          obtain ⟨g21, hf⟩ := gif hf
          refine zald (ci := 13) (k := 21) hx hb hK rfl hZ2 g7.1 g7.2 rfl (Nat.le_of_ble_eq_true rfl) g21.1 g21.2 (D_46 W_prog_15_method_206_code_128 7 rfl rfl) ?_
          obtain ⟨g22, hf⟩ := gif hf
          refine zi2l hx hb g22 (D_133 W_prog_15_method_206_code_128 8 rfl rfl) ?_
          cases hf
          exact W.lret hx hb hr (fun t ht hW => ⟨⟨_, (), rfl, rfl, by rw [ht]; exact hZ2, va_K.moved hW.alike hK⟩, hS2.F ht⟩) hS2.2.2 (D_173 W_prog_15_method_206_code_128 9 rfl rfl) hlk
        replace hf := gneg hf h20
        by_cases h23 : l4 = 5
        · replace hf := gpos hf h23
          refine lv_tableIn (off := 92) (tgt := 138) hx hb d_15_206_46 (by rw [iI_to g11, h23]; decide) (by rw [iI_to g11, h23]; decide) (by rw [iI_to g11, h23]; rfl) (by decide) ?_
          refine zaload hx hb (D_25 W_prog_15_method_206_code_128 10 rfl rfl) (lv_at hl 1 rfl) ?_
          refine zunrf g7.1 ?_
          refine zget (ci := 13) (C := RX13) (T := TX13) (v := .ref (ad 13 r1 (18 + 1))) (k := 18) hx hb hts inW_13 hown hK hZ2 g7.1 g7.2 rfl (by decide) k_9_154 rfl (D_180 W_prog_15_method_206_code_128 12 rfl rfl rfl) ?_
          refine lv_iload hx hb (D_21 W_prog_15_method_206_code_128 15 rfl rfl) (lv_at hl 0 rfl) ?_
          obtain ⟨g24, hf⟩ := gif hf
          refine zald (ci := 13) (k := 18) hx hb hK rfl hZ2 g7.1 g7.2 rfl (Nat.le_of_ble_eq_true rfl) g24.1 g24.2 (D_46 W_prog_15_method_206_code_128 17 rfl rfl) ?_
          obtain ⟨g25, hf⟩ := gif hf
          refine zi2l hx hb g25 (D_133 W_prog_15_method_206_code_128 18 rfl rfl) ?_
          cases hf
          exact W.lret hx hb hr (fun t ht hW => ⟨⟨_, (), rfl, rfl, by rw [ht]; exact hZ2, va_K.moved hW.alike hK⟩, hS2.F ht⟩) hS2.2.2 (D_173 W_prog_15_method_206_code_128 19 rfl rfl) hlk
        replace hf := gneg hf h23
        by_cases h26 : l4 = 6
        · replace hf := gpos hf h26
          refine lv_tableIn (off := 102) (tgt := 148) hx hb d_15_206_46 (by rw [iI_to g11, h26]; decide) (by rw [iI_to g11, h26]; decide) (by rw [iI_to g11, h26]; rfl) (by decide) ?_
          refine zaload hx hb (D_25 W_prog_15_method_206_code_128 20 rfl rfl) (lv_at hl 1 rfl) ?_
          refine zunrf g7.1 ?_
          refine zget (ci := 13) (C := RX13) (T := TX13) (v := .ref (ad 13 r1 (19 + 1))) (k := 19) hx hb hts inW_13 hown hK hZ2 g7.1 g7.2 rfl (by decide) k_9_156 rfl (D_180 W_prog_15_method_206_code_128 22 rfl rfl rfl) ?_
          refine lv_iload hx hb (D_21 W_prog_15_method_206_code_128 25 rfl rfl) (lv_at hl 0 rfl) ?_
          obtain ⟨g27, hf⟩ := gif hf
          refine zald (ci := 13) (k := 19) hx hb hK rfl hZ2 g7.1 g7.2 rfl (Nat.le_of_ble_eq_true rfl) g27.1 g27.2 (D_46 W_prog_15_method_206_code_128 27 rfl rfl) ?_
          obtain ⟨g28, hf⟩ := gif hf
          refine zi2l hx hb g28 (D_133 W_prog_15_method_206_code_128 28 rfl rfl) ?_
          cases hf
          exact W.lret hx hb hr (fun t ht hW => ⟨⟨_, (), rfl, rfl, by rw [ht]; exact hZ2, va_K.moved hW.alike hK⟩, hS2.F ht⟩) hS2.2.2 (D_173 W_prog_15_method_206_code_128 29 rfl rfl) hlk
        replace hf := gneg hf h26
        by_cases h29 : l4 = 7
        · replace hf := gpos hf h29
          refine lv_tableIn (off := 112) (tgt := 158) hx hb d_15_206_46 (by rw [iI_to g11, h29]; decide) (by rw [iI_to g11, h29]; decide) (by rw [iI_to g11, h29]; rfl) (by decide) ?_
          refine zaload hx hb (D_25 W_prog_15_method_206_code_128 30 rfl rfl) (lv_at hl 1 rfl) ?_
          refine zunrf g7.1 ?_
          refine zget (ci := 13) (C := RX13) (T := TX13) (v := .ref (ad 13 r1 (20 + 1))) (k := 20) hx hb hts inW_13 hown hK hZ2 g7.1 g7.2 rfl (by decide) k_9_158 rfl (D_180 W_prog_15_method_206_code_160 0 rfl rfl rfl) ?_
          refine lv_iload hx hb (D_21 W_prog_15_method_206_code_160 3 rfl rfl) (lv_at hl 0 rfl) ?_
          obtain ⟨g30, hf⟩ := gif hf
          refine zald (ci := 13) (k := 20) hx hb hK rfl hZ2 g7.1 g7.2 rfl (Nat.le_of_ble_eq_true rfl) g30.1 g30.2 (D_46 W_prog_15_method_206_code_160 5 rfl rfl) ?_
          obtain ⟨g31, hf⟩ := gif hf
          refine zi2l hx hb g31 (D_133 W_prog_15_method_206_code_160 6 rfl rfl) ?_
          cases hf
          exact W.lret hx hb hr (fun t ht hW => ⟨⟨_, (), rfl, rfl, by rw [ht]; exact hZ2, va_K.moved hW.alike hK⟩, hS2.F ht⟩) hS2.2.2 (D_173 W_prog_15_method_206_code_160 7 rfl rfl) hlk
        replace hf := gneg hf h29
        refine lv_tableOut (tgt := 168) hx hb d_15_206_46 (by rw [iI_to g11]; omega) (by decide) ?_
        refine lv_ldc2 hx hb hown (hts _ k_12_105) (D_20 W_prog_15_method_206_code_160 8 rfl rfl rfl) ?_
        refine W.eq (g2 := F0 m 171 ls [.long (lI (-1))]) rfl ?_
        cases hf
        exact W.lret hx hb hr (fun t ht hW => ⟨⟨_, (), rfl, rfl, by rw [ht]; exact hZ2, va_K.moved hW.alike hK⟩, hS2.F ht⟩) hS2.2.2 (D_173 W_prog_15_method_206_code_160 11 rfl rfl) hlk
      · replace hf := gneg hf h10
        exact b_M_event_1_31 X hf hZ2 hS2 (lv_sub hl [] rfl)

abbrev Q_M_pitch (D : va_G) (ca : Nat → ClassId) (ad : Nat → Int → Nat → Nat) (L : List Nat) (r : Int) (F : zF) (B : zB) (A : Nat → Prop) : Array Value → State → Outcome → State → Prop := va_Qi (S := Unit) (fun p _ => p = iI r) (fun _ => zPo D ca ad lnM nM L F B A) A
def f_M_pitch_121 (K : Nat) (s0 : Int) (F : zF) (B : zB) : zO := some (s0, F, B)
set_option maxHeartbeats 4000000 in
set_option maxRecDepth 100000 in
theorem b_M_pitch_121 {D : va_G} {ca : Nat → ClassId} {ad : Nat → Int → Nat → Nat} {L : List Nat} {aS vS : Nat → Nat} {A : Nat → Prop} {p : Program} {l : Launch} {e : Env} {s : State} {m : MethodId} {args : Array Value} {below : List Frame} {meth : Method} {c : Code} {K : Nat} {r : Int} {F9 : zF} {B9 : zB} (X : zX D ca L aS vS A p s m args meth c prog_15_method_207_code 8 (Option.some Jvm.ClassFile.FieldType.int) "StaveHouseModel") {s0 : Int} {F : zF} {B : zB} {H : Heap} {locs : List Loc} {ls : Array Slot} (hf : f_M_pitch_121 K s0 F B = some (r, F9, B9)) (hZ : zH D ca ad lnM nM L F B A H) (hS : va_S A s.heap H locs) (hl : lv_has ls 8 []) : W p l e ({ frames := 2, cells := 0, slots := 0, locals := 44 } : Room) s m args below meth c H locs 0 0 (MQ below (Q_M_pitch D ca ad L r F9 B9 A) args s 0 0 A) (F0 m 121 ls [.int (iI s0)]) := by
  obtain ⟨hx, hb, hr, hml, hown, hts, hlk, hK, hA, hL, hX⟩ := id X
  replace hf : (some (s0, F, B)) = some (r, F9, B9) := hf
  cases hf
  exact W.iret hx hb hr (fun t ht hW => ⟨⟨_, (), rfl, rfl, by rw [ht]; exact hZ, va_K.moved hW.alike hK⟩, hS.F ht⟩) hS.2.2 (D_172 W_prog_15_method_207_code_96 25 rfl rfl) hlk

def f_M_pitch_54 (K : Nat)  (F : zF) (B : zB) : zO := some ((-2147483648), F, B)
set_option maxHeartbeats 4000000 in
set_option maxRecDepth 100000 in
theorem b_M_pitch_54 {D : va_G} {ca : Nat → ClassId} {ad : Nat → Int → Nat → Nat} {L : List Nat} {aS vS : Nat → Nat} {A : Nat → Prop} {p : Program} {l : Launch} {e : Env} {s : State} {m : MethodId} {args : Array Value} {below : List Frame} {meth : Method} {c : Code} {K : Nat} {r : Int} {F9 : zF} {B9 : zB} (X : zX D ca L aS vS A p s m args meth c prog_15_method_207_code 8 (Option.some Jvm.ClassFile.FieldType.int) "StaveHouseModel")  {F : zF} {B : zB} {H : Heap} {locs : List Loc} {ls : Array Slot} (hf : f_M_pitch_54 K  F B = some (r, F9, B9)) (hZ : zH D ca ad lnM nM L F B A H) (hS : va_S A s.heap H locs) (hl : lv_has ls 8 []) : W p l e ({ frames := 2, cells := 0, slots := 0, locals := 44 } : Room) s m args below meth c H locs 0 0 (MQ below (Q_M_pitch D ca ad L r F9 B9 A) args s 0 0 A) (F0 m 54 ls []) := by
  obtain ⟨hx, hb, hr, hml, hown, hts, hlk, hK, hA, hL, hX⟩ := id X
  replace hf : (some ((-2147483648), F, B)) = some (r, F9, B9) := hf
  refine lv_ldcw hx hb hown (hts _ k_13_68) (D_19 W_prog_15_method_207_code_32 22 rfl rfl rfl) ?_
  refine W.eq (g2 := F0 m 57 ls [.int (iI (-2147483648))]) rfl ?_
  cases hf
  exact W.iret hx hb hr (fun t ht hW => ⟨⟨_, (), rfl, rfl, by rw [ht]; exact hZ, va_K.moved hW.alike hK⟩, hS.F ht⟩) hS.2.2 (D_172 W_prog_15_method_207_code_32 25 rfl rfl) hlk

def f_M_pitch (K : Nat) (l1 : Int) (l2 : Int) (l3 : Int) (l4 : Int) (l5 : Int) (F : zF) (B : zB) : zO := zbind (f_M_piece K l1 F B) (fun r1 F1 B1 => zbind (f_M_isVoice K r1 l2 F1 B1) (fun r2 F2 B2 => if r32 r2 then (if r2 = 0 then f_M_pitch_54 K F2 B2 else if r32 l3 then (if l3 < 0 then f_M_pitch_54 K F2 B2 else if 0 ≤ r1 ∧ r1 < 3 then if 0 ≤ l2 ∧ l2 < 4 then if r32 (B2 13 r1 12 l2) then (if (B2 13 r1 12 l2) ≤ l3 then f_M_pitch_54 K F2 B2 else if r32 l4 then (if l4 < 0 then f_M_pitch_54 K F2 B2 else if 0 ≤ ((1000 * l2) + l3) ∧ ((1000 * l2) + l3) < 4000 then if r32 (B2 13 r1 21 ((1000 * l2) + l3)) then (if l4 < (B2 13 r1 21 ((1000 * l2) + l3)) then if r32 l5 then (if l5 = 0 then if 0 ≤ ((6 * ((1000 * l2) + l3)) + l4) ∧ ((6 * ((1000 * l2) + l3)) + l4) < 24000 then some (B2 13 r1 28 ((6 * ((1000 * l2) + l3)) + l4), F2, B2) else none else (if l5 = 1 then if 0 ≤ ((6 * ((1000 * l2) + l3)) + l4) ∧ ((6 * ((1000 * l2) + l3)) + l4) < 24000 then some (B2 13 r1 29 ((6 * ((1000 * l2) + l3)) + l4), F2, B2) else none else (if l5 = 2 then zbind (f_M_toneAt K r1 ((6 * ((1000 * l2) + l3)) + l4) F2 B2) (fun r20 F20 B20 => f_M_pitch_121 K r20 F20 B20) else f_M_pitch_121 K (-2147483648) F2 B2))) else none else f_M_pitch_54 K F2 B2) else none else none) else none) else none else none else none) else none) else none))
set_option maxHeartbeats 4000000 in
set_option maxRecDepth 100000 in
theorem c_M_pitch {l : Launch} {D : va_G} {ca : Nat → ClassId} {ad : Nat → Int → Nat → Nat} {L : List Nat} {aS vS : Nat → Nat} {sz K : Nat}  {l1 : Int} {l2 : Int} {l3 : Int} {l4 : Int} {l5 : Int} {F F9 : zF} {B B9 : zB} {r : Int} (hf : f_M_pitch K l1 l2 l3 l4 l5 F B = some (r, F9, B9)) : Met l ({ cls := "StaveHouseModel", name := "pitch", desc := "(IIIII)I" } : Jvm.MethodName) (Cond.code ({ cls := "StaveHouseModel", name := "pitch", desc := "(IIIII)I" } : Jvm.MethodName) prog_15_method_207_code 8 (Option.some Jvm.ClassFile.FieldType.int) :: wAll) ({ frames := 2, cells := 0, slots := 0, locals := 44 } : Room) (va_Pc [.ref (ad 14 0 0), .int (iI l1), .int (iI l2), .int (iI l3), .int (iI l4), .int (iI l5)] (zPre D ca ad lnM nM L aS vS F B sz)) (Q_M_pitch D ca ad L r F9 B9 (zA L sz)) 0 0 (zA L sz) := by
  refine zMet (Qc := Q_M_pitch D ca ad L r F9 B9) (lv := [(0, .ref (ad 14 0 0)), (1, .int (iI l1)), (2, .int (iI l2)), (3, .int (iI l3)), (4, .int (iI l4)), (5, .int (iI l5))]) (by decide) (Nat.le_of_ble_eq_true rfl) rfl (fun A p e s m below meth c ls X hZ hS hl => ?_)
  obtain ⟨hx, hb, hr, hml, hown, hts, hlk, hK, hA, hL, hX⟩ := id X
  replace hf : (zbind (f_M_piece K l1 F B) (fun r1 F1 B1 => zbind (f_M_isVoice K r1 l2 F1 B1) (fun r2 F2 B2 => if r32 r2 then (if r2 = 0 then f_M_pitch_54 K F2 B2 else if r32 l3 then (if l3 < 0 then f_M_pitch_54 K F2 B2 else if 0 ≤ r1 ∧ r1 < 3 then if 0 ≤ l2 ∧ l2 < 4 then if r32 (B2 13 r1 12 l2) then (if (B2 13 r1 12 l2) ≤ l3 then f_M_pitch_54 K F2 B2 else if r32 l4 then (if l4 < 0 then f_M_pitch_54 K F2 B2 else if 0 ≤ ((1000 * l2) + l3) ∧ ((1000 * l2) + l3) < 4000 then if r32 (B2 13 r1 21 ((1000 * l2) + l3)) then (if l4 < (B2 13 r1 21 ((1000 * l2) + l3)) then if r32 l5 then (if l5 = 0 then if 0 ≤ ((6 * ((1000 * l2) + l3)) + l4) ∧ ((6 * ((1000 * l2) + l3)) + l4) < 24000 then some (B2 13 r1 28 ((6 * ((1000 * l2) + l3)) + l4), F2, B2) else none else (if l5 = 1 then if 0 ≤ ((6 * ((1000 * l2) + l3)) + l4) ∧ ((6 * ((1000 * l2) + l3)) + l4) < 24000 then some (B2 13 r1 29 ((6 * ((1000 * l2) + l3)) + l4), F2, B2) else none else (if l5 = 2 then zbind (f_M_toneAt K r1 ((6 * ((1000 * l2) + l3)) + l4) F2 B2) (fun r20 F20 B20 => f_M_pitch_121 K r20 F20 B20) else f_M_pitch_121 K (-2147483648) F2 B2))) else none else f_M_pitch_54 K F2 B2) else none else none) else none) else none else none else none) else none) else none))) = some (r, F9, B9) := hf
  refine lv_aload_n hx hb (D_42 W_prog_15_method_207_code_0 0 rfl rfl) rfl (lv_at hl 0 rfl) ?_
  refine lv_iload_n hx hb (D_27 W_prog_15_method_207_code_0 1 rfl rfl) rfl (lv_at hl 1 rfl) ?_
  obtain ⟨r1, F1, B1, hc1, hf⟩ := gbind hf
  refine va_callq (va_runV (As := [.int (iI l1)]) (rest := []) ⟨hx, hb, hml, hown, hts⟩ (c_M_piece (l := l) hc1) (cwV 1 hts (gdV k_12_92 k_12_94 ks_131 k_1_9 k_12_95) rfl rfl rfl (by decide +kernel) ⟨Nat.le_of_ble_eq_true rfl, Nat.le_of_ble_eq_true rfl⟩) (zPV X hZ hS (ci := 14) (by decide) (by decide) (r := (RX14, TX14, 107)) rfl [.int (iI l1)]) rfl rfl hl.1 rfl (lv_room (Nat.le_of_ble_eq_true rfl)) (D_182 W_prog_15_method_207_code_0 2 rfl rfl rfl) ⟨Nat.le_of_ble_eq_true rfl, Nat.le_of_ble_eq_true rfl⟩) hS (fun q _ h => zAin X hS q h) (zAin X hS) (fun p1 u1 t1 H1 locs1 ht1 hv1 hw1 hB1 hz1 hk1 hS1 => ?_)
  have hZ1 := zBack X ht1 hB1
  subst hw1
  refine zastore (lv' := [(0, .ref (ad 14 0 0)), (1, .int (iI l1)), (2, .int (iI l2)), (3, .int (iI l3)), (4, .int (iI l4)), (5, .int (iI l5))]) hx hb (D_58 W_prog_15_method_207_code_0 5 rfl rfl) hl (by decide) (fun _ _ => rfl) (fun ls hl => ?_)
  refine zaload hx hb (D_25 W_prog_15_method_207_code_0 7 rfl rfl) (lv_at hl 0 rfl) ?_
  refine lv_iload_n hx hb (D_28 W_prog_15_method_207_code_0 9 rfl rfl) rfl (lv_at hl 3 rfl) ?_
  obtain ⟨r2, F2, B2, hc2, hf⟩ := gbind hf
  refine va_calli (va_runS (As := [va_rf (zrf ad 13 r1), .int (iI l2)]) (rest := []) ⟨hx, hb, hml, hown, hts⟩ (c_M_isVoice (l := l) hc2) (va_cwS 2 hts (gdS k_12_118 k_12_119 k_1_9 k_12_120) rfl rfl rfl (by decide +kernel) ⟨Nat.le_of_ble_eq_true rfl, Nat.le_of_ble_eq_true rfl⟩) (zPS X hZ1 hS1 [va_rf (zrf ad 13 r1), .int (iI l2)]) rfl rfl hl.1 rfl (lv_room (Nat.le_of_ble_eq_true rfl)) (D_184 W_prog_15_method_207_code_0 10 rfl rfl rfl) ⟨Nat.le_of_ble_eq_true rfl, Nat.le_of_ble_eq_true rfl⟩) hS1 (fun q _ h => zAin X hS1 q h) (zAin X hS1) (fun p2 u2 t2 H2 locs2 ht2 hv2 hw2 hB2 hz2 hk2 hS2 => ?_)
  have hZ2 := zBack X ht2 hB2
  subst hw2
  obtain ⟨g3, hf⟩ := gif hf
  refine z0eq (tgt := 54) hx hb g3 (D_153 W_prog_15_method_207_code_0 13 rfl rfl rfl) (by decide) (fun h4 => ?_) (fun h4 => ?_)
  · replace hf := gpos hf h4
    exact b_M_pitch_54 X hf hZ2 hS2 (lv_sub hl [] rfl)
  · replace hf := gneg hf h4
    refine lv_iload_n hx hb (D_29 W_prog_15_method_207_code_0 16 rfl rfl) rfl (lv_at hl 4 rfl) ?_
    obtain ⟨g5, hf⟩ := gif hf
    refine z0lt (tgt := 54) hx hb g5 (D_155 W_prog_15_method_207_code_0 17 rfl rfl rfl) (by decide) (fun h6 => ?_) (fun h6 => ?_)
    · replace hf := gpos hf h6
      exact b_M_pitch_54 X hf hZ2 hS2 (lv_sub hl [] rfl)
    · replace hf := gneg hf h6
      refine lv_iload_n hx hb (D_29 W_prog_15_method_207_code_0 20 rfl rfl) rfl (lv_at hl 4 rfl) ?_
      refine zaload hx hb (D_25 W_prog_15_method_207_code_0 21 rfl rfl) (lv_at hl 0 rfl) ?_
      obtain ⟨g7, hf⟩ := gif hf
      refine zunrf g7.1 ?_
      refine zget (ci := 13) (C := RX13) (T := TX13) (v := .ref (ad 13 r1 (12 + 1))) (k := 12) hx hb hts inW_13 hown hK hZ2 g7.1 g7.2 rfl (by decide) k_9_142 rfl (D_180 W_prog_15_method_207_code_0 23 rfl rfl rfl) ?_
      refine lv_iload_n hx hb (D_28 W_prog_15_method_207_code_0 26 rfl rfl) rfl (lv_at hl 3 rfl) ?_
      obtain ⟨g8, hf⟩ := gif hf
      refine zald (ci := 13) (k := 12) hx hb hK rfl hZ2 g7.1 g7.2 rfl (Nat.le_of_ble_eq_true rfl) g8.1 g8.2 (D_46 W_prog_15_method_207_code_0 27 rfl rfl) ?_
      obtain ⟨g9, hf⟩ := gif hf
      refine zge (tgt := 54) hx hb g5 g9 (D_162 W_prog_15_method_207_code_0 28 rfl rfl rfl) (by decide) (fun h10 => ?_) (fun h10 => ?_)
      · replace hf := gpos hf h10
        exact b_M_pitch_54 X hf hZ2 hS2 (lv_sub hl [] rfl)
      · replace hf := gneg hf h10
        refine lv_iload hx hb (D_21 W_prog_15_method_207_code_0 31 rfl rfl) (lv_at hl 5 rfl) ?_
        obtain ⟨g11, hf⟩ := gif hf
        refine z0lt (tgt := 54) hx hb g11 (D_155 W_prog_15_method_207_code_32 1 rfl rfl rfl) (by decide) (fun h12 => ?_) (fun h12 => ?_)
        · replace hf := gpos hf h12
          exact b_M_pitch_54 X hf hZ2 hS2 (lv_sub hl [] rfl)
        · replace hf := gneg hf h12
          refine lv_iload hx hb (D_21 W_prog_15_method_207_code_32 4 rfl rfl) (lv_at hl 5 rfl) ?_
          refine zaload hx hb (D_25 W_prog_15_method_207_code_32 6 rfl rfl) (lv_at hl 0 rfl) ?_
          refine zunrf g7.1 ?_
          refine zget (ci := 13) (C := RX13) (T := TX13) (v := .ref (ad 13 r1 (21 + 1))) (k := 21) hx hb hts inW_13 hown hK hZ2 g7.1 g7.2 rfl (by decide) k_9_160 rfl (D_180 W_prog_15_method_207_code_32 8 rfl rfl rfl) ?_
          refine lv_sipush (v := iI 1000) hx hb (D_17 W_prog_15_method_207_code_32 11 rfl rfl rfl) (by decide) ?_
          refine lv_iload_n hx hb (D_28 W_prog_15_method_207_code_32 14 rfl rfl) rfl (lv_at hl 3 rfl) ?_
          refine zmul hx hb (D_104 W_prog_15_method_207_code_32 15 rfl rfl) ?_
          refine lv_iload_n hx hb (D_29 W_prog_15_method_207_code_32 16 rfl rfl) rfl (lv_at hl 4 rfl) ?_
          refine zadd hx hb (D_96 W_prog_15_method_207_code_32 17 rfl rfl) ?_
          obtain ⟨g13, hf⟩ := gif hf
          refine zald (ci := 13) (k := 21) hx hb hK rfl hZ2 g7.1 g7.2 rfl (Nat.le_of_ble_eq_true rfl) g13.1 g13.2 (D_46 W_prog_15_method_207_code_32 18 rfl rfl) ?_
          obtain ⟨g14, hf⟩ := gif hf
          refine zlt (tgt := 58) hx hb g11 g14 (D_161 W_prog_15_method_207_code_32 19 rfl rfl rfl) (by decide) (fun h15 => ?_) (fun h15 => ?_)
          · replace hf := gpos hf h15
            refine lv_bipush (v := iI 6) hx hb (D_16 W_prog_15_method_207_code_32 26 rfl rfl rfl) (by decide) ?_
            refine lv_sipush (v := iI 1000) hx hb (D_17 W_prog_15_method_207_code_32 28 rfl rfl rfl) (by decide) ?_
            refine lv_iload_n hx hb (D_28 W_prog_15_method_207_code_32 31 rfl rfl) rfl (lv_at hl 3 rfl) ?_
            refine zmul hx hb (D_104 W_prog_15_method_207_code_64 0 rfl rfl) ?_
            refine lv_iload_n hx hb (D_29 W_prog_15_method_207_code_64 1 rfl rfl) rfl (lv_at hl 4 rfl) ?_
            refine zadd hx hb (D_96 W_prog_15_method_207_code_64 2 rfl rfl) ?_
            refine zmul hx hb (D_104 W_prog_15_method_207_code_64 3 rfl rfl) ?_
            refine lv_iload hx hb (D_21 W_prog_15_method_207_code_64 4 rfl rfl) (lv_at hl 5 rfl) ?_
            refine zadd hx hb (D_96 W_prog_15_method_207_code_64 6 rfl rfl) ?_
            refine lv_istore (lv' := [(7, .int (iI ((6 * ((1000 * l2) + l3)) + l4))), (6, va_rf (zrf ad 13 r1)), (0, .ref (ad 14 0 0)), (1, .int (iI l1)), (2, .int (iI l2)), (3, .int (iI l3)), (4, .int (iI l4)), (5, .int (iI l5))]) hx hb (D_54 W_prog_15_method_207_code_64 7 rfl rfl) hl (by decide) (by cases zrf ad 13 r1 <;> rfl) (fun ls hl => ?_)
            refine lv_iload hx hb (D_21 W_prog_15_method_207_code_64 9 rfl rfl) (lv_at hl 7 rfl) ?_
            obtain ⟨g16, hf⟩ := gif hf
            refine z0ne (tgt := 87) hx hb g16 (D_154 W_prog_15_method_207_code_64 11 rfl rfl rfl) (by decide) (fun h17 => ?_) (fun h17 => ?_)
            · replace hf := gneg hf h17
              refine lv_iload hx hb (D_21 W_prog_15_method_207_code_64 23 rfl rfl) (lv_at hl 7 rfl) ?_
              refine lv_iconst (v := iI 1) hx hb (D_4 W_prog_15_method_207_code_64 25 rfl rfl) rfl ?_
              refine zne (tgt := 102) hx hb g16 (by decide) (D_160 W_prog_15_method_207_code_64 26 rfl rfl rfl) (by decide) (fun h18 => ?_) (fun h18 => ?_)
              · replace hf := gneg hf h18
                refine lv_iload hx hb (D_21 W_prog_15_method_207_code_96 6 rfl rfl) (lv_at hl 7 rfl) ?_
                refine lv_iconst (v := iI 2) hx hb (D_5 W_prog_15_method_207_code_96 8 rfl rfl) rfl ?_
                refine zne (tgt := 118) hx hb g16 (by decide) (D_160 W_prog_15_method_207_code_96 9 rfl rfl rfl) (by decide) (fun h19 => ?_) (fun h19 => ?_)
                · replace hf := gneg hf h19
                  refine lv_ldcw hx hb hown (hts _ k_13_68) (D_19 W_prog_15_method_207_code_96 22 rfl rfl rfl) ?_
                  refine W.eq (g2 := F0 m 121 ls [.int (iI (-2147483648))]) rfl ?_
                  exact b_M_pitch_121 X hf hZ2 hS2 (lv_sub hl [] rfl)
                · replace hf := gpos hf h19
                  refine zaload hx hb (D_25 W_prog_15_method_207_code_96 12 rfl rfl) (lv_at hl 1 rfl) ?_
                  refine lv_iload hx hb (D_21 W_prog_15_method_207_code_96 14 rfl rfl) (lv_at hl 0 rfl) ?_
                  refine W.eq (g2 := F0 m 112 ls [.int (iI ((6 * ((1000 * l2) + l3)) + l4)), .ref (ad 13 r1 0)]) (by rw [zrf_pos (ad := ad) (t := 13) g7.1]; try rfl) ?_
                  obtain ⟨r20, F20, B20, hc20, hf⟩ := gbind hf
                  refine va_calli (va_runS (As := [.ref (ad 13 r1 0), .int (iI ((6 * ((1000 * l2) + l3)) + l4))]) (rest := []) ⟨hx, hb, hml, hown, hts⟩ (c_M_toneAt (l := l) hc20) (va_cwS 2 hts (gdS k_15_121 k_15_122 k_1_9 k_15_123) rfl rfl rfl (by decide +kernel) ⟨Nat.le_of_ble_eq_true rfl, Nat.le_of_ble_eq_true rfl⟩) (zPS X hZ2 hS2 [.ref (ad 13 r1 0), .int (iI ((6 * ((1000 * l2) + l3)) + l4))]) rfl rfl hl.1 rfl (lv_room (Nat.le_of_ble_eq_true rfl)) (D_184 W_prog_15_method_207_code_96 16 rfl rfl rfl) ⟨Nat.le_of_ble_eq_true rfl, Nat.le_of_ble_eq_true rfl⟩) hS2 (fun q _ h => zAin X hS2 q h) (zAin X hS2) (fun p20 u20 t20 H20 locs20 ht20 hv20 hw20 hB20 hz20 hk20 hS20 => ?_)
                  have hZ20 := zBack X ht20 hB20
                  subst hw20
                  refine lv_goto (tgt := 121) hx hb (D_167 W_prog_15_method_207_code_96 19 rfl rfl rfl) (by decide) ?_
                  exact b_M_pitch_121 X hf hZ20 hS20 (lv_sub hl [] rfl)
              · replace hf := gpos hf h18
                refine zaload hx hb (D_25 W_prog_15_method_207_code_64 29 rfl rfl) (lv_at hl 1 rfl) ?_
                refine zunrf g7.1 ?_
                refine zget (ci := 13) (C := RX13) (T := TX13) (v := .ref (ad 13 r1 (29 + 1))) (k := 29) hx hb hts inW_13 hown hK hZ2 g7.1 g7.2 rfl (by decide) k_9_176 rfl (D_180 W_prog_15_method_207_code_64 31 rfl rfl rfl) ?_
                refine lv_iload hx hb (D_21 W_prog_15_method_207_code_96 2 rfl rfl) (lv_at hl 0 rfl) ?_
                obtain ⟨g21, hf⟩ := gif hf
                refine zald (ci := 13) (k := 29) hx hb hK rfl hZ2 g7.1 g7.2 rfl (Nat.le_of_ble_eq_true rfl) g21.1 g21.2 (D_46 W_prog_15_method_207_code_96 4 rfl rfl) ?_
                cases hf
                exact W.iret hx hb hr (fun t ht hW => ⟨⟨_, (), rfl, rfl, by rw [ht]; exact hZ2, va_K.moved hW.alike hK⟩, hS2.F ht⟩) hS2.2.2 (D_172 W_prog_15_method_207_code_96 5 rfl rfl) hlk
            · replace hf := gpos hf h17
              refine zaload hx hb (D_25 W_prog_15_method_207_code_64 14 rfl rfl) (lv_at hl 1 rfl) ?_
              refine zunrf g7.1 ?_
              refine zget (ci := 13) (C := RX13) (T := TX13) (v := .ref (ad 13 r1 (28 + 1))) (k := 28) hx hb hts inW_13 hown hK hZ2 g7.1 g7.2 rfl (by decide) k_9_174 rfl (D_180 W_prog_15_method_207_code_64 16 rfl rfl rfl) ?_
              refine lv_iload hx hb (D_21 W_prog_15_method_207_code_64 19 rfl rfl) (lv_at hl 0 rfl) ?_
              obtain ⟨g22, hf⟩ := gif hf
              refine zald (ci := 13) (k := 28) hx hb hK rfl hZ2 g7.1 g7.2 rfl (Nat.le_of_ble_eq_true rfl) g22.1 g22.2 (D_46 W_prog_15_method_207_code_64 21 rfl rfl) ?_
              cases hf
              exact W.iret hx hb hr (fun t ht hW => ⟨⟨_, (), rfl, rfl, by rw [ht]; exact hZ2, va_K.moved hW.alike hK⟩, hS2.F ht⟩) hS2.2.2 (D_172 W_prog_15_method_207_code_64 22 rfl rfl) hlk
          · replace hf := gneg hf h15
            exact b_M_pitch_54 X hf hZ2 hS2 (lv_sub hl [] rfl)

abbrev Q_M_note_0 (D : va_G) (ca : Nat → ClassId) (ad : Nat → Int → Nat → Nat) (L : List Nat) (r : Int) (F : zF) (B : zB) (A : Nat → Prop) : Array Value → State → Outcome → State → Prop := va_Ql (S := Unit) (fun p _ => p = lI r) (fun _ => zPo D ca ad lnM nM L F B A) A
def f_M_note_0_31 (K : Nat)  (F : zF) (B : zB) : zO := some ((-1), F, B)
set_option maxHeartbeats 4000000 in
set_option maxRecDepth 100000 in
theorem b_M_note_0_31 {D : va_G} {ca : Nat → ClassId} {ad : Nat → Int → Nat → Nat} {L : List Nat} {aS vS : Nat → Nat} {A : Nat → Prop} {p : Program} {l : Launch} {e : Env} {s : State} {m : MethodId} {args : Array Value} {below : List Frame} {meth : Method} {c : Code} {K : Nat} {r : Int} {F9 : zF} {B9 : zB} (X : zX D ca L aS vS A p s m args meth c prog_15_method_208_code 7 (Option.some Jvm.ClassFile.FieldType.long) "StaveHouseModel")  {F : zF} {B : zB} {H : Heap} {locs : List Loc} {ls : Array Slot} (hf : f_M_note_0_31 K  F B = some (r, F9, B9)) (hZ : zH D ca ad lnM nM L F B A H) (hS : va_S A s.heap H locs) (hl : lv_has ls 7 []) : W p l e ({ frames := 1, cells := 0, slots := 0, locals := 21 } : Room) s m args below meth c H locs 0 0 (MQ below (Q_M_note_0 D ca ad L r F9 B9 A) args s 0 0 A) (F0 m 31 ls []) := by
  obtain ⟨hx, hb, hr, hml, hown, hts, hlk, hK, hA, hL, hX⟩ := id X
  replace hf : (some ((-1), F, B)) = some (r, F9, B9) := hf
  refine lv_ldc2 hx hb hown (hts _ k_12_105) (D_20 W_prog_15_method_208_code_0 31 rfl rfl rfl) ?_
  refine W.eq (g2 := F0 m 34 ls [.long (lI (-1))]) rfl ?_
  cases hf
  exact W.lret hx hb hr (fun t ht hW => ⟨⟨_, (), rfl, rfl, by rw [ht]; exact hZ, va_K.moved hW.alike hK⟩, hS.F ht⟩) hS.2.2 (D_173 W_prog_15_method_208_code_32 2 rfl rfl) hlk

def f_M_note_0 (K : Nat) (l1 : Int) (l2 : Int) (l3 : Int) (l4 : Int) (F : zF) (B : zB) : zO := zbind (f_M_piece K l1 F B) (fun r1 F1 B1 => zbind (f_M_isVoice K r1 l2 F1 B1) (fun r2 F2 B2 => if r32 r2 then (if r2 = 0 then f_M_note_0_31 K F2 B2 else if r32 l3 then (if l3 < 0 then f_M_note_0_31 K F2 B2 else if 0 ≤ r1 ∧ r1 < 3 then if 0 ≤ l2 ∧ l2 < 4 then if r32 (B2 13 r1 13 l2) then (if l3 < (B2 13 r1 13 l2) then if r32 l4 then (if l4 = 0 then if 0 ≤ ((800 * l2) + l3) ∧ ((800 * l2) + l3) < 3200 then if r32 (B2 13 r1 30 ((800 * l2) + l3)) then some (B2 13 r1 30 ((800 * l2) + l3), F2, B2) else none else none else (if l4 = 1 then if 0 ≤ ((800 * l2) + l3) ∧ ((800 * l2) + l3) < 3200 then if r32 (B2 13 r1 31 ((800 * l2) + l3)) then some (B2 13 r1 31 ((800 * l2) + l3), F2, B2) else none else none else (if l4 = 2 then if 0 ≤ ((800 * l2) + l3) ∧ ((800 * l2) + l3) < 3200 then some (B2 13 r1 32 ((800 * l2) + l3), F2, B2) else none else (if l4 = 3 then if 0 ≤ ((800 * l2) + l3) ∧ ((800 * l2) + l3) < 3200 then some (B2 13 r1 33 ((800 * l2) + l3), F2, B2) else none else (if l4 = 4 then if 0 ≤ ((800 * l2) + l3) ∧ ((800 * l2) + l3) < 3200 then if r32 (B2 13 r1 34 ((800 * l2) + l3)) then some (B2 13 r1 34 ((800 * l2) + l3), F2, B2) else none else none else (if l4 = 5 then if 0 ≤ ((800 * l2) + l3) ∧ ((800 * l2) + l3) < 3200 then if r32 (B2 13 r1 35 ((800 * l2) + l3)) then some (B2 13 r1 35 ((800 * l2) + l3), F2, B2) else none else none else (if l4 = 6 then if 0 ≤ ((800 * l2) + l3) ∧ ((800 * l2) + l3) < 3200 then if r32 (B2 13 r1 36 ((800 * l2) + l3)) then some (B2 13 r1 36 ((800 * l2) + l3), F2, B2) else none else none else (if l4 = 7 then if 0 ≤ ((800 * l2) + l3) ∧ ((800 * l2) + l3) < 3200 then if r32 (B2 13 r1 37 ((800 * l2) + l3)) then some (B2 13 r1 37 ((800 * l2) + l3), F2, B2) else none else none else (if l4 = 8 then if 0 ≤ ((800 * l2) + l3) ∧ ((800 * l2) + l3) < 3200 then if r32 (B2 13 r1 38 ((800 * l2) + l3)) then some (B2 13 r1 38 ((800 * l2) + l3), F2, B2) else none else none else (if l4 = 9 then if 0 ≤ ((800 * l2) + l3) ∧ ((800 * l2) + l3) < 3200 then if r32 (B2 13 r1 39 ((800 * l2) + l3)) then some (B2 13 r1 39 ((800 * l2) + l3), F2, B2) else none else none else (if l4 = 10 then if 0 ≤ ((800 * l2) + l3) ∧ ((800 * l2) + l3) < 3200 then if r32 (B2 13 r1 40 ((800 * l2) + l3)) then some (B2 13 r1 40 ((800 * l2) + l3), F2, B2) else none else none else (if l4 = 11 then if 0 ≤ ((800 * l2) + l3) ∧ ((800 * l2) + l3) < 3200 then if r32 (B2 13 r1 41 ((800 * l2) + l3)) then some (B2 13 r1 41 ((800 * l2) + l3), F2, B2) else none else none else some ((-1), F2, B2))))))))))))) else none else f_M_note_0_31 K F2 B2) else none else none else none) else none) else none))
set_option maxHeartbeats 4000000 in
set_option maxRecDepth 100000 in
theorem c_M_note_0 {l : Launch} {D : va_G} {ca : Nat → ClassId} {ad : Nat → Int → Nat → Nat} {L : List Nat} {aS vS : Nat → Nat} {sz K : Nat}  {l1 : Int} {l2 : Int} {l3 : Int} {l4 : Int} {F F9 : zF} {B B9 : zB} {r : Int} (hf : f_M_note_0 K l1 l2 l3 l4 F B = some (r, F9, B9)) : Met l ({ cls := "StaveHouseModel", name := "note", desc := "(IIII)J" } : Jvm.MethodName) (Cond.code ({ cls := "StaveHouseModel", name := "note", desc := "(IIII)J" } : Jvm.MethodName) prog_15_method_208_code 7 (Option.some Jvm.ClassFile.FieldType.long) :: wAll) ({ frames := 1, cells := 0, slots := 0, locals := 21 } : Room) (va_Pc [.ref (ad 14 0 0), .int (iI l1), .int (iI l2), .int (iI l3), .int (iI l4)] (zPre D ca ad lnM nM L aS vS F B sz)) (Q_M_note_0 D ca ad L r F9 B9 (zA L sz)) 0 0 (zA L sz) := by
  refine zMet (Qc := Q_M_note_0 D ca ad L r F9 B9) (lv := [(0, .ref (ad 14 0 0)), (1, .int (iI l1)), (2, .int (iI l2)), (3, .int (iI l3)), (4, .int (iI l4))]) (by decide) (Nat.le_of_ble_eq_true rfl) rfl (fun A p e s m below meth c ls X hZ hS hl => ?_)
  obtain ⟨hx, hb, hr, hml, hown, hts, hlk, hK, hA, hL, hX⟩ := id X
  replace hf : (zbind (f_M_piece K l1 F B) (fun r1 F1 B1 => zbind (f_M_isVoice K r1 l2 F1 B1) (fun r2 F2 B2 => if r32 r2 then (if r2 = 0 then f_M_note_0_31 K F2 B2 else if r32 l3 then (if l3 < 0 then f_M_note_0_31 K F2 B2 else if 0 ≤ r1 ∧ r1 < 3 then if 0 ≤ l2 ∧ l2 < 4 then if r32 (B2 13 r1 13 l2) then (if l3 < (B2 13 r1 13 l2) then if r32 l4 then (if l4 = 0 then if 0 ≤ ((800 * l2) + l3) ∧ ((800 * l2) + l3) < 3200 then if r32 (B2 13 r1 30 ((800 * l2) + l3)) then some (B2 13 r1 30 ((800 * l2) + l3), F2, B2) else none else none else (if l4 = 1 then if 0 ≤ ((800 * l2) + l3) ∧ ((800 * l2) + l3) < 3200 then if r32 (B2 13 r1 31 ((800 * l2) + l3)) then some (B2 13 r1 31 ((800 * l2) + l3), F2, B2) else none else none else (if l4 = 2 then if 0 ≤ ((800 * l2) + l3) ∧ ((800 * l2) + l3) < 3200 then some (B2 13 r1 32 ((800 * l2) + l3), F2, B2) else none else (if l4 = 3 then if 0 ≤ ((800 * l2) + l3) ∧ ((800 * l2) + l3) < 3200 then some (B2 13 r1 33 ((800 * l2) + l3), F2, B2) else none else (if l4 = 4 then if 0 ≤ ((800 * l2) + l3) ∧ ((800 * l2) + l3) < 3200 then if r32 (B2 13 r1 34 ((800 * l2) + l3)) then some (B2 13 r1 34 ((800 * l2) + l3), F2, B2) else none else none else (if l4 = 5 then if 0 ≤ ((800 * l2) + l3) ∧ ((800 * l2) + l3) < 3200 then if r32 (B2 13 r1 35 ((800 * l2) + l3)) then some (B2 13 r1 35 ((800 * l2) + l3), F2, B2) else none else none else (if l4 = 6 then if 0 ≤ ((800 * l2) + l3) ∧ ((800 * l2) + l3) < 3200 then if r32 (B2 13 r1 36 ((800 * l2) + l3)) then some (B2 13 r1 36 ((800 * l2) + l3), F2, B2) else none else none else (if l4 = 7 then if 0 ≤ ((800 * l2) + l3) ∧ ((800 * l2) + l3) < 3200 then if r32 (B2 13 r1 37 ((800 * l2) + l3)) then some (B2 13 r1 37 ((800 * l2) + l3), F2, B2) else none else none else (if l4 = 8 then if 0 ≤ ((800 * l2) + l3) ∧ ((800 * l2) + l3) < 3200 then if r32 (B2 13 r1 38 ((800 * l2) + l3)) then some (B2 13 r1 38 ((800 * l2) + l3), F2, B2) else none else none else (if l4 = 9 then if 0 ≤ ((800 * l2) + l3) ∧ ((800 * l2) + l3) < 3200 then if r32 (B2 13 r1 39 ((800 * l2) + l3)) then some (B2 13 r1 39 ((800 * l2) + l3), F2, B2) else none else none else (if l4 = 10 then if 0 ≤ ((800 * l2) + l3) ∧ ((800 * l2) + l3) < 3200 then if r32 (B2 13 r1 40 ((800 * l2) + l3)) then some (B2 13 r1 40 ((800 * l2) + l3), F2, B2) else none else none else (if l4 = 11 then if 0 ≤ ((800 * l2) + l3) ∧ ((800 * l2) + l3) < 3200 then if r32 (B2 13 r1 41 ((800 * l2) + l3)) then some (B2 13 r1 41 ((800 * l2) + l3), F2, B2) else none else none else some ((-1), F2, B2))))))))))))) else none else f_M_note_0_31 K F2 B2) else none else none else none) else none) else none))) = some (r, F9, B9) := hf
  refine lv_aload_n hx hb (D_42 W_prog_15_method_208_code_0 0 rfl rfl) rfl (lv_at hl 0 rfl) ?_
  refine lv_iload_n hx hb (D_27 W_prog_15_method_208_code_0 1 rfl rfl) rfl (lv_at hl 1 rfl) ?_
  obtain ⟨r1, F1, B1, hc1, hf⟩ := gbind hf
  refine va_callq (va_runV (As := [.int (iI l1)]) (rest := []) ⟨hx, hb, hml, hown, hts⟩ (c_M_piece (l := l) hc1) (cwV 1 hts (gdV k_12_92 k_12_94 ks_131 k_1_9 k_12_95) rfl rfl rfl (by decide +kernel) ⟨Nat.le_of_ble_eq_true rfl, Nat.le_of_ble_eq_true rfl⟩) (zPV X hZ hS (ci := 14) (by decide) (by decide) (r := (RX14, TX14, 107)) rfl [.int (iI l1)]) rfl rfl hl.1 rfl (lv_room (Nat.le_of_ble_eq_true rfl)) (D_182 W_prog_15_method_208_code_0 2 rfl rfl rfl) ⟨Nat.le_of_ble_eq_true rfl, Nat.le_of_ble_eq_true rfl⟩) hS (fun q _ h => zAin X hS q h) (zAin X hS) (fun p1 u1 t1 H1 locs1 ht1 hv1 hw1 hB1 hz1 hk1 hS1 => ?_)
  have hZ1 := zBack X ht1 hB1
  subst hw1
  refine zastore (lv' := [(0, .ref (ad 14 0 0)), (1, .int (iI l1)), (2, .int (iI l2)), (3, .int (iI l3)), (4, .int (iI l4))]) hx hb (D_58 W_prog_15_method_208_code_0 5 rfl rfl) hl (by decide) (fun _ _ => rfl) (fun ls hl => ?_)
  refine zaload hx hb (D_25 W_prog_15_method_208_code_0 7 rfl rfl) (lv_at hl 0 rfl) ?_
  refine lv_iload_n hx hb (D_28 W_prog_15_method_208_code_0 9 rfl rfl) rfl (lv_at hl 3 rfl) ?_
  obtain ⟨r2, F2, B2, hc2, hf⟩ := gbind hf
  refine va_calli (va_runS (As := [va_rf (zrf ad 13 r1), .int (iI l2)]) (rest := []) ⟨hx, hb, hml, hown, hts⟩ (c_M_isVoice (l := l) hc2) (va_cwS 2 hts (gdS k_12_118 k_12_119 k_1_9 k_12_120) rfl rfl rfl (by decide +kernel) ⟨Nat.le_of_ble_eq_true rfl, Nat.le_of_ble_eq_true rfl⟩) (zPS X hZ1 hS1 [va_rf (zrf ad 13 r1), .int (iI l2)]) rfl rfl hl.1 rfl (lv_room (Nat.le_of_ble_eq_true rfl)) (D_184 W_prog_15_method_208_code_0 10 rfl rfl rfl) ⟨Nat.le_of_ble_eq_true rfl, Nat.le_of_ble_eq_true rfl⟩) hS1 (fun q _ h => zAin X hS1 q h) (zAin X hS1) (fun p2 u2 t2 H2 locs2 ht2 hv2 hw2 hB2 hz2 hk2 hS2 => ?_)
  have hZ2 := zBack X ht2 hB2
  subst hw2
  obtain ⟨g3, hf⟩ := gif hf
  refine z0eq (tgt := 31) hx hb g3 (D_153 W_prog_15_method_208_code_0 13 rfl rfl rfl) (by decide) (fun h4 => ?_) (fun h4 => ?_)
  · replace hf := gpos hf h4
    exact b_M_note_0_31 X hf hZ2 hS2 (lv_sub hl [] rfl)
  · replace hf := gneg hf h4
    refine lv_iload_n hx hb (D_29 W_prog_15_method_208_code_0 16 rfl rfl) rfl (lv_at hl 4 rfl) ?_
    obtain ⟨g5, hf⟩ := gif hf
    refine z0lt (tgt := 31) hx hb g5 (D_155 W_prog_15_method_208_code_0 17 rfl rfl rfl) (by decide) (fun h6 => ?_) (fun h6 => ?_)
    · replace hf := gpos hf h6
      exact b_M_note_0_31 X hf hZ2 hS2 (lv_sub hl [] rfl)
    · replace hf := gneg hf h6
      refine lv_iload_n hx hb (D_29 W_prog_15_method_208_code_0 20 rfl rfl) rfl (lv_at hl 4 rfl) ?_
      refine zaload hx hb (D_25 W_prog_15_method_208_code_0 21 rfl rfl) (lv_at hl 0 rfl) ?_
      obtain ⟨g7, hf⟩ := gif hf
      refine zunrf g7.1 ?_
      refine zget (ci := 13) (C := RX13) (T := TX13) (v := .ref (ad 13 r1 (13 + 1))) (k := 13) hx hb hts inW_13 hown hK hZ2 g7.1 g7.2 rfl (by decide) k_9_144 rfl (D_180 W_prog_15_method_208_code_0 23 rfl rfl rfl) ?_
      refine lv_iload_n hx hb (D_28 W_prog_15_method_208_code_0 26 rfl rfl) rfl (lv_at hl 3 rfl) ?_
      obtain ⟨g8, hf⟩ := gif hf
      refine zald (ci := 13) (k := 13) hx hb hK rfl hZ2 g7.1 g7.2 rfl (Nat.le_of_ble_eq_true rfl) g8.1 g8.2 (D_46 W_prog_15_method_208_code_0 27 rfl rfl) ?_
      obtain ⟨g9, hf⟩ := gif hf
      refine zlt (tgt := 35) hx hb g5 g9 (D_161 W_prog_15_method_208_code_0 28 rfl rfl rfl) (by decide) (fun h10 => ?_) (fun h10 => ?_)
      · replace hf := gpos hf h10
        refine lv_sipush (v := iI 800) hx hb (D_17 W_prog_15_method_208_code_32 3 rfl rfl rfl) (by decide) ?_
        refine lv_iload_n hx hb (D_28 W_prog_15_method_208_code_32 6 rfl rfl) rfl (lv_at hl 3 rfl) ?_
        refine zmul hx hb (D_104 W_prog_15_method_208_code_32 7 rfl rfl) ?_
        refine lv_iload_n hx hb (D_29 W_prog_15_method_208_code_32 8 rfl rfl) rfl (lv_at hl 4 rfl) ?_
        refine zadd hx hb (D_96 W_prog_15_method_208_code_32 9 rfl rfl) ?_
        refine lv_istore (lv' := [(6, .int (iI ((800 * l2) + l3))), (5, va_rf (zrf ad 13 r1)), (0, .ref (ad 14 0 0)), (1, .int (iI l1)), (2, .int (iI l2)), (3, .int (iI l3)), (4, .int (iI l4))]) hx hb (D_54 W_prog_15_method_208_code_32 10 rfl rfl) hl (by decide) (by cases zrf ad 13 r1 <;> rfl) (fun ls hl => ?_)
        refine lv_iload hx hb (D_21 W_prog_15_method_208_code_32 12 rfl rfl) (lv_at hl 6 rfl) ?_
        obtain ⟨g11, hf⟩ := gif hf
        by_cases h12 : l4 = 0
        · replace hf := gpos hf h12
          refine lv_tableIn (off := 62) (tgt := 108) hx hb d_15_208_46 (by rw [iI_to g11, h12]; decide) (by rw [iI_to g11, h12]; decide) (by rw [iI_to g11, h12]; rfl) (by decide) ?_
          refine zaload hx hb (D_25 W_prog_15_method_208_code_96 12 rfl rfl) (lv_at hl 1 rfl) ?_
          refine zunrf g7.1 ?_
          refine zget (ci := 13) (C := RX13) (T := TX13) (v := .ref (ad 13 r1 (30 + 1))) (k := 30) hx hb hts inW_13 hown hK hZ2 g7.1 g7.2 rfl (by decide) k_9_178 rfl (D_180 W_prog_15_method_208_code_96 14 rfl rfl rfl) ?_
          refine lv_iload hx hb (D_21 W_prog_15_method_208_code_96 17 rfl rfl) (lv_at hl 0 rfl) ?_
          obtain ⟨g13, hf⟩ := gif hf
          refine zald (ci := 13) (k := 30) hx hb hK rfl hZ2 g7.1 g7.2 rfl (Nat.le_of_ble_eq_true rfl) g13.1 g13.2 (D_46 W_prog_15_method_208_code_96 19 rfl rfl) ?_
          obtain ⟨g14, hf⟩ := gif hf
          refine zi2l hx hb g14 (D_133 W_prog_15_method_208_code_96 20 rfl rfl) ?_
          cases hf
          exact W.lret hx hb hr (fun t ht hW => ⟨⟨_, (), rfl, rfl, by rw [ht]; exact hZ2, va_K.moved hW.alike hK⟩, hS2.F ht⟩) hS2.2.2 (D_173 W_prog_15_method_208_code_96 21 rfl rfl) hlk
        replace hf := gneg hf h12
        by_cases h15 : l4 = 1
        · replace hf := gpos hf h15
          refine lv_tableIn (off := 72) (tgt := 118) hx hb d_15_208_46 (by rw [iI_to g11, h15]; decide) (by rw [iI_to g11, h15]; decide) (by rw [iI_to g11, h15]; rfl) (by decide) ?_
          refine zaload hx hb (D_25 W_prog_15_method_208_code_96 22 rfl rfl) (lv_at hl 1 rfl) ?_
          refine zunrf g7.1 ?_
          refine zget (ci := 13) (C := RX13) (T := TX13) (v := .ref (ad 13 r1 (31 + 1))) (k := 31) hx hb hts inW_13 hown hK hZ2 g7.1 g7.2 rfl (by decide) k_9_180 rfl (D_180 W_prog_15_method_208_code_96 24 rfl rfl rfl) ?_
          refine lv_iload hx hb (D_21 W_prog_15_method_208_code_96 27 rfl rfl) (lv_at hl 0 rfl) ?_
          obtain ⟨g16, hf⟩ := gif hf
          refine zald (ci := 13) (k := 31) hx hb hK rfl hZ2 g7.1 g7.2 rfl (Nat.le_of_ble_eq_true rfl) g16.1 g16.2 (D_46 W_prog_15_method_208_code_96 29 rfl rfl) ?_
          obtain ⟨g17, hf⟩ := gif hf
          refine zi2l hx hb g17 (D_133 W_prog_15_method_208_code_96 30 rfl rfl) ?_
          cases hf
          exact W.lret hx hb hr (fun t ht hW => ⟨⟨_, (), rfl, rfl, by rw [ht]; exact hZ2, va_K.moved hW.alike hK⟩, hS2.F ht⟩) hS2.2.2 (D_173 W_prog_15_method_208_code_96 31 rfl rfl) hlk
        replace hf := gneg hf h15
        by_cases h18 : l4 = 2
        · replace hf := gpos hf h18
          refine lv_tableIn (off := 82) (tgt := 128) hx hb d_15_208_46 (by rw [iI_to g11, h18]; decide) (by rw [iI_to g11, h18]; decide) (by rw [iI_to g11, h18]; rfl) (by decide) ?_
          refine zaload hx hb (D_25 W_prog_15_method_208_code_128 0 rfl rfl) (lv_at hl 1 rfl) ?_
          refine zunrf g7.1 ?_
          refine zget (ci := 13) (C := RX13) (T := TX13) (v := .ref (ad 13 r1 (32 + 1))) (k := 32) hx hb hts inW_13 hown hK hZ2 g7.1 g7.2 rfl (by decide) k_9_182 rfl (D_180 W_prog_15_method_208_code_128 2 rfl rfl rfl) ?_
          refine lv_iload hx hb (D_21 W_prog_15_method_208_code_128 5 rfl rfl) (lv_at hl 0 rfl) ?_
          obtain ⟨g19, hf⟩ := gif hf
          refine zlald (ci := 13) (k := 32) hx hb hK rfl hZ2 g7.1 g7.2 rfl (Nat.le_of_ble_eq_true rfl) g19.1 g19.2 (D_47 W_prog_15_method_208_code_128 7 rfl rfl) ?_
          cases hf
          exact W.lret hx hb hr (fun t ht hW => ⟨⟨_, (), rfl, rfl, by rw [ht]; exact hZ2, va_K.moved hW.alike hK⟩, hS2.F ht⟩) hS2.2.2 (D_173 W_prog_15_method_208_code_128 8 rfl rfl) hlk
        replace hf := gneg hf h18
        by_cases h20 : l4 = 3
        · replace hf := gpos hf h20
          refine lv_tableIn (off := 91) (tgt := 137) hx hb d_15_208_46 (by rw [iI_to g11, h20]; decide) (by rw [iI_to g11, h20]; decide) (by rw [iI_to g11, h20]; rfl) (by decide) ?_
          refine zaload hx hb (D_25 W_prog_15_method_208_code_128 9 rfl rfl) (lv_at hl 1 rfl) ?_
          refine zunrf g7.1 ?_
          refine zget (ci := 13) (C := RX13) (T := TX13) (v := .ref (ad 13 r1 (33 + 1))) (k := 33) hx hb hts inW_13 hown hK hZ2 g7.1 g7.2 rfl (by decide) k_9_184 rfl (D_180 W_prog_15_method_208_code_128 11 rfl rfl rfl) ?_
          refine lv_iload hx hb (D_21 W_prog_15_method_208_code_128 14 rfl rfl) (lv_at hl 0 rfl) ?_
          obtain ⟨g21, hf⟩ := gif hf
          refine zlald (ci := 13) (k := 33) hx hb hK rfl hZ2 g7.1 g7.2 rfl (Nat.le_of_ble_eq_true rfl) g21.1 g21.2 (D_47 W_prog_15_method_208_code_128 16 rfl rfl) ?_
          cases hf
          exact W.lret hx hb hr (fun t ht hW => ⟨⟨_, (), rfl, rfl, by rw [ht]; exact hZ2, va_K.moved hW.alike hK⟩, hS2.F ht⟩) hS2.2.2 (D_173 W_prog_15_method_208_code_128 17 rfl rfl) hlk
        replace hf := gneg hf h20
        by_cases h22 : l4 = 4
        · replace hf := gpos hf h22
          refine lv_tableIn (off := 100) (tgt := 146) hx hb d_15_208_46 (by rw [iI_to g11, h22]; decide) (by rw [iI_to g11, h22]; decide) (by rw [iI_to g11, h22]; rfl) (by decide) ?_
          refine zaload hx hb (D_25 W_prog_15_method_208_code_128 18 rfl rfl) (lv_at hl 1 rfl) ?_
          refine zunrf g7.1 ?_
          refine zget (ci := 13) (C := RX13) (T := TX13) (v := .ref (ad 13 r1 (34 + 1))) (k := 34) hx hb hts inW_13 hown hK hZ2 g7.1 g7.2 rfl (by decide) k_9_186 rfl (D_180 W_prog_15_method_208_code_128 20 rfl rfl rfl) ?_
          refine lv_iload hx hb (D_21 W_prog_15_method_208_code_128 23 rfl rfl) (lv_at hl 0 rfl) ?_
          obtain ⟨g23, hf⟩ := gif hf
          refine zald (ci := 13) (k := 34) hx hb hK rfl hZ2 g7.1 g7.2 rfl (Nat.le_of_ble_eq_true rfl) g23.1 g23.2 (D_46 W_prog_15_method_208_code_128 25 rfl rfl) ?_
          obtain ⟨g24, hf⟩ := gif hf
          refine zi2l hx hb g24 (D_133 W_prog_15_method_208_code_128 26 rfl rfl) ?_
          cases hf
          exact W.lret hx hb hr (fun t ht hW => ⟨⟨_, (), rfl, rfl, by rw [ht]; exact hZ2, va_K.moved hW.alike hK⟩, hS2.F ht⟩) hS2.2.2 (D_173 W_prog_15_method_208_code_128 27 rfl rfl) hlk
        replace hf := gneg hf h22
        by_cases h25 : l4 = 5
        · replace hf := gpos hf h25
          refine lv_tableIn (off := 110) (tgt := 156) hx hb d_15_208_46 (by rw [iI_to g11, h25]; decide) (by rw [iI_to g11, h25]; decide) (by rw [iI_to g11, h25]; rfl) (by decide) ?_
          refine zaload hx hb (D_25 W_prog_15_method_208_code_128 28 rfl rfl) (lv_at hl 1 rfl) ?_
          refine zunrf g7.1 ?_
          refine zget (ci := 13) (C := RX13) (T := TX13) (v := .ref (ad 13 r1 (35 + 1))) (k := 35) hx hb hts inW_13 hown hK hZ2 g7.1 g7.2 rfl (by decide) k_9_188 rfl (D_180 W_prog_15_method_208_code_128 30 rfl rfl rfl) ?_
          refine lv_iload hx hb (D_21 W_prog_15_method_208_code_160 1 rfl rfl) (lv_at hl 0 rfl) ?_
          obtain ⟨g26, hf⟩ := gif hf
          refine zald (ci := 13) (k := 35) hx hb hK rfl hZ2 g7.1 g7.2 rfl (Nat.le_of_ble_eq_true rfl) g26.1 g26.2 (D_46 W_prog_15_method_208_code_160 3 rfl rfl) ?_
          obtain ⟨g27, hf⟩ := gif hf
          refine zi2l hx hb g27 (D_133 W_prog_15_method_208_code_160 4 rfl rfl) ?_
          cases hf
          exact W.lret hx hb hr (fun t ht hW => ⟨⟨_, (), rfl, rfl, by rw [ht]; exact hZ2, va_K.moved hW.alike hK⟩, hS2.F ht⟩) hS2.2.2 (D_173 W_prog_15_method_208_code_160 5 rfl rfl) hlk
        replace hf := gneg hf h25
        by_cases h28 : l4 = 6
        · replace hf := gpos hf h28
          refine lv_tableIn (off := 120) (tgt := 166) hx hb d_15_208_46 (by rw [iI_to g11, h28]; decide) (by rw [iI_to g11, h28]; decide) (by rw [iI_to g11, h28]; rfl) (by decide) ?_
          refine zaload hx hb (D_25 W_prog_15_method_208_code_160 6 rfl rfl) (lv_at hl 1 rfl) ?_
          refine zunrf g7.1 ?_
          refine zget (ci := 13) (C := RX13) (T := TX13) (v := .ref (ad 13 r1 (36 + 1))) (k := 36) hx hb hts inW_13 hown hK hZ2 g7.1 g7.2 rfl (by decide) k_9_190 rfl (D_180 W_prog_15_method_208_code_160 8 rfl rfl rfl) ?_
          refine lv_iload hx hb (D_21 W_prog_15_method_208_code_160 11 rfl rfl) (lv_at hl 0 rfl) ?_
          obtain ⟨g29, hf⟩ := gif hf
          refine zald (ci := 13) (k := 36) hx hb hK rfl hZ2 g7.1 g7.2 rfl (Nat.le_of_ble_eq_true rfl) g29.1 g29.2 (D_46 W_prog_15_method_208_code_160 13 rfl rfl) ?_
          obtain ⟨g30, hf⟩ := gif hf
          refine zi2l hx hb g30 (D_133 W_prog_15_method_208_code_160 14 rfl rfl) ?_
          cases hf
          exact W.lret hx hb hr (fun t ht hW => ⟨⟨_, (), rfl, rfl, by rw [ht]; exact hZ2, va_K.moved hW.alike hK⟩, hS2.F ht⟩) hS2.2.2 (D_173 W_prog_15_method_208_code_160 15 rfl rfl) hlk
        replace hf := gneg hf h28
        by_cases h31 : l4 = 7
        · replace hf := gpos hf h31
          refine lv_tableIn (off := 130) (tgt := 176) hx hb d_15_208_46 (by rw [iI_to g11, h31]; decide) (by rw [iI_to g11, h31]; decide) (by rw [iI_to g11, h31]; rfl) (by decide) ?_
          refine zaload hx hb (D_25 W_prog_15_method_208_code_160 16 rfl rfl) (lv_at hl 1 rfl) ?_
          refine zunrf g7.1 ?_
          refine zget (ci := 13) (C := RX13) (T := TX13) (v := .ref (ad 13 r1 (37 + 1))) (k := 37) hx hb hts inW_13 hown hK hZ2 g7.1 g7.2 rfl (by decide) k_9_192 rfl (D_180 W_prog_15_method_208_code_160 18 rfl rfl rfl) ?_
          refine lv_iload hx hb (D_21 W_prog_15_method_208_code_160 21 rfl rfl) (lv_at hl 0 rfl) ?_
          obtain ⟨g33, hf⟩ := gif hf
          refine zald (ci := 13) (k := 37) hx hb hK rfl hZ2 g7.1 g7.2 rfl (Nat.le_of_ble_eq_true rfl) g33.1 g33.2 (D_46 W_prog_15_method_208_code_160 23 rfl rfl) ?_
          obtain ⟨g34, hf⟩ := gif hf
          refine zi2l hx hb g34 (D_133 W_prog_15_method_208_code_160 24 rfl rfl) ?_
          cases hf
          exact W.lret hx hb hr (fun t ht hW => ⟨⟨_, (), rfl, rfl, by rw [ht]; exact hZ2, va_K.moved hW.alike hK⟩, hS2.F ht⟩) hS2.2.2 (D_173 W_prog_15_method_208_code_160 25 rfl rfl) hlk
        replace hf := gneg hf h31
        by_cases h35 : l4 = 8
        · replace hf := gpos hf h35
          refine lv_tableIn (off := 140) (tgt := 186) hx hb d_15_208_46 (by rw [iI_to g11, h35]; decide) (by rw [iI_to g11, h35]; decide) (by rw [iI_to g11, h35]; rfl) (by decide) ?_
          refine zaload hx hb (D_25 W_prog_15_method_208_code_160 26 rfl rfl) (lv_at hl 1 rfl) ?_
          refine zunrf g7.1 ?_
          refine zget (ci := 13) (C := RX13) (T := TX13) (v := .ref (ad 13 r1 (38 + 1))) (k := 38) hx hb hts inW_13 hown hK hZ2 g7.1 g7.2 rfl (by decide) k_9_194 rfl (D_180 W_prog_15_method_208_code_160 28 rfl rfl rfl) ?_
          refine lv_iload hx hb (D_21 W_prog_15_method_208_code_160 31 rfl rfl) (lv_at hl 0 rfl) ?_
          obtain ⟨g36, hf⟩ := gif hf
          refine zald (ci := 13) (k := 38) hx hb hK rfl hZ2 g7.1 g7.2 rfl (Nat.le_of_ble_eq_true rfl) g36.1 g36.2 (D_46 W_prog_15_method_208_code_192 1 rfl rfl) ?_
          obtain ⟨g37, hf⟩ := gif hf
          refine zi2l hx hb g37 (D_133 W_prog_15_method_208_code_192 2 rfl rfl) ?_
          cases hf
          exact W.lret hx hb hr (fun t ht hW => ⟨⟨_, (), rfl, rfl, by rw [ht]; exact hZ2, va_K.moved hW.alike hK⟩, hS2.F ht⟩) hS2.2.2 (D_173 W_prog_15_method_208_code_192 3 rfl rfl) hlk
        replace hf := gneg hf h35
        by_cases h38 : l4 = 9
        · replace hf := gpos hf h38
          refine lv_tableIn (off := 150) (tgt := 196) hx hb d_15_208_46 (by rw [iI_to g11, h38]; decide) (by rw [iI_to g11, h38]; decide) (by rw [iI_to g11, h38]; rfl) (by decide) ?_
          refine zaload hx hb (D_25 W_prog_15_method_208_code_192 4 rfl rfl) (lv_at hl 1 rfl) ?_
          refine zunrf g7.1 ?_
          refine zget (ci := 13) (C := RX13) (T := TX13) (v := .ref (ad 13 r1 (39 + 1))) (k := 39) hx hb hts inW_13 hown hK hZ2 g7.1 g7.2 rfl (by decide) k_9_196 rfl (D_180 W_prog_15_method_208_code_192 6 rfl rfl rfl) ?_
          refine lv_iload hx hb (D_21 W_prog_15_method_208_code_192 9 rfl rfl) (lv_at hl 0 rfl) ?_
          obtain ⟨g39, hf⟩ := gif hf
          refine zald (ci := 13) (k := 39) hx hb hK rfl hZ2 g7.1 g7.2 rfl (Nat.le_of_ble_eq_true rfl) g39.1 g39.2 (D_46 W_prog_15_method_208_code_192 11 rfl rfl) ?_
          obtain ⟨g40, hf⟩ := gif hf
          refine zi2l hx hb g40 (D_133 W_prog_15_method_208_code_192 12 rfl rfl) ?_
          cases hf
          exact W.lret hx hb hr (fun t ht hW => ⟨⟨_, (), rfl, rfl, by rw [ht]; exact hZ2, va_K.moved hW.alike hK⟩, hS2.F ht⟩) hS2.2.2 (D_173 W_prog_15_method_208_code_192 13 rfl rfl) hlk
        replace hf := gneg hf h38
        by_cases h41 : l4 = 10
        · replace hf := gpos hf h41
          refine lv_tableIn (off := 160) (tgt := 206) hx hb d_15_208_46 (by rw [iI_to g11, h41]; decide) (by rw [iI_to g11, h41]; decide) (by rw [iI_to g11, h41]; rfl) (by decide) ?_
          refine zaload hx hb (D_25 W_prog_15_method_208_code_192 14 rfl rfl) (lv_at hl 1 rfl) ?_
          refine zunrf g7.1 ?_
          refine zget (ci := 13) (C := RX13) (T := TX13) (v := .ref (ad 13 r1 (40 + 1))) (k := 40) hx hb hts inW_13 hown hK hZ2 g7.1 g7.2 rfl (by decide) k_9_198 rfl (D_180 W_prog_15_method_208_code_192 16 rfl rfl rfl) ?_
          refine lv_iload hx hb (D_21 W_prog_15_method_208_code_192 19 rfl rfl) (lv_at hl 0 rfl) ?_
          obtain ⟨g42, hf⟩ := gif hf
          refine zald (ci := 13) (k := 40) hx hb hK rfl hZ2 g7.1 g7.2 rfl (Nat.le_of_ble_eq_true rfl) g42.1 g42.2 (D_46 W_prog_15_method_208_code_192 21 rfl rfl) ?_
          obtain ⟨g43, hf⟩ := gif hf
          refine zi2l hx hb g43 (D_133 W_prog_15_method_208_code_192 22 rfl rfl) ?_
          cases hf
          exact W.lret hx hb hr (fun t ht hW => ⟨⟨_, (), rfl, rfl, by rw [ht]; exact hZ2, va_K.moved hW.alike hK⟩, hS2.F ht⟩) hS2.2.2 (D_173 W_prog_15_method_208_code_192 23 rfl rfl) hlk
        replace hf := gneg hf h41
        by_cases h44 : l4 = 11
        · replace hf := gpos hf h44
          refine lv_tableIn (off := 170) (tgt := 216) hx hb d_15_208_46 (by rw [iI_to g11, h44]; decide) (by rw [iI_to g11, h44]; decide) (by rw [iI_to g11, h44]; rfl) (by decide) ?_
          refine zaload hx hb (D_25 W_prog_15_method_208_code_192 24 rfl rfl) (lv_at hl 1 rfl) ?_
          refine zunrf g7.1 ?_
          refine zget (ci := 13) (C := RX13) (T := TX13) (v := .ref (ad 13 r1 (41 + 1))) (k := 41) hx hb hts inW_13 hown hK hZ2 g7.1 g7.2 rfl (by decide) k_9_200 rfl (D_180 W_prog_15_method_208_code_192 26 rfl rfl rfl) ?_
          refine lv_iload hx hb (D_21 W_prog_15_method_208_code_192 29 rfl rfl) (lv_at hl 0 rfl) ?_
          obtain ⟨g45, hf⟩ := gif hf
          refine zald (ci := 13) (k := 41) hx hb hK rfl hZ2 g7.1 g7.2 rfl (Nat.le_of_ble_eq_true rfl) g45.1 g45.2 (D_46 W_prog_15_method_208_code_192 31 rfl rfl) ?_
          obtain ⟨g46, hf⟩ := gif hf
          refine zi2l hx hb g46 (D_133 W_prog_15_method_208_code_224 0 rfl rfl) ?_
          cases hf
          exact W.lret hx hb hr (fun t ht hW => ⟨⟨_, (), rfl, rfl, by rw [ht]; exact hZ2, va_K.moved hW.alike hK⟩, hS2.F ht⟩) hS2.2.2 (D_173 W_prog_15_method_208_code_224 1 rfl rfl) hlk
        replace hf := gneg hf h44
        refine lv_tableOut (tgt := 226) hx hb d_15_208_46 (by rw [iI_to g11]; omega) (by decide) ?_
        refine lv_ldc2 hx hb hown (hts _ k_12_105) (D_20 W_prog_15_method_208_code_224 2 rfl rfl rfl) ?_
        refine W.eq (g2 := F0 m 229 ls [.long (lI (-1))]) rfl ?_
        cases hf
        exact W.lret hx hb hr (fun t ht hW => ⟨⟨_, (), rfl, rfl, by rw [ht]; exact hZ2, va_K.moved hW.alike hK⟩, hS2.F ht⟩) hS2.2.2 (D_173 W_prog_15_method_208_code_224 5 rfl rfl) hlk
      · replace hf := gneg hf h10
        exact b_M_note_0_31 X hf hZ2 hS2 (lv_sub hl [] rfl)

abbrev Q_M_lineWide (D : va_G) (ca : Nat → ClassId) (ad : Nat → Int → Nat → Nat) (L : List Nat) (r : Int) (F : zF) (B : zB) (A : Nat → Prop) : Array Value → State → Outcome → State → Prop := va_Qi (S := Unit) (fun p _ => p = iI r) (fun _ => zPo D ca ad lnM nM L F B A) A
def f_M_lineWide_9 (K : Nat) : Nat → Int → Int → Int → Int → Int → zF → zB → zO
  | 0, _, _, _, _, _, _, _ => none
  | n + 1, l4, l3, l0, l1, l2, F, B => if r32 l4 then if r32 (l1 + l2) then (if (l1 + l2) ≤ l4 then some (l3, F, B) else if 0 ≤ l0 ∧ l0 < 3 then if 0 ≤ l4 ∧ l4 < 100 then f_M_lineWide_9 K n (l4 + 1) (l3 + (B 13 l0 46 l4)) l0 l1 l2 F B else none else none) else none else none
set_option maxHeartbeats 4000000 in
set_option maxRecDepth 100000 in
theorem b_M_lineWide_9 {D : va_G} {ca : Nat → ClassId} {ad : Nat → Int → Nat → Nat} {L : List Nat} {aS vS : Nat → Nat} {A : Nat → Prop} {p : Program} {l : Launch} {e : Env} {s : State} {m : MethodId} {args : Array Value} {below : List Frame} {meth : Method} {c : Code} {K : Nat} {r : Int} {F9 : zF} {B9 : zB} (X : zX D ca L aS vS A p s m args meth c prog_15_method_106_code 5 (Option.some Jvm.ClassFile.FieldType.int) "StaveHouseModel") : ∀ {n : Nat} {l4 : Int} {l3 : Int} {l0 : Int} {l1 : Int} {l2 : Int} {F : zF} {B : zB} {H : Heap} {locs : List Loc} {ls : Array Slot}, f_M_lineWide_9 K n l4 l3 l0 l1 l2 F B = some (r, F9, B9) → zH D ca ad lnM nM L F B A H → va_S A s.heap H locs → lv_has ls 5 [(4, .int (iI l4)), (3, .int (iI l3)), (0, .ref (ad 13 l0 0)), (1, .int (iI l1)), (2, .int (iI l2))] → W p l e ({ frames := 1, cells := 0, slots := 0, locals := 21 } : Room) s m args below meth c H locs 0 0 (MQ below (Q_M_lineWide D ca ad L r F9 B9 A) args s 0 0 A) (F0 m 9 ls []) := by
  obtain ⟨hx, hb, hr, hml, hown, hts, hlk, hK, hA, hL, hX⟩ := id X
  intro n
  induction n with
  | zero =>
    intros
    rename_i hf _ _ _
    cases hf
  | succ n ih =>
    intro l4 l3 l0 l1 l2 F B H locs ls hf hZ hS hl
    replace hf : (if r32 l4 then if r32 (l1 + l2) then (if (l1 + l2) ≤ l4 then some (l3, F, B) else if 0 ≤ l0 ∧ l0 < 3 then if 0 ≤ l4 ∧ l4 < 100 then f_M_lineWide_9 K n (l4 + 1) (l3 + (B 13 l0 46 l4)) l0 l1 l2 F B else none else none) else none else none) = some (r, F9, B9) := hf
    refine lv_iload hx hb (D_21 W_prog_15_method_106_code_0 9 rfl rfl) (lv_at hl 0 rfl) ?_
    refine lv_iload_n hx hb (D_27 W_prog_15_method_106_code_0 11 rfl rfl) rfl (lv_at hl 3 rfl) ?_
    refine lv_iload_n hx hb (D_28 W_prog_15_method_106_code_0 12 rfl rfl) rfl (lv_at hl 4 rfl) ?_
    refine zadd hx hb (D_96 W_prog_15_method_106_code_0 13 rfl rfl) ?_
    obtain ⟨g2, hf⟩ := gif hf
    obtain ⟨g3, hf⟩ := gif hf
    refine zge (tgt := 33) hx hb g2 g3 (D_162 W_prog_15_method_106_code_0 14 rfl rfl rfl) (by decide) (fun h4 => ?_) (fun h4 => ?_)
    · replace hf := gpos hf h4
      refine lv_iload_n hx hb (D_29 W_prog_15_method_106_code_32 1 rfl rfl) rfl (lv_at hl 1 rfl) ?_
      cases hf
      exact W.iret hx hb hr (fun t ht hW => ⟨⟨_, (), rfl, rfl, by rw [ht]; exact hZ, va_K.moved hW.alike hK⟩, hS.F ht⟩) hS.2.2 (D_172 W_prog_15_method_106_code_32 2 rfl rfl) hlk
    · replace hf := gneg hf h4
      refine lv_iload_n hx hb (D_29 W_prog_15_method_106_code_0 17 rfl rfl) rfl (lv_at hl 1 rfl) ?_
      refine lv_aload_n hx hb (D_42 W_prog_15_method_106_code_0 18 rfl rfl) rfl (lv_at hl 2 rfl) ?_
      obtain ⟨g5, hf⟩ := gif hf
      refine zget (ci := 13) (C := RX13) (T := TX13) (v := .ref (ad 13 l0 (46 + 1))) (k := 46) hx hb hts inW_13 hown hK hZ g5.1 g5.2 rfl (by decide) k_9_210 rfl (D_180 W_prog_15_method_106_code_0 19 rfl rfl rfl) ?_
      refine lv_iload hx hb (D_21 W_prog_15_method_106_code_0 22 rfl rfl) (lv_at hl 0 rfl) ?_
      obtain ⟨g6, hf⟩ := gif hf
      refine zald (ci := 13) (k := 46) hx hb hK rfl hZ g5.1 g5.2 rfl (Nat.le_of_ble_eq_true rfl) g6.1 g6.2 (D_46 W_prog_15_method_106_code_0 24 rfl rfl) ?_
      refine zadd hx hb (D_96 W_prog_15_method_106_code_0 25 rfl rfl) ?_
      refine lv_istore_n (lv' := [(3, .int (iI (l3 + (B 13 l0 46 l4)))), (4, .int (iI l4)), (0, .ref (ad 13 l0 0)), (1, .int (iI l1)), (2, .int (iI l2))]) hx hb (D_62 W_prog_15_method_106_code_0 26 rfl rfl) rfl hl (by decide) rfl (fun ls hl => ?_)
      refine lv_iinc (v := iI (l4 + 1)) (lv' := [(4, .int (iI (l4 + 1))), (3, .int (iI (l3 + (B 13 l0 46 l4)))), (0, .ref (ad 13 l0 0)), (1, .int (iI l1)), (2, .int (iI l2))]) hx hb d_15_106_27 hl (k := 1) rfl (iI_add _ 1) (by decide) rfl (fun ls hl => ?_)
      refine lv_goto (tgt := 9) hx hb (D_167 W_prog_15_method_106_code_0 30 rfl rfl rfl) (by decide) ?_
      exact ih hf hZ hS (lv_sub hl [0, 1, 2, 3, 4] rfl)

def f_M_lineWide (K : Nat) (l0 : Int) (l1 : Int) (l2 : Int) (F : zF) (B : zB) : zO := zbind (f_M_ahead K l0 l1 F B) (fun r1 F1 B1 => f_M_lineWide_9 K K l1 r1 l0 l1 l2 F1 B1)
set_option maxHeartbeats 4000000 in
set_option maxRecDepth 100000 in
theorem c_M_lineWide {l : Launch} {D : va_G} {ca : Nat → ClassId} {ad : Nat → Int → Nat → Nat} {L : List Nat} {aS vS : Nat → Nat} {sz K : Nat}  {l0 : Int} {l1 : Int} {l2 : Int} {F F9 : zF} {B B9 : zB} {r : Int} (hf : f_M_lineWide K l0 l1 l2 F B = some (r, F9, B9)) : Met l ({ cls := "StaveHouseModel", name := "lineWide", desc := "(LStaveHouseModel$Piece;II)I" } : Jvm.MethodName) (Cond.code ({ cls := "StaveHouseModel", name := "lineWide", desc := "(LStaveHouseModel$Piece;II)I" } : Jvm.MethodName) prog_15_method_106_code 5 (Option.some Jvm.ClassFile.FieldType.int) :: wAll) ({ frames := 1, cells := 0, slots := 0, locals := 21 } : Room) (va_Pc [.ref (ad 13 l0 0), .int (iI l1), .int (iI l2)] (zPre D ca ad lnM nM L aS vS F B sz)) (Q_M_lineWide D ca ad L r F9 B9 (zA L sz)) 0 0 (zA L sz) := by
  refine zMet (Qc := Q_M_lineWide D ca ad L r F9 B9) (lv := [(0, .ref (ad 13 l0 0)), (1, .int (iI l1)), (2, .int (iI l2))]) (by decide) (Nat.le_of_ble_eq_true rfl) rfl (fun A p e s m below meth c ls X hZ hS hl => ?_)
  obtain ⟨hx, hb, hr, hml, hown, hts, hlk, hK, hA, hL, hX⟩ := id X
  replace hf : (zbind (f_M_ahead K l0 l1 F B) (fun r1 F1 B1 => f_M_lineWide_9 K K l1 r1 l0 l1 l2 F1 B1)) = some (r, F9, B9) := hf
  refine lv_aload_n hx hb (D_42 W_prog_15_method_106_code_0 0 rfl rfl) rfl (lv_at hl 0 rfl) ?_
  refine lv_iload_n hx hb (D_27 W_prog_15_method_106_code_0 1 rfl rfl) rfl (lv_at hl 1 rfl) ?_
  obtain ⟨r1, F1, B1, hc1, hf⟩ := gbind hf
  refine va_calli (va_runS (As := [.ref (ad 13 l0 0), .int (iI l1)]) (rest := []) ⟨hx, hb, hml, hown, hts⟩ (c_M_ahead (l := l) hc1) (va_cwS 2 hts (gdS k_12_102 k_12_103 k_1_9 k_12_104) rfl rfl rfl (by decide +kernel) ⟨Nat.le_of_ble_eq_true rfl, Nat.le_of_ble_eq_true rfl⟩) (zPS X hZ hS [.ref (ad 13 l0 0), .int (iI l1)]) rfl rfl hl.1 rfl (lv_room (Nat.le_of_ble_eq_true rfl)) (D_184 W_prog_15_method_106_code_0 2 rfl rfl rfl) ⟨Nat.le_of_ble_eq_true rfl, Nat.le_of_ble_eq_true rfl⟩) hS (fun q _ h => zAin X hS q h) (zAin X hS) (fun p1 u1 t1 H1 locs1 ht1 hv1 hw1 hB1 hz1 hk1 hS1 => ?_)
  have hZ1 := zBack X ht1 hB1
  subst hw1
  refine lv_istore_n (lv' := [(3, .int (iI r1)), (0, .ref (ad 13 l0 0)), (1, .int (iI l1)), (2, .int (iI l2))]) hx hb (D_62 W_prog_15_method_106_code_0 5 rfl rfl) rfl hl (by decide) rfl (fun ls hl => ?_)
  refine lv_iload_n hx hb (D_27 W_prog_15_method_106_code_0 6 rfl rfl) rfl (lv_at hl 2 rfl) ?_
  refine lv_istore (lv' := [(4, .int (iI l1)), (3, .int (iI r1)), (0, .ref (ad 13 l0 0)), (1, .int (iI l1)), (2, .int (iI l2))]) hx hb (D_54 W_prog_15_method_106_code_0 7 rfl rfl) hl (by decide) rfl (fun ls hl => ?_)
  exact b_M_lineWide_9 X hf hZ1 hS1 (lv_sub hl [0, 1, 2, 3, 4] rfl)

