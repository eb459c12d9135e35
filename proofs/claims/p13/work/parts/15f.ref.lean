theorem k_13_216 : (Jvm.Cond.methodLink "StaveHouseModel" (1118 : Nat) ({ cls := "StaveHouseModel", name := "turnOf", desc := "(I)J" } : Jvm.MethodName)) ∈ wAll := wA_13 (j := 216) rfl rfl
theorem k_13_217 : (Jvm.Cond.static ({ cls := "StaveHouseModel", name := "turnOf", desc := "(I)J" } : Jvm.MethodName)) ∈ wAll := wA_13 (j := 217) rfl rfl
theorem k_13_218 : (Jvm.Cond.code ({ cls := "StaveHouseModel", name := "turnOf", desc := "(I)J" } : Jvm.MethodName) prog_15_method_162_code (1 : Nat) (Option.some Jvm.ClassFile.FieldType.long)) ∈ wAll := wA_13 (j := 218) rfl rfl
theorem k_13_231 : (Jvm.Cond.constantLong "StaveHouseModel" (1121 : Nat) (4294967295 : Int64)) ∈ wAll := wA_13 (j := 231) rfl rfl
theorem k_13_238 : (Jvm.Cond.methodLink "StaveHouseModel" (1147 : Nat) ({ cls := "StaveHouseModel", name := "rise", desc := "(I)I" } : Jvm.MethodName)) ∈ wAll := wA_13 (j := 238) rfl rfl
theorem k_13_239 : (Jvm.Cond.static ({ cls := "StaveHouseModel", name := "rise", desc := "(I)I" } : Jvm.MethodName)) ∈ wAll := wA_13 (j := 239) rfl rfl
theorem k_14_0 : (Jvm.Cond.code ({ cls := "StaveHouseModel", name := "rise", desc := "(I)I" } : Jvm.MethodName) prog_15_method_163_code (2 : Nat) (Option.some Jvm.ClassFile.FieldType.int)) ∈ wAll := wA_14 (j := 0) rfl rfl
theorem k_11_99 : (Jvm.Cond.fieldLink "StaveHouseModel" (1194 : Nat) "StaveHouseModel" "bass" "I") ∈ wAll := wA_11 (j := 99) rfl rfl
theorem k_14_25 : (Jvm.Cond.methodLink "StaveHouseModel" (1196 : Nat) ({ cls := "StaveHouseModel", name := "classOf", desc := "(II)V" } : Jvm.MethodName)) ∈ wAll := wA_14 (j := 25) rfl rfl
theorem k_14_27 : (Jvm.Cond.instanceMethod ({ cls := "StaveHouseModel", name := "classOf", desc := "(II)V" } : Jvm.MethodName)) ∈ wAll := wA_14 (j := 27) rfl rfl
theorem ks_190 : (Jvm.Cond.selects "StaveHouseModel" ({ cls := "StaveHouseModel", name := "classOf", desc := "(II)V" } : Jvm.MethodName) ({ cls := "StaveHouseModel", name := "classOf", desc := "(II)V" } : Jvm.MethodName)) ∈ wAll := wA_s (j := 190) rfl rfl
theorem k_14_28 : (Jvm.Cond.code ({ cls := "StaveHouseModel", name := "classOf", desc := "(II)V" } : Jvm.MethodName) prog_15_method_174_code (4 : Nat) (Option.none : Option Jvm.ClassFile.FieldType)) ∈ wAll := wA_14 (j := 28) rfl rfl
theorem k_11_100 : (Jvm.Cond.fieldLink "StaveHouseModel" (1199 : Nat) "StaveHouseModel" "bassStep" "I") ∈ wAll := wA_11 (j := 100) rfl rfl
theorem k_11_101 : (Jvm.Cond.fieldLink "StaveHouseModel" (1202 : Nat) "StaveHouseModel" "bassAlt" "I") ∈ wAll := wA_11 (j := 101) rfl rfl
theorem k_14_58 : (Jvm.Cond.methodLink "StaveHouseModel" (1284 : Nat) ({ cls := "StaveHouseModel", name := "firstSounding", desc := "(LStaveHouseModel$Piece;I)I" } : Jvm.MethodName)) ∈ wAll := wA_14 (j := 58) rfl rfl
theorem k_14_59 : (Jvm.Cond.static ({ cls := "StaveHouseModel", name := "firstSounding", desc := "(LStaveHouseModel$Piece;I)I" } : Jvm.MethodName)) ∈ wAll := wA_14 (j := 59) rfl rfl
theorem k_14_60 : (Jvm.Cond.code ({ cls := "StaveHouseModel", name := "firstSounding", desc := "(LStaveHouseModel$Piece;I)I" } : Jvm.MethodName) prog_15_method_196_code (3 : Nat) (Option.some Jvm.ClassFile.FieldType.int)) ∈ wAll := wA_14 (j := 60) rfl rfl
theorem k_14_64 : (Jvm.Cond.methodLink "StaveHouseModel" (1287 : Nat) ({ cls := "StaveHouseModel", name := "isLike", desc := "(LStaveHouseModel$Piece;ILStaveHouseModel$Piece;I)Z" } : Jvm.MethodName)) ∈ wAll := wA_14 (j := 64) rfl rfl
theorem k_14_65 : (Jvm.Cond.static ({ cls := "StaveHouseModel", name := "isLike", desc := "(LStaveHouseModel$Piece;ILStaveHouseModel$Piece;I)Z" } : Jvm.MethodName)) ∈ wAll := wA_14 (j := 65) rfl rfl
theorem k_14_66 : (Jvm.Cond.code ({ cls := "StaveHouseModel", name := "isLike", desc := "(LStaveHouseModel$Piece;ILStaveHouseModel$Piece;I)Z" } : Jvm.MethodName) prog_15_method_197_code (4 : Nat) (Option.some Jvm.ClassFile.FieldType.boolean)) ∈ wAll := wA_14 (j := 66) rfl rfl
theorem k_14_75 : (Jvm.Cond.methodLink "StaveHouseModel" (1295 : Nat) ({ cls := "StaveHouseModel", name := "isLength", desc := "(LStaveHouseModel$Piece;IILStaveHouseModel$Piece;IIZ)Z" } : Jvm.MethodName)) ∈ wAll := wA_14 (j := 75) rfl rfl
theorem k_14_77 : (Jvm.Cond.instanceMethod ({ cls := "StaveHouseModel", name := "isLength", desc := "(LStaveHouseModel$Piece;IILStaveHouseModel$Piece;IIZ)Z" } : Jvm.MethodName)) ∈ wAll := wA_14 (j := 77) rfl rfl
theorem ks_195 : (Jvm.Cond.selects "StaveHouseModel" ({ cls := "StaveHouseModel", name := "isLength", desc := "(LStaveHouseModel$Piece;IILStaveHouseModel$Piece;IIZ)Z" } : Jvm.MethodName) ({ cls := "StaveHouseModel", name := "isLength", desc := "(LStaveHouseModel$Piece;IILStaveHouseModel$Piece;IIZ)Z" } : Jvm.MethodName)) ∈ wAll := wA_s (j := 195) rfl rfl
theorem k_14_78 : (Jvm.Cond.code ({ cls := "StaveHouseModel", name := "isLength", desc := "(LStaveHouseModel$Piece;IILStaveHouseModel$Piece;IIZ)Z" } : Jvm.MethodName) prog_15_method_201_code (12 : Nat) (Option.some Jvm.ClassFile.FieldType.boolean)) ∈ wAll := wA_14 (j := 78) rfl rfl
theorem k_14_90 : (Jvm.Cond.methodLink "StaveHouseModel" (316 : Nat) ({ cls := "StaveHouseModel", name := "isLetter", desc := "(I)Z" } : Jvm.MethodName)) ∈ wAll := wA_14 (j := 90) rfl rfl
theorem k_14_91 : (Jvm.Cond.static ({ cls := "StaveHouseModel", name := "isLetter", desc := "(I)Z" } : Jvm.MethodName)) ∈ wAll := wA_14 (j := 91) rfl rfl
theorem k_14_92 : (Jvm.Cond.code ({ cls := "StaveHouseModel", name := "isLetter", desc := "(I)Z" } : Jvm.MethodName) prog_15_method_20_code (1 : Nat) (Option.some Jvm.ClassFile.FieldType.boolean)) ∈ wAll := wA_14 (j := 92) rfl rfl
theorem k_14_93 : (Jvm.Cond.methodLink "StaveHouseModel" (320 : Nat) ({ cls := "StaveHouseModel", name := "isDigit", desc := "(I)Z" } : Jvm.MethodName)) ∈ wAll := wA_14 (j := 93) rfl rfl
theorem k_14_94 : (Jvm.Cond.static ({ cls := "StaveHouseModel", name := "isDigit", desc := "(I)Z" } : Jvm.MethodName)) ∈ wAll := wA_14 (j := 94) rfl rfl
theorem k_14_95 : (Jvm.Cond.code ({ cls := "StaveHouseModel", name := "isDigit", desc := "(I)Z" } : Jvm.MethodName) prog_15_method_21_code (1 : Nat) (Option.some Jvm.ClassFile.FieldType.boolean)) ∈ wAll := wA_14 (j := 95) rfl rfl
theorem k_11_10 : (Jvm.Cond.fieldLink "StaveHouseModel" (333 : Nat) "StaveHouseModel" "tokens" "I") ∈ wAll := wA_11 (j := 10) rfl rfl
theorem W_prog_15_method_160_code_0 : chW prog_15_method_160_code 0 [17, 3, 32, 27, 104, 28, 96, 54, 4, 42, 180, 0, 44, 27, 28, 184, 3, 10, 54, 5, 21, 5, 156, 0, 7, 3, 167, 0, 13, 42, 180, 0, 44, 180, 2, 86] := chW_of (by decide +kernel)
theorem W_prog_15_method_160_code_32 : chW prog_15_method_160_code 32 [44, 180, 2, 86, 21, 5, 46, 54, 6, 21, 6, 154, 0, 9, 42, 16, 114, 182, 3, 196, 21, 6, 4, 164, 0, 9, 42, 16, 60, 182, 3, 196, 3, 54, 7, 21] := chW_of (by decide +kernel)
theorem W_prog_15_method_160_code_64 : chW prog_15_method_160_code 64 [3, 54, 7, 21, 7, 21, 6, 162, 0, 125, 42, 180, 0, 44, 180, 2, 103, 16, 6, 21, 5, 104, 21, 7, 96, 46, 54, 8, 42, 180, 0, 44, 180, 2, 106, 16] := chW_of (by decide +kernel)
theorem W_prog_15_method_160_code_192 : chW prog_15_method_160_code 192 [1, 167, 255, 130, 21, 6, 4, 164, 0, 9, 42, 16, 62, 182, 3, 196, 42, 16, 58, 182, 3, 196, 42, 4, 42, 180, 0, 44, 180, 2, 246, 21, 4, 46, 120, 182] := chW_of (by decide +kernel)
theorem W_prog_15_method_160_code_96 : chW prog_15_method_160_code 96 [180, 2, 106, 16, 6, 21, 5, 104, 21, 7, 96, 46, 54, 9, 21, 7, 158, 0, 9, 42, 16, 32, 182, 3, 196, 42, 19, 4, 92, 21, 8, 16, 7, 112, 182, 1] := chW_of (by decide +kernel)
theorem W_prog_15_method_160_code_128 : chW prog_15_method_160_code 128 [7, 112, 182, 1, 73, 182, 3, 196, 3, 54, 10, 21, 10, 21, 9, 162, 0, 15, 42, 16, 35, 182, 3, 196, 132, 10, 1, 167, 255, 240, 3, 54, 10, 21, 10, 21] := chW_of (by decide +kernel)
theorem d_15_160_152 : decode prog_15_method_160_code 152 = .ok (.iinc 10 1, 3) := D_132 W_prog_15_method_160_code_128 24 rfl rfl rfl
theorem W_prog_15_method_160_code_160 : chW prog_15_method_160_code 160 [10, 21, 10, 21, 9, 116, 162, 0, 15, 42, 16, 98, 182, 3, 196, 132, 10, 1, 167, 255, 239, 42, 21, 8, 16, 7, 108, 182, 4, 69, 132, 7, 1, 167, 255, 130] := chW_of (by decide +kernel)
theorem d_15_160_190 : decode prog_15_method_160_code 190 = .ok (.iinc 7 1, 3) := D_132 W_prog_15_method_160_code_160 30 rfl rfl rfl
theorem d_15_160_175 : decode prog_15_method_160_code 175 = .ok (.iinc 10 1, 3) := D_132 W_prog_15_method_160_code_160 15 rfl rfl rfl
theorem W_prog_15_method_160_code_224 : chW prog_15_method_160_code 224 [4, 46, 120, 182, 4, 69, 3, 54, 7, 21, 7, 42, 180, 0, 44, 180, 2, 249, 21, 4, 46, 162, 0, 15, 42, 16, 46, 182, 3, 196, 132, 7, 1, 167, 255, 232] := chW_of (by decide +kernel)
theorem W_prog_15_method_160_code_256 : chW prog_15_method_160_code 256 [1, 167, 255, 232, 21, 6, 158, 0, 38, 29, 154, 0, 34, 42, 180, 0, 44, 180, 2, 234, 21, 4, 4, 96, 46, 42, 180, 0, 44, 180, 2, 234, 21, 4, 46, 160] := chW_of (by decide +kernel)
theorem W_prog_15_method_160_code_288 : chW prog_15_method_160_code 288 [21, 4, 46, 160, 0, 9, 42, 16, 126, 182, 3, 196, 42, 16, 32, 182, 3, 196, 29, 154, 0, 29, 42, 180, 0, 44, 180, 2, 237, 21, 4, 4, 96, 46, 42, 180] := chW_of (by decide +kernel)
theorem d_15_160_254 : decode prog_15_method_160_code 254 = .ok (.iinc 7 1, 3) := D_132 W_prog_15_method_160_code_224 30 rfl rfl rfl
theorem W_prog_15_method_160_code_320 : chW prog_15_method_160_code 320 [96, 46, 42, 180, 0, 44, 180, 2, 237, 21, 4, 46, 160, 0, 4, 177, 42, 16, 124, 182, 3, 196, 42, 16, 10, 182, 3, 196, 177] := chW_of (by decide +kernel)
theorem W_prog_15_method_161_code_0 : chW prog_15_method_161_code 0 [27, 16, 12, 112, 184, 4, 94, 65, 27, 16, 12, 108, 54, 4, 21, 4, 16, 9, 162, 0, 13, 32, 16, 9, 21, 4, 100, 123, 167, 0, 14, 32, 21, 4, 16, 9] := chW_of (by decide +kernel)
theorem W_prog_15_method_161_code_32 : chW prog_15_method_161_code 32 [21, 4, 16, 9, 100, 121, 20, 4, 97, 127, 173] := chW_of (by decide +kernel)
theorem W_prog_15_method_164_code_0 : chW prog_15_method_164_code 0 [26, 27, 162, 0, 8, 26, 184, 4, 123, 172, 27, 154, 0, 7, 3, 167, 0, 19, 27, 184, 4, 123, 17, 1, 144, 26, 27, 100, 100, 104, 17, 1, 144, 108, 172] := chW_of (by decide +kernel)
theorem W_prog_15_method_164_code_32 : chW prog_15_method_164_code 32 [144, 108, 172] := chW_of (by decide +kernel)
theorem W_prog_15_method_173_code_0 : chW prog_15_method_173_code 0 [42, 3, 181, 4, 167, 42, 17, 3, 232, 181, 4, 170, 3, 62, 29, 43, 180, 1, 48, 162, 0, 161, 17, 3, 232, 29, 104, 43, 180, 4, 164, 7, 28, 104, 29, 96] := chW_of (by decide +kernel)
theorem W_prog_15_method_173_code_160 : chW prog_15_method_173_code 160 [2, 106, 21, 5, 46, 181, 4, 178, 132, 5, 1, 167, 255, 132, 132, 3, 1, 167, 255, 93, 177] := chW_of (by decide +kernel)
theorem W_prog_15_method_173_code_32 : chW prog_15_method_173_code 32 [28, 104, 29, 96, 46, 96, 54, 4, 16, 6, 21, 4, 104, 54, 5, 21, 5, 16, 6, 21, 4, 104, 43, 180, 2, 86, 21, 4, 46, 96, 162, 0, 112, 42, 43, 180] := chW_of (by decide +kernel)
theorem d_15_173_174 : decode prog_15_method_173_code 174 = .ok (.iinc 3 1, 3) := D_132 W_prog_15_method_173_code_160 14 rfl rfl rfl
theorem W_prog_15_method_173_code_64 : chW prog_15_method_173_code 64 [112, 42, 43, 180, 2, 103, 21, 5, 46, 16, 7, 112, 43, 180, 2, 106, 21, 5, 46, 182, 4, 172, 43, 180, 2, 103, 21, 5, 46, 43, 180, 2, 106, 21, 5, 46] := chW_of (by decide +kernel)
theorem W_prog_15_method_173_code_96 : chW prog_15_method_173_code 96 [106, 21, 5, 46, 184, 2, 63, 54, 6, 21, 6, 42, 180, 4, 170, 163, 0, 57, 21, 6, 42, 180, 4, 170, 160, 0, 20, 43, 180, 2, 103, 21, 5, 46, 42, 180] := chW_of (by decide +kernel)
theorem W_prog_15_method_173_code_128 : chW prog_15_method_173_code 128 [5, 46, 42, 180, 4, 175, 161, 0, 6, 167, 0, 31, 42, 21, 6, 181, 4, 170, 42, 43, 180, 2, 103, 21, 5, 46, 181, 4, 175, 42, 43, 180, 2, 106, 21, 5] := chW_of (by decide +kernel)
theorem d_15_173_168 : decode prog_15_method_173_code 168 = .ok (.iinc 5 1, 3) := D_132 W_prog_15_method_173_code_160 8 rfl rfl rfl
theorem W_prog_15_method_176_code_0 : chW prog_15_method_176_code 0 [42, 180, 1, 31, 28, 46, 42, 180, 1, 34, 28, 46, 184, 2, 63, 42, 180, 1, 31, 27, 46, 42, 180, 1, 34, 27, 46, 184, 2, 63, 100, 16, 12, 184, 1, 51] := chW_of (by decide +kernel)
theorem W_prog_15_method_176_code_32 : chW prog_15_method_176_code 32 [12, 184, 1, 51, 172] := chW_of (by decide +kernel)
theorem W_prog_15_method_19_code_0 : chW prog_15_method_19_code 0 [7, 42, 180, 1, 54, 104, 42, 180, 1, 57, 153, 0, 7, 8, 167, 0, 4, 3, 96, 16, 7, 184, 1, 51, 172] := chW_of (by decide +kernel)
theorem W_prog_15_method_198_code_0 : chW prog_15_method_198_code 0 [42, 27, 182, 3, 83, 58, 5, 25, 5, 28, 184, 3, 111, 153, 0, 28, 25, 5, 29, 184, 3, 111, 153, 0, 19, 28, 29, 159, 0, 14, 21, 4, 155, 0, 9, 21] := chW_of (by decide +kernel)
theorem W_prog_15_method_198_code_32 : chW prog_15_method_198_code 32 [155, 0, 9, 21, 4, 6, 164, 0, 7, 20, 3, 79, 173, 25, 5, 28, 184, 5, 4, 54, 6, 25, 5, 29, 184, 5, 4, 54, 7, 21, 6, 155, 0, 46, 21, 7] := chW_of (by decide +kernel)
theorem W_prog_15_method_198_code_64 : chW prog_15_method_198_code 64 [0, 46, 21, 7, 155, 0, 41, 25, 5, 180, 2, 9, 21, 7, 47, 25, 5, 180, 2, 12, 21, 7, 47, 25, 5, 180, 2, 9, 21, 6, 47, 25, 5, 180, 2, 12] := chW_of (by decide +kernel)
theorem W_prog_15_method_198_code_96 : chW prog_15_method_198_code 96 [5, 180, 2, 12, 21, 6, 47, 184, 2, 25, 157, 0, 5, 9, 173, 25, 5, 180, 2, 103, 25, 5, 21, 7, 184, 4, 213, 46, 25, 5, 180, 2, 103, 25, 5, 21] := chW_of (by decide +kernel)
theorem W_prog_15_method_198_code_128 : chW prog_15_method_198_code 128 [103, 25, 5, 21, 6, 184, 4, 213, 46, 100, 54, 8, 3, 54, 9, 4, 54, 10, 21, 10, 153, 0, 180, 21, 6, 21, 9, 96, 54, 11, 21, 7, 21, 9, 96, 54] := chW_of (by decide +kernel)
theorem W_prog_15_method_198_code_320 : chW prog_15_method_198_code 320 [0, 6, 132, 9, 1, 167, 255, 77, 21, 9, 154, 0, 5, 9, 173, 42, 25, 5, 180, 2, 9, 21, 7, 47, 25, 5, 180, 2, 12, 21, 7, 47, 25, 5, 180, 2] := chW_of (by decide +kernel)
theorem W_prog_15_method_198_code_352 : chW prog_15_method_198_code 352 [25, 5, 180, 2, 9, 21, 6, 47, 25, 5, 180, 2, 12, 21, 6, 47, 182, 2, 152, 21, 4, 154, 0, 7, 21, 9, 133, 173, 21, 4, 4, 160, 0, 9, 21, 8] := chW_of (by decide +kernel)
theorem W_prog_15_method_198_code_384 : chW prog_15_method_198_code 384 [0, 9, 21, 8, 133, 167, 0, 20, 21, 4, 5, 160, 0, 10, 42, 180, 0, 9, 167, 0, 7, 42, 180, 0, 13, 173] := chW_of (by decide +kernel)
theorem W_prog_15_method_198_code_160 : chW prog_15_method_198_code 160 [21, 9, 96, 54, 12, 21, 11, 17, 3, 232, 28, 104, 25, 5, 180, 2, 3, 28, 46, 96, 162, 0, 79, 21, 12, 17, 3, 232, 29, 104, 25, 5, 180, 2, 3, 29] := chW_of (by decide +kernel)
theorem W_prog_15_method_198_code_192 : chW prog_15_method_198_code 192 [180, 2, 3, 29, 46, 96, 162, 0, 61, 25, 5, 21, 11, 25, 5, 21, 12, 184, 5, 7, 153, 0, 47, 25, 5, 180, 2, 15, 21, 11, 47, 25, 5, 180, 2, 15] := chW_of (by decide +kernel)
theorem W_prog_15_method_198_code_224 : chW prog_15_method_198_code 224 [5, 180, 2, 15, 21, 12, 47, 148, 154, 0, 27, 25, 5, 180, 2, 18, 21, 11, 47, 25, 5, 180, 2, 18, 21, 12, 47, 148, 154, 0, 7, 4, 167, 0, 4, 3] := chW_of (by decide +kernel)
theorem W_prog_15_method_198_code_256 : chW prog_15_method_198_code 256 [167, 0, 4, 3, 54, 10, 21, 10, 153, 0, 50, 25, 5, 180, 2, 86, 21, 11, 46, 153, 0, 35, 25, 5, 180, 2, 103, 25, 5, 21, 12, 184, 4, 213, 46, 25] := chW_of (by decide +kernel)
theorem W_prog_15_method_198_code_288 : chW prog_15_method_198_code 288 [4, 213, 46, 25, 5, 180, 2, 103, 25, 5, 21, 11, 184, 4, 213, 46, 100, 21, 8, 160, 0, 7, 4, 167, 0, 4, 3, 54, 10, 21, 10, 153, 0, 6, 132, 9] := chW_of (by decide +kernel)
theorem d_15_198_322 : decode prog_15_method_198_code 322 = .ok (.iinc 9 1, 3) := D_132 W_prog_15_method_198_code_320 2 rfl rfl rfl
theorem W_prog_15_method_200_code_0 : chW prog_15_method_200_code 0 [21, 6, 5, 126, 158, 0, 7, 4, 167, 0, 4, 3, 54, 7, 2, 54, 8, 2, 54, 9, 21, 7, 153, 0, 12, 21, 5, 29, 96, 4, 100, 167, 0, 5, 21, 5] := chW_of (by decide +kernel)
theorem W_prog_15_method_200_code_32 : chW prog_15_method_200_code 32 [0, 5, 21, 5, 54, 10, 3, 54, 11, 21, 11, 29, 162, 0, 171, 28, 21, 11, 96, 54, 12, 21, 7, 153, 0, 15, 21, 5, 29, 96, 4, 100, 21, 11, 100, 167] := chW_of (by decide +kernel)
theorem W_prog_15_method_200_code_192 : chW prog_15_method_200_code 192 [21, 8, 100, 54, 16, 21, 15, 21, 9, 100, 21, 16, 159, 0, 5, 3, 172, 132, 11, 1, 167, 255, 85, 4, 172] := chW_of (by decide +kernel)
theorem W_prog_15_method_200_code_64 : chW prog_15_method_200_code 64 [21, 11, 100, 167, 0, 8, 21, 5, 21, 11, 96, 54, 13, 43, 21, 12, 25, 4, 21, 13, 184, 5, 7, 153, 0, 32, 42, 43, 28, 21, 12, 25, 4, 21, 10, 21] := chW_of (by decide +kernel)
theorem W_prog_15_method_200_code_96 : chW prog_15_method_200_code 96 [4, 21, 10, 21, 13, 21, 6, 7, 126, 158, 0, 7, 4, 167, 0, 4, 3, 182, 5, 15, 154, 0, 5, 3, 172, 43, 180, 2, 86, 21, 12, 46, 154, 0, 6, 167] := chW_of (by decide +kernel)
theorem W_prog_15_method_200_code_128 : chW prog_15_method_200_code 128 [154, 0, 6, 167, 0, 78, 43, 180, 2, 103, 43, 21, 12, 184, 4, 213, 46, 54, 14, 25, 4, 180, 2, 103, 25, 4, 21, 13, 184, 4, 213, 46, 54, 15, 21, 8] := chW_of (by decide +kernel)
theorem W_prog_15_method_200_code_160 : chW prog_15_method_200_code 160 [54, 15, 21, 8, 156, 0, 11, 21, 14, 54, 8, 21, 15, 54, 9, 21, 6, 4, 126, 158, 0, 11, 21, 8, 21, 14, 100, 167, 0, 8, 21, 14, 21, 8, 100, 54] := chW_of (by decide +kernel)
theorem d_15_200_209 : decode prog_15_method_200_code 209 = .ok (.iinc 11 1, 3) := D_132 W_prog_15_method_200_code_192 17 rfl rfl rfl
theorem W_prog_15_method_22_code_0 : chW prog_15_method_22_code 0 [26, 184, 1, 60, 154, 0, 16, 26, 184, 1, 64, 154, 0, 9, 26, 16, 35, 160, 0, 7, 4, 167, 0, 4, 3, 172] := chW_of (by decide +kernel)
theorem W_prog_15_method_27_code_0 : chW prog_15_method_27_code 0 [42, 27, 182, 1, 80, 62, 42, 28, 4, 100, 182, 1, 80, 16, 48, 100, 54, 4, 29, 16, 97, 161, 0, 28, 29, 16, 103, 163, 0, 22, 21, 4, 155, 0, 17, 21] := chW_of (by decide +kernel)
theorem W_prog_15_method_27_code_32 : chW prog_15_method_27_code 32 [155, 0, 17, 21, 4, 16, 8, 163, 0, 10, 28, 27, 100, 7, 164, 0, 4, 177, 3, 54, 5, 27, 4, 96, 54, 6, 21, 6, 28, 4, 100, 162, 0, 61, 42, 21] := chW_of (by decide +kernel)
theorem W_prog_15_method_27_code_96 : chW prog_15_method_27_code 96 [80, 159, 0, 4, 177, 21, 5, 21, 7, 16, 35, 160, 0, 7, 4, 167, 0, 4, 2, 96, 54, 5, 132, 6, 1, 167, 255, 193, 42, 180, 0, 48, 42, 180, 1, 77] := chW_of (by decide +kernel)
theorem W_prog_15_method_27_code_128 : chW prog_15_method_27_code 128 [42, 180, 1, 77, 5, 79, 42, 180, 0, 55, 42, 180, 1, 77, 16, 7, 21, 4, 104, 29, 16, 99, 100, 16, 7, 184, 1, 51, 96, 79, 42, 180, 0, 58, 42, 180] := chW_of (by decide +kernel)
theorem W_prog_15_method_27_code_160 : chW prog_15_method_27_code 160 [0, 58, 42, 180, 1, 77, 21, 5, 79, 177] := chW_of (by decide +kernel)
theorem W_prog_15_method_27_code_64 : chW prog_15_method_27_code 64 [0, 61, 42, 21, 6, 182, 1, 80, 54, 7, 21, 7, 16, 35, 159, 0, 10, 21, 7, 16, 98, 160, 0, 15, 21, 7, 42, 27, 4, 96, 182, 1, 80, 159, 0, 4] := chW_of (by decide +kernel)
theorem d_15_27_118 : decode prog_15_method_27_code 118 = .ok (.iinc 6 1, 3) := D_132 W_prog_15_method_27_code_96 22 rfl rfl rfl
abbrev Q_M_downNote (D : va_G) (ca : Nat → ClassId) (ad : Nat → Int → Nat → Nat) (L : List Nat) (r : Int) (F : zF) (B : zB) (A : Nat → Prop) : Array Value → State → Outcome → State → Prop := va_Qv (S := Unit) (fun _ => True) (fun _ => zPo D ca ad lnM nM L F B A) A
def f_M_downNote_336 (K : Nat)  (F : zF) (B : zB) : zO := zbind (f_M_put_0 K 124 F B) (fun r62 F62 B62 => zbind (f_M_put_0 K 10 F62 B62) (fun r63 F63 B63 => some (0, F63, B63)))
set_option maxHeartbeats 4000000 in
set_option maxRecDepth 100000 in
theorem b_M_downNote_336 {D : va_G} {ca : Nat → ClassId} {ad : Nat → Int → Nat → Nat} {L : List Nat} {aS vS : Nat → Nat} {A : Nat → Prop} {p : Program} {l : Launch} {e : Env} {s : State} {m : MethodId} {args : Array Value} {below : List Frame} {meth : Method} {c : Code} {K : Nat} {r : Int} {F9 : zF} {B9 : zB} (X : zX D ca L aS vS A p s m args meth c prog_15_method_160_code 11 (Option.none : Option Jvm.ClassFile.FieldType) "StaveHouseModel")  {F : zF} {B : zB} {H : Heap} {locs : List Loc} {ls : Array Slot} (hf : f_M_downNote_336 K  F B = some (r, F9, B9)) (hZ : zH D ca ad lnM nM L F B A H) (hS : va_S A s.heap H locs) (hl : lv_has ls 11 [(0, .ref (ad 14 0 0))]) : W p l e ({ frames := 4, cells := 0, slots := 0, locals := 85 } : Room) s m args below meth c H locs 0 0 (MQ below (Q_M_downNote D ca ad L r F9 B9 A) args s 0 0 A) (F0 m 336 ls []) := by
  obtain ⟨hx, hb, hr, hml, hown, hts, hlk, hK, hA, hL, hX⟩ := id X
  replace hf : (zbind (f_M_put_0 K 124 F B) (fun r62 F62 B62 => zbind (f_M_put_0 K 10 F62 B62) (fun r63 F63 B63 => some (0, F63, B63)))) = some (r, F9, B9) := hf
  refine lv_aload_n hx hb (D_42 W_prog_15_method_160_code_320 16 rfl rfl) rfl (lv_at hl 0 rfl) ?_
  refine lv_bipush (v := iI 124) hx hb (D_16 W_prog_15_method_160_code_320 17 rfl rfl rfl) (by decide) ?_
  obtain ⟨r62, F62, B62, hc62, hf⟩ := gbind hf
  refine va_callv (va_runV (As := [.int (iI 124)]) (rest := []) ⟨hx, hb, hml, hown, hts⟩ (c_M_put_0 (l := l) hc62) (cwV 1 hts (gdV k_12_199 k_12_201 ks_142 k_1_9 k_12_202) rfl rfl rfl (by decide +kernel) ⟨Nat.le_of_ble_eq_true rfl, Nat.le_of_ble_eq_true rfl⟩) (zPV X hZ hS (ci := 14) (by decide) (by decide) (r := (RX14, TX14, 107)) rfl [.int (iI 124)]) rfl rfl hl.1 rfl (lv_room (Nat.le_of_ble_eq_true rfl)) (D_182 W_prog_15_method_160_code_320 19 rfl rfl rfl) ⟨Nat.le_of_ble_eq_true rfl, Nat.le_of_ble_eq_true rfl⟩) hS (fun q _ h => zAin X hS q h) (zAin X hS) (fun u62 t62 H62 locs62 ht62 hv62 hw62 hB62 hz62 hk62 hS62 => ?_)
  have hZ62 := zBack X ht62 hB62
  refine lv_aload_n hx hb (D_42 W_prog_15_method_160_code_320 22 rfl rfl) rfl (lv_at hl 0 rfl) ?_
  refine lv_bipush (v := iI 10) hx hb (D_16 W_prog_15_method_160_code_320 23 rfl rfl rfl) (by decide) ?_
  obtain ⟨r63, F63, B63, hc63, hf⟩ := gbind hf
  refine va_callv (va_runV (As := [.int (iI 10)]) (rest := []) ⟨hx, hb, hml, hown, hts⟩ (c_M_put_0 (l := l) hc63) (cwV 1 hts (gdV k_12_199 k_12_201 ks_142 k_1_9 k_12_202) rfl rfl rfl (by decide +kernel) ⟨Nat.le_of_ble_eq_true rfl, Nat.le_of_ble_eq_true rfl⟩) (zPV X hZ62 hS62 (ci := 14) (by decide) (by decide) (r := (RX14, TX14, 107)) rfl [.int (iI 10)]) rfl rfl hl.1 rfl (lv_room (Nat.le_of_ble_eq_true rfl)) (D_182 W_prog_15_method_160_code_320 25 rfl rfl rfl) ⟨Nat.le_of_ble_eq_true rfl, Nat.le_of_ble_eq_true rfl⟩) hS62 (fun q _ h => zAin X hS62 q h) (zAin X hS62) (fun u63 t63 H63 locs63 ht63 hv63 hw63 hB63 hz63 hk63 hS63 => ?_)
  have hZ63 := zBack X ht63 hB63
  cases hf
  exact W.vret hx hb hr (fun t ht hW => ⟨⟨(), rfl, trivial, by rw [ht]; exact hZ63, va_K.moved hW.alike hK⟩, hS63.F ht⟩) hS63.2.2 (D_177 W_prog_15_method_160_code_320 28 rfl rfl) hlk

def f_M_downNote_300 (K : Nat) (l4 : Int) (l3 : Int) (F : zF) (B : zB) : zO := zbind (f_M_put_0 K 32 F B) (fun r53 F53 B53 => if r32 l3 then (if l3 = 0 then if 0 ≤ (F53 14 0 6) ∧ (F53 14 0 6) < 3 then if 0 ≤ (l4 + 1) ∧ (l4 + 1) < 3200 then if 0 ≤ l4 ∧ l4 < 3200 then if r32 (B53 13 (F53 14 0 6) 31 (l4 + 1)) then if r32 (B53 13 (F53 14 0 6) 31 l4) then (if (B53 13 (F53 14 0 6) 31 (l4 + 1)) = (B53 13 (F53 14 0 6) 31 l4) then some (0, F53, B53) else f_M_downNote_336 K F53 B53) else none else none else none else none else none else f_M_downNote_336 K F53 B53) else none)
set_option maxHeartbeats 4000000 in
set_option maxRecDepth 100000 in
theorem b_M_downNote_300 {D : va_G} {ca : Nat → ClassId} {ad : Nat → Int → Nat → Nat} {L : List Nat} {aS vS : Nat → Nat} {A : Nat → Prop} {p : Program} {l : Launch} {e : Env} {s : State} {m : MethodId} {args : Array Value} {below : List Frame} {meth : Method} {c : Code} {K : Nat} {r : Int} {F9 : zF} {B9 : zB} (X : zX D ca L aS vS A p s m args meth c prog_15_method_160_code 11 (Option.none : Option Jvm.ClassFile.FieldType) "StaveHouseModel") {l4 : Int} {l3 : Int} {F : zF} {B : zB} {H : Heap} {locs : List Loc} {ls : Array Slot} (hf : f_M_downNote_300 K l4 l3 F B = some (r, F9, B9)) (hZ : zH D ca ad lnM nM L F B A H) (hS : va_S A s.heap H locs) (hl : lv_has ls 11 [(4, .int (iI l4)), (0, .ref (ad 14 0 0)), (3, .int (iI l3))]) : W p l e ({ frames := 4, cells := 0, slots := 0, locals := 85 } : Room) s m args below meth c H locs 0 0 (MQ below (Q_M_downNote D ca ad L r F9 B9 A) args s 0 0 A) (F0 m 300 ls []) := by
  obtain ⟨hx, hb, hr, hml, hown, hts, hlk, hK, hA, hL, hX⟩ := id X
  replace hf : (zbind (f_M_put_0 K 32 F B) (fun r53 F53 B53 => if r32 l3 then (if l3 = 0 then if 0 ≤ (F53 14 0 6) ∧ (F53 14 0 6) < 3 then if 0 ≤ (l4 + 1) ∧ (l4 + 1) < 3200 then if 0 ≤ l4 ∧ l4 < 3200 then if r32 (B53 13 (F53 14 0 6) 31 (l4 + 1)) then if r32 (B53 13 (F53 14 0 6) 31 l4) then (if (B53 13 (F53 14 0 6) 31 (l4 + 1)) = (B53 13 (F53 14 0 6) 31 l4) then some (0, F53, B53) else f_M_downNote_336 K F53 B53) else none else none else none else none else none else f_M_downNote_336 K F53 B53) else none)) = some (r, F9, B9) := hf
  refine lv_aload_n hx hb (D_42 W_prog_15_method_160_code_288 12 rfl rfl) rfl (lv_at hl 1 rfl) ?_
  refine lv_bipush (v := iI 32) hx hb (D_16 W_prog_15_method_160_code_288 13 rfl rfl rfl) (by decide) ?_
  obtain ⟨r53, F53, B53, hc53, hf⟩ := gbind hf
  refine va_callv (va_runV (As := [.int (iI 32)]) (rest := []) ⟨hx, hb, hml, hown, hts⟩ (c_M_put_0 (l := l) hc53) (cwV 1 hts (gdV k_12_199 k_12_201 ks_142 k_1_9 k_12_202) rfl rfl rfl (by decide +kernel) ⟨Nat.le_of_ble_eq_true rfl, Nat.le_of_ble_eq_true rfl⟩) (zPV X hZ hS (ci := 14) (by decide) (by decide) (r := (RX14, TX14, 107)) rfl [.int (iI 32)]) rfl rfl hl.1 rfl (lv_room (Nat.le_of_ble_eq_true rfl)) (D_182 W_prog_15_method_160_code_288 15 rfl rfl rfl) ⟨Nat.le_of_ble_eq_true rfl, Nat.le_of_ble_eq_true rfl⟩) hS (fun q _ h => zAin X hS q h) (zAin X hS) (fun u53 t53 H53 locs53 ht53 hv53 hw53 hB53 hz53 hk53 hS53 => ?_)
  have hZ53 := zBack X ht53 hB53
  refine lv_iload_n hx hb (D_29 W_prog_15_method_160_code_288 18 rfl rfl) rfl (lv_at hl 2 rfl) ?_
  obtain ⟨g54, hf⟩ := gif hf
  refine z0ne (tgt := 336) hx hb g54 (D_154 W_prog_15_method_160_code_288 19 rfl rfl rfl) (by decide) (fun h55 => ?_) (fun h55 => ?_)
  · replace hf := gneg hf h55
    exact b_M_downNote_336 X hf hZ53 hS53 (lv_sub hl [1] rfl)
  · replace hf := gpos hf h55
    refine lv_aload_n hx hb (D_42 W_prog_15_method_160_code_288 22 rfl rfl) rfl (lv_at hl 1 rfl) ?_
    refine zget (ci := 14) (C := RX14) (T := TX14) (v := va_rf (zrf ad 13 (F53 14 0 6))) (k := 6) hx hb hts inW_14 hown hK hZ53 (by decide) (by decide) rfl (by decide) k_11_4 rfl (D_180 W_prog_15_method_160_code_288 23 rfl rfl rfl) ?_
    obtain ⟨g56, hf⟩ := gif hf
    refine zunrf g56.1 ?_
    refine zget (ci := 13) (C := RX13) (T := TX13) (v := .ref (ad 13 (F53 14 0 6) (31 + 1))) (k := 31) hx hb hts inW_13 hown hK hZ53 g56.1 g56.2 rfl (by decide) k_9_180 rfl (D_180 W_prog_15_method_160_code_288 26 rfl rfl rfl) ?_
    refine lv_iload hx hb (D_21 W_prog_15_method_160_code_288 29 rfl rfl) (lv_at hl 0 rfl) ?_
    refine lv_iconst (v := iI 1) hx hb (D_4 W_prog_15_method_160_code_288 31 rfl rfl) rfl ?_
    refine zadd hx hb (D_96 W_prog_15_method_160_code_320 0 rfl rfl) ?_
    obtain ⟨g57, hf⟩ := gif hf
    refine zald (ci := 13) (k := 31) hx hb hK rfl hZ53 g56.1 g56.2 rfl (Nat.le_of_ble_eq_true rfl) g57.1 g57.2 (D_46 W_prog_15_method_160_code_320 1 rfl rfl) ?_
    refine lv_aload_n hx hb (D_42 W_prog_15_method_160_code_320 2 rfl rfl) rfl (lv_at hl 1 rfl) ?_
    refine zget (ci := 14) (C := RX14) (T := TX14) (v := va_rf (zrf ad 13 (F53 14 0 6))) (k := 6) hx hb hts inW_14 hown hK hZ53 (by decide) (by decide) rfl (by decide) k_11_4 rfl (D_180 W_prog_15_method_160_code_320 3 rfl rfl rfl) ?_
    refine zunrf g56.1 ?_
    refine zget (ci := 13) (C := RX13) (T := TX13) (v := .ref (ad 13 (F53 14 0 6) (31 + 1))) (k := 31) hx hb hts inW_13 hown hK hZ53 g56.1 g56.2 rfl (by decide) k_9_180 rfl (D_180 W_prog_15_method_160_code_320 6 rfl rfl rfl) ?_
    refine lv_iload hx hb (D_21 W_prog_15_method_160_code_320 9 rfl rfl) (lv_at hl 0 rfl) ?_
    obtain ⟨g58, hf⟩ := gif hf
    refine zald (ci := 13) (k := 31) hx hb hK rfl hZ53 g56.1 g56.2 rfl (Nat.le_of_ble_eq_true rfl) g58.1 g58.2 (D_46 W_prog_15_method_160_code_320 11 rfl rfl) ?_
    obtain ⟨g59, hf⟩ := gif hf
    obtain ⟨g60, hf⟩ := gif hf
    refine zne (tgt := 336) hx hb g59 g60 (D_160 W_prog_15_method_160_code_320 12 rfl rfl rfl) (by decide) (fun h61 => ?_) (fun h61 => ?_)
    · replace hf := gneg hf h61
      exact b_M_downNote_336 X hf hZ53 hS53 (lv_sub hl [1] rfl)
    · replace hf := gpos hf h61
      cases hf
      exact W.vret hx hb hr (fun t ht hW => ⟨⟨(), rfl, trivial, by rw [ht]; exact hZ53, va_K.moved hW.alike hK⟩, hS53.F ht⟩) hS53.2.2 (D_177 W_prog_15_method_160_code_320 15 rfl rfl) hlk

def f_M_downNote_233 (K : Nat) : Nat → Int → Int → Int → Int → zF → zB → zO
  | 0, _, _, _, _, _, _ => none
  | n + 1, l7, l6, l4, l3, F, B => if 0 ≤ (F 14 0 6) ∧ (F 14 0 6) < 3 then if 0 ≤ l4 ∧ l4 < 3200 then if r32 l7 then if r32 (B 13 (F 14 0 6) 35 l4) then (if (B 13 (F 14 0 6) 35 l4) ≤ l7 then if r32 l6 then (if l6 ≤ 0 then f_M_downNote_300 K l4 l3 F B else if r32 l3 then (if l3 = 0 then if 0 ≤ (l4 + 1) ∧ (l4 + 1) < 3200 then if r32 (B 13 (F 14 0 6) 30 (l4 + 1)) then if r32 (B 13 (F 14 0 6) 30 l4) then (if (B 13 (F 14 0 6) 30 (l4 + 1)) = (B 13 (F 14 0 6) 30 l4) then zbind (f_M_put_0 K 126 F B) (fun r51 F51 B51 => f_M_downNote_300 K l4 l3 F51 B51) else f_M_downNote_300 K l4 l3 F B) else none else none else none else f_M_downNote_300 K l4 l3 F B) else none) else none else zbind (f_M_put_0 K 46 F B) (fun r52 F52 B52 => f_M_downNote_233 K n (l7 + 1) l6 l4 l3 F52 B52)) else none else none else none else none
set_option maxHeartbeats 4000000 in
set_option maxRecDepth 100000 in
theorem b_M_downNote_233 {D : va_G} {ca : Nat → ClassId} {ad : Nat → Int → Nat → Nat} {L : List Nat} {aS vS : Nat → Nat} {A : Nat → Prop} {p : Program} {l : Launch} {e : Env} {s : State} {m : MethodId} {args : Array Value} {below : List Frame} {meth : Method} {c : Code} {K : Nat} {r : Int} {F9 : zF} {B9 : zB} (X : zX D ca L aS vS A p s m args meth c prog_15_method_160_code 11 (Option.none : Option Jvm.ClassFile.FieldType) "StaveHouseModel") : ∀ {n : Nat} {l7 : Int} {l6 : Int} {l4 : Int} {l3 : Int} {F : zF} {B : zB} {H : Heap} {locs : List Loc} {ls : Array Slot}, f_M_downNote_233 K n l7 l6 l4 l3 F B = some (r, F9, B9) → zH D ca ad lnM nM L F B A H → va_S A s.heap H locs → lv_has ls 11 [(7, .int (iI l7)), (6, .int (iI l6)), (4, .int (iI l4)), (0, .ref (ad 14 0 0)), (3, .int (iI l3))] → W p l e ({ frames := 4, cells := 0, slots := 0, locals := 85 } : Room) s m args below meth c H locs 0 0 (MQ below (Q_M_downNote D ca ad L r F9 B9 A) args s 0 0 A) (F0 m 233 ls []) := by
  obtain ⟨hx, hb, hr, hml, hown, hts, hlk, hK, hA, hL, hX⟩ := id X
  intro n
  induction n with
  | zero =>
    intros
    rename_i hf _ _ _
    cases hf
  | succ n ih =>
    intro l7 l6 l4 l3 F B H locs ls hf hZ hS hl
    replace hf : (if 0 ≤ (F 14 0 6) ∧ (F 14 0 6) < 3 then if 0 ≤ l4 ∧ l4 < 3200 then if r32 l7 then if r32 (B 13 (F 14 0 6) 35 l4) then (if (B 13 (F 14 0 6) 35 l4) ≤ l7 then if r32 l6 then (if l6 ≤ 0 then f_M_downNote_300 K l4 l3 F B else if r32 l3 then (if l3 = 0 then if 0 ≤ (l4 + 1) ∧ (l4 + 1) < 3200 then if r32 (B 13 (F 14 0 6) 30 (l4 + 1)) then if r32 (B 13 (F 14 0 6) 30 l4) then (if (B 13 (F 14 0 6) 30 (l4 + 1)) = (B 13 (F 14 0 6) 30 l4) then zbind (f_M_put_0 K 126 F B) (fun r51 F51 B51 => f_M_downNote_300 K l4 l3 F51 B51) else f_M_downNote_300 K l4 l3 F B) else none else none else none else f_M_downNote_300 K l4 l3 F B) else none) else none else zbind (f_M_put_0 K 46 F B) (fun r52 F52 B52 => f_M_downNote_233 K n (l7 + 1) l6 l4 l3 F52 B52)) else none else none else none else none) = some (r, F9, B9) := hf
    refine lv_iload hx hb (D_21 W_prog_15_method_160_code_224 9 rfl rfl) (lv_at hl 0 rfl) ?_
    refine lv_aload_n hx hb (D_42 W_prog_15_method_160_code_224 11 rfl rfl) rfl (lv_at hl 3 rfl) ?_
    refine zget (ci := 14) (C := RX14) (T := TX14) (v := va_rf (zrf ad 13 (F 14 0 6))) (k := 6) hx hb hts inW_14 hown hK hZ (by decide) (by decide) rfl (by decide) k_11_4 rfl (D_180 W_prog_15_method_160_code_224 12 rfl rfl rfl) ?_
    obtain ⟨g38, hf⟩ := gif hf
    refine zunrf g38.1 ?_
    refine zget (ci := 13) (C := RX13) (T := TX13) (v := .ref (ad 13 (F 14 0 6) (35 + 1))) (k := 35) hx hb hts inW_13 hown hK hZ g38.1 g38.2 rfl (by decide) k_9_188 rfl (D_180 W_prog_15_method_160_code_224 15 rfl rfl rfl) ?_
    refine lv_iload hx hb (D_21 W_prog_15_method_160_code_224 18 rfl rfl) (lv_at hl 2 rfl) ?_
    obtain ⟨g39, hf⟩ := gif hf
    refine zald (ci := 13) (k := 35) hx hb hK rfl hZ g38.1 g38.2 rfl (Nat.le_of_ble_eq_true rfl) g39.1 g39.2 (D_46 W_prog_15_method_160_code_224 20 rfl rfl) ?_
    obtain ⟨g40, hf⟩ := gif hf
    obtain ⟨g41, hf⟩ := gif hf
    refine zge (tgt := 260) hx hb g40 g41 (D_162 W_prog_15_method_160_code_224 21 rfl rfl rfl) (by decide) (fun h42 => ?_) (fun h42 => ?_)
    · replace hf := gpos hf h42
      refine lv_iload hx hb (D_21 W_prog_15_method_160_code_256 4 rfl rfl) (lv_at hl 1 rfl) ?_
      obtain ⟨g43, hf⟩ := gif hf
      refine z0le (tgt := 300) hx hb g43 (D_158 W_prog_15_method_160_code_256 6 rfl rfl rfl) (by decide) (fun h44 => ?_) (fun h44 => ?_)
      · replace hf := gpos hf h44
        exact b_M_downNote_300 X hf hZ hS (lv_sub hl [2, 3, 4] rfl)
      · replace hf := gneg hf h44
        refine lv_iload_n hx hb (D_29 W_prog_15_method_160_code_256 9 rfl rfl) rfl (lv_at hl 4 rfl) ?_
        obtain ⟨g45, hf⟩ := gif hf
        refine z0ne (tgt := 300) hx hb g45 (D_154 W_prog_15_method_160_code_256 10 rfl rfl rfl) (by decide) (fun h46 => ?_) (fun h46 => ?_)
        · replace hf := gneg hf h46
          exact b_M_downNote_300 X hf hZ hS (lv_sub hl [2, 3, 4] rfl)
        · replace hf := gpos hf h46
          refine lv_aload_n hx hb (D_42 W_prog_15_method_160_code_256 13 rfl rfl) rfl (lv_at hl 3 rfl) ?_
          refine zget (ci := 14) (C := RX14) (T := TX14) (v := va_rf (zrf ad 13 (F 14 0 6))) (k := 6) hx hb hts inW_14 hown hK hZ (by decide) (by decide) rfl (by decide) k_11_4 rfl (D_180 W_prog_15_method_160_code_256 14 rfl rfl rfl) ?_
          refine zunrf g38.1 ?_
          refine zget (ci := 13) (C := RX13) (T := TX13) (v := .ref (ad 13 (F 14 0 6) (30 + 1))) (k := 30) hx hb hts inW_13 hown hK hZ g38.1 g38.2 rfl (by decide) k_9_178 rfl (D_180 W_prog_15_method_160_code_256 17 rfl rfl rfl) ?_
          refine lv_iload hx hb (D_21 W_prog_15_method_160_code_256 20 rfl rfl) (lv_at hl 2 rfl) ?_
          refine lv_iconst (v := iI 1) hx hb (D_4 W_prog_15_method_160_code_256 22 rfl rfl) rfl ?_
          refine zadd hx hb (D_96 W_prog_15_method_160_code_256 23 rfl rfl) ?_
          obtain ⟨g47, hf⟩ := gif hf
          refine zald (ci := 13) (k := 30) hx hb hK rfl hZ g38.1 g38.2 rfl (Nat.le_of_ble_eq_true rfl) g47.1 g47.2 (D_46 W_prog_15_method_160_code_256 24 rfl rfl) ?_
          refine lv_aload_n hx hb (D_42 W_prog_15_method_160_code_256 25 rfl rfl) rfl (lv_at hl 3 rfl) ?_
          refine zget (ci := 14) (C := RX14) (T := TX14) (v := va_rf (zrf ad 13 (F 14 0 6))) (k := 6) hx hb hts inW_14 hown hK hZ (by decide) (by decide) rfl (by decide) k_11_4 rfl (D_180 W_prog_15_method_160_code_256 26 rfl rfl rfl) ?_
          refine zunrf g38.1 ?_
          refine zget (ci := 13) (C := RX13) (T := TX13) (v := .ref (ad 13 (F 14 0 6) (30 + 1))) (k := 30) hx hb hts inW_13 hown hK hZ g38.1 g38.2 rfl (by decide) k_9_178 rfl (D_180 W_prog_15_method_160_code_256 29 rfl rfl rfl) ?_
          refine lv_iload hx hb (D_21 W_prog_15_method_160_code_288 0 rfl rfl) (lv_at hl 2 rfl) ?_
          refine zald (ci := 13) (k := 30) hx hb hK rfl hZ g38.1 g38.2 rfl (Nat.le_of_ble_eq_true rfl) g39.1 g39.2 (D_46 W_prog_15_method_160_code_288 2 rfl rfl) ?_
          obtain ⟨g48, hf⟩ := gif hf
          obtain ⟨g49, hf⟩ := gif hf
          refine zne (tgt := 300) hx hb g48 g49 (D_160 W_prog_15_method_160_code_288 3 rfl rfl rfl) (by decide) (fun h50 => ?_) (fun h50 => ?_)
          · replace hf := gneg hf h50
            exact b_M_downNote_300 X hf hZ hS (lv_sub hl [2, 3, 4] rfl)
          · replace hf := gpos hf h50
            refine lv_aload_n hx hb (D_42 W_prog_15_method_160_code_288 6 rfl rfl) rfl (lv_at hl 3 rfl) ?_
            refine lv_bipush (v := iI 126) hx hb (D_16 W_prog_15_method_160_code_288 7 rfl rfl rfl) (by decide) ?_
            obtain ⟨r51, F51, B51, hc51, hf⟩ := gbind hf
            refine va_callv (va_runV (As := [.int (iI 126)]) (rest := []) ⟨hx, hb, hml, hown, hts⟩ (c_M_put_0 (l := l) hc51) (cwV 1 hts (gdV k_12_199 k_12_201 ks_142 k_1_9 k_12_202) rfl rfl rfl (by decide +kernel) ⟨Nat.le_of_ble_eq_true rfl, Nat.le_of_ble_eq_true rfl⟩) (zPV X hZ hS (ci := 14) (by decide) (by decide) (r := (RX14, TX14, 107)) rfl [.int (iI 126)]) rfl rfl hl.1 rfl (lv_room (Nat.le_of_ble_eq_true rfl)) (D_182 W_prog_15_method_160_code_288 9 rfl rfl rfl) ⟨Nat.le_of_ble_eq_true rfl, Nat.le_of_ble_eq_true rfl⟩) hS (fun q _ h => zAin X hS q h) (zAin X hS) (fun u51 t51 H51 locs51 ht51 hv51 hw51 hB51 hz51 hk51 hS51 => ?_)
            have hZ51 := zBack X ht51 hB51
            exact b_M_downNote_300 X hf hZ51 hS51 (lv_sub hl [2, 3, 4] rfl)
    · replace hf := gneg hf h42
      refine lv_aload_n hx hb (D_42 W_prog_15_method_160_code_224 24 rfl rfl) rfl (lv_at hl 3 rfl) ?_
      refine lv_bipush (v := iI 46) hx hb (D_16 W_prog_15_method_160_code_224 25 rfl rfl rfl) (by decide) ?_
      obtain ⟨r52, F52, B52, hc52, hf⟩ := gbind hf
      refine va_callv (va_runV (As := [.int (iI 46)]) (rest := []) ⟨hx, hb, hml, hown, hts⟩ (c_M_put_0 (l := l) hc52) (cwV 1 hts (gdV k_12_199 k_12_201 ks_142 k_1_9 k_12_202) rfl rfl rfl (by decide +kernel) ⟨Nat.le_of_ble_eq_true rfl, Nat.le_of_ble_eq_true rfl⟩) (zPV X hZ hS (ci := 14) (by decide) (by decide) (r := (RX14, TX14, 107)) rfl [.int (iI 46)]) rfl rfl hl.1 rfl (lv_room (Nat.le_of_ble_eq_true rfl)) (D_182 W_prog_15_method_160_code_224 27 rfl rfl rfl) ⟨Nat.le_of_ble_eq_true rfl, Nat.le_of_ble_eq_true rfl⟩) hS (fun q _ h => zAin X hS q h) (zAin X hS) (fun u52 t52 H52 locs52 ht52 hv52 hw52 hB52 hz52 hk52 hS52 => ?_)
      have hZ52 := zBack X ht52 hB52
      refine lv_iinc (v := iI (l7 + 1)) (lv' := [(7, .int (iI (l7 + 1))), (6, .int (iI l6)), (4, .int (iI l4)), (0, .ref (ad 14 0 0)), (3, .int (iI l3))]) hx hb d_15_160_254 hl (k := 0) rfl (iI_add _ 1) (by decide) rfl (fun ls hl => ?_)
      refine lv_goto (tgt := 233) hx hb (D_167 W_prog_15_method_160_code_256 1 rfl rfl rfl) (by decide) ?_
      exact ih hf hZ52 hS52 (lv_sub hl [0, 1, 2, 3, 4] rfl)

def f_M_downNote_208 (K : Nat) (l6 : Int) (l4 : Int) (l3 : Int) (F : zF) (B : zB) : zO := zbind (f_M_put_0 K 58 F B) (fun r34 F34 B34 => if 0 ≤ (F34 14 0 6) ∧ (F34 14 0 6) < 3 then if 0 ≤ l4 ∧ l4 < 3200 then zbind (f_M_digits K (zshl 1 (B34 13 (F34 14 0 6) 34 l4)) F34 B34) (fun r37 F37 B37 => f_M_downNote_233 K K 0 l6 l4 l3 F37 B37) else none else none)
set_option maxHeartbeats 4000000 in
set_option maxRecDepth 100000 in
theorem b_M_downNote_208 {D : va_G} {ca : Nat → ClassId} {ad : Nat → Int → Nat → Nat} {L : List Nat} {aS vS : Nat → Nat} {A : Nat → Prop} {p : Program} {l : Launch} {e : Env} {s : State} {m : MethodId} {args : Array Value} {below : List Frame} {meth : Method} {c : Code} {K : Nat} {r : Int} {F9 : zF} {B9 : zB} (X : zX D ca L aS vS A p s m args meth c prog_15_method_160_code 11 (Option.none : Option Jvm.ClassFile.FieldType) "StaveHouseModel") {l6 : Int} {l4 : Int} {l3 : Int} {F : zF} {B : zB} {H : Heap} {locs : List Loc} {ls : Array Slot} (hf : f_M_downNote_208 K l6 l4 l3 F B = some (r, F9, B9)) (hZ : zH D ca ad lnM nM L F B A H) (hS : va_S A s.heap H locs) (hl : lv_has ls 11 [(6, .int (iI l6)), (4, .int (iI l4)), (0, .ref (ad 14 0 0)), (3, .int (iI l3))]) : W p l e ({ frames := 4, cells := 0, slots := 0, locals := 85 } : Room) s m args below meth c H locs 0 0 (MQ below (Q_M_downNote D ca ad L r F9 B9 A) args s 0 0 A) (F0 m 208 ls []) := by
  obtain ⟨hx, hb, hr, hml, hown, hts, hlk, hK, hA, hL, hX⟩ := id X
  replace hf : (zbind (f_M_put_0 K 58 F B) (fun r34 F34 B34 => if 0 ≤ (F34 14 0 6) ∧ (F34 14 0 6) < 3 then if 0 ≤ l4 ∧ l4 < 3200 then zbind (f_M_digits K (zshl 1 (B34 13 (F34 14 0 6) 34 l4)) F34 B34) (fun r37 F37 B37 => f_M_downNote_233 K K 0 l6 l4 l3 F37 B37) else none else none)) = some (r, F9, B9) := hf
  refine lv_aload_n hx hb (D_42 W_prog_15_method_160_code_192 16 rfl rfl) rfl (lv_at hl 2 rfl) ?_
  refine lv_bipush (v := iI 58) hx hb (D_16 W_prog_15_method_160_code_192 17 rfl rfl rfl) (by decide) ?_
  obtain ⟨r34, F34, B34, hc34, hf⟩ := gbind hf
  refine va_callv (va_runV (As := [.int (iI 58)]) (rest := []) ⟨hx, hb, hml, hown, hts⟩ (c_M_put_0 (l := l) hc34) (cwV 1 hts (gdV k_12_199 k_12_201 ks_142 k_1_9 k_12_202) rfl rfl rfl (by decide +kernel) ⟨Nat.le_of_ble_eq_true rfl, Nat.le_of_ble_eq_true rfl⟩) (zPV X hZ hS (ci := 14) (by decide) (by decide) (r := (RX14, TX14, 107)) rfl [.int (iI 58)]) rfl rfl hl.1 rfl (lv_room (Nat.le_of_ble_eq_true rfl)) (D_182 W_prog_15_method_160_code_192 19 rfl rfl rfl) ⟨Nat.le_of_ble_eq_true rfl, Nat.le_of_ble_eq_true rfl⟩) hS (fun q _ h => zAin X hS q h) (zAin X hS) (fun u34 t34 H34 locs34 ht34 hv34 hw34 hB34 hz34 hk34 hS34 => ?_)
  have hZ34 := zBack X ht34 hB34
  refine lv_aload_n hx hb (D_42 W_prog_15_method_160_code_192 22 rfl rfl) rfl (lv_at hl 2 rfl) ?_
  refine lv_iconst (v := iI 1) hx hb (D_4 W_prog_15_method_160_code_192 23 rfl rfl) rfl ?_
  refine lv_aload_n hx hb (D_42 W_prog_15_method_160_code_192 24 rfl rfl) rfl (lv_at hl 2 rfl) ?_
  refine zget (ci := 14) (C := RX14) (T := TX14) (v := va_rf (zrf ad 13 (F34 14 0 6))) (k := 6) hx hb hts inW_14 hown hK hZ34 (by decide) (by decide) rfl (by decide) k_11_4 rfl (D_180 W_prog_15_method_160_code_192 25 rfl rfl rfl) ?_
  obtain ⟨g35, hf⟩ := gif hf
  refine zunrf g35.1 ?_
  refine zget (ci := 13) (C := RX13) (T := TX13) (v := .ref (ad 13 (F34 14 0 6) (34 + 1))) (k := 34) hx hb hts inW_13 hown hK hZ34 g35.1 g35.2 rfl (by decide) k_9_186 rfl (D_180 W_prog_15_method_160_code_192 28 rfl rfl rfl) ?_
  refine lv_iload hx hb (D_21 W_prog_15_method_160_code_192 31 rfl rfl) (lv_at hl 1 rfl) ?_
  obtain ⟨g36, hf⟩ := gif hf
  refine zald (ci := 13) (k := 34) hx hb hK rfl hZ34 g35.1 g35.2 rfl (Nat.le_of_ble_eq_true rfl) g36.1 g36.2 (D_46 W_prog_15_method_160_code_224 1 rfl rfl) ?_
  refine zshl_r hx hb (D_120 W_prog_15_method_160_code_224 2 rfl rfl) ?_
  obtain ⟨r37, F37, B37, hc37, hf⟩ := gbind hf
  refine va_callv (va_runV (As := [.int (iI (zshl 1 (B34 13 (F34 14 0 6) 34 l4)))]) (rest := []) ⟨hx, hb, hml, hown, hts⟩ (c_M_digits (l := l) hc37) (cwV 1 hts (gdV k_13_112 k_13_114 ks_171 k_1_9 k_13_115) rfl rfl rfl (by decide +kernel) ⟨Nat.le_of_ble_eq_true rfl, Nat.le_of_ble_eq_true rfl⟩) (zPV X hZ34 hS34 (ci := 14) (by decide) (by decide) (r := (RX14, TX14, 107)) rfl [.int (iI (zshl 1 (B34 13 (F34 14 0 6) 34 l4)))]) rfl rfl hl.1 rfl (lv_room (Nat.le_of_ble_eq_true rfl)) (D_182 W_prog_15_method_160_code_224 3 rfl rfl rfl) ⟨Nat.le_of_ble_eq_true rfl, Nat.le_of_ble_eq_true rfl⟩) hS34 (fun q _ h => zAin X hS34 q h) (zAin X hS34) (fun u37 t37 H37 locs37 ht37 hv37 hw37 hB37 hz37 hk37 hS37 => ?_)
  have hZ37 := zBack X ht37 hB37
  refine lv_iconst (v := iI 0) hx hb (D_3 W_prog_15_method_160_code_224 6 rfl rfl) rfl ?_
  refine lv_istore (lv' := [(7, .int (iI 0)), (6, .int (iI l6)), (4, .int (iI l4)), (0, .ref (ad 14 0 0)), (3, .int (iI l3))]) hx hb (D_54 W_prog_15_method_160_code_224 7 rfl rfl) hl (by decide) rfl (fun ls hl => ?_)
  exact b_M_downNote_233 X hf hZ37 hS37 (lv_sub hl [0, 1, 2, 3, 4] rfl)

def f_M_downNote_161 (rec67 : Int → Int → Int → Int → Int → zF → zB → zO) (K : Nat) : Nat → Int → Int → Int → Int → Int → Int → Int → Int → zF → zB → zO
  | 0, _, _, _, _, _, _, _, _, _, _ => none
  | n + 1, l10, l9, l8, l7, l6, l5, l4, l3, F, B => if r32 l10 then if r32 (-l9) then (if (-l9) ≤ l10 then zbind (f_M_digits K (zdv l8 7) F B) (fun r31 F31 B31 => rec67 (l7 + 1) l6 l5 l4 l3 F31 B31) else zbind (f_M_put_0 K 98 F B) (fun r33 F33 B33 => f_M_downNote_161 rec67 K n (l10 + 1) l9 l8 l7 l6 l5 l4 l3 F33 B33)) else none else none
set_option maxHeartbeats 4000000 in
set_option maxRecDepth 100000 in
theorem b_M_downNote_161 {D : va_G} {ca : Nat → ClassId} {ad : Nat → Int → Nat → Nat} {L : List Nat} {aS vS : Nat → Nat} {A : Nat → Prop} {p : Program} {l : Launch} {e : Env} {s : State} {m : MethodId} {args : Array Value} {below : List Frame} {meth : Method} {c : Code} {K : Nat} {r : Int} {F9 : zF} {B9 : zB} (X : zX D ca L aS vS A p s m args meth c prog_15_method_160_code 11 (Option.none : Option Jvm.ClassFile.FieldType) "StaveHouseModel") {rec67 : Int → Int → Int → Int → Int → zF → zB → zO} (hrec67 : ∀ {l7 : Int} {l6 : Int} {l5 : Int} {l4 : Int} {l3 : Int} {F : zF} {B : zB} {H : Heap} {locs : List Loc} {ls : Array Slot}, rec67 l7 l6 l5 l4 l3 F B = some (r, F9, B9) → zH D ca ad lnM nM L F B A H → va_S A s.heap H locs → lv_has ls 11 [(7, .int (iI l7)), (6, .int (iI l6)), (5, .int (iI l5)), (4, .int (iI l4)), (0, .ref (ad 14 0 0)), (3, .int (iI l3))] → W p l e ({ frames := 4, cells := 0, slots := 0, locals := 85 } : Room) s m args below meth c H locs 0 0 (MQ below (Q_M_downNote D ca ad L r F9 B9 A) args s 0 0 A) (F0 m 67 ls [])) : ∀ {n : Nat} {l10 : Int} {l9 : Int} {l8 : Int} {l7 : Int} {l6 : Int} {l5 : Int} {l4 : Int} {l3 : Int} {F : zF} {B : zB} {H : Heap} {locs : List Loc} {ls : Array Slot}, f_M_downNote_161 rec67 K n l10 l9 l8 l7 l6 l5 l4 l3 F B = some (r, F9, B9) → zH D ca ad lnM nM L F B A H → va_S A s.heap H locs → lv_has ls 11 [(10, .int (iI l10)), (9, .int (iI l9)), (8, .int (iI l8)), (7, .int (iI l7)), (6, .int (iI l6)), (5, .int (iI l5)), (4, .int (iI l4)), (0, .ref (ad 14 0 0)), (3, .int (iI l3))] → W p l e ({ frames := 4, cells := 0, slots := 0, locals := 85 } : Room) s m args below meth c H locs 0 0 (MQ below (Q_M_downNote D ca ad L r F9 B9 A) args s 0 0 A) (F0 m 161 ls []) := by
  obtain ⟨hx, hb, hr, hml, hown, hts, hlk, hK, hA, hL, hX⟩ := id X
  intro n
  induction n with
  | zero =>
    intros
    rename_i hf _ _ _
    cases hf
  | succ n ih =>
    intro l10 l9 l8 l7 l6 l5 l4 l3 F B H locs ls hf hZ hS hl
    replace hf : (if r32 l10 then if r32 (-l9) then (if (-l9) ≤ l10 then zbind (f_M_digits K (zdv l8 7) F B) (fun r31 F31 B31 => rec67 (l7 + 1) l6 l5 l4 l3 F31 B31) else zbind (f_M_put_0 K 98 F B) (fun r33 F33 B33 => f_M_downNote_161 rec67 K n (l10 + 1) l9 l8 l7 l6 l5 l4 l3 F33 B33)) else none else none) = some (r, F9, B9) := hf
    refine lv_iload hx hb (D_21 W_prog_15_method_160_code_160 1 rfl rfl) (lv_at hl 0 rfl) ?_
    refine lv_iload hx hb (D_21 W_prog_15_method_160_code_160 3 rfl rfl) (lv_at hl 1 rfl) ?_
    refine zneg hx hb (D_116 W_prog_15_method_160_code_160 5 rfl rfl) ?_
    obtain ⟨g28, hf⟩ := gif hf
    obtain ⟨g29, hf⟩ := gif hf
    refine zge (tgt := 181) hx hb g28 g29 (D_162 W_prog_15_method_160_code_160 6 rfl rfl rfl) (by decide) (fun h30 => ?_) (fun h30 => ?_)
    · replace hf := gpos hf h30
      refine lv_aload_n hx hb (D_42 W_prog_15_method_160_code_160 21 rfl rfl) rfl (lv_at hl 7 rfl) ?_
      refine lv_iload hx hb (D_21 W_prog_15_method_160_code_160 22 rfl rfl) (lv_at hl 2 rfl) ?_
      refine lv_bipush (v := iI 7) hx hb (D_16 W_prog_15_method_160_code_160 24 rfl rfl rfl) (by decide) ?_
      refine zdv_r hx hb (by decide) (D_108 W_prog_15_method_160_code_160 26 rfl rfl) ?_
      obtain ⟨r31, F31, B31, hc31, hf⟩ := gbind hf
      refine va_callv (va_runV (As := [.int (iI (zdv l8 7))]) (rest := []) ⟨hx, hb, hml, hown, hts⟩ (c_M_digits (l := l) hc31) (cwV 1 hts (gdV k_13_112 k_13_114 ks_171 k_1_9 k_13_115) rfl rfl rfl (by decide +kernel) ⟨Nat.le_of_ble_eq_true rfl, Nat.le_of_ble_eq_true rfl⟩) (zPV X hZ hS (ci := 14) (by decide) (by decide) (r := (RX14, TX14, 107)) rfl [.int (iI (zdv l8 7))]) rfl rfl hl.1 rfl (lv_room (Nat.le_of_ble_eq_true rfl)) (D_182 W_prog_15_method_160_code_160 27 rfl rfl rfl) ⟨Nat.le_of_ble_eq_true rfl, Nat.le_of_ble_eq_true rfl⟩) hS (fun q _ h => zAin X hS q h) (zAin X hS) (fun u31 t31 H31 locs31 ht31 hv31 hw31 hB31 hz31 hk31 hS31 => ?_)
      have hZ31 := zBack X ht31 hB31
      refine lv_iinc (v := iI (l7 + 1)) (lv' := [(7, .int (iI (l7 + 1))), (10, .int (iI l10)), (9, .int (iI l9)), (8, .int (iI l8)), (6, .int (iI l6)), (5, .int (iI l5)), (4, .int (iI l4)), (0, .ref (ad 14 0 0)), (3, .int (iI l3))]) hx hb d_15_160_190 hl (k := 3) rfl (iI_add _ 1) (by decide) rfl (fun ls hl => ?_)
      refine lv_goto (tgt := 67) hx hb (D_167 W_prog_15_method_160_code_192 1 rfl rfl rfl) (by decide) ?_
      exact hrec67 hf hZ31 hS31 (lv_sub hl [0, 4, 5, 6, 7, 8] rfl)
    · replace hf := gneg hf h30
      refine lv_aload_n hx hb (D_42 W_prog_15_method_160_code_160 9 rfl rfl) rfl (lv_at hl 7 rfl) ?_
      refine lv_bipush (v := iI 98) hx hb (D_16 W_prog_15_method_160_code_160 10 rfl rfl rfl) (by decide) ?_
      obtain ⟨r33, F33, B33, hc33, hf⟩ := gbind hf
      refine va_callv (va_runV (As := [.int (iI 98)]) (rest := []) ⟨hx, hb, hml, hown, hts⟩ (c_M_put_0 (l := l) hc33) (cwV 1 hts (gdV k_12_199 k_12_201 ks_142 k_1_9 k_12_202) rfl rfl rfl (by decide +kernel) ⟨Nat.le_of_ble_eq_true rfl, Nat.le_of_ble_eq_true rfl⟩) (zPV X hZ hS (ci := 14) (by decide) (by decide) (r := (RX14, TX14, 107)) rfl [.int (iI 98)]) rfl rfl hl.1 rfl (lv_room (Nat.le_of_ble_eq_true rfl)) (D_182 W_prog_15_method_160_code_160 12 rfl rfl rfl) ⟨Nat.le_of_ble_eq_true rfl, Nat.le_of_ble_eq_true rfl⟩) hS (fun q _ h => zAin X hS q h) (zAin X hS) (fun u33 t33 H33 locs33 ht33 hv33 hw33 hB33 hz33 hk33 hS33 => ?_)
      have hZ33 := zBack X ht33 hB33
      refine lv_iinc (v := iI (l10 + 1)) (lv' := [(10, .int (iI (l10 + 1))), (9, .int (iI l9)), (8, .int (iI l8)), (7, .int (iI l7)), (6, .int (iI l6)), (5, .int (iI l5)), (4, .int (iI l4)), (0, .ref (ad 14 0 0)), (3, .int (iI l3))]) hx hb d_15_160_175 hl (k := 0) rfl (iI_add _ 1) (by decide) rfl (fun ls hl => ?_)
      refine lv_goto (tgt := 161) hx hb (D_167 W_prog_15_method_160_code_160 18 rfl rfl rfl) (by decide) ?_
      exact ih hf hZ33 hS33 (lv_sub hl [0, 1, 2, 3, 4, 5, 6, 7, 8] rfl)

def f_M_downNote_139 (rec67 : Int → Int → Int → Int → Int → zF → zB → zO) (K : Nat) : Nat → Int → Int → Int → Int → Int → Int → Int → Int → zF → zB → zO
  | 0, _, _, _, _, _, _, _, _, _, _ => none
  | n + 1, l10, l9, l8, l7, l6, l5, l4, l3, F, B => if r32 l10 then if r32 l9 then (if l9 ≤ l10 then f_M_downNote_161 rec67 K K 0 l9 l8 l7 l6 l5 l4 l3 F B else zbind (f_M_put_0 K 35 F B) (fun r27 F27 B27 => f_M_downNote_139 rec67 K n (l10 + 1) l9 l8 l7 l6 l5 l4 l3 F27 B27)) else none else none
set_option maxHeartbeats 4000000 in
set_option maxRecDepth 100000 in
theorem b_M_downNote_139 {D : va_G} {ca : Nat → ClassId} {ad : Nat → Int → Nat → Nat} {L : List Nat} {aS vS : Nat → Nat} {A : Nat → Prop} {p : Program} {l : Launch} {e : Env} {s : State} {m : MethodId} {args : Array Value} {below : List Frame} {meth : Method} {c : Code} {K : Nat} {r : Int} {F9 : zF} {B9 : zB} (X : zX D ca L aS vS A p s m args meth c prog_15_method_160_code 11 (Option.none : Option Jvm.ClassFile.FieldType) "StaveHouseModel") {rec67 : Int → Int → Int → Int → Int → zF → zB → zO} (hrec67 : ∀ {l7 : Int} {l6 : Int} {l5 : Int} {l4 : Int} {l3 : Int} {F : zF} {B : zB} {H : Heap} {locs : List Loc} {ls : Array Slot}, rec67 l7 l6 l5 l4 l3 F B = some (r, F9, B9) → zH D ca ad lnM nM L F B A H → va_S A s.heap H locs → lv_has ls 11 [(7, .int (iI l7)), (6, .int (iI l6)), (5, .int (iI l5)), (4, .int (iI l4)), (0, .ref (ad 14 0 0)), (3, .int (iI l3))] → W p l e ({ frames := 4, cells := 0, slots := 0, locals := 85 } : Room) s m args below meth c H locs 0 0 (MQ below (Q_M_downNote D ca ad L r F9 B9 A) args s 0 0 A) (F0 m 67 ls [])) : ∀ {n : Nat} {l10 : Int} {l9 : Int} {l8 : Int} {l7 : Int} {l6 : Int} {l5 : Int} {l4 : Int} {l3 : Int} {F : zF} {B : zB} {H : Heap} {locs : List Loc} {ls : Array Slot}, f_M_downNote_139 rec67 K n l10 l9 l8 l7 l6 l5 l4 l3 F B = some (r, F9, B9) → zH D ca ad lnM nM L F B A H → va_S A s.heap H locs → lv_has ls 11 [(10, .int (iI l10)), (9, .int (iI l9)), (8, .int (iI l8)), (7, .int (iI l7)), (6, .int (iI l6)), (5, .int (iI l5)), (4, .int (iI l4)), (0, .ref (ad 14 0 0)), (3, .int (iI l3))] → W p l e ({ frames := 4, cells := 0, slots := 0, locals := 85 } : Room) s m args below meth c H locs 0 0 (MQ below (Q_M_downNote D ca ad L r F9 B9 A) args s 0 0 A) (F0 m 139 ls []) := by
  obtain ⟨hx, hb, hr, hml, hown, hts, hlk, hK, hA, hL, hX⟩ := id X
  intro n
  induction n with
  | zero =>
    intros
    rename_i hf _ _ _
    cases hf
  | succ n ih =>
    intro l10 l9 l8 l7 l6 l5 l4 l3 F B H locs ls hf hZ hS hl
    replace hf : (if r32 l10 then if r32 l9 then (if l9 ≤ l10 then f_M_downNote_161 rec67 K K 0 l9 l8 l7 l6 l5 l4 l3 F B else zbind (f_M_put_0 K 35 F B) (fun r27 F27 B27 => f_M_downNote_139 rec67 K n (l10 + 1) l9 l8 l7 l6 l5 l4 l3 F27 B27)) else none else none) = some (r, F9, B9) := hf
    refine lv_iload hx hb (D_21 W_prog_15_method_160_code_128 11 rfl rfl) (lv_at hl 0 rfl) ?_
    refine lv_iload hx hb (D_21 W_prog_15_method_160_code_128 13 rfl rfl) (lv_at hl 1 rfl) ?_
    obtain ⟨g24, hf⟩ := gif hf
    obtain ⟨g25, hf⟩ := gif hf
    refine zge (tgt := 158) hx hb g24 g25 (D_162 W_prog_15_method_160_code_128 15 rfl rfl rfl) (by decide) (fun h26 => ?_) (fun h26 => ?_)
    · replace hf := gpos hf h26
      refine lv_iconst (v := iI 0) hx hb (D_3 W_prog_15_method_160_code_128 30 rfl rfl) rfl ?_
      refine lv_istore (lv' := [(10, .int (iI 0)), (9, .int (iI l9)), (8, .int (iI l8)), (7, .int (iI l7)), (6, .int (iI l6)), (5, .int (iI l5)), (4, .int (iI l4)), (0, .ref (ad 14 0 0)), (3, .int (iI l3))]) hx hb (D_54 W_prog_15_method_160_code_128 31 rfl rfl) hl (by decide) rfl (fun ls hl => ?_)
      exact b_M_downNote_161 X hrec67 hf hZ hS (lv_sub hl [0, 1, 2, 3, 4, 5, 6, 7, 8] rfl)
    · replace hf := gneg hf h26
      refine lv_aload_n hx hb (D_42 W_prog_15_method_160_code_128 18 rfl rfl) rfl (lv_at hl 7 rfl) ?_
      refine lv_bipush (v := iI 35) hx hb (D_16 W_prog_15_method_160_code_128 19 rfl rfl rfl) (by decide) ?_
      obtain ⟨r27, F27, B27, hc27, hf⟩ := gbind hf
      refine va_callv (va_runV (As := [.int (iI 35)]) (rest := []) ⟨hx, hb, hml, hown, hts⟩ (c_M_put_0 (l := l) hc27) (cwV 1 hts (gdV k_12_199 k_12_201 ks_142 k_1_9 k_12_202) rfl rfl rfl (by decide +kernel) ⟨Nat.le_of_ble_eq_true rfl, Nat.le_of_ble_eq_true rfl⟩) (zPV X hZ hS (ci := 14) (by decide) (by decide) (r := (RX14, TX14, 107)) rfl [.int (iI 35)]) rfl rfl hl.1 rfl (lv_room (Nat.le_of_ble_eq_true rfl)) (D_182 W_prog_15_method_160_code_128 21 rfl rfl rfl) ⟨Nat.le_of_ble_eq_true rfl, Nat.le_of_ble_eq_true rfl⟩) hS (fun q _ h => zAin X hS q h) (zAin X hS) (fun u27 t27 H27 locs27 ht27 hv27 hw27 hB27 hz27 hk27 hS27 => ?_)
      have hZ27 := zBack X ht27 hB27
      refine lv_iinc (v := iI (l10 + 1)) (lv' := [(10, .int (iI (l10 + 1))), (9, .int (iI l9)), (8, .int (iI l8)), (7, .int (iI l7)), (6, .int (iI l6)), (5, .int (iI l5)), (4, .int (iI l4)), (0, .ref (ad 14 0 0)), (3, .int (iI l3))]) hx hb d_15_160_152 hl (k := 0) rfl (iI_add _ 1) (by decide) rfl (fun ls hl => ?_)
      refine lv_goto (tgt := 139) hx hb (D_167 W_prog_15_method_160_code_128 27 rfl rfl rfl) (by decide) ?_
      exact ih hf hZ27 hS27 (lv_sub hl [0, 1, 2, 3, 4, 5, 6, 7, 8] rfl)

def f_M_downNote_121 (rec67 : Int → Int → Int → Int → Int → zF → zB → zO) (K : Nat) (l9 : Int) (l8 : Int) (l7 : Int) (l6 : Int) (l5 : Int) (l4 : Int) (l3 : Int) (F : zF) (B : zB) : zO := zbind (f_String_charAt K 47 (zrm l8 7) F B) (fun r22 F22 B22 => zbind (f_M_put_0 K r22 F22 B22) (fun r23 F23 B23 => f_M_downNote_139 rec67 K K 0 l9 l8 l7 l6 l5 l4 l3 F23 B23))
set_option maxHeartbeats 4000000 in
set_option maxRecDepth 100000 in
theorem b_M_downNote_121 {D : va_G} {ca : Nat → ClassId} {ad : Nat → Int → Nat → Nat} {L : List Nat} {aS vS : Nat → Nat} {A : Nat → Prop} {p : Program} {l : Launch} {e : Env} {s : State} {m : MethodId} {args : Array Value} {below : List Frame} {meth : Method} {c : Code} {K : Nat} {r : Int} {F9 : zF} {B9 : zB} (X : zX D ca L aS vS A p s m args meth c prog_15_method_160_code 11 (Option.none : Option Jvm.ClassFile.FieldType) "StaveHouseModel") {rec67 : Int → Int → Int → Int → Int → zF → zB → zO} (hrec67 : ∀ {l7 : Int} {l6 : Int} {l5 : Int} {l4 : Int} {l3 : Int} {F : zF} {B : zB} {H : Heap} {locs : List Loc} {ls : Array Slot}, rec67 l7 l6 l5 l4 l3 F B = some (r, F9, B9) → zH D ca ad lnM nM L F B A H → va_S A s.heap H locs → lv_has ls 11 [(7, .int (iI l7)), (6, .int (iI l6)), (5, .int (iI l5)), (4, .int (iI l4)), (0, .ref (ad 14 0 0)), (3, .int (iI l3))] → W p l e ({ frames := 4, cells := 0, slots := 0, locals := 85 } : Room) s m args below meth c H locs 0 0 (MQ below (Q_M_downNote D ca ad L r F9 B9 A) args s 0 0 A) (F0 m 67 ls [])) {l9 : Int} {l8 : Int} {l7 : Int} {l6 : Int} {l5 : Int} {l4 : Int} {l3 : Int} {F : zF} {B : zB} {H : Heap} {locs : List Loc} {ls : Array Slot} (hf : f_M_downNote_121 rec67 K l9 l8 l7 l6 l5 l4 l3 F B = some (r, F9, B9)) (hZ : zH D ca ad lnM nM L F B A H) (hS : va_S A s.heap H locs) (hl : lv_has ls 11 [(9, .int (iI l9)), (8, .int (iI l8)), (7, .int (iI l7)), (6, .int (iI l6)), (5, .int (iI l5)), (4, .int (iI l4)), (0, .ref (ad 14 0 0)), (3, .int (iI l3))]) : W p l e ({ frames := 4, cells := 0, slots := 0, locals := 85 } : Room) s m args below meth c H locs 0 0 (MQ below (Q_M_downNote D ca ad L r F9 B9 A) args s 0 0 A) (F0 m 121 ls []) := by
  obtain ⟨hx, hb, hr, hml, hown, hts, hlk, hK, hA, hL, hX⟩ := id X
  replace hf : (zbind (f_String_charAt K 47 (zrm l8 7) F B) (fun r22 F22 B22 => zbind (f_M_put_0 K r22 F22 B22) (fun r23 F23 B23 => f_M_downNote_139 rec67 K K 0 l9 l8 l7 l6 l5 l4 l3 F23 B23))) = some (r, F9, B9) := hf
  refine lv_aload_n hx hb (D_42 W_prog_15_method_160_code_96 25 rfl rfl) rfl (lv_at hl 6 rfl) ?_
  refine gldcwS hx hb hown (hX.2.2.2.2.1 47 _ rfl).1 (D_19 W_prog_15_method_160_code_96 26 rfl rfl rfl) ?_
  refine lv_iload hx hb (D_21 W_prog_15_method_160_code_96 29 rfl rfl) (lv_at hl 1 rfl) ?_
  refine lv_bipush (v := iI 7) hx hb (D_16 W_prog_15_method_160_code_96 31 rfl rfl rfl) (by decide) ?_
  refine zrm_r hx hb (by decide) (D_112 W_prog_15_method_160_code_128 1 rfl rfl) ?_
  obtain ⟨r22, F22, B22, hc22, hf⟩ := gbind hf
  refine va_calli (va_runV (As := [.int (iI (zrm l8 7))]) (rest := [.ref (ad 14 0 0)]) ⟨hx, hb, hml, hown, hts⟩ (c_String_charAt (l := l) hc22) (cwV 1 hts (gdV k_10_195 k_7_134 k_7_135 k_1_11 k_7_136) rfl rfl rfl (by decide +kernel) ⟨Nat.le_of_ble_eq_true rfl, Nat.le_of_ble_eq_true rfl⟩) ⟨zBlind, zsrecv hX (by decide) hS, zAt X hZ hS [.ref (aS 47), .int (iI (zrm l8 7))]⟩ rfl rfl hl.1 rfl (lv_room (Nat.le_of_ble_eq_true rfl)) (D_182 W_prog_15_method_160_code_128 2 rfl rfl rfl) ⟨Nat.le_of_ble_eq_true rfl, Nat.le_of_ble_eq_true rfl⟩) hS (fun q _ h => zAin X hS q h) (zAin X hS) (fun p22 u22 t22 H22 locs22 ht22 hv22 hw22 hB22 hz22 hk22 hS22 => ?_)
  have hZ22 := zBack X ht22 hB22
  subst hw22
  obtain ⟨r23, F23, B23, hc23, hf⟩ := gbind hf
  refine va_callv (va_runV (As := [.int (iI r22)]) (rest := []) ⟨hx, hb, hml, hown, hts⟩ (c_M_put_0 (l := l) hc23) (cwV 1 hts (gdV k_12_199 k_12_201 ks_142 k_1_9 k_12_202) rfl rfl rfl (by decide +kernel) ⟨Nat.le_of_ble_eq_true rfl, Nat.le_of_ble_eq_true rfl⟩) (zPV X hZ22 hS22 (ci := 14) (by decide) (by decide) (r := (RX14, TX14, 107)) rfl [.int (iI r22)]) rfl rfl hl.1 rfl (lv_room (Nat.le_of_ble_eq_true rfl)) (D_182 W_prog_15_method_160_code_128 5 rfl rfl rfl) ⟨Nat.le_of_ble_eq_true rfl, Nat.le_of_ble_eq_true rfl⟩) hS22 (fun q _ h => zAin X hS22 q h) (zAin X hS22) (fun u23 t23 H23 locs23 ht23 hv23 hw23 hB23 hz23 hk23 hS23 => ?_)
  have hZ23 := zBack X ht23 hB23
  refine lv_iconst (v := iI 0) hx hb (D_3 W_prog_15_method_160_code_128 8 rfl rfl) rfl ?_
  refine lv_istore (lv' := [(10, .int (iI 0)), (9, .int (iI l9)), (8, .int (iI l8)), (7, .int (iI l7)), (6, .int (iI l6)), (5, .int (iI l5)), (4, .int (iI l4)), (0, .ref (ad 14 0 0)), (3, .int (iI l3))]) hx hb (D_54 W_prog_15_method_160_code_128 9 rfl rfl) hl (by decide) rfl (fun ls hl => ?_)
  exact b_M_downNote_139 X hrec67 hf hZ23 hS23 (lv_sub hl [0, 1, 2, 3, 4, 5, 6, 7, 8] rfl)

def f_M_downNote_67 (K : Nat) : Nat → Int → Int → Int → Int → Int → zF → zB → zO
  | 0, _, _, _, _, _, _, _ => none
  | n + 1, l7, l6, l5, l4, l3, F, B => if r32 l7 then if r32 l6 then (if l6 ≤ l7 then (if l6 ≤ 1 then f_M_downNote_208 K l6 l4 l3 F B else zbind (f_M_put_0 K 62 F B) (fun r17 F17 B17 => f_M_downNote_208 K l6 l4 l3 F17 B17)) else if 0 ≤ (F 14 0 6) ∧ (F 14 0 6) < 3 then if 0 ≤ ((6 * l5) + l7) ∧ ((6 * l5) + l7) < 24000 then (if l7 ≤ 0 then f_M_downNote_121 (f_M_downNote_67 K n) K (B 13 (F 14 0 6) 29 ((6 * l5) + l7)) (B 13 (F 14 0 6) 28 ((6 * l5) + l7)) l7 l6 l5 l4 l3 F B else zbind (f_M_put_0 K 32 F B) (fun r21 F21 B21 => f_M_downNote_121 (f_M_downNote_67 K n) K (B 13 (F 14 0 6) 29 ((6 * l5) + l7)) (B 13 (F 14 0 6) 28 ((6 * l5) + l7)) l7 l6 l5 l4 l3 F21 B21)) else none else none) else none else none
set_option maxHeartbeats 4000000 in
set_option maxRecDepth 100000 in
theorem b_M_downNote_67 {D : va_G} {ca : Nat → ClassId} {ad : Nat → Int → Nat → Nat} {L : List Nat} {aS vS : Nat → Nat} {A : Nat → Prop} {p : Program} {l : Launch} {e : Env} {s : State} {m : MethodId} {args : Array Value} {below : List Frame} {meth : Method} {c : Code} {K : Nat} {r : Int} {F9 : zF} {B9 : zB} (X : zX D ca L aS vS A p s m args meth c prog_15_method_160_code 11 (Option.none : Option Jvm.ClassFile.FieldType) "StaveHouseModel") : ∀ {n : Nat} {l7 : Int} {l6 : Int} {l5 : Int} {l4 : Int} {l3 : Int} {F : zF} {B : zB} {H : Heap} {locs : List Loc} {ls : Array Slot}, f_M_downNote_67 K n l7 l6 l5 l4 l3 F B = some (r, F9, B9) → zH D ca ad lnM nM L F B A H → va_S A s.heap H locs → lv_has ls 11 [(7, .int (iI l7)), (6, .int (iI l6)), (5, .int (iI l5)), (4, .int (iI l4)), (0, .ref (ad 14 0 0)), (3, .int (iI l3))] → W p l e ({ frames := 4, cells := 0, slots := 0, locals := 85 } : Room) s m args below meth c H locs 0 0 (MQ below (Q_M_downNote D ca ad L r F9 B9 A) args s 0 0 A) (F0 m 67 ls []) := by
  obtain ⟨hx, hb, hr, hml, hown, hts, hlk, hK, hA, hL, hX⟩ := id X
  intro n
  induction n with
  | zero =>
    intros
    rename_i hf _ _ _
    cases hf
  | succ n ih =>
    intro l7 l6 l5 l4 l3 F B H locs ls hf hZ hS hl
    replace hf : (if r32 l7 then if r32 l6 then (if l6 ≤ l7 then (if l6 ≤ 1 then f_M_downNote_208 K l6 l4 l3 F B else zbind (f_M_put_0 K 62 F B) (fun r17 F17 B17 => f_M_downNote_208 K l6 l4 l3 F17 B17)) else if 0 ≤ (F 14 0 6) ∧ (F 14 0 6) < 3 then if 0 ≤ ((6 * l5) + l7) ∧ ((6 * l5) + l7) < 24000 then (if l7 ≤ 0 then f_M_downNote_121 (f_M_downNote_67 K n) K (B 13 (F 14 0 6) 29 ((6 * l5) + l7)) (B 13 (F 14 0 6) 28 ((6 * l5) + l7)) l7 l6 l5 l4 l3 F B else zbind (f_M_put_0 K 32 F B) (fun r21 F21 B21 => f_M_downNote_121 (f_M_downNote_67 K n) K (B 13 (F 14 0 6) 29 ((6 * l5) + l7)) (B 13 (F 14 0 6) 28 ((6 * l5) + l7)) l7 l6 l5 l4 l3 F21 B21)) else none else none) else none else none) = some (r, F9, B9) := hf
    refine lv_iload hx hb (D_21 W_prog_15_method_160_code_64 3 rfl rfl) (lv_at hl 0 rfl) ?_
    refine lv_iload hx hb (D_21 W_prog_15_method_160_code_64 5 rfl rfl) (lv_at hl 1 rfl) ?_
    obtain ⟨g13, hf⟩ := gif hf
    obtain ⟨g14, hf⟩ := gif hf
    refine zge (tgt := 196) hx hb g13 g14 (D_162 W_prog_15_method_160_code_64 7 rfl rfl rfl) (by decide) (fun h15 => ?_) (fun h15 => ?_)
    · replace hf := gpos hf h15
      refine lv_iload hx hb (D_21 W_prog_15_method_160_code_192 4 rfl rfl) (lv_at hl 1 rfl) ?_
      refine lv_iconst (v := iI 1) hx hb (D_4 W_prog_15_method_160_code_192 6 rfl rfl) rfl ?_
      refine zle (tgt := 208) hx hb g14 (by decide) (D_164 W_prog_15_method_160_code_192 7 rfl rfl rfl) (by decide) (fun h16 => ?_) (fun h16 => ?_)
      · replace hf := gpos hf h16
        exact b_M_downNote_208 X hf hZ hS (lv_sub hl [1, 3, 4, 5] rfl)
      · replace hf := gneg hf h16
        refine lv_aload_n hx hb (D_42 W_prog_15_method_160_code_192 10 rfl rfl) rfl (lv_at hl 4 rfl) ?_
        refine lv_bipush (v := iI 62) hx hb (D_16 W_prog_15_method_160_code_192 11 rfl rfl rfl) (by decide) ?_
        obtain ⟨r17, F17, B17, hc17, hf⟩ := gbind hf
        refine va_callv (va_runV (As := [.int (iI 62)]) (rest := []) ⟨hx, hb, hml, hown, hts⟩ (c_M_put_0 (l := l) hc17) (cwV 1 hts (gdV k_12_199 k_12_201 ks_142 k_1_9 k_12_202) rfl rfl rfl (by decide +kernel) ⟨Nat.le_of_ble_eq_true rfl, Nat.le_of_ble_eq_true rfl⟩) (zPV X hZ hS (ci := 14) (by decide) (by decide) (r := (RX14, TX14, 107)) rfl [.int (iI 62)]) rfl rfl hl.1 rfl (lv_room (Nat.le_of_ble_eq_true rfl)) (D_182 W_prog_15_method_160_code_192 13 rfl rfl rfl) ⟨Nat.le_of_ble_eq_true rfl, Nat.le_of_ble_eq_true rfl⟩) hS (fun q _ h => zAin X hS q h) (zAin X hS) (fun u17 t17 H17 locs17 ht17 hv17 hw17 hB17 hz17 hk17 hS17 => ?_)
        have hZ17 := zBack X ht17 hB17
        exact b_M_downNote_208 X hf hZ17 hS17 (lv_sub hl [1, 3, 4, 5] rfl)
    · replace hf := gneg hf h15
      refine lv_aload_n hx hb (D_42 W_prog_15_method_160_code_64 10 rfl rfl) rfl (lv_at hl 4 rfl) ?_
      refine zget (ci := 14) (C := RX14) (T := TX14) (v := va_rf (zrf ad 13 (F 14 0 6))) (k := 6) hx hb hts inW_14 hown hK hZ (by decide) (by decide) rfl (by decide) k_11_4 rfl (D_180 W_prog_15_method_160_code_64 11 rfl rfl rfl) ?_
      obtain ⟨g18, hf⟩ := gif hf
      refine zunrf g18.1 ?_
      refine zget (ci := 13) (C := RX13) (T := TX13) (v := .ref (ad 13 (F 14 0 6) (28 + 1))) (k := 28) hx hb hts inW_13 hown hK hZ g18.1 g18.2 rfl (by decide) k_9_174 rfl (D_180 W_prog_15_method_160_code_64 14 rfl rfl rfl) ?_
      refine lv_bipush (v := iI 6) hx hb (D_16 W_prog_15_method_160_code_64 17 rfl rfl rfl) (by decide) ?_
      refine lv_iload hx hb (D_21 W_prog_15_method_160_code_64 19 rfl rfl) (lv_at hl 2 rfl) ?_
      refine zmul hx hb (D_104 W_prog_15_method_160_code_64 21 rfl rfl) ?_
      refine lv_iload hx hb (D_21 W_prog_15_method_160_code_64 22 rfl rfl) (lv_at hl 0 rfl) ?_
      refine zadd hx hb (D_96 W_prog_15_method_160_code_64 24 rfl rfl) ?_
      obtain ⟨g19, hf⟩ := gif hf
      refine zald (ci := 13) (k := 28) hx hb hK rfl hZ g18.1 g18.2 rfl (Nat.le_of_ble_eq_true rfl) g19.1 g19.2 (D_46 W_prog_15_method_160_code_64 25 rfl rfl) ?_
      refine lv_istore (lv' := [(8, .int (iI (B 13 (F 14 0 6) 28 ((6 * l5) + l7)))), (7, .int (iI l7)), (6, .int (iI l6)), (5, .int (iI l5)), (4, .int (iI l4)), (0, .ref (ad 14 0 0)), (3, .int (iI l3))]) hx hb (D_54 W_prog_15_method_160_code_64 26 rfl rfl) hl (by decide) rfl (fun ls hl => ?_)
      refine lv_aload_n hx hb (D_42 W_prog_15_method_160_code_64 28 rfl rfl) rfl (lv_at hl 5 rfl) ?_
      refine zget (ci := 14) (C := RX14) (T := TX14) (v := va_rf (zrf ad 13 (F 14 0 6))) (k := 6) hx hb hts inW_14 hown hK hZ (by decide) (by decide) rfl (by decide) k_11_4 rfl (D_180 W_prog_15_method_160_code_64 29 rfl rfl rfl) ?_
      refine zunrf g18.1 ?_
      refine zget (ci := 13) (C := RX13) (T := TX13) (v := .ref (ad 13 (F 14 0 6) (29 + 1))) (k := 29) hx hb hts inW_13 hown hK hZ g18.1 g18.2 rfl (by decide) k_9_176 rfl (D_180 W_prog_15_method_160_code_96 0 rfl rfl rfl) ?_
      refine lv_bipush (v := iI 6) hx hb (D_16 W_prog_15_method_160_code_96 3 rfl rfl rfl) (by decide) ?_
      refine lv_iload hx hb (D_21 W_prog_15_method_160_code_96 5 rfl rfl) (lv_at hl 3 rfl) ?_
      refine zmul hx hb (D_104 W_prog_15_method_160_code_96 7 rfl rfl) ?_
      refine lv_iload hx hb (D_21 W_prog_15_method_160_code_96 8 rfl rfl) (lv_at hl 1 rfl) ?_
      refine zadd hx hb (D_96 W_prog_15_method_160_code_96 10 rfl rfl) ?_
      refine zald (ci := 13) (k := 29) hx hb hK rfl hZ g18.1 g18.2 rfl (Nat.le_of_ble_eq_true rfl) g19.1 g19.2 (D_46 W_prog_15_method_160_code_96 11 rfl rfl) ?_
      refine lv_istore (lv' := [(9, .int (iI (B 13 (F 14 0 6) 29 ((6 * l5) + l7)))), (8, .int (iI (B 13 (F 14 0 6) 28 ((6 * l5) + l7)))), (7, .int (iI l7)), (6, .int (iI l6)), (5, .int (iI l5)), (4, .int (iI l4)), (0, .ref (ad 14 0 0)), (3, .int (iI l3))]) hx hb (D_54 W_prog_15_method_160_code_96 12 rfl rfl) hl (by decide) rfl (fun ls hl => ?_)
      refine lv_iload hx hb (D_21 W_prog_15_method_160_code_96 14 rfl rfl) (lv_at hl 2 rfl) ?_
      refine z0le (tgt := 121) hx hb g13 (D_158 W_prog_15_method_160_code_96 16 rfl rfl rfl) (by decide) (fun h20 => ?_) (fun h20 => ?_)
      · replace hf := gpos hf h20
        exact b_M_downNote_121 X ih hf hZ hS (lv_sub hl [0, 1, 2, 3, 4, 5, 6, 7] rfl)
      · replace hf := gneg hf h20
        refine lv_aload_n hx hb (D_42 W_prog_15_method_160_code_96 19 rfl rfl) rfl (lv_at hl 6 rfl) ?_
        refine lv_bipush (v := iI 32) hx hb (D_16 W_prog_15_method_160_code_96 20 rfl rfl rfl) (by decide) ?_
        obtain ⟨r21, F21, B21, hc21, hf⟩ := gbind hf
        refine va_callv (va_runV (As := [.int (iI 32)]) (rest := []) ⟨hx, hb, hml, hown, hts⟩ (c_M_put_0 (l := l) hc21) (cwV 1 hts (gdV k_12_199 k_12_201 ks_142 k_1_9 k_12_202) rfl rfl rfl (by decide +kernel) ⟨Nat.le_of_ble_eq_true rfl, Nat.le_of_ble_eq_true rfl⟩) (zPV X hZ hS (ci := 14) (by decide) (by decide) (r := (RX14, TX14, 107)) rfl [.int (iI 32)]) rfl rfl hl.1 rfl (lv_room (Nat.le_of_ble_eq_true rfl)) (D_182 W_prog_15_method_160_code_96 22 rfl rfl rfl) ⟨Nat.le_of_ble_eq_true rfl, Nat.le_of_ble_eq_true rfl⟩) hS (fun q _ h => zAin X hS q h) (zAin X hS) (fun u21 t21 H21 locs21 ht21 hv21 hw21 hB21 hz21 hk21 hS21 => ?_)
        have hZ21 := zBack X ht21 hB21
        exact b_M_downNote_121 X ih hf hZ21 hS21 (lv_sub hl [0, 1, 2, 3, 4, 5, 6, 7] rfl)

def f_M_downNote_64 (K : Nat) (l6 : Int) (l5 : Int) (l4 : Int) (l3 : Int) (F : zF) (B : zB) : zO := f_M_downNote_67 K K 0 l6 l5 l4 l3 F B
set_option maxHeartbeats 4000000 in
set_option maxRecDepth 100000 in
theorem b_M_downNote_64 {D : va_G} {ca : Nat → ClassId} {ad : Nat → Int → Nat → Nat} {L : List Nat} {aS vS : Nat → Nat} {A : Nat → Prop} {p : Program} {l : Launch} {e : Env} {s : State} {m : MethodId} {args : Array Value} {below : List Frame} {meth : Method} {c : Code} {K : Nat} {r : Int} {F9 : zF} {B9 : zB} (X : zX D ca L aS vS A p s m args meth c prog_15_method_160_code 11 (Option.none : Option Jvm.ClassFile.FieldType) "StaveHouseModel") {l6 : Int} {l5 : Int} {l4 : Int} {l3 : Int} {F : zF} {B : zB} {H : Heap} {locs : List Loc} {ls : Array Slot} (hf : f_M_downNote_64 K l6 l5 l4 l3 F B = some (r, F9, B9)) (hZ : zH D ca ad lnM nM L F B A H) (hS : va_S A s.heap H locs) (hl : lv_has ls 11 [(6, .int (iI l6)), (5, .int (iI l5)), (4, .int (iI l4)), (0, .ref (ad 14 0 0)), (3, .int (iI l3))]) : W p l e ({ frames := 4, cells := 0, slots := 0, locals := 85 } : Room) s m args below meth c H locs 0 0 (MQ below (Q_M_downNote D ca ad L r F9 B9 A) args s 0 0 A) (F0 m 64 ls []) := by
  obtain ⟨hx, hb, hr, hml, hown, hts, hlk, hK, hA, hL, hX⟩ := id X
  replace hf : (f_M_downNote_67 K K 0 l6 l5 l4 l3 F B) = some (r, F9, B9) := hf
  refine lv_iconst (v := iI 0) hx hb (D_3 W_prog_15_method_160_code_64 0 rfl rfl) rfl ?_
  refine lv_istore (lv' := [(7, .int (iI 0)), (6, .int (iI l6)), (5, .int (iI l5)), (4, .int (iI l4)), (0, .ref (ad 14 0 0)), (3, .int (iI l3))]) hx hb (D_54 W_prog_15_method_160_code_64 1 rfl rfl) hl (by decide) rfl (fun ls hl => ?_)
  exact b_M_downNote_67 X hf hZ hS (lv_sub hl [0, 1, 2, 3, 4, 5] rfl)

def f_M_downNote_52 (K : Nat) (l6 : Int) (l5 : Int) (l4 : Int) (l3 : Int) (F : zF) (B : zB) : zO := if r32 l6 then (if l6 ≤ 1 then f_M_downNote_64 K l6 l5 l4 l3 F B else zbind (f_M_put_0 K 60 F B) (fun r12 F12 B12 => f_M_downNote_64 K l6 l5 l4 l3 F12 B12)) else none
set_option maxHeartbeats 4000000 in
set_option maxRecDepth 100000 in
theorem b_M_downNote_52 {D : va_G} {ca : Nat → ClassId} {ad : Nat → Int → Nat → Nat} {L : List Nat} {aS vS : Nat → Nat} {A : Nat → Prop} {p : Program} {l : Launch} {e : Env} {s : State} {m : MethodId} {args : Array Value} {below : List Frame} {meth : Method} {c : Code} {K : Nat} {r : Int} {F9 : zF} {B9 : zB} (X : zX D ca L aS vS A p s m args meth c prog_15_method_160_code 11 (Option.none : Option Jvm.ClassFile.FieldType) "StaveHouseModel") {l6 : Int} {l5 : Int} {l4 : Int} {l3 : Int} {F : zF} {B : zB} {H : Heap} {locs : List Loc} {ls : Array Slot} (hf : f_M_downNote_52 K l6 l5 l4 l3 F B = some (r, F9, B9)) (hZ : zH D ca ad lnM nM L F B A H) (hS : va_S A s.heap H locs) (hl : lv_has ls 11 [(6, .int (iI l6)), (5, .int (iI l5)), (4, .int (iI l4)), (0, .ref (ad 14 0 0)), (3, .int (iI l3))]) : W p l e ({ frames := 4, cells := 0, slots := 0, locals := 85 } : Room) s m args below meth c H locs 0 0 (MQ below (Q_M_downNote D ca ad L r F9 B9 A) args s 0 0 A) (F0 m 52 ls []) := by
  obtain ⟨hx, hb, hr, hml, hown, hts, hlk, hK, hA, hL, hX⟩ := id X
  replace hf : (if r32 l6 then (if l6 ≤ 1 then f_M_downNote_64 K l6 l5 l4 l3 F B else zbind (f_M_put_0 K 60 F B) (fun r12 F12 B12 => f_M_downNote_64 K l6 l5 l4 l3 F12 B12)) else none) = some (r, F9, B9) := hf
  refine lv_iload hx hb (D_21 W_prog_15_method_160_code_32 20 rfl rfl) (lv_at hl 0 rfl) ?_
  refine lv_iconst (v := iI 1) hx hb (D_4 W_prog_15_method_160_code_32 22 rfl rfl) rfl ?_
  obtain ⟨g10, hf⟩ := gif hf
  refine zle (tgt := 64) hx hb g10 (by decide) (D_164 W_prog_15_method_160_code_32 23 rfl rfl rfl) (by decide) (fun h11 => ?_) (fun h11 => ?_)
  · replace hf := gpos hf h11
    exact b_M_downNote_64 X hf hZ hS (lv_sub hl [0, 1, 2, 3, 4] rfl)
  · replace hf := gneg hf h11
    refine lv_aload_n hx hb (D_42 W_prog_15_method_160_code_32 26 rfl rfl) rfl (lv_at hl 3 rfl) ?_
    refine lv_bipush (v := iI 60) hx hb (D_16 W_prog_15_method_160_code_32 27 rfl rfl rfl) (by decide) ?_
    obtain ⟨r12, F12, B12, hc12, hf⟩ := gbind hf
    refine va_callv (va_runV (As := [.int (iI 60)]) (rest := []) ⟨hx, hb, hml, hown, hts⟩ (c_M_put_0 (l := l) hc12) (cwV 1 hts (gdV k_12_199 k_12_201 ks_142 k_1_9 k_12_202) rfl rfl rfl (by decide +kernel) ⟨Nat.le_of_ble_eq_true rfl, Nat.le_of_ble_eq_true rfl⟩) (zPV X hZ hS (ci := 14) (by decide) (by decide) (r := (RX14, TX14, 107)) rfl [.int (iI 60)]) rfl rfl hl.1 rfl (lv_room (Nat.le_of_ble_eq_true rfl)) (D_182 W_prog_15_method_160_code_32 29 rfl rfl rfl) ⟨Nat.le_of_ble_eq_true rfl, Nat.le_of_ble_eq_true rfl⟩) hS (fun q _ h => zAin X hS q h) (zAin X hS) (fun u12 t12 H12 locs12 ht12 hv12 hw12 hB12 hz12 hk12 hS12 => ?_)
    have hZ12 := zBack X ht12 hB12
    exact b_M_downNote_64 X hf hZ12 hS12 (lv_sub hl [0, 1, 2, 3, 4] rfl)

def f_M_downNote_39 (K : Nat) (l5 : Int) (l4 : Int) (l3 : Int) (s0 : Int) (F : zF) (B : zB) : zO := if r32 s0 then (if s0 = 0 then zbind (f_M_put_0 K 114 F B) (fun r9 F9 B9 => f_M_downNote_52 K s0 l5 l4 l3 F9 B9) else f_M_downNote_52 K s0 l5 l4 l3 F B) else none
set_option maxHeartbeats 4000000 in
set_option maxRecDepth 100000 in
theorem b_M_downNote_39 {D : va_G} {ca : Nat → ClassId} {ad : Nat → Int → Nat → Nat} {L : List Nat} {aS vS : Nat → Nat} {A : Nat → Prop} {p : Program} {l : Launch} {e : Env} {s : State} {m : MethodId} {args : Array Value} {below : List Frame} {meth : Method} {c : Code} {K : Nat} {r : Int} {F9 : zF} {B9 : zB} (X : zX D ca L aS vS A p s m args meth c prog_15_method_160_code 11 (Option.none : Option Jvm.ClassFile.FieldType) "StaveHouseModel") {l5 : Int} {l4 : Int} {l3 : Int} {s0 : Int} {F : zF} {B : zB} {H : Heap} {locs : List Loc} {ls : Array Slot} (hf : f_M_downNote_39 K l5 l4 l3 s0 F B = some (r, F9, B9)) (hZ : zH D ca ad lnM nM L F B A H) (hS : va_S A s.heap H locs) (hl : lv_has ls 11 [(5, .int (iI l5)), (4, .int (iI l4)), (0, .ref (ad 14 0 0)), (3, .int (iI l3))]) : W p l e ({ frames := 4, cells := 0, slots := 0, locals := 85 } : Room) s m args below meth c H locs 0 0 (MQ below (Q_M_downNote D ca ad L r F9 B9 A) args s 0 0 A) (F0 m 39 ls [.int (iI s0)]) := by
  obtain ⟨hx, hb, hr, hml, hown, hts, hlk, hK, hA, hL, hX⟩ := id X
  replace hf : (if r32 s0 then (if s0 = 0 then zbind (f_M_put_0 K 114 F B) (fun r9 F9 B9 => f_M_downNote_52 K s0 l5 l4 l3 F9 B9) else f_M_downNote_52 K s0 l5 l4 l3 F B) else none) = some (r, F9, B9) := hf
  refine lv_istore (lv' := [(6, .int (iI s0)), (5, .int (iI l5)), (4, .int (iI l4)), (0, .ref (ad 14 0 0)), (3, .int (iI l3))]) hx hb (D_54 W_prog_15_method_160_code_32 7 rfl rfl) hl (by decide) rfl (fun ls hl => ?_)
  refine lv_iload hx hb (D_21 W_prog_15_method_160_code_32 9 rfl rfl) (lv_at hl 0 rfl) ?_
  obtain ⟨g7, hf⟩ := gif hf
  refine z0ne (tgt := 52) hx hb g7 (D_154 W_prog_15_method_160_code_32 11 rfl rfl rfl) (by decide) (fun h8 => ?_) (fun h8 => ?_)
  · replace hf := gneg hf h8
    exact b_M_downNote_52 X hf hZ hS (lv_sub hl [0, 1, 2, 3, 4] rfl)
  · replace hf := gpos hf h8
    refine lv_aload_n hx hb (D_42 W_prog_15_method_160_code_32 14 rfl rfl) rfl (lv_at hl 3 rfl) ?_
    refine lv_bipush (v := iI 114) hx hb (D_16 W_prog_15_method_160_code_32 15 rfl rfl rfl) (by decide) ?_
    obtain ⟨r9, F9, B9, hc9, hf⟩ := gbind hf
    refine va_callv (va_runV (As := [.int (iI 114)]) (rest := []) ⟨hx, hb, hml, hown, hts⟩ (c_M_put_0 (l := l) hc9) (cwV 1 hts (gdV k_12_199 k_12_201 ks_142 k_1_9 k_12_202) rfl rfl rfl (by decide +kernel) ⟨Nat.le_of_ble_eq_true rfl, Nat.le_of_ble_eq_true rfl⟩) (zPV X hZ hS (ci := 14) (by decide) (by decide) (r := (RX14, TX14, 107)) rfl [.int (iI 114)]) rfl rfl hl.1 rfl (lv_room (Nat.le_of_ble_eq_true rfl)) (D_182 W_prog_15_method_160_code_32 17 rfl rfl rfl) ⟨Nat.le_of_ble_eq_true rfl, Nat.le_of_ble_eq_true rfl⟩) hS (fun q _ h => zAin X hS q h) (zAin X hS) (fun u9 t9 H9 locs9 ht9 hv9 hw9 hB9 hz9 hk9 hS9 => ?_)
    have hZ9 := zBack X ht9 hB9
    exact b_M_downNote_52 X hf hZ9 hS9 (lv_sub hl [0, 1, 2, 3, 4] rfl)

def f_M_downNote (K : Nat) (l1 : Int) (l2 : Int) (l3 : Int) (F : zF) (B : zB) : zO := if 0 ≤ (F 14 0 6) ∧ (F 14 0 6) < 3 then zbind (f_M_sounding K (F 14 0 6) l1 l2 F B) (fun r2 F2 B2 => if r32 r2 then (if 0 ≤ r2 then if 0 ≤ (F2 14 0 6) ∧ (F2 14 0 6) < 3 then if 0 ≤ r2 ∧ r2 < 4000 then f_M_downNote_39 K r2 ((800 * l1) + l2) l3 (B2 13 (F2 14 0 6) 21 r2) F2 B2 else none else none else f_M_downNote_39 K r2 ((800 * l1) + l2) l3 0 F2 B2) else none) else none
set_option maxHeartbeats 4000000 in
set_option maxRecDepth 100000 in
theorem c_M_downNote {l : Launch} {D : va_G} {ca : Nat → ClassId} {ad : Nat → Int → Nat → Nat} {L : List Nat} {aS vS : Nat → Nat} {sz K : Nat}  {l1 : Int} {l2 : Int} {l3 : Int} {F F9 : zF} {B B9 : zB} {r : Int} (hf : f_M_downNote K l1 l2 l3 F B = some (r, F9, B9)) : Met l ({ cls := "StaveHouseModel", name := "downNote", desc := "(IIZ)V" } : Jvm.MethodName) (Cond.code ({ cls := "StaveHouseModel", name := "downNote", desc := "(IIZ)V" } : Jvm.MethodName) prog_15_method_160_code 11 (Option.none : Option Jvm.ClassFile.FieldType) :: wAll) ({ frames := 4, cells := 0, slots := 0, locals := 85 } : Room) (va_Pc [.ref (ad 14 0 0), .int (iI l1), .int (iI l2), .int (iI l3)] (zPre D ca ad lnM nM L aS vS F B sz)) (Q_M_downNote D ca ad L r F9 B9 (zA L sz)) 0 0 (zA L sz) := by
  refine zMet (Qc := Q_M_downNote D ca ad L r F9 B9) (lv := [(0, .ref (ad 14 0 0)), (1, .int (iI l1)), (2, .int (iI l2)), (3, .int (iI l3))]) (by decide) (Nat.le_of_ble_eq_true rfl) rfl (fun A p e s m below meth c ls X hZ hS hl => ?_)
  obtain ⟨hx, hb, hr, hml, hown, hts, hlk, hK, hA, hL, hX⟩ := id X
  replace hf : (if 0 ≤ (F 14 0 6) ∧ (F 14 0 6) < 3 then zbind (f_M_sounding K (F 14 0 6) l1 l2 F B) (fun r2 F2 B2 => if r32 r2 then (if 0 ≤ r2 then if 0 ≤ (F2 14 0 6) ∧ (F2 14 0 6) < 3 then if 0 ≤ r2 ∧ r2 < 4000 then f_M_downNote_39 K r2 ((800 * l1) + l2) l3 (B2 13 (F2 14 0 6) 21 r2) F2 B2 else none else none else f_M_downNote_39 K r2 ((800 * l1) + l2) l3 0 F2 B2) else none) else none) = some (r, F9, B9) := hf
  refine lv_sipush (v := iI 800) hx hb (D_17 W_prog_15_method_160_code_0 0 rfl rfl rfl) (by decide) ?_
  refine lv_iload_n hx hb (D_27 W_prog_15_method_160_code_0 3 rfl rfl) rfl (lv_at hl 1 rfl) ?_
  refine zmul hx hb (D_104 W_prog_15_method_160_code_0 4 rfl rfl) ?_
  refine lv_iload_n hx hb (D_28 W_prog_15_method_160_code_0 5 rfl rfl) rfl (lv_at hl 2 rfl) ?_
  refine zadd hx hb (D_96 W_prog_15_method_160_code_0 6 rfl rfl) ?_
  refine lv_istore (lv' := [(4, .int (iI ((800 * l1) + l2))), (0, .ref (ad 14 0 0)), (1, .int (iI l1)), (2, .int (iI l2)), (3, .int (iI l3))]) hx hb (D_54 W_prog_15_method_160_code_0 7 rfl rfl) hl (by decide) rfl (fun ls hl => ?_)
  refine lv_aload_n hx hb (D_42 W_prog_15_method_160_code_0 9 rfl rfl) rfl (lv_at hl 1 rfl) ?_
  refine zget (ci := 14) (C := RX14) (T := TX14) (v := va_rf (zrf ad 13 (F 14 0 6))) (k := 6) hx hb hts inW_14 hown hK hZ (by decide) (by decide) rfl (by decide) k_11_4 rfl (D_180 W_prog_15_method_160_code_0 10 rfl rfl rfl) ?_
  refine lv_iload_n hx hb (D_27 W_prog_15_method_160_code_0 13 rfl rfl) rfl (lv_at hl 2 rfl) ?_
  refine lv_iload_n hx hb (D_28 W_prog_15_method_160_code_0 14 rfl rfl) rfl (lv_at hl 3 rfl) ?_
  obtain ⟨g1, hf⟩ := gif hf
  refine W.eq (g2 := F0 m 15 ls [.int (iI l2), .int (iI l1), .ref (ad 13 (F 14 0 6) 0)]) (by rw [zrf_pos (ad := ad) (t := 13) g1.1]; try rfl) ?_
  obtain ⟨r2, F2, B2, hc2, hf⟩ := gbind hf
  refine va_calli (va_runS (As := [.ref (ad 13 (F 14 0 6) 0), .int (iI l1), .int (iI l2)]) (rest := []) ⟨hx, hb, hml, hown, hts⟩ (c_M_sounding (l := l) hc2) (va_cwS 3 hts (gdS k_13_199 k_13_200 k_1_9 k_13_201) rfl rfl rfl (by decide +kernel) ⟨Nat.le_of_ble_eq_true rfl, Nat.le_of_ble_eq_true rfl⟩) (zPS X hZ hS [.ref (ad 13 (F 14 0 6) 0), .int (iI l1), .int (iI l2)]) rfl rfl hl.1 rfl (lv_room (Nat.le_of_ble_eq_true rfl)) (D_184 W_prog_15_method_160_code_0 15 rfl rfl rfl) ⟨Nat.le_of_ble_eq_true rfl, Nat.le_of_ble_eq_true rfl⟩) hS (fun q _ h => zAin X hS q h) (zAin X hS) (fun p2 u2 t2 H2 locs2 ht2 hv2 hw2 hB2 hz2 hk2 hS2 => ?_)
  have hZ2 := zBack X ht2 hB2
  subst hw2
  refine lv_istore (lv' := [(5, .int (iI r2)), (4, .int (iI ((800 * l1) + l2))), (0, .ref (ad 14 0 0)), (1, .int (iI l1)), (2, .int (iI l2)), (3, .int (iI l3))]) hx hb (D_54 W_prog_15_method_160_code_0 18 rfl rfl) hl (by decide) rfl (fun ls hl => ?_)
  refine lv_iload hx hb (D_21 W_prog_15_method_160_code_0 20 rfl rfl) (lv_at hl 0 rfl) ?_
  obtain ⟨g3, hf⟩ := gif hf
  refine z0ge (tgt := 29) hx hb g3 (D_156 W_prog_15_method_160_code_0 22 rfl rfl rfl) (by decide) (fun h4 => ?_) (fun h4 => ?_)
  · replace hf := gpos hf h4
    refine lv_aload_n hx hb (D_42 W_prog_15_method_160_code_0 29 rfl rfl) rfl (lv_at hl 2 rfl) ?_
    refine zget (ci := 14) (C := RX14) (T := TX14) (v := va_rf (zrf ad 13 (F2 14 0 6))) (k := 6) hx hb hts inW_14 hown hK hZ2 (by decide) (by decide) rfl (by decide) k_11_4 rfl (D_180 W_prog_15_method_160_code_0 30 rfl rfl rfl) ?_
    obtain ⟨g5, hf⟩ := gif hf
    refine zunrf g5.1 ?_
    refine zget (ci := 13) (C := RX13) (T := TX13) (v := .ref (ad 13 (F2 14 0 6) (21 + 1))) (k := 21) hx hb hts inW_13 hown hK hZ2 g5.1 g5.2 rfl (by decide) k_9_160 rfl (D_180 W_prog_15_method_160_code_32 1 rfl rfl rfl) ?_
    refine lv_iload hx hb (D_21 W_prog_15_method_160_code_32 4 rfl rfl) (lv_at hl 0 rfl) ?_
    obtain ⟨g6, hf⟩ := gif hf
    refine zald (ci := 13) (k := 21) hx hb hK rfl hZ2 g5.1 g5.2 rfl (Nat.le_of_ble_eq_true rfl) g6.1 g6.2 (D_46 W_prog_15_method_160_code_32 6 rfl rfl) ?_
    exact b_M_downNote_39 X hf hZ2 hS2 (lv_sub hl [0, 1, 2, 5] rfl)
  · replace hf := gneg hf h4
    refine lv_iconst (v := iI 0) hx hb (D_3 W_prog_15_method_160_code_0 25 rfl rfl) rfl ?_
    refine lv_goto (tgt := 39) hx hb (D_167 W_prog_15_method_160_code_0 26 rfl rfl rfl) (by decide) ?_
    exact b_M_downNote_39 X hf hZ2 hS2 (lv_sub hl [0, 1, 2, 5] rfl)

abbrev Q_M_turn (D : va_G) (ca : Nat → ClassId) (ad : Nat → Int → Nat → Nat) (L : List Nat) (r : Int) (F : zF) (B : zB) (A : Nat → Prop) : Array Value → State → Outcome → State → Prop := va_Ql (S := Unit) (fun p _ => p = lI r) (fun _ => zPo D ca ad lnM nM L F B A) A
def f_M_turn_42 (K : Nat) (s0 : Int) (F : zF) (B : zB) : zO := some (s0, F, B)
set_option maxHeartbeats 4000000 in
set_option maxRecDepth 100000 in
theorem b_M_turn_42 {D : va_G} {ca : Nat → ClassId} {ad : Nat → Int → Nat → Nat} {L : List Nat} {aS vS : Nat → Nat} {A : Nat → Prop} {p : Program} {l : Launch} {e : Env} {s : State} {m : MethodId} {args : Array Value} {below : List Frame} {meth : Method} {c : Code} {K : Nat} {r : Int} {F9 : zF} {B9 : zB} (X : zX D ca L aS vS A p s m args meth c prog_15_method_161_code 5 (Option.some Jvm.ClassFile.FieldType.long) "StaveHouseModel") {s0 : Int} {F : zF} {B : zB} {H : Heap} {locs : List Loc} {ls : Array Slot} (hf : f_M_turn_42 K s0 F B = some (r, F9, B9)) (hZ : zH D ca ad lnM nM L F B A H) (hS : va_S A s.heap H locs) (hl : lv_has ls 5 []) : W p l e ({ frames := 1, cells := 0, slots := 0, locals := 20 } : Room) s m args below meth c H locs 0 0 (MQ below (Q_M_turn D ca ad L r F9 B9 A) args s 0 0 A) (F0 m 42 ls [.long (lI s0)]) := by
  obtain ⟨hx, hb, hr, hml, hown, hts, hlk, hK, hA, hL, hX⟩ := id X
  replace hf : (some (s0, F, B)) = some (r, F9, B9) := hf
  cases hf
  exact W.lret hx hb hr (fun t ht hW => ⟨⟨_, (), rfl, rfl, by rw [ht]; exact hZ, va_K.moved hW.alike hK⟩, hS.F ht⟩) hS.2.2 (D_173 W_prog_15_method_161_code_32 10 rfl rfl) hlk

def f_M_turn (K : Nat) (l1 : Int) (F : zF) (B : zB) : zO := zbind (f_M_turnOf K (zrm l1 12) F B) (fun r1 F1 B1 => if r32 (zdv l1 12) then (if 9 ≤ (zdv l1 12) then f_M_turn_42 K (zland (zlshl r1 ((zdv l1 12) - 9)) 4294967295) F1 B1 else f_M_turn_42 K (zlshr r1 (9 - (zdv l1 12))) F1 B1) else none)
set_option maxHeartbeats 4000000 in
set_option maxRecDepth 100000 in
theorem c_M_turn {l : Launch} {D : va_G} {ca : Nat → ClassId} {ad : Nat → Int → Nat → Nat} {L : List Nat} {aS vS : Nat → Nat} {sz K : Nat}  {l1 : Int} {F F9 : zF} {B B9 : zB} {r : Int} (hf : f_M_turn K l1 F B = some (r, F9, B9)) : Met l ({ cls := "StaveHouseModel", name := "turn", desc := "(I)J" } : Jvm.MethodName) (Cond.code ({ cls := "StaveHouseModel", name := "turn", desc := "(I)J" } : Jvm.MethodName) prog_15_method_161_code 5 (Option.some Jvm.ClassFile.FieldType.long) :: wAll) ({ frames := 1, cells := 0, slots := 0, locals := 20 } : Room) (va_Pc [.ref (ad 14 0 0), .int (iI l1)] (zPre D ca ad lnM nM L aS vS F B sz)) (Q_M_turn D ca ad L r F9 B9 (zA L sz)) 0 0 (zA L sz) := by
  refine zMet (Qc := Q_M_turn D ca ad L r F9 B9) (lv := [(0, .ref (ad 14 0 0)), (1, .int (iI l1))]) (by decide) (Nat.le_of_ble_eq_true rfl) rfl (fun A p e s m below meth c ls X hZ hS hl => ?_)
  obtain ⟨hx, hb, hr, hml, hown, hts, hlk, hK, hA, hL, hX⟩ := id X
  replace hf : (zbind (f_M_turnOf K (zrm l1 12) F B) (fun r1 F1 B1 => if r32 (zdv l1 12) then (if 9 ≤ (zdv l1 12) then f_M_turn_42 K (zland (zlshl r1 ((zdv l1 12) - 9)) 4294967295) F1 B1 else f_M_turn_42 K (zlshr r1 (9 - (zdv l1 12))) F1 B1) else none)) = some (r, F9, B9) := hf
  refine lv_iload_n hx hb (D_27 W_prog_15_method_161_code_0 0 rfl rfl) rfl (lv_at hl 1 rfl) ?_
  refine lv_bipush (v := iI 12) hx hb (D_16 W_prog_15_method_161_code_0 1 rfl rfl rfl) (by decide) ?_
  refine zrm_r hx hb (by decide) (D_112 W_prog_15_method_161_code_0 3 rfl rfl) ?_
  obtain ⟨r1, F1, B1, hc1, hf⟩ := gbind hf
  refine va_calll (va_runS (As := [.int (iI (zrm l1 12))]) (rest := []) ⟨hx, hb, hml, hown, hts⟩ (c_M_turnOf (l := l) hc1) (va_cwS 1 hts (gdS k_13_216 k_13_217 k_1_9 k_13_218) rfl rfl rfl (by decide +kernel) ⟨Nat.le_of_ble_eq_true rfl, Nat.le_of_ble_eq_true rfl⟩) (zPS X hZ hS [.int (iI (zrm l1 12))]) rfl rfl hl.1 rfl (lv_room (Nat.le_of_ble_eq_true rfl)) (D_184 W_prog_15_method_161_code_0 4 rfl rfl rfl) ⟨Nat.le_of_ble_eq_true rfl, Nat.le_of_ble_eq_true rfl⟩) hS (fun q _ h => zAin X hS q h) (zAin X hS) (fun p1 u1 t1 H1 locs1 ht1 hv1 hw1 hB1 hz1 hk1 hS1 => ?_)
  have hZ1 := zBack X ht1 hB1
  subst hw1
  refine lv_lstore_n (lv' := [(2, .long (lI r1)), (0, .ref (ad 14 0 0)), (1, .int (iI l1))]) hx hb (D_65 W_prog_15_method_161_code_0 7 rfl rfl) rfl hl (by decide) rfl (fun ls hl => ?_)
  refine lv_iload_n hx hb (D_27 W_prog_15_method_161_code_0 8 rfl rfl) rfl (lv_at hl 2 rfl) ?_
  refine lv_bipush (v := iI 12) hx hb (D_16 W_prog_15_method_161_code_0 9 rfl rfl rfl) (by decide) ?_
  refine zdv_r hx hb (by decide) (D_108 W_prog_15_method_161_code_0 11 rfl rfl) ?_
  refine lv_istore (lv' := [(4, .int (iI (zdv l1 12))), (2, .long (lI r1)), (0, .ref (ad 14 0 0)), (1, .int (iI l1))]) hx hb (D_54 W_prog_15_method_161_code_0 12 rfl rfl) hl (by decide) rfl (fun ls hl => ?_)
  refine lv_iload hx hb (D_21 W_prog_15_method_161_code_0 14 rfl rfl) (lv_at hl 0 rfl) ?_
  refine lv_bipush (v := iI 9) hx hb (D_16 W_prog_15_method_161_code_0 16 rfl rfl rfl) (by decide) ?_
  obtain ⟨g2, hf⟩ := gif hf
  refine zge (tgt := 31) hx hb g2 (by decide) (D_162 W_prog_15_method_161_code_0 18 rfl rfl rfl) (by decide) (fun h3 => ?_) (fun h3 => ?_)
  · replace hf := gpos hf h3
    refine lv_lload_n hx hb (D_32 W_prog_15_method_161_code_0 31 rfl rfl) rfl (lv_at hl 1 rfl) ?_
    refine lv_iload hx hb (D_21 W_prog_15_method_161_code_32 0 rfl rfl) (lv_at hl 0 rfl) ?_
    refine lv_bipush (v := iI 9) hx hb (D_16 W_prog_15_method_161_code_32 2 rfl rfl rfl) (by decide) ?_
    refine zsub hx hb (D_100 W_prog_15_method_161_code_32 4 rfl rfl) ?_
    refine zlshl_r hx hb (D_121 W_prog_15_method_161_code_32 5 rfl rfl) ?_
    refine lv_ldc2 hx hb hown (hts _ k_13_231) (D_20 W_prog_15_method_161_code_32 6 rfl rfl rfl) ?_
    refine W.eq (g2 := F0 m 41 ls [.long (lI 4294967295), .long (lI (zlshl r1 ((zdv l1 12) - 9)))]) rfl ?_
    refine zland_r hx hb (D_127 W_prog_15_method_161_code_32 9 rfl rfl) ?_
    exact b_M_turn_42 X hf hZ1 hS1 (lv_sub hl [] rfl)
  · replace hf := gneg hf h3
    refine lv_lload_n hx hb (D_32 W_prog_15_method_161_code_0 21 rfl rfl) rfl (lv_at hl 1 rfl) ?_
    refine lv_bipush (v := iI 9) hx hb (D_16 W_prog_15_method_161_code_0 22 rfl rfl rfl) (by decide) ?_
    refine lv_iload hx hb (D_21 W_prog_15_method_161_code_0 24 rfl rfl) (lv_at hl 0 rfl) ?_
    refine zsub hx hb (D_100 W_prog_15_method_161_code_0 26 rfl rfl) ?_
    refine zlshr_r hx hb (D_123 W_prog_15_method_161_code_0 27 rfl rfl) ?_
    refine lv_goto (tgt := 42) hx hb (D_167 W_prog_15_method_161_code_0 28 rfl rfl rfl) (by decide) ?_
    exact b_M_turn_42 X hf hZ1 hS1 (lv_sub hl [] rfl)

abbrev Q_M_level (D : va_G) (ca : Nat → ClassId) (ad : Nat → Int → Nat → Nat) (L : List Nat) (r : Int) (F : zF) (B : zB) (A : Nat → Prop) : Array Value → State → Outcome → State → Prop := va_Qi (S := Unit) (fun p _ => p = iI r) (fun _ => zPo D ca ad lnM nM L F B A) A
def f_M_level_34 (K : Nat) (s0 : Int) (F : zF) (B : zB) : zO := some (s0, F, B)
set_option maxHeartbeats 4000000 in
set_option maxRecDepth 100000 in
theorem b_M_level_34 {D : va_G} {ca : Nat → ClassId} {ad : Nat → Int → Nat → Nat} {L : List Nat} {aS vS : Nat → Nat} {A : Nat → Prop} {p : Program} {l : Launch} {e : Env} {s : State} {m : MethodId} {args : Array Value} {below : List Frame} {meth : Method} {c : Code} {K : Nat} {r : Int} {F9 : zF} {B9 : zB} (X : zX D ca L aS vS A p s m args meth c prog_15_method_164_code 2 (Option.some Jvm.ClassFile.FieldType.int) "StaveHouseModel") {s0 : Int} {F : zF} {B : zB} {H : Heap} {locs : List Loc} {ls : Array Slot} (hf : f_M_level_34 K s0 F B = some (r, F9, B9)) (hZ : zH D ca ad lnM nM L F B A H) (hS : va_S A s.heap H locs) (hl : lv_has ls 2 []) : W p l e ({ frames := 1, cells := 0, slots := 0, locals := 21 } : Room) s m args below meth c H locs 0 0 (MQ below (Q_M_level D ca ad L r F9 B9 A) args s 0 0 A) (F0 m 34 ls [.int (iI s0)]) := by
  obtain ⟨hx, hb, hr, hml, hown, hts, hlk, hK, hA, hL, hX⟩ := id X
  replace hf : (some (s0, F, B)) = some (r, F9, B9) := hf
  cases hf
  exact W.iret hx hb hr (fun t ht hW => ⟨⟨_, (), rfl, rfl, by rw [ht]; exact hZ, va_K.moved hW.alike hK⟩, hS.F ht⟩) hS.2.2 (D_172 W_prog_15_method_164_code_32 2 rfl rfl) hlk

def f_M_level (K : Nat) (l0 : Int) (l1 : Int) (F : zF) (B : zB) : zO := if r32 l0 then if r32 l1 then (if l1 ≤ l0 then (if l1 = 0 then f_M_level_34 K 0 F B else zbind (f_M_rise K l1 F B) (fun r5 F5 B5 => f_M_level_34 K (zdv (r5 * (400 - (l0 - l1))) 400) F5 B5)) else zbind (f_M_rise K l0 F B) (fun r6 F6 B6 => some (r6, F6, B6))) else none else none
set_option maxHeartbeats 4000000 in
set_option maxRecDepth 100000 in
theorem c_M_level {l : Launch} {D : va_G} {ca : Nat → ClassId} {ad : Nat → Int → Nat → Nat} {L : List Nat} {aS vS : Nat → Nat} {sz K : Nat}  {l0 : Int} {l1 : Int} {F F9 : zF} {B B9 : zB} {r : Int} (hf : f_M_level K l0 l1 F B = some (r, F9, B9)) : Met l ({ cls := "StaveHouseModel", name := "level", desc := "(II)I" } : Jvm.MethodName) (Cond.code ({ cls := "StaveHouseModel", name := "level", desc := "(II)I" } : Jvm.MethodName) prog_15_method_164_code 2 (Option.some Jvm.ClassFile.FieldType.int) :: wAll) ({ frames := 1, cells := 0, slots := 0, locals := 21 } : Room) (va_Pc [.int (iI l0), .int (iI l1)] (zPre D ca ad lnM nM L aS vS F B sz)) (Q_M_level D ca ad L r F9 B9 (zA L sz)) 0 0 (zA L sz) := by
  refine zMet (Qc := Q_M_level D ca ad L r F9 B9) (lv := [(0, .int (iI l0)), (1, .int (iI l1))]) (by decide) (Nat.le_of_ble_eq_true rfl) rfl (fun A p e s m below meth c ls X hZ hS hl => ?_)
  obtain ⟨hx, hb, hr, hml, hown, hts, hlk, hK, hA, hL, hX⟩ := id X
  replace hf : (if r32 l0 then if r32 l1 then (if l1 ≤ l0 then (if l1 = 0 then f_M_level_34 K 0 F B else zbind (f_M_rise K l1 F B) (fun r5 F5 B5 => f_M_level_34 K (zdv (r5 * (400 - (l0 - l1))) 400) F5 B5)) else zbind (f_M_rise K l0 F B) (fun r6 F6 B6 => some (r6, F6, B6))) else none else none) = some (r, F9, B9) := hf
  refine lv_iload_n hx hb (D_26 W_prog_15_method_164_code_0 0 rfl rfl) rfl (lv_at hl 0 rfl) ?_
  refine lv_iload_n hx hb (D_27 W_prog_15_method_164_code_0 1 rfl rfl) rfl (lv_at hl 1 rfl) ?_
  obtain ⟨g1, hf⟩ := gif hf
  obtain ⟨g2, hf⟩ := gif hf
  refine zge (tgt := 10) hx hb g1 g2 (D_162 W_prog_15_method_164_code_0 2 rfl rfl rfl) (by decide) (fun h3 => ?_) (fun h3 => ?_)
  · replace hf := gpos hf h3
    refine lv_iload_n hx hb (D_27 W_prog_15_method_164_code_0 10 rfl rfl) rfl (lv_at hl 1 rfl) ?_
    refine z0ne (tgt := 18) hx hb g2 (D_154 W_prog_15_method_164_code_0 11 rfl rfl rfl) (by decide) (fun h4 => ?_) (fun h4 => ?_)
    · replace hf := gneg hf h4
      refine lv_iload_n hx hb (D_27 W_prog_15_method_164_code_0 18 rfl rfl) rfl (lv_at hl 1 rfl) ?_
      obtain ⟨r5, F5, B5, hc5, hf⟩ := gbind hf
      refine va_calli (va_runS (As := [.int (iI l1)]) (rest := []) ⟨hx, hb, hml, hown, hts⟩ (c_M_rise (l := l) hc5) (va_cwS 1 hts (gdS k_13_238 k_13_239 k_1_9 k_14_0) rfl rfl rfl (by decide +kernel) ⟨Nat.le_of_ble_eq_true rfl, Nat.le_of_ble_eq_true rfl⟩) (zPS X hZ hS [.int (iI l1)]) rfl rfl hl.1 rfl (lv_room (Nat.le_of_ble_eq_true rfl)) (D_184 W_prog_15_method_164_code_0 19 rfl rfl rfl) ⟨Nat.le_of_ble_eq_true rfl, Nat.le_of_ble_eq_true rfl⟩) hS (fun q _ h => zAin X hS q h) (zAin X hS) (fun p5 u5 t5 H5 locs5 ht5 hv5 hw5 hB5 hz5 hk5 hS5 => ?_)
      have hZ5 := zBack X ht5 hB5
      subst hw5
      refine lv_sipush (v := iI 400) hx hb (D_17 W_prog_15_method_164_code_0 22 rfl rfl rfl) (by decide) ?_
      refine lv_iload_n hx hb (D_26 W_prog_15_method_164_code_0 25 rfl rfl) rfl (lv_at hl 0 rfl) ?_
      refine lv_iload_n hx hb (D_27 W_prog_15_method_164_code_0 26 rfl rfl) rfl (lv_at hl 1 rfl) ?_
      refine zsub hx hb (D_100 W_prog_15_method_164_code_0 27 rfl rfl) ?_
      refine zsub hx hb (D_100 W_prog_15_method_164_code_0 28 rfl rfl) ?_
      refine zmul hx hb (D_104 W_prog_15_method_164_code_0 29 rfl rfl) ?_
      refine lv_sipush (v := iI 400) hx hb (D_17 W_prog_15_method_164_code_0 30 rfl rfl rfl) (by decide) ?_
      refine zdv_r hx hb (by decide) (D_108 W_prog_15_method_164_code_32 1 rfl rfl) ?_
      exact b_M_level_34 X hf hZ5 hS5 (lv_sub hl [] rfl)
    · replace hf := gpos hf h4
      refine lv_iconst (v := iI 0) hx hb (D_3 W_prog_15_method_164_code_0 14 rfl rfl) rfl ?_
      refine lv_goto (tgt := 34) hx hb (D_167 W_prog_15_method_164_code_0 15 rfl rfl rfl) (by decide) ?_
      exact b_M_level_34 X hf hZ hS (lv_sub hl [] rfl)
  · replace hf := gneg hf h3
    refine lv_iload_n hx hb (D_26 W_prog_15_method_164_code_0 5 rfl rfl) rfl (lv_at hl 0 rfl) ?_
    obtain ⟨r6, F6, B6, hc6, hf⟩ := gbind hf
    refine va_calli (va_runS (As := [.int (iI l0)]) (rest := []) ⟨hx, hb, hml, hown, hts⟩ (c_M_rise (l := l) hc6) (va_cwS 1 hts (gdS k_13_238 k_13_239 k_1_9 k_14_0) rfl rfl rfl (by decide +kernel) ⟨Nat.le_of_ble_eq_true rfl, Nat.le_of_ble_eq_true rfl⟩) (zPS X hZ hS [.int (iI l0)]) rfl rfl hl.1 rfl (lv_room (Nat.le_of_ble_eq_true rfl)) (D_184 W_prog_15_method_164_code_0 6 rfl rfl rfl) ⟨Nat.le_of_ble_eq_true rfl, Nat.le_of_ble_eq_true rfl⟩) hS (fun q _ h => zAin X hS q h) (zAin X hS) (fun p6 u6 t6 H6 locs6 ht6 hv6 hw6 hB6 hz6 hk6 hS6 => ?_)
    have hZ6 := zBack X ht6 hB6
    subst hw6
    cases hf
    exact W.iret hx hb hr (fun t ht hW => ⟨⟨_, (), rfl, rfl, by rw [ht]; exact hZ6, va_K.moved hW.alike hK⟩, hS6.F ht⟩) hS6.2.2 (D_172 W_prog_15_method_164_code_0 9 rfl rfl) hlk

abbrev Q_M_classesAt (D : va_G) (ca : Nat → ClassId) (ad : Nat → Int → Nat → Nat) (L : List Nat) (r : Int) (F : zF) (B : zB) (A : Nat → Prop) : Array Value → State → Outcome → State → Prop := va_Qv (S := Unit) (fun _ => True) (fun _ => zPo D ca ad lnM nM L F B A) A
def f_M_classesAt_168 (rec14 : Int → Int → Int → zF → zB → zO) (rec47 : Int → Int → Int → Int → Int → zF → zB → zO) (K : Nat) (l5 : Int) (l4 : Int) (l3 : Int) (l1 : Int) (l2 : Int) (F : zF) (B : zB) : zO := rec47 (l5 + 1) l4 l3 l1 l2 F B
set_option maxHeartbeats 4000000 in
set_option maxRecDepth 100000 in
theorem b_M_classesAt_168 {D : va_G} {ca : Nat → ClassId} {ad : Nat → Int → Nat → Nat} {L : List Nat} {aS vS : Nat → Nat} {A : Nat → Prop} {p : Program} {l : Launch} {e : Env} {s : State} {m : MethodId} {args : Array Value} {below : List Frame} {meth : Method} {c : Code} {K : Nat} {r : Int} {F9 : zF} {B9 : zB} (X : zX D ca L aS vS A p s m args meth c prog_15_method_173_code 7 (Option.none : Option Jvm.ClassFile.FieldType) "StaveHouseModel") {rec14 : Int → Int → Int → zF → zB → zO} {rec47 : Int → Int → Int → Int → Int → zF → zB → zO} (hrec14 : ∀ {l3 : Int} {l1 : Int} {l2 : Int} {F : zF} {B : zB} {H : Heap} {locs : List Loc} {ls : Array Slot}, rec14 l3 l1 l2 F B = some (r, F9, B9) → zH D ca ad lnM nM L F B A H → va_S A s.heap H locs → lv_has ls 7 [(3, .int (iI l3)), (0, .ref (ad 14 0 0)), (1, .ref (ad 13 l1 0)), (2, .int (iI l2))] → W p l e ({ frames := 1, cells := 0, slots := 0, locals := 23 } : Room) s m args below meth c H locs 0 0 (MQ below (Q_M_classesAt D ca ad L r F9 B9 A) args s 0 0 A) (F0 m 14 ls [])) (hrec47 : ∀ {l5 : Int} {l4 : Int} {l3 : Int} {l1 : Int} {l2 : Int} {F : zF} {B : zB} {H : Heap} {locs : List Loc} {ls : Array Slot}, rec47 l5 l4 l3 l1 l2 F B = some (r, F9, B9) → zH D ca ad lnM nM L F B A H → va_S A s.heap H locs → lv_has ls 7 [(5, .int (iI l5)), (4, .int (iI l4)), (3, .int (iI l3)), (0, .ref (ad 14 0 0)), (1, .ref (ad 13 l1 0)), (2, .int (iI l2))] → W p l e ({ frames := 1, cells := 0, slots := 0, locals := 23 } : Room) s m args below meth c H locs 0 0 (MQ below (Q_M_classesAt D ca ad L r F9 B9 A) args s 0 0 A) (F0 m 47 ls [])) {l5 : Int} {l4 : Int} {l3 : Int} {l1 : Int} {l2 : Int} {F : zF} {B : zB} {H : Heap} {locs : List Loc} {ls : Array Slot} (hf : f_M_classesAt_168 rec14 rec47 K l5 l4 l3 l1 l2 F B = some (r, F9, B9)) (hZ : zH D ca ad lnM nM L F B A H) (hS : va_S A s.heap H locs) (hl : lv_has ls 7 [(5, .int (iI l5)), (4, .int (iI l4)), (3, .int (iI l3)), (0, .ref (ad 14 0 0)), (1, .ref (ad 13 l1 0)), (2, .int (iI l2))]) : W p l e ({ frames := 1, cells := 0, slots := 0, locals := 23 } : Room) s m args below meth c H locs 0 0 (MQ below (Q_M_classesAt D ca ad L r F9 B9 A) args s 0 0 A) (F0 m 168 ls []) := by
  obtain ⟨hx, hb, hr, hml, hown, hts, hlk, hK, hA, hL, hX⟩ := id X
  replace hf : (rec47 (l5 + 1) l4 l3 l1 l2 F B) = some (r, F9, B9) := hf
  refine lv_iinc (v := iI (l5 + 1)) (lv' := [(5, .int (iI (l5 + 1))), (4, .int (iI l4)), (3, .int (iI l3)), (0, .ref (ad 14 0 0)), (1, .ref (ad 13 l1 0)), (2, .int (iI l2))]) hx hb d_15_173_168 hl (k := 0) rfl (iI_add _ 1) (by decide) rfl (fun ls hl => ?_)
  refine lv_goto (tgt := 47) hx hb (D_167 W_prog_15_method_173_code_160 11 rfl rfl rfl) (by decide) ?_
  exact hrec47 hf hZ hS (lv_sub hl [0, 1, 2, 3, 4, 5] rfl)

def f_M_classesAt_140 (rec14 : Int → Int → Int → zF → zB → zO) (rec47 : Int → Int → Int → Int → Int → zF → zB → zO) (K : Nat) (l6 : Int) (l5 : Int) (l4 : Int) (l3 : Int) (l1 : Int) (l2 : Int) (F : zF) (B : zB) : zO := if 0 ≤ l1 ∧ l1 < 3 then if 0 ≤ l5 ∧ l5 < 24000 then f_M_classesAt_168 rec14 rec47 K l5 l4 l3 l1 l2 (zup3 (zup3 (zup3 F 14 0 101 l6) 14 0 102 (B 13 l1 28 l5)) 14 0 103 (B 13 l1 29 l5)) B else none else none
set_option maxHeartbeats 4000000 in
set_option maxRecDepth 100000 in
theorem b_M_classesAt_140 {D : va_G} {ca : Nat → ClassId} {ad : Nat → Int → Nat → Nat} {L : List Nat} {aS vS : Nat → Nat} {A : Nat → Prop} {p : Program} {l : Launch} {e : Env} {s : State} {m : MethodId} {args : Array Value} {below : List Frame} {meth : Method} {c : Code} {K : Nat} {r : Int} {F9 : zF} {B9 : zB} (X : zX D ca L aS vS A p s m args meth c prog_15_method_173_code 7 (Option.none : Option Jvm.ClassFile.FieldType) "StaveHouseModel") {rec14 : Int → Int → Int → zF → zB → zO} {rec47 : Int → Int → Int → Int → Int → zF → zB → zO} (hrec14 : ∀ {l3 : Int} {l1 : Int} {l2 : Int} {F : zF} {B : zB} {H : Heap} {locs : List Loc} {ls : Array Slot}, rec14 l3 l1 l2 F B = some (r, F9, B9) → zH D ca ad lnM nM L F B A H → va_S A s.heap H locs → lv_has ls 7 [(3, .int (iI l3)), (0, .ref (ad 14 0 0)), (1, .ref (ad 13 l1 0)), (2, .int (iI l2))] → W p l e ({ frames := 1, cells := 0, slots := 0, locals := 23 } : Room) s m args below meth c H locs 0 0 (MQ below (Q_M_classesAt D ca ad L r F9 B9 A) args s 0 0 A) (F0 m 14 ls [])) (hrec47 : ∀ {l5 : Int} {l4 : Int} {l3 : Int} {l1 : Int} {l2 : Int} {F : zF} {B : zB} {H : Heap} {locs : List Loc} {ls : Array Slot}, rec47 l5 l4 l3 l1 l2 F B = some (r, F9, B9) → zH D ca ad lnM nM L F B A H → va_S A s.heap H locs → lv_has ls 7 [(5, .int (iI l5)), (4, .int (iI l4)), (3, .int (iI l3)), (0, .ref (ad 14 0 0)), (1, .ref (ad 13 l1 0)), (2, .int (iI l2))] → W p l e ({ frames := 1, cells := 0, slots := 0, locals := 23 } : Room) s m args below meth c H locs 0 0 (MQ below (Q_M_classesAt D ca ad L r F9 B9 A) args s 0 0 A) (F0 m 47 ls [])) {l6 : Int} {l5 : Int} {l4 : Int} {l3 : Int} {l1 : Int} {l2 : Int} {F : zF} {B : zB} {H : Heap} {locs : List Loc} {ls : Array Slot} (hf : f_M_classesAt_140 rec14 rec47 K l6 l5 l4 l3 l1 l2 F B = some (r, F9, B9)) (hZ : zH D ca ad lnM nM L F B A H) (hS : va_S A s.heap H locs) (hl : lv_has ls 7 [(6, .int (iI l6)), (5, .int (iI l5)), (4, .int (iI l4)), (3, .int (iI l3)), (0, .ref (ad 14 0 0)), (1, .ref (ad 13 l1 0)), (2, .int (iI l2))]) : W p l e ({ frames := 1, cells := 0, slots := 0, locals := 23 } : Room) s m args below meth c H locs 0 0 (MQ below (Q_M_classesAt D ca ad L r F9 B9 A) args s 0 0 A) (F0 m 140 ls []) := by
  obtain ⟨hx, hb, hr, hml, hown, hts, hlk, hK, hA, hL, hX⟩ := id X
  replace hf : (if 0 ≤ l1 ∧ l1 < 3 then if 0 ≤ l5 ∧ l5 < 24000 then f_M_classesAt_168 rec14 rec47 K l5 l4 l3 l1 l2 (zup3 (zup3 (zup3 F 14 0 101 l6) 14 0 102 (B 13 l1 28 l5)) 14 0 103 (B 13 l1 29 l5)) B else none else none) = some (r, F9, B9) := hf
  refine lv_aload_n hx hb (D_42 W_prog_15_method_173_code_128 12 rfl rfl) rfl (lv_at hl 4 rfl) ?_
  refine lv_iload hx hb (D_21 W_prog_15_method_173_code_128 13 rfl rfl) (lv_at hl 0 rfl) ?_
  refine zput (ci := 14) (C := RX14) (T := TX14) (k := 101) (v := l6) (w := .int (iI l6)) hx hb hts inW_14 tyX14 tyX14_ok nmX14 hown hK hZ hS (by decide) (by decide) rfl (by decide) k_11_99 rfl (fun G h => congrArg (fun q => Value.int (iI q)) h) rfl rfl (zno (by decide)) (D_181 W_prog_15_method_173_code_128 15 rfl rfl rfl) (fun H23 locs23 hZ23 hS23 => ?_)
  refine lv_aload_n hx hb (D_42 W_prog_15_method_173_code_128 18 rfl rfl) rfl (lv_at hl 4 rfl) ?_
  refine lv_aload_n hx hb (D_43 W_prog_15_method_173_code_128 19 rfl rfl) rfl (lv_at hl 5 rfl) ?_
  obtain ⟨g24, hf⟩ := gif hf
  refine zget (ci := 13) (C := RX13) (T := TX13) (v := .ref (ad 13 l1 (28 + 1))) (k := 28) hx hb hts inW_13 hown hK hZ23 g24.1 g24.2 rfl (by decide) k_9_174 rfl (D_180 W_prog_15_method_173_code_128 20 rfl rfl rfl) ?_
  refine lv_iload hx hb (D_21 W_prog_15_method_173_code_128 23 rfl rfl) (lv_at hl 1 rfl) ?_
  obtain ⟨g25, hf⟩ := gif hf
  refine zald (ci := 13) (k := 28) hx hb hK rfl hZ23 g24.1 g24.2 rfl (Nat.le_of_ble_eq_true rfl) g25.1 g25.2 (D_46 W_prog_15_method_173_code_128 25 rfl rfl) ?_
  refine zput (ci := 14) (C := RX14) (T := TX14) (k := 102) (v := (B 13 l1 28 l5)) (w := .int (iI (B 13 l1 28 l5))) hx hb hts inW_14 tyX14 tyX14_ok nmX14 hown hK hZ23 hS23 (by decide) (by decide) rfl (by decide) k_11_100 rfl (fun G h => congrArg (fun q => Value.int (iI q)) h) rfl rfl (zno (by decide)) (D_181 W_prog_15_method_173_code_128 26 rfl rfl rfl) (fun H26 locs26 hZ26 hS26 => ?_)
  refine lv_aload_n hx hb (D_42 W_prog_15_method_173_code_128 29 rfl rfl) rfl (lv_at hl 4 rfl) ?_
  refine lv_aload_n hx hb (D_43 W_prog_15_method_173_code_128 30 rfl rfl) rfl (lv_at hl 5 rfl) ?_
  refine zget (ci := 13) (C := RX13) (T := TX13) (v := .ref (ad 13 l1 (29 + 1))) (k := 29) hx hb hts inW_13 hown hK hZ26 g24.1 g24.2 rfl (by decide) k_9_176 rfl (D_180 W_prog_15_method_173_code_128 31 rfl rfl rfl) ?_
  refine lv_iload hx hb (D_21 W_prog_15_method_173_code_160 2 rfl rfl) (lv_at hl 1 rfl) ?_
  refine zald (ci := 13) (k := 29) hx hb hK rfl hZ26 g24.1 g24.2 rfl (Nat.le_of_ble_eq_true rfl) g25.1 g25.2 (D_46 W_prog_15_method_173_code_160 4 rfl rfl) ?_
  refine zput (ci := 14) (C := RX14) (T := TX14) (k := 103) (v := (B 13 l1 29 l5)) (w := .int (iI (B 13 l1 29 l5))) hx hb hts inW_14 tyX14 tyX14_ok nmX14 hown hK hZ26 hS26 (by decide) (by decide) rfl (by decide) k_11_101 rfl (fun G h => congrArg (fun q => Value.int (iI q)) h) rfl rfl (zno (by decide)) (D_181 W_prog_15_method_173_code_160 5 rfl rfl rfl) (fun H27 locs27 hZ27 hS27 => ?_)
  exact b_M_classesAt_168 X hrec14 hrec47 hf hZ27 hS27 (lv_sub hl [1, 2, 3, 4, 5, 6] rfl)

def f_M_classesAt_47 (rec14 : Int → Int → Int → zF → zB → zO) (K : Nat) : Nat → Int → Int → Int → Int → Int → zF → zB → zO
  | 0, _, _, _, _, _, _, _ => none
  | n + 1, l5, l4, l3, l1, l2, F, B => if 0 ≤ l1 ∧ l1 < 3 then if 0 ≤ l4 ∧ l4 < 4000 then if r32 l5 then if r32 ((6 * l4) + (B 13 l1 21 l4)) then (if ((6 * l4) + (B 13 l1 21 l4)) ≤ l5 then rec14 (l3 + 1) l1 l2 F B else if 0 ≤ l5 ∧ l5 < 24000 then zbind (f_M_classOf K (zrm (B 13 l1 28 l5) 7) (B 13 l1 29 l5) F B) (fun r14 F14 B14 => zbind (f_M_tone K (B14 13 l1 28 l5) (B14 13 l1 29 l5) F14 B14) (fun r15 F15 B15 => if r32 r15 then if r32 (F15 14 0 101) then (if (F15 14 0 101) < r15 then f_M_classesAt_168 rec14 (f_M_classesAt_47 rec14 K n) K l5 l4 l3 l1 l2 F15 B15 else (if r15 = (F15 14 0 101) then if r32 (B15 13 l1 28 l5) then if r32 (F15 14 0 102) then (if (B15 13 l1 28 l5) < (F15 14 0 102) then f_M_classesAt_140 rec14 (f_M_classesAt_47 rec14 K n) K r15 l5 l4 l3 l1 l2 F15 B15 else f_M_classesAt_168 rec14 (f_M_classesAt_47 rec14 K n) K l5 l4 l3 l1 l2 F15 B15) else none else none else f_M_classesAt_140 rec14 (f_M_classesAt_47 rec14 K n) K r15 l5 l4 l3 l1 l2 F15 B15)) else none else none)) else none) else none else none else none else none
set_option maxHeartbeats 4000000 in
set_option maxRecDepth 100000 in
theorem b_M_classesAt_47 {D : va_G} {ca : Nat → ClassId} {ad : Nat → Int → Nat → Nat} {L : List Nat} {aS vS : Nat → Nat} {A : Nat → Prop} {p : Program} {l : Launch} {e : Env} {s : State} {m : MethodId} {args : Array Value} {below : List Frame} {meth : Method} {c : Code} {K : Nat} {r : Int} {F9 : zF} {B9 : zB} (X : zX D ca L aS vS A p s m args meth c prog_15_method_173_code 7 (Option.none : Option Jvm.ClassFile.FieldType) "StaveHouseModel") {rec14 : Int → Int → Int → zF → zB → zO} (hrec14 : ∀ {l3 : Int} {l1 : Int} {l2 : Int} {F : zF} {B : zB} {H : Heap} {locs : List Loc} {ls : Array Slot}, rec14 l3 l1 l2 F B = some (r, F9, B9) → zH D ca ad lnM nM L F B A H → va_S A s.heap H locs → lv_has ls 7 [(3, .int (iI l3)), (0, .ref (ad 14 0 0)), (1, .ref (ad 13 l1 0)), (2, .int (iI l2))] → W p l e ({ frames := 1, cells := 0, slots := 0, locals := 23 } : Room) s m args below meth c H locs 0 0 (MQ below (Q_M_classesAt D ca ad L r F9 B9 A) args s 0 0 A) (F0 m 14 ls [])) : ∀ {n : Nat} {l5 : Int} {l4 : Int} {l3 : Int} {l1 : Int} {l2 : Int} {F : zF} {B : zB} {H : Heap} {locs : List Loc} {ls : Array Slot}, f_M_classesAt_47 rec14 K n l5 l4 l3 l1 l2 F B = some (r, F9, B9) → zH D ca ad lnM nM L F B A H → va_S A s.heap H locs → lv_has ls 7 [(5, .int (iI l5)), (4, .int (iI l4)), (3, .int (iI l3)), (0, .ref (ad 14 0 0)), (1, .ref (ad 13 l1 0)), (2, .int (iI l2))] → W p l e ({ frames := 1, cells := 0, slots := 0, locals := 23 } : Room) s m args below meth c H locs 0 0 (MQ below (Q_M_classesAt D ca ad L r F9 B9 A) args s 0 0 A) (F0 m 47 ls []) := by
  obtain ⟨hx, hb, hr, hml, hown, hts, hlk, hK, hA, hL, hX⟩ := id X
  intro n
  induction n with
  | zero =>
    intros
    rename_i hf _ _ _
    cases hf
  | succ n ih =>
    intro l5 l4 l3 l1 l2 F B H locs ls hf hZ hS hl
    replace hf : (if 0 ≤ l1 ∧ l1 < 3 then if 0 ≤ l4 ∧ l4 < 4000 then if r32 l5 then if r32 ((6 * l4) + (B 13 l1 21 l4)) then (if ((6 * l4) + (B 13 l1 21 l4)) ≤ l5 then rec14 (l3 + 1) l1 l2 F B else if 0 ≤ l5 ∧ l5 < 24000 then zbind (f_M_classOf K (zrm (B 13 l1 28 l5) 7) (B 13 l1 29 l5) F B) (fun r14 F14 B14 => zbind (f_M_tone K (B14 13 l1 28 l5) (B14 13 l1 29 l5) F14 B14) (fun r15 F15 B15 => if r32 r15 then if r32 (F15 14 0 101) then (if (F15 14 0 101) < r15 then f_M_classesAt_168 rec14 (f_M_classesAt_47 rec14 K n) K l5 l4 l3 l1 l2 F15 B15 else (if r15 = (F15 14 0 101) then if r32 (B15 13 l1 28 l5) then if r32 (F15 14 0 102) then (if (B15 13 l1 28 l5) < (F15 14 0 102) then f_M_classesAt_140 rec14 (f_M_classesAt_47 rec14 K n) K r15 l5 l4 l3 l1 l2 F15 B15 else f_M_classesAt_168 rec14 (f_M_classesAt_47 rec14 K n) K l5 l4 l3 l1 l2 F15 B15) else none else none else f_M_classesAt_140 rec14 (f_M_classesAt_47 rec14 K n) K r15 l5 l4 l3 l1 l2 F15 B15)) else none else none)) else none) else none else none else none else none) = some (r, F9, B9) := hf
    refine lv_iload hx hb (D_21 W_prog_15_method_173_code_32 15 rfl rfl) (lv_at hl 0 rfl) ?_
    refine lv_bipush (v := iI 6) hx hb (D_16 W_prog_15_method_173_code_32 17 rfl rfl rfl) (by decide) ?_
    refine lv_iload hx hb (D_21 W_prog_15_method_173_code_32 19 rfl rfl) (lv_at hl 1 rfl) ?_
    refine zmul hx hb (D_104 W_prog_15_method_173_code_32 21 rfl rfl) ?_
    refine lv_aload_n hx hb (D_43 W_prog_15_method_173_code_32 22 rfl rfl) rfl (lv_at hl 4 rfl) ?_
    obtain ⟨g8, hf⟩ := gif hf
    refine zget (ci := 13) (C := RX13) (T := TX13) (v := .ref (ad 13 l1 (21 + 1))) (k := 21) hx hb hts inW_13 hown hK hZ g8.1 g8.2 rfl (by decide) k_9_160 rfl (D_180 W_prog_15_method_173_code_32 23 rfl rfl rfl) ?_
    refine lv_iload hx hb (D_21 W_prog_15_method_173_code_32 26 rfl rfl) (lv_at hl 1 rfl) ?_
    obtain ⟨g9, hf⟩ := gif hf
    refine zald (ci := 13) (k := 21) hx hb hK rfl hZ g8.1 g8.2 rfl (Nat.le_of_ble_eq_true rfl) g9.1 g9.2 (D_46 W_prog_15_method_173_code_32 28 rfl rfl) ?_
    refine zadd hx hb (D_96 W_prog_15_method_173_code_32 29 rfl rfl) ?_
    obtain ⟨g10, hf⟩ := gif hf
    obtain ⟨g11, hf⟩ := gif hf
    refine zge (tgt := 174) hx hb g10 g11 (D_162 W_prog_15_method_173_code_32 30 rfl rfl rfl) (by decide) (fun h12 => ?_) (fun h12 => ?_)
    · replace hf := gpos hf h12
      refine lv_iinc (v := iI (l3 + 1)) (lv' := [(3, .int (iI (l3 + 1))), (5, .int (iI l5)), (4, .int (iI l4)), (0, .ref (ad 14 0 0)), (1, .ref (ad 13 l1 0)), (2, .int (iI l2))]) hx hb d_15_173_174 hl (k := 2) rfl (iI_add _ 1) (by decide) rfl (fun ls hl => ?_)
      refine lv_goto (tgt := 14) hx hb (D_167 W_prog_15_method_173_code_160 17 rfl rfl rfl) (by decide) ?_
      exact hrec14 hf hZ hS (lv_sub hl [0, 3, 4, 5] rfl)
    · replace hf := gneg hf h12
      refine lv_aload_n hx hb (D_42 W_prog_15_method_173_code_64 1 rfl rfl) rfl (lv_at hl 3 rfl) ?_
      refine lv_aload_n hx hb (D_43 W_prog_15_method_173_code_64 2 rfl rfl) rfl (lv_at hl 4 rfl) ?_
      refine zget (ci := 13) (C := RX13) (T := TX13) (v := .ref (ad 13 l1 (28 + 1))) (k := 28) hx hb hts inW_13 hown hK hZ g8.1 g8.2 rfl (by decide) k_9_174 rfl (D_180 W_prog_15_method_173_code_64 3 rfl rfl rfl) ?_
      refine lv_iload hx hb (D_21 W_prog_15_method_173_code_64 6 rfl rfl) (lv_at hl 0 rfl) ?_
      obtain ⟨g13, hf⟩ := gif hf
      refine zald (ci := 13) (k := 28) hx hb hK rfl hZ g8.1 g8.2 rfl (Nat.le_of_ble_eq_true rfl) g13.1 g13.2 (D_46 W_prog_15_method_173_code_64 8 rfl rfl) ?_
      refine lv_bipush (v := iI 7) hx hb (D_16 W_prog_15_method_173_code_64 9 rfl rfl rfl) (by decide) ?_
      refine zrm_r hx hb (by decide) (D_112 W_prog_15_method_173_code_64 11 rfl rfl) ?_
      refine lv_aload_n hx hb (D_43 W_prog_15_method_173_code_64 12 rfl rfl) rfl (lv_at hl 4 rfl) ?_
      refine zget (ci := 13) (C := RX13) (T := TX13) (v := .ref (ad 13 l1 (29 + 1))) (k := 29) hx hb hts inW_13 hown hK hZ g8.1 g8.2 rfl (by decide) k_9_176 rfl (D_180 W_prog_15_method_173_code_64 13 rfl rfl rfl) ?_
      refine lv_iload hx hb (D_21 W_prog_15_method_173_code_64 16 rfl rfl) (lv_at hl 0 rfl) ?_
      refine zald (ci := 13) (k := 29) hx hb hK rfl hZ g8.1 g8.2 rfl (Nat.le_of_ble_eq_true rfl) g13.1 g13.2 (D_46 W_prog_15_method_173_code_64 18 rfl rfl) ?_
      obtain ⟨r14, F14, B14, hc14, hf⟩ := gbind hf
      refine va_callv (va_runV (As := [.int (iI (zrm (B 13 l1 28 l5) 7)), .int (iI (B 13 l1 29 l5))]) (rest := []) ⟨hx, hb, hml, hown, hts⟩ (c_M_classOf (l := l) hc14) (cwV 2 hts (gdV k_14_25 k_14_27 ks_190 k_1_9 k_14_28) rfl rfl rfl (by decide +kernel) ⟨Nat.le_of_ble_eq_true rfl, Nat.le_of_ble_eq_true rfl⟩) (zPV X hZ hS (ci := 14) (by decide) (by decide) (r := (RX14, TX14, 107)) rfl [.int (iI (zrm (B 13 l1 28 l5) 7)), .int (iI (B 13 l1 29 l5))]) rfl rfl hl.1 rfl (lv_room (Nat.le_of_ble_eq_true rfl)) (D_182 W_prog_15_method_173_code_64 19 rfl rfl rfl) ⟨Nat.le_of_ble_eq_true rfl, Nat.le_of_ble_eq_true rfl⟩) hS (fun q _ h => zAin X hS q h) (zAin X hS) (fun u14 t14 H14 locs14 ht14 hv14 hw14 hB14 hz14 hk14 hS14 => ?_)
      have hZ14 := zBack X ht14 hB14
      refine lv_aload_n hx hb (D_43 W_prog_15_method_173_code_64 22 rfl rfl) rfl (lv_at hl 4 rfl) ?_
      refine zget (ci := 13) (C := RX13) (T := TX13) (v := .ref (ad 13 l1 (28 + 1))) (k := 28) hx hb hts inW_13 hown hK hZ14 g8.1 g8.2 rfl (by decide) k_9_174 rfl (D_180 W_prog_15_method_173_code_64 23 rfl rfl rfl) ?_
      refine lv_iload hx hb (D_21 W_prog_15_method_173_code_64 26 rfl rfl) (lv_at hl 0 rfl) ?_
      refine zald (ci := 13) (k := 28) hx hb hK rfl hZ14 g8.1 g8.2 rfl (Nat.le_of_ble_eq_true rfl) g13.1 g13.2 (D_46 W_prog_15_method_173_code_64 28 rfl rfl) ?_
      refine lv_aload_n hx hb (D_43 W_prog_15_method_173_code_64 29 rfl rfl) rfl (lv_at hl 4 rfl) ?_
      refine zget (ci := 13) (C := RX13) (T := TX13) (v := .ref (ad 13 l1 (29 + 1))) (k := 29) hx hb hts inW_13 hown hK hZ14 g8.1 g8.2 rfl (by decide) k_9_176 rfl (D_180 W_prog_15_method_173_code_64 30 rfl rfl rfl) ?_
      refine lv_iload hx hb (D_21 W_prog_15_method_173_code_96 1 rfl rfl) (lv_at hl 0 rfl) ?_
      refine zald (ci := 13) (k := 29) hx hb hK rfl hZ14 g8.1 g8.2 rfl (Nat.le_of_ble_eq_true rfl) g13.1 g13.2 (D_46 W_prog_15_method_173_code_96 3 rfl rfl) ?_
      obtain ⟨r15, F15, B15, hc15, hf⟩ := gbind hf
      refine va_calli (va_runS (As := [.int (iI (B14 13 l1 28 l5)), .int (iI (B14 13 l1 29 l5))]) (rest := []) ⟨hx, hb, hml, hown, hts⟩ (c_M_tone (l := l) hc15) (va_cwS 2 hts (gdS k_12_158 k_12_159 k_1_9 k_12_160) rfl rfl rfl (by decide +kernel) ⟨Nat.le_of_ble_eq_true rfl, Nat.le_of_ble_eq_true rfl⟩) (zPS X hZ14 hS14 [.int (iI (B14 13 l1 28 l5)), .int (iI (B14 13 l1 29 l5))]) rfl rfl hl.1 rfl (lv_room (Nat.le_of_ble_eq_true rfl)) (D_184 W_prog_15_method_173_code_96 4 rfl rfl rfl) ⟨Nat.le_of_ble_eq_true rfl, Nat.le_of_ble_eq_true rfl⟩) hS14 (fun q _ h => zAin X hS14 q h) (zAin X hS14) (fun p15 u15 t15 H15 locs15 ht15 hv15 hw15 hB15 hz15 hk15 hS15 => ?_)
      have hZ15 := zBack X ht15 hB15
      subst hw15
      refine lv_istore (lv' := [(6, .int (iI r15)), (5, .int (iI l5)), (4, .int (iI l4)), (3, .int (iI l3)), (0, .ref (ad 14 0 0)), (1, .ref (ad 13 l1 0)), (2, .int (iI l2))]) hx hb (D_54 W_prog_15_method_173_code_96 7 rfl rfl) hl (by decide) rfl (fun ls hl => ?_)
      refine lv_iload hx hb (D_21 W_prog_15_method_173_code_96 9 rfl rfl) (lv_at hl 0 rfl) ?_
      refine lv_aload_n hx hb (D_42 W_prog_15_method_173_code_96 11 rfl rfl) rfl (lv_at hl 4 rfl) ?_
      refine zget (ci := 14) (C := RX14) (T := TX14) (v := .int (iI (F15 14 0 101))) (k := 101) hx hb hts inW_14 hown hK hZ15 (by decide) (by decide) rfl (by decide) k_11_99 rfl (D_180 W_prog_15_method_173_code_96 12 rfl rfl rfl) ?_
      obtain ⟨g16, hf⟩ := gif hf
      obtain ⟨g17, hf⟩ := gif hf
      refine zgt (tgt := 168) hx hb g16 g17 (D_163 W_prog_15_method_173_code_96 15 rfl rfl rfl) (by decide) (fun h18 => ?_) (fun h18 => ?_)
      · replace hf := gpos hf h18
        exact b_M_classesAt_168 X hrec14 ih hf hZ15 hS15 (lv_sub hl [1, 2, 3, 4, 5, 6] rfl)
      · replace hf := gneg hf h18
        refine lv_iload hx hb (D_21 W_prog_15_method_173_code_96 18 rfl rfl) (lv_at hl 0 rfl) ?_
        refine lv_aload_n hx hb (D_42 W_prog_15_method_173_code_96 20 rfl rfl) rfl (lv_at hl 4 rfl) ?_
        refine zget (ci := 14) (C := RX14) (T := TX14) (v := .int (iI (F15 14 0 101))) (k := 101) hx hb hts inW_14 hown hK hZ15 (by decide) (by decide) rfl (by decide) k_11_99 rfl (D_180 W_prog_15_method_173_code_96 21 rfl rfl rfl) ?_
        refine zne (tgt := 140) hx hb g16 g17 (D_160 W_prog_15_method_173_code_96 24 rfl rfl rfl) (by decide) (fun h19 => ?_) (fun h19 => ?_)
        · replace hf := gneg hf h19
          exact b_M_classesAt_140 X hrec14 ih hf hZ15 hS15 (lv_sub hl [0, 1, 2, 3, 4, 5, 6] rfl)
        · replace hf := gpos hf h19
          refine lv_aload_n hx hb (D_43 W_prog_15_method_173_code_96 27 rfl rfl) rfl (lv_at hl 5 rfl) ?_
          refine zget (ci := 13) (C := RX13) (T := TX13) (v := .ref (ad 13 l1 (28 + 1))) (k := 28) hx hb hts inW_13 hown hK hZ15 g8.1 g8.2 rfl (by decide) k_9_174 rfl (D_180 W_prog_15_method_173_code_96 28 rfl rfl rfl) ?_
          refine lv_iload hx hb (D_21 W_prog_15_method_173_code_96 31 rfl rfl) (lv_at hl 1 rfl) ?_
          refine zald (ci := 13) (k := 28) hx hb hK rfl hZ15 g8.1 g8.2 rfl (Nat.le_of_ble_eq_true rfl) g13.1 g13.2 (D_46 W_prog_15_method_173_code_128 1 rfl rfl) ?_
          refine lv_aload_n hx hb (D_42 W_prog_15_method_173_code_128 2 rfl rfl) rfl (lv_at hl 4 rfl) ?_
          refine zget (ci := 14) (C := RX14) (T := TX14) (v := .int (iI (F15 14 0 102))) (k := 102) hx hb hts inW_14 hown hK hZ15 (by decide) (by decide) rfl (by decide) k_11_100 rfl (D_180 W_prog_15_method_173_code_128 3 rfl rfl rfl) ?_
          obtain ⟨g20, hf⟩ := gif hf
          obtain ⟨g21, hf⟩ := gif hf
          refine zlt (tgt := 140) hx hb g20 g21 (D_161 W_prog_15_method_173_code_128 6 rfl rfl rfl) (by decide) (fun h22 => ?_) (fun h22 => ?_)
          · replace hf := gpos hf h22
            exact b_M_classesAt_140 X hrec14 ih hf hZ15 hS15 (lv_sub hl [0, 1, 2, 3, 4, 5, 6] rfl)
          · replace hf := gneg hf h22
            refine lv_goto (tgt := 168) hx hb (D_167 W_prog_15_method_173_code_128 9 rfl rfl rfl) (by decide) ?_
            exact b_M_classesAt_168 X hrec14 ih hf hZ15 hS15 (lv_sub hl [1, 2, 3, 4, 5, 6] rfl)

def f_M_classesAt_14 (K : Nat) : Nat → Int → Int → Int → zF → zB → zO
  | 0, _, _, _, _, _ => none
  | n + 1, l3, l1, l2, F, B => if 0 ≤ l1 ∧ l1 < 3 then if r32 l3 then if r32 (F 13 l1 1) then (if (F 13 l1 1) ≤ l3 then some (0, F, B) else if 0 ≤ ((4 * l2) + l3) ∧ ((4 * l2) + l3) < 3200 then f_M_classesAt_47 (f_M_classesAt_14 K n) K K (6 * ((1000 * l3) + (B 13 l1 75 ((4 * l2) + l3)))) ((1000 * l3) + (B 13 l1 75 ((4 * l2) + l3))) l3 l1 l2 F B else none) else none else none else none
set_option maxHeartbeats 4000000 in
set_option maxRecDepth 100000 in
theorem b_M_classesAt_14 {D : va_G} {ca : Nat → ClassId} {ad : Nat → Int → Nat → Nat} {L : List Nat} {aS vS : Nat → Nat} {A : Nat → Prop} {p : Program} {l : Launch} {e : Env} {s : State} {m : MethodId} {args : Array Value} {below : List Frame} {meth : Method} {c : Code} {K : Nat} {r : Int} {F9 : zF} {B9 : zB} (X : zX D ca L aS vS A p s m args meth c prog_15_method_173_code 7 (Option.none : Option Jvm.ClassFile.FieldType) "StaveHouseModel") : ∀ {n : Nat} {l3 : Int} {l1 : Int} {l2 : Int} {F : zF} {B : zB} {H : Heap} {locs : List Loc} {ls : Array Slot}, f_M_classesAt_14 K n l3 l1 l2 F B = some (r, F9, B9) → zH D ca ad lnM nM L F B A H → va_S A s.heap H locs → lv_has ls 7 [(3, .int (iI l3)), (0, .ref (ad 14 0 0)), (1, .ref (ad 13 l1 0)), (2, .int (iI l2))] → W p l e ({ frames := 1, cells := 0, slots := 0, locals := 23 } : Room) s m args below meth c H locs 0 0 (MQ below (Q_M_classesAt D ca ad L r F9 B9 A) args s 0 0 A) (F0 m 14 ls []) := by
  obtain ⟨hx, hb, hr, hml, hown, hts, hlk, hK, hA, hL, hX⟩ := id X
  intro n
  induction n with
  | zero =>
    intros
    rename_i hf _ _ _
    cases hf
  | succ n ih =>
    intro l3 l1 l2 F B H locs ls hf hZ hS hl
    replace hf : (if 0 ≤ l1 ∧ l1 < 3 then if r32 l3 then if r32 (F 13 l1 1) then (if (F 13 l1 1) ≤ l3 then some (0, F, B) else if 0 ≤ ((4 * l2) + l3) ∧ ((4 * l2) + l3) < 3200 then f_M_classesAt_47 (f_M_classesAt_14 K n) K K (6 * ((1000 * l3) + (B 13 l1 75 ((4 * l2) + l3)))) ((1000 * l3) + (B 13 l1 75 ((4 * l2) + l3))) l3 l1 l2 F B else none) else none else none else none) = some (r, F9, B9) := hf
    refine lv_iload_n hx hb (D_29 W_prog_15_method_173_code_0 14 rfl rfl) rfl (lv_at hl 0 rfl) ?_
    refine lv_aload_n hx hb (D_43 W_prog_15_method_173_code_0 15 rfl rfl) rfl (lv_at hl 2 rfl) ?_
    obtain ⟨g3, hf⟩ := gif hf
    refine zget (ci := 13) (C := RX13) (T := TX13) (v := .int (iI (F 13 l1 1))) (k := 1) hx hb hts inW_13 hown hK hZ g3.1 g3.2 rfl (by decide) k_9_126 rfl (D_180 W_prog_15_method_173_code_0 16 rfl rfl rfl) ?_
    obtain ⟨g4, hf⟩ := gif hf
    obtain ⟨g5, hf⟩ := gif hf
    refine zge (tgt := 180) hx hb g4 g5 (D_162 W_prog_15_method_173_code_0 19 rfl rfl rfl) (by decide) (fun h6 => ?_) (fun h6 => ?_)
    · replace hf := gpos hf h6
      cases hf
      exact W.vret hx hb hr (fun t ht hW => ⟨⟨(), rfl, trivial, by rw [ht]; exact hZ, va_K.moved hW.alike hK⟩, hS.F ht⟩) hS.2.2 (D_177 W_prog_15_method_173_code_160 20 rfl rfl) hlk
    · replace hf := gneg hf h6
      refine lv_sipush (v := iI 1000) hx hb (D_17 W_prog_15_method_173_code_0 22 rfl rfl rfl) (by decide) ?_
      refine lv_iload_n hx hb (D_29 W_prog_15_method_173_code_0 25 rfl rfl) rfl (lv_at hl 0 rfl) ?_
      refine zmul hx hb (D_104 W_prog_15_method_173_code_0 26 rfl rfl) ?_
      refine lv_aload_n hx hb (D_43 W_prog_15_method_173_code_0 27 rfl rfl) rfl (lv_at hl 2 rfl) ?_
      refine zget (ci := 13) (C := RX13) (T := TX13) (v := .ref (ad 13 l1 (75 + 1))) (k := 75) hx hb hts inW_13 hown hK hZ g3.1 g3.2 rfl (by decide) k_10_17 rfl (D_180 W_prog_15_method_173_code_0 28 rfl rfl rfl) ?_
      refine lv_iconst (v := iI 4) hx hb (D_7 W_prog_15_method_173_code_0 31 rfl rfl) rfl ?_
      refine lv_iload_n hx hb (D_28 W_prog_15_method_173_code_32 0 rfl rfl) rfl (lv_at hl 3 rfl) ?_
      refine zmul hx hb (D_104 W_prog_15_method_173_code_32 1 rfl rfl) ?_
      refine lv_iload_n hx hb (D_29 W_prog_15_method_173_code_32 2 rfl rfl) rfl (lv_at hl 0 rfl) ?_
      refine zadd hx hb (D_96 W_prog_15_method_173_code_32 3 rfl rfl) ?_
      obtain ⟨g7, hf⟩ := gif hf
      refine zald (ci := 13) (k := 75) hx hb hK rfl hZ g3.1 g3.2 rfl (Nat.le_of_ble_eq_true rfl) g7.1 g7.2 (D_46 W_prog_15_method_173_code_32 4 rfl rfl) ?_
      refine zadd hx hb (D_96 W_prog_15_method_173_code_32 5 rfl rfl) ?_
      refine lv_istore (lv' := [(4, .int (iI ((1000 * l3) + (B 13 l1 75 ((4 * l2) + l3))))), (3, .int (iI l3)), (0, .ref (ad 14 0 0)), (1, .ref (ad 13 l1 0)), (2, .int (iI l2))]) hx hb (D_54 W_prog_15_method_173_code_32 6 rfl rfl) hl (by decide) rfl (fun ls hl => ?_)
      refine lv_bipush (v := iI 6) hx hb (D_16 W_prog_15_method_173_code_32 8 rfl rfl rfl) (by decide) ?_
      refine lv_iload hx hb (D_21 W_prog_15_method_173_code_32 10 rfl rfl) (lv_at hl 0 rfl) ?_
      refine zmul hx hb (D_104 W_prog_15_method_173_code_32 12 rfl rfl) ?_
      refine lv_istore (lv' := [(5, .int (iI (6 * ((1000 * l3) + (B 13 l1 75 ((4 * l2) + l3)))))), (4, .int (iI ((1000 * l3) + (B 13 l1 75 ((4 * l2) + l3))))), (3, .int (iI l3)), (0, .ref (ad 14 0 0)), (1, .ref (ad 13 l1 0)), (2, .int (iI l2))]) hx hb (D_54 W_prog_15_method_173_code_32 13 rfl rfl) hl (by decide) rfl (fun ls hl => ?_)
      exact b_M_classesAt_47 X ih hf hZ hS (lv_sub hl [0, 1, 2, 3, 4, 5] rfl)

def f_M_classesAt (K : Nat) (l1 : Int) (l2 : Int) (F : zF) (B : zB) : zO := f_M_classesAt_14 K K 0 l1 l2 (zup3 (zup3 F 14 0 100 0) 14 0 101 1000) B
set_option maxHeartbeats 4000000 in
set_option maxRecDepth 100000 in
theorem c_M_classesAt {l : Launch} {D : va_G} {ca : Nat → ClassId} {ad : Nat → Int → Nat → Nat} {L : List Nat} {aS vS : Nat → Nat} {sz K : Nat}  {l1 : Int} {l2 : Int} {F F9 : zF} {B B9 : zB} {r : Int} (hf : f_M_classesAt K l1 l2 F B = some (r, F9, B9)) : Met l ({ cls := "StaveHouseModel", name := "classesAt", desc := "(LStaveHouseModel$Piece;I)V" } : Jvm.MethodName) (Cond.code ({ cls := "StaveHouseModel", name := "classesAt", desc := "(LStaveHouseModel$Piece;I)V" } : Jvm.MethodName) prog_15_method_173_code 7 (Option.none : Option Jvm.ClassFile.FieldType) :: wAll) ({ frames := 1, cells := 0, slots := 0, locals := 23 } : Room) (va_Pc [.ref (ad 14 0 0), .ref (ad 13 l1 0), .int (iI l2)] (zPre D ca ad lnM nM L aS vS F B sz)) (Q_M_classesAt D ca ad L r F9 B9 (zA L sz)) 0 0 (zA L sz) := by
  refine zMet (Qc := Q_M_classesAt D ca ad L r F9 B9) (lv := [(0, .ref (ad 14 0 0)), (1, .ref (ad 13 l1 0)), (2, .int (iI l2))]) (by decide) (Nat.le_of_ble_eq_true rfl) rfl (fun A p e s m below meth c ls X hZ hS hl => ?_)
  obtain ⟨hx, hb, hr, hml, hown, hts, hlk, hK, hA, hL, hX⟩ := id X
  replace hf : (f_M_classesAt_14 K K 0 l1 l2 (zup3 (zup3 F 14 0 100 0) 14 0 101 1000) B) = some (r, F9, B9) := hf
  refine lv_aload_n hx hb (D_42 W_prog_15_method_173_code_0 0 rfl rfl) rfl (lv_at hl 0 rfl) ?_
  refine lv_iconst (v := iI 0) hx hb (D_3 W_prog_15_method_173_code_0 1 rfl rfl) rfl ?_
  refine zput (ci := 14) (C := RX14) (T := TX14) (k := 100) (v := 0) (w := .int (iI 0)) hx hb hts inW_14 tyX14 tyX14_ok nmX14 hown hK hZ hS (by decide) (by decide) rfl (by decide) k_11_98 rfl (fun G h => congrArg (fun q => Value.int (iI q)) h) rfl rfl (zno (by decide)) (D_181 W_prog_15_method_173_code_0 2 rfl rfl rfl) (fun H1 locs1 hZ1 hS1 => ?_)
  refine lv_aload_n hx hb (D_42 W_prog_15_method_173_code_0 5 rfl rfl) rfl (lv_at hl 0 rfl) ?_
  refine lv_sipush (v := iI 1000) hx hb (D_17 W_prog_15_method_173_code_0 6 rfl rfl rfl) (by decide) ?_
  refine zput (ci := 14) (C := RX14) (T := TX14) (k := 101) (v := 1000) (w := .int (iI 1000)) hx hb hts inW_14 tyX14 tyX14_ok nmX14 hown hK hZ1 hS1 (by decide) (by decide) rfl (by decide) k_11_99 rfl (fun G h => congrArg (fun q => Value.int (iI q)) h) rfl rfl (zno (by decide)) (D_181 W_prog_15_method_173_code_0 9 rfl rfl rfl) (fun H2 locs2 hZ2 hS2 => ?_)
  refine lv_iconst (v := iI 0) hx hb (D_3 W_prog_15_method_173_code_0 12 rfl rfl) rfl ?_
  refine lv_istore_n (lv' := [(3, .int (iI 0)), (0, .ref (ad 14 0 0)), (1, .ref (ad 13 l1 0)), (2, .int (iI l2))]) hx hb (D_62 W_prog_15_method_173_code_0 13 rfl rfl) rfl hl (by decide) rfl (fun ls hl => ?_)
  exact b_M_classesAt_14 X hf hZ2 hS2 (lv_sub hl [0, 1, 2, 3] rfl)

abbrev Q_M_above (D : va_G) (ca : Nat → ClassId) (ad : Nat → Int → Nat → Nat) (L : List Nat) (r : Int) (F : zF) (B : zB) (A : Nat → Prop) : Array Value → State → Outcome → State → Prop := va_Qi (S := Unit) (fun p _ => p = iI r) (fun _ => zPo D ca ad lnM nM L F B A) A
def f_M_above (K : Nat) (l1 : Int) (l2 : Int) (F : zF) (B : zB) : zO := if 0 ≤ l2 ∧ l2 < 24 then zbind (f_M_tone K (B 14 0 98 l2) (B 14 0 99 l2) F B) (fun r2 F2 B2 => if 0 ≤ l1 ∧ l1 < 24 then zbind (f_M_tone K (B2 14 0 98 l1) (B2 14 0 99 l1) F2 B2) (fun r4 F4 B4 => zbind (f_M_mod K (r2 - r4) 12 F4 B4) (fun r5 F5 B5 => some (r5, F5, B5))) else none) else none
set_option maxHeartbeats 4000000 in
set_option maxRecDepth 100000 in
theorem c_M_above {l : Launch} {D : va_G} {ca : Nat → ClassId} {ad : Nat → Int → Nat → Nat} {L : List Nat} {aS vS : Nat → Nat} {sz K : Nat}  {l1 : Int} {l2 : Int} {F F9 : zF} {B B9 : zB} {r : Int} (hf : f_M_above K l1 l2 F B = some (r, F9, B9)) : Met l ({ cls := "StaveHouseModel", name := "above", desc := "(II)I" } : Jvm.MethodName) (Cond.code ({ cls := "StaveHouseModel", name := "above", desc := "(II)I" } : Jvm.MethodName) prog_15_method_176_code 3 (Option.some Jvm.ClassFile.FieldType.int) :: wAll) ({ frames := 2, cells := 0, slots := 0, locals := 43 } : Room) (va_Pc [.ref (ad 14 0 0), .int (iI l1), .int (iI l2)] (zPre D ca ad lnM nM L aS vS F B sz)) (Q_M_above D ca ad L r F9 B9 (zA L sz)) 0 0 (zA L sz) := by
  refine zMet (Qc := Q_M_above D ca ad L r F9 B9) (lv := [(0, .ref (ad 14 0 0)), (1, .int (iI l1)), (2, .int (iI l2))]) (by decide) (Nat.le_of_ble_eq_true rfl) rfl (fun A p e s m below meth c ls X hZ hS hl => ?_)
  obtain ⟨hx, hb, hr, hml, hown, hts, hlk, hK, hA, hL, hX⟩ := id X
  replace hf : (if 0 ≤ l2 ∧ l2 < 24 then zbind (f_M_tone K (B 14 0 98 l2) (B 14 0 99 l2) F B) (fun r2 F2 B2 => if 0 ≤ l1 ∧ l1 < 24 then zbind (f_M_tone K (B2 14 0 98 l1) (B2 14 0 99 l1) F2 B2) (fun r4 F4 B4 => zbind (f_M_mod K (r2 - r4) 12 F4 B4) (fun r5 F5 B5 => some (r5, F5, B5))) else none) else none) = some (r, F9, B9) := hf
  refine lv_aload_n hx hb (D_42 W_prog_15_method_176_code_0 0 rfl rfl) rfl (lv_at hl 0 rfl) ?_
  refine zget (ci := 14) (C := RX14) (T := TX14) (v := .ref (ad 14 0 (98 + 1))) (k := 98) hx hb hts inW_14 hown hK hZ (by decide) (by decide) rfl (by decide) k_11_96 rfl (D_180 W_prog_15_method_176_code_0 1 rfl rfl rfl) ?_
  refine lv_iload_n hx hb (D_28 W_prog_15_method_176_code_0 4 rfl rfl) rfl (lv_at hl 2 rfl) ?_
  obtain ⟨g1, hf⟩ := gif hf
  refine zald (ci := 14) (k := 98) hx hb hK rfl hZ (by decide) (by decide) rfl (Nat.le_of_ble_eq_true rfl) g1.1 g1.2 (D_46 W_prog_15_method_176_code_0 5 rfl rfl) ?_
  refine lv_aload_n hx hb (D_42 W_prog_15_method_176_code_0 6 rfl rfl) rfl (lv_at hl 0 rfl) ?_
  refine zget (ci := 14) (C := RX14) (T := TX14) (v := .ref (ad 14 0 (99 + 1))) (k := 99) hx hb hts inW_14 hown hK hZ (by decide) (by decide) rfl (by decide) k_11_97 rfl (D_180 W_prog_15_method_176_code_0 7 rfl rfl rfl) ?_
  refine lv_iload_n hx hb (D_28 W_prog_15_method_176_code_0 10 rfl rfl) rfl (lv_at hl 2 rfl) ?_
  refine zald (ci := 14) (k := 99) hx hb hK rfl hZ (by decide) (by decide) rfl (Nat.le_of_ble_eq_true rfl) g1.1 g1.2 (D_46 W_prog_15_method_176_code_0 11 rfl rfl) ?_
  obtain ⟨r2, F2, B2, hc2, hf⟩ := gbind hf
  refine va_calli (va_runS (As := [.int (iI (B 14 0 98 l2)), .int (iI (B 14 0 99 l2))]) (rest := []) ⟨hx, hb, hml, hown, hts⟩ (c_M_tone (l := l) hc2) (va_cwS 2 hts (gdS k_12_158 k_12_159 k_1_9 k_12_160) rfl rfl rfl (by decide +kernel) ⟨Nat.le_of_ble_eq_true rfl, Nat.le_of_ble_eq_true rfl⟩) (zPS X hZ hS [.int (iI (B 14 0 98 l2)), .int (iI (B 14 0 99 l2))]) rfl rfl hl.1 rfl (lv_room (Nat.le_of_ble_eq_true rfl)) (D_184 W_prog_15_method_176_code_0 12 rfl rfl rfl) ⟨Nat.le_of_ble_eq_true rfl, Nat.le_of_ble_eq_true rfl⟩) hS (fun q _ h => zAin X hS q h) (zAin X hS) (fun p2 u2 t2 H2 locs2 ht2 hv2 hw2 hB2 hz2 hk2 hS2 => ?_)
  have hZ2 := zBack X ht2 hB2
  subst hw2
  refine lv_aload_n hx hb (D_42 W_prog_15_method_176_code_0 15 rfl rfl) rfl (lv_at hl 0 rfl) ?_
  refine zget (ci := 14) (C := RX14) (T := TX14) (v := .ref (ad 14 0 (98 + 1))) (k := 98) hx hb hts inW_14 hown hK hZ2 (by decide) (by decide) rfl (by decide) k_11_96 rfl (D_180 W_prog_15_method_176_code_0 16 rfl rfl rfl) ?_
  refine lv_iload_n hx hb (D_27 W_prog_15_method_176_code_0 19 rfl rfl) rfl (lv_at hl 1 rfl) ?_
  obtain ⟨g3, hf⟩ := gif hf
  refine zald (ci := 14) (k := 98) hx hb hK rfl hZ2 (by decide) (by decide) rfl (Nat.le_of_ble_eq_true rfl) g3.1 g3.2 (D_46 W_prog_15_method_176_code_0 20 rfl rfl) ?_
  refine lv_aload_n hx hb (D_42 W_prog_15_method_176_code_0 21 rfl rfl) rfl (lv_at hl 0 rfl) ?_
  refine zget (ci := 14) (C := RX14) (T := TX14) (v := .ref (ad 14 0 (99 + 1))) (k := 99) hx hb hts inW_14 hown hK hZ2 (by decide) (by decide) rfl (by decide) k_11_97 rfl (D_180 W_prog_15_method_176_code_0 22 rfl rfl rfl) ?_
  refine lv_iload_n hx hb (D_27 W_prog_15_method_176_code_0 25 rfl rfl) rfl (lv_at hl 1 rfl) ?_
  refine zald (ci := 14) (k := 99) hx hb hK rfl hZ2 (by decide) (by decide) rfl (Nat.le_of_ble_eq_true rfl) g3.1 g3.2 (D_46 W_prog_15_method_176_code_0 26 rfl rfl) ?_
  obtain ⟨r4, F4, B4, hc4, hf⟩ := gbind hf
  refine va_calli (va_runS (As := [.int (iI (B2 14 0 98 l1)), .int (iI (B2 14 0 99 l1))]) (rest := [.int (iI r2)]) ⟨hx, hb, hml, hown, hts⟩ (c_M_tone (l := l) hc4) (va_cwS 2 hts (gdS k_12_158 k_12_159 k_1_9 k_12_160) rfl rfl rfl (by decide +kernel) ⟨Nat.le_of_ble_eq_true rfl, Nat.le_of_ble_eq_true rfl⟩) (zPS X hZ2 hS2 [.int (iI (B2 14 0 98 l1)), .int (iI (B2 14 0 99 l1))]) rfl rfl hl.1 rfl (lv_room (Nat.le_of_ble_eq_true rfl)) (D_184 W_prog_15_method_176_code_0 27 rfl rfl rfl) ⟨Nat.le_of_ble_eq_true rfl, Nat.le_of_ble_eq_true rfl⟩) hS2 (fun q _ h => zAin X hS2 q h) (zAin X hS2) (fun p4 u4 t4 H4 locs4 ht4 hv4 hw4 hB4 hz4 hk4 hS4 => ?_)
  have hZ4 := zBack X ht4 hB4
  subst hw4
  refine zsub hx hb (D_100 W_prog_15_method_176_code_0 30 rfl rfl) ?_
  refine lv_bipush (v := iI 12) hx hb (D_16 W_prog_15_method_176_code_0 31 rfl rfl rfl) (by decide) ?_
  obtain ⟨r5, F5, B5, hc5, hf⟩ := gbind hf
  refine va_calli (va_runS (As := [.int (iI (r2 - r4)), .int (iI 12)]) (rest := []) ⟨hx, hb, hml, hown, hts⟩ (c_M_mod (l := l) hc5) (va_cwS 2 hts (gdS k_12_164 k_12_165 k_1_9 k_12_166) rfl rfl rfl (by decide +kernel) ⟨Nat.le_of_ble_eq_true rfl, Nat.le_of_ble_eq_true rfl⟩) (zPS X hZ4 hS4 [.int (iI (r2 - r4)), .int (iI 12)]) rfl rfl hl.1 rfl (lv_room (Nat.le_of_ble_eq_true rfl)) (D_184 W_prog_15_method_176_code_32 1 rfl rfl rfl) ⟨Nat.le_of_ble_eq_true rfl, Nat.le_of_ble_eq_true rfl⟩) hS4 (fun q _ h => zAin X hS4 q h) (zAin X hS4) (fun p5 u5 t5 H5 locs5 ht5 hv5 hw5 hB5 hz5 hk5 hS5 => ?_)
  have hZ5 := zBack X ht5 hB5
  subst hw5
  cases hf
  exact W.iret hx hb hr (fun t ht hW => ⟨⟨_, (), rfl, rfl, by rw [ht]; exact hZ5, va_K.moved hW.alike hK⟩, hS5.F ht⟩) hS5.2.2 (D_172 W_prog_15_method_176_code_32 4 rfl rfl) hlk

abbrev Q_M_tonicLetter (D : va_G) (ca : Nat → ClassId) (ad : Nat → Int → Nat → Nat) (L : List Nat) (r : Int) (F : zF) (B : zB) (A : Nat → Prop) : Array Value → State → Outcome → State → Prop := va_Qi (S := Unit) (fun p _ => p = iI r) (fun _ => zPo D ca ad lnM nM L F B A) A
def f_M_tonicLetter_18 (K : Nat) (s0 : Int) (s1 : Int) (F : zF) (B : zB) : zO := zbind (f_M_mod K (s0 + s1) 7 F B) (fun r4 F4 B4 => some (r4, F4, B4))
set_option maxHeartbeats 4000000 in
set_option maxRecDepth 100000 in
theorem b_M_tonicLetter_18 {D : va_G} {ca : Nat → ClassId} {ad : Nat → Int → Nat → Nat} {L : List Nat} {aS vS : Nat → Nat} {A : Nat → Prop} {p : Program} {l : Launch} {e : Env} {s : State} {m : MethodId} {args : Array Value} {below : List Frame} {meth : Method} {c : Code} {K : Nat} {r : Int} {F9 : zF} {B9 : zB} (X : zX D ca L aS vS A p s m args meth c prog_15_method_19_code 1 (Option.some Jvm.ClassFile.FieldType.int) "StaveHouseModel") {s0 : Int} {s1 : Int} {F : zF} {B : zB} {H : Heap} {locs : List Loc} {ls : Array Slot} (hf : f_M_tonicLetter_18 K s0 s1 F B = some (r, F9, B9)) (hZ : zH D ca ad lnM nM L F B A H) (hS : va_S A s.heap H locs) (hl : lv_has ls 1 []) : W p l e ({ frames := 2, cells := 0, slots := 0, locals := 43 } : Room) s m args below meth c H locs 0 0 (MQ below (Q_M_tonicLetter D ca ad L r F9 B9 A) args s 0 0 A) (F0 m 18 ls [.int (iI s1), .int (iI s0)]) := by
  obtain ⟨hx, hb, hr, hml, hown, hts, hlk, hK, hA, hL, hX⟩ := id X
  replace hf : (zbind (f_M_mod K (s0 + s1) 7 F B) (fun r4 F4 B4 => some (r4, F4, B4))) = some (r, F9, B9) := hf
  refine zadd hx hb (D_96 W_prog_15_method_19_code_0 18 rfl rfl) ?_
  refine lv_bipush (v := iI 7) hx hb (D_16 W_prog_15_method_19_code_0 19 rfl rfl rfl) (by decide) ?_
  obtain ⟨r4, F4, B4, hc4, hf⟩ := gbind hf
  refine va_calli (va_runS (As := [.int (iI (s0 + s1)), .int (iI 7)]) (rest := []) ⟨hx, hb, hml, hown, hts⟩ (c_M_mod (l := l) hc4) (va_cwS 2 hts (gdS k_12_164 k_12_165 k_1_9 k_12_166) rfl rfl rfl (by decide +kernel) ⟨Nat.le_of_ble_eq_true rfl, Nat.le_of_ble_eq_true rfl⟩) (zPS X hZ hS [.int (iI (s0 + s1)), .int (iI 7)]) rfl rfl hl.1 rfl (lv_room (Nat.le_of_ble_eq_true rfl)) (D_184 W_prog_15_method_19_code_0 21 rfl rfl rfl) ⟨Nat.le_of_ble_eq_true rfl, Nat.le_of_ble_eq_true rfl⟩) hS (fun q _ h => zAin X hS q h) (zAin X hS) (fun p4 u4 t4 H4 locs4 ht4 hv4 hw4 hB4 hz4 hk4 hS4 => ?_)
  have hZ4 := zBack X ht4 hB4
  subst hw4
  cases hf
  exact W.iret hx hb hr (fun t ht hW => ⟨⟨_, (), rfl, rfl, by rw [ht]; exact hZ4, va_K.moved hW.alike hK⟩, hS4.F ht⟩) hS4.2.2 (D_172 W_prog_15_method_19_code_0 24 rfl rfl) hlk

def f_M_tonicLetter (K : Nat) (l0 : Int) (F : zF) (B : zB) : zO := if 0 ≤ l0 ∧ l0 < 3 then if r32 (F 13 l0 3) then (if (F 13 l0 3) = 0 then f_M_tonicLetter_18 K (4 * (F 13 l0 2)) 0 F B else f_M_tonicLetter_18 K (4 * (F 13 l0 2)) 5 F B) else none else none
set_option maxHeartbeats 4000000 in
set_option maxRecDepth 100000 in
theorem c_M_tonicLetter {l : Launch} {D : va_G} {ca : Nat → ClassId} {ad : Nat → Int → Nat → Nat} {L : List Nat} {aS vS : Nat → Nat} {sz K : Nat}  {l0 : Int} {F F9 : zF} {B B9 : zB} {r : Int} (hf : f_M_tonicLetter K l0 F B = some (r, F9, B9)) : Met l ({ cls := "StaveHouseModel", name := "tonicLetter", desc := "(LStaveHouseModel$Piece;)I" } : Jvm.MethodName) (Cond.code ({ cls := "StaveHouseModel", name := "tonicLetter", desc := "(LStaveHouseModel$Piece;)I" } : Jvm.MethodName) prog_15_method_19_code 1 (Option.some Jvm.ClassFile.FieldType.int) :: wAll) ({ frames := 2, cells := 0, slots := 0, locals := 43 } : Room) (va_Pc [.ref (ad 13 l0 0)] (zPre D ca ad lnM nM L aS vS F B sz)) (Q_M_tonicLetter D ca ad L r F9 B9 (zA L sz)) 0 0 (zA L sz) := by
  refine zMet (Qc := Q_M_tonicLetter D ca ad L r F9 B9) (lv := [(0, .ref (ad 13 l0 0))]) (by decide) (Nat.le_of_ble_eq_true rfl) rfl (fun A p e s m below meth c ls X hZ hS hl => ?_)
  obtain ⟨hx, hb, hr, hml, hown, hts, hlk, hK, hA, hL, hX⟩ := id X
  replace hf : (if 0 ≤ l0 ∧ l0 < 3 then if r32 (F 13 l0 3) then (if (F 13 l0 3) = 0 then f_M_tonicLetter_18 K (4 * (F 13 l0 2)) 0 F B else f_M_tonicLetter_18 K (4 * (F 13 l0 2)) 5 F B) else none else none) = some (r, F9, B9) := hf
  refine lv_iconst (v := iI 4) hx hb (D_7 W_prog_15_method_19_code_0 0 rfl rfl) rfl ?_
  refine lv_aload_n hx hb (D_42 W_prog_15_method_19_code_0 1 rfl rfl) rfl (lv_at hl 0 rfl) ?_
  obtain ⟨g1, hf⟩ := gif hf
  refine zget (ci := 13) (C := RX13) (T := TX13) (v := .int (iI (F 13 l0 2))) (k := 2) hx hb hts inW_13 hown hK hZ g1.1 g1.2 rfl (by decide) k_9_127 rfl (D_180 W_prog_15_method_19_code_0 2 rfl rfl rfl) ?_
  refine zmul hx hb (D_104 W_prog_15_method_19_code_0 5 rfl rfl) ?_
  refine lv_aload_n hx hb (D_42 W_prog_15_method_19_code_0 6 rfl rfl) rfl (lv_at hl 0 rfl) ?_
  refine zget (ci := 13) (C := RX13) (T := TX13) (v := .int (iI (F 13 l0 3))) (k := 3) hx hb hts inW_13 hown hK hZ g1.1 g1.2 rfl (by decide) k_9_128 rfl (D_180 W_prog_15_method_19_code_0 7 rfl rfl rfl) ?_
  obtain ⟨g2, hf⟩ := gif hf
  refine z0eq (tgt := 17) hx hb g2 (D_153 W_prog_15_method_19_code_0 10 rfl rfl rfl) (by decide) (fun h3 => ?_) (fun h3 => ?_)
  · replace hf := gpos hf h3
    refine lv_iconst (v := iI 0) hx hb (D_3 W_prog_15_method_19_code_0 17 rfl rfl) rfl ?_
    exact b_M_tonicLetter_18 X hf hZ hS (lv_sub hl [] rfl)
  · replace hf := gneg hf h3
    refine lv_iconst (v := iI 5) hx hb (D_8 W_prog_15_method_19_code_0 13 rfl rfl) rfl ?_
    refine lv_goto (tgt := 18) hx hb (D_167 W_prog_15_method_19_code_0 14 rfl rfl rfl) (by decide) ?_
    exact b_M_tonicLetter_18 X hf hZ hS (lv_sub hl [] rfl)

abbrev Q_M_follows (D : va_G) (ca : Nat → ClassId) (ad : Nat → Int → Nat → Nat) (L : List Nat) (r : Int) (F : zF) (B : zB) (A : Nat → Prop) : Array Value → State → Outcome → State → Prop := va_Ql (S := Unit) (fun p _ => p = lI r) (fun _ => zPo D ca ad lnM nM L F B A) A
def f_M_follows_409 (K : Nat) (s0 : Int) (F : zF) (B : zB) : zO := some (s0, F, B)
set_option maxHeartbeats 4000000 in
set_option maxRecDepth 100000 in
theorem b_M_follows_409 {D : va_G} {ca : Nat → ClassId} {ad : Nat → Int → Nat → Nat} {L : List Nat} {aS vS : Nat → Nat} {A : Nat → Prop} {p : Program} {l : Launch} {e : Env} {s : State} {m : MethodId} {args : Array Value} {below : List Frame} {meth : Method} {c : Code} {K : Nat} {r : Int} {F9 : zF} {B9 : zB} (X : zX D ca L aS vS A p s m args meth c prog_15_method_198_code 13 (Option.some Jvm.ClassFile.FieldType.long) "StaveHouseModel") {s0 : Int} {F : zF} {B : zB} {H : Heap} {locs : List Loc} {ls : Array Slot} (hf : f_M_follows_409 K s0 F B = some (r, F9, B9)) (hZ : zH D ca ad lnM nM L F B A H) (hS : va_S A s.heap H locs) (hl : lv_has ls 13 []) : W p l e ({ frames := 3, cells := 0, slots := 0, locals := 85 } : Room) s m args below meth c H locs 0 0 (MQ below (Q_M_follows D ca ad L r F9 B9 A) args s 0 0 A) (F0 m 409 ls [.long (lI s0)]) := by
  obtain ⟨hx, hb, hr, hml, hown, hts, hlk, hK, hA, hL, hX⟩ := id X
  replace hf : (some (s0, F, B)) = some (r, F9, B9) := hf
  cases hf
  exact W.lret hx hb hr (fun t ht hW => ⟨⟨_, (), rfl, rfl, by rw [ht]; exact hZ, va_K.moved hW.alike hK⟩, hS.F ht⟩) hS.2.2 (D_173 W_prog_15_method_198_code_384 25 rfl rfl) hlk

def f_M_follows_325 (rec146 : Int → Int → Int → Int → Int → Int → Int → Int → Int → zF → zB → zO) (K : Nat) (l10 : Int) (l9 : Int) (l8 : Int) (l7 : Int) (l6 : Int) (l5 : Int) (l2 : Int) (l3 : Int) (l4 : Int) (F : zF) (B : zB) : zO := rec146 l10 l9 l8 l7 l6 l5 l2 l3 l4 F B
set_option maxHeartbeats 4000000 in
set_option maxRecDepth 100000 in
theorem b_M_follows_325 {D : va_G} {ca : Nat → ClassId} {ad : Nat → Int → Nat → Nat} {L : List Nat} {aS vS : Nat → Nat} {A : Nat → Prop} {p : Program} {l : Launch} {e : Env} {s : State} {m : MethodId} {args : Array Value} {below : List Frame} {meth : Method} {c : Code} {K : Nat} {r : Int} {F9 : zF} {B9 : zB} (X : zX D ca L aS vS A p s m args meth c prog_15_method_198_code 13 (Option.some Jvm.ClassFile.FieldType.long) "StaveHouseModel") {rec146 : Int → Int → Int → Int → Int → Int → Int → Int → Int → zF → zB → zO} (hrec146 : ∀ {l10 : Int} {l9 : Int} {l8 : Int} {l7 : Int} {l6 : Int} {l5 : Int} {l2 : Int} {l3 : Int} {l4 : Int} {F : zF} {B : zB} {H : Heap} {locs : List Loc} {ls : Array Slot}, rec146 l10 l9 l8 l7 l6 l5 l2 l3 l4 F B = some (r, F9, B9) → zH D ca ad lnM nM L F B A H → va_S A s.heap H locs → lv_has ls 13 [(10, .int (iI l10)), (9, .int (iI l9)), (8, .int (iI l8)), (7, .int (iI l7)), (6, .int (iI l6)), (5, va_rf (zrf ad 13 l5)), (0, .ref (ad 14 0 0)), (2, .int (iI l2)), (3, .int (iI l3)), (4, .int (iI l4))] → W p l e ({ frames := 3, cells := 0, slots := 0, locals := 85 } : Room) s m args below meth c H locs 0 0 (MQ below (Q_M_follows D ca ad L r F9 B9 A) args s 0 0 A) (F0 m 146 ls [])) {l10 : Int} {l9 : Int} {l8 : Int} {l7 : Int} {l6 : Int} {l5 : Int} {l2 : Int} {l3 : Int} {l4 : Int} {F : zF} {B : zB} {H : Heap} {locs : List Loc} {ls : Array Slot} (hf : f_M_follows_325 rec146 K l10 l9 l8 l7 l6 l5 l2 l3 l4 F B = some (r, F9, B9)) (hZ : zH D ca ad lnM nM L F B A H) (hS : va_S A s.heap H locs) (hl : lv_has ls 13 [(10, .int (iI l10)), (9, .int (iI l9)), (8, .int (iI l8)), (7, .int (iI l7)), (6, .int (iI l6)), (5, va_rf (zrf ad 13 l5)), (0, .ref (ad 14 0 0)), (2, .int (iI l2)), (3, .int (iI l3)), (4, .int (iI l4))]) : W p l e ({ frames := 3, cells := 0, slots := 0, locals := 85 } : Room) s m args below meth c H locs 0 0 (MQ below (Q_M_follows D ca ad L r F9 B9 A) args s 0 0 A) (F0 m 325 ls []) := by
  obtain ⟨hx, hb, hr, hml, hown, hts, hlk, hK, hA, hL, hX⟩ := id X
  replace hf : (rec146 l10 l9 l8 l7 l6 l5 l2 l3 l4 F B) = some (r, F9, B9) := hf
  refine lv_goto (tgt := 146) hx hb (D_167 W_prog_15_method_198_code_320 5 rfl rfl rfl) (by decide) ?_
  exact hrec146 hf hZ hS (lv_sub hl [0, 1, 2, 3, 4, 5, 6, 7, 8, 9] rfl)

def f_M_follows_315 (rec146 : Int → Int → Int → Int → Int → Int → Int → Int → Int → zF → zB → zO) (K : Nat) (l9 : Int) (l8 : Int) (l7 : Int) (l6 : Int) (l5 : Int) (l2 : Int) (l3 : Int) (l4 : Int) (s0 : Int) (F : zF) (B : zB) : zO := if r32 s0 then (if s0 = 0 then f_M_follows_325 rec146 K s0 l9 l8 l7 l6 l5 l2 l3 l4 F B else f_M_follows_325 rec146 K s0 (l9 + 1) l8 l7 l6 l5 l2 l3 l4 F B) else none
set_option maxHeartbeats 4000000 in
set_option maxRecDepth 100000 in
theorem b_M_follows_315 {D : va_G} {ca : Nat → ClassId} {ad : Nat → Int → Nat → Nat} {L : List Nat} {aS vS : Nat → Nat} {A : Nat → Prop} {p : Program} {l : Launch} {e : Env} {s : State} {m : MethodId} {args : Array Value} {below : List Frame} {meth : Method} {c : Code} {K : Nat} {r : Int} {F9 : zF} {B9 : zB} (X : zX D ca L aS vS A p s m args meth c prog_15_method_198_code 13 (Option.some Jvm.ClassFile.FieldType.long) "StaveHouseModel") {rec146 : Int → Int → Int → Int → Int → Int → Int → Int → Int → zF → zB → zO} (hrec146 : ∀ {l10 : Int} {l9 : Int} {l8 : Int} {l7 : Int} {l6 : Int} {l5 : Int} {l2 : Int} {l3 : Int} {l4 : Int} {F : zF} {B : zB} {H : Heap} {locs : List Loc} {ls : Array Slot}, rec146 l10 l9 l8 l7 l6 l5 l2 l3 l4 F B = some (r, F9, B9) → zH D ca ad lnM nM L F B A H → va_S A s.heap H locs → lv_has ls 13 [(10, .int (iI l10)), (9, .int (iI l9)), (8, .int (iI l8)), (7, .int (iI l7)), (6, .int (iI l6)), (5, va_rf (zrf ad 13 l5)), (0, .ref (ad 14 0 0)), (2, .int (iI l2)), (3, .int (iI l3)), (4, .int (iI l4))] → W p l e ({ frames := 3, cells := 0, slots := 0, locals := 85 } : Room) s m args below meth c H locs 0 0 (MQ below (Q_M_follows D ca ad L r F9 B9 A) args s 0 0 A) (F0 m 146 ls [])) {l9 : Int} {l8 : Int} {l7 : Int} {l6 : Int} {l5 : Int} {l2 : Int} {l3 : Int} {l4 : Int} {s0 : Int} {F : zF} {B : zB} {H : Heap} {locs : List Loc} {ls : Array Slot} (hf : f_M_follows_315 rec146 K l9 l8 l7 l6 l5 l2 l3 l4 s0 F B = some (r, F9, B9)) (hZ : zH D ca ad lnM nM L F B A H) (hS : va_S A s.heap H locs) (hl : lv_has ls 13 [(9, .int (iI l9)), (8, .int (iI l8)), (7, .int (iI l7)), (6, .int (iI l6)), (5, va_rf (zrf ad 13 l5)), (0, .ref (ad 14 0 0)), (2, .int (iI l2)), (3, .int (iI l3)), (4, .int (iI l4))]) : W p l e ({ frames := 3, cells := 0, slots := 0, locals := 85 } : Room) s m args below meth c H locs 0 0 (MQ below (Q_M_follows D ca ad L r F9 B9 A) args s 0 0 A) (F0 m 315 ls [.int (iI s0)]) := by
  obtain ⟨hx, hb, hr, hml, hown, hts, hlk, hK, hA, hL, hX⟩ := id X
  replace hf : (if r32 s0 then (if s0 = 0 then f_M_follows_325 rec146 K s0 l9 l8 l7 l6 l5 l2 l3 l4 F B else f_M_follows_325 rec146 K s0 (l9 + 1) l8 l7 l6 l5 l2 l3 l4 F B) else none) = some (r, F9, B9) := hf
  refine lv_istore (lv' := [(10, .int (iI s0)), (9, .int (iI l9)), (8, .int (iI l8)), (7, .int (iI l7)), (6, .int (iI l6)), (5, va_rf (zrf ad 13 l5)), (0, .ref (ad 14 0 0)), (2, .int (iI l2)), (3, .int (iI l3)), (4, .int (iI l4))]) hx hb (D_54 W_prog_15_method_198_code_288 27 rfl rfl) hl (by decide) rfl (fun ls hl => ?_)
  refine lv_iload hx hb (D_21 W_prog_15_method_198_code_288 29 rfl rfl) (lv_at hl 0 rfl) ?_
  obtain ⟨g78, hf⟩ := gif hf
  refine z0eq (tgt := 325) hx hb g78 (D_153 W_prog_15_method_198_code_288 31 rfl rfl rfl) (by decide) (fun h79 => ?_) (fun h79 => ?_)
  · replace hf := gpos hf h79
    exact b_M_follows_325 X hrec146 hf hZ hS (lv_sub hl [0, 1, 2, 3, 4, 5, 6, 7, 8, 9] rfl)
  · replace hf := gneg hf h79
    refine lv_iinc (v := iI (l9 + 1)) (lv' := [(9, .int (iI (l9 + 1))), (10, .int (iI s0)), (8, .int (iI l8)), (7, .int (iI l7)), (6, .int (iI l6)), (5, va_rf (zrf ad 13 l5)), (0, .ref (ad 14 0 0)), (2, .int (iI l2)), (3, .int (iI l3)), (4, .int (iI l4))]) hx hb d_15_198_322 hl (k := 1) rfl (iI_add _ 1) (by decide) rfl (fun ls hl => ?_)
    exact b_M_follows_325 X hrec146 hf hZ hS (lv_sub hl [1, 0, 2, 3, 4, 5, 6, 7, 8, 9] rfl)

def f_M_follows_314 (rec146 : Int → Int → Int → Int → Int → Int → Int → Int → Int → zF → zB → zO) (K : Nat) (l9 : Int) (l8 : Int) (l7 : Int) (l6 : Int) (l5 : Int) (l2 : Int) (l3 : Int) (l4 : Int) (F : zF) (B : zB) : zO := f_M_follows_315 rec146 K l9 l8 l7 l6 l5 l2 l3 l4 0 F B
set_option maxHeartbeats 4000000 in
set_option maxRecDepth 100000 in
theorem b_M_follows_314 {D : va_G} {ca : Nat → ClassId} {ad : Nat → Int → Nat → Nat} {L : List Nat} {aS vS : Nat → Nat} {A : Nat → Prop} {p : Program} {l : Launch} {e : Env} {s : State} {m : MethodId} {args : Array Value} {below : List Frame} {meth : Method} {c : Code} {K : Nat} {r : Int} {F9 : zF} {B9 : zB} (X : zX D ca L aS vS A p s m args meth c prog_15_method_198_code 13 (Option.some Jvm.ClassFile.FieldType.long) "StaveHouseModel") {rec146 : Int → Int → Int → Int → Int → Int → Int → Int → Int → zF → zB → zO} (hrec146 : ∀ {l10 : Int} {l9 : Int} {l8 : Int} {l7 : Int} {l6 : Int} {l5 : Int} {l2 : Int} {l3 : Int} {l4 : Int} {F : zF} {B : zB} {H : Heap} {locs : List Loc} {ls : Array Slot}, rec146 l10 l9 l8 l7 l6 l5 l2 l3 l4 F B = some (r, F9, B9) → zH D ca ad lnM nM L F B A H → va_S A s.heap H locs → lv_has ls 13 [(10, .int (iI l10)), (9, .int (iI l9)), (8, .int (iI l8)), (7, .int (iI l7)), (6, .int (iI l6)), (5, va_rf (zrf ad 13 l5)), (0, .ref (ad 14 0 0)), (2, .int (iI l2)), (3, .int (iI l3)), (4, .int (iI l4))] → W p l e ({ frames := 3, cells := 0, slots := 0, locals := 85 } : Room) s m args below meth c H locs 0 0 (MQ below (Q_M_follows D ca ad L r F9 B9 A) args s 0 0 A) (F0 m 146 ls [])) {l9 : Int} {l8 : Int} {l7 : Int} {l6 : Int} {l5 : Int} {l2 : Int} {l3 : Int} {l4 : Int} {F : zF} {B : zB} {H : Heap} {locs : List Loc} {ls : Array Slot} (hf : f_M_follows_314 rec146 K l9 l8 l7 l6 l5 l2 l3 l4 F B = some (r, F9, B9)) (hZ : zH D ca ad lnM nM L F B A H) (hS : va_S A s.heap H locs) (hl : lv_has ls 13 [(9, .int (iI l9)), (8, .int (iI l8)), (7, .int (iI l7)), (6, .int (iI l6)), (5, va_rf (zrf ad 13 l5)), (0, .ref (ad 14 0 0)), (2, .int (iI l2)), (3, .int (iI l3)), (4, .int (iI l4))]) : W p l e ({ frames := 3, cells := 0, slots := 0, locals := 85 } : Room) s m args below meth c H locs 0 0 (MQ below (Q_M_follows D ca ad L r F9 B9 A) args s 0 0 A) (F0 m 314 ls []) := by
  obtain ⟨hx, hb, hr, hml, hown, hts, hlk, hK, hA, hL, hX⟩ := id X
  replace hf : (f_M_follows_315 rec146 K l9 l8 l7 l6 l5 l2 l3 l4 0 F B) = some (r, F9, B9) := hf
  refine lv_iconst (v := iI 0) hx hb (D_3 W_prog_15_method_198_code_288 26 rfl rfl) rfl ?_
  exact b_M_follows_315 X hrec146 hf hZ hS (lv_sub hl [0, 1, 2, 3, 4, 5, 6, 7, 8] rfl)

def f_M_follows_310 (rec146 : Int → Int → Int → Int → Int → Int → Int → Int → Int → zF → zB → zO) (K : Nat) (l9 : Int) (l8 : Int) (l7 : Int) (l6 : Int) (l5 : Int) (l2 : Int) (l3 : Int) (l4 : Int) (F : zF) (B : zB) : zO := f_M_follows_315 rec146 K l9 l8 l7 l6 l5 l2 l3 l4 1 F B
set_option maxHeartbeats 4000000 in
set_option maxRecDepth 100000 in
theorem b_M_follows_310 {D : va_G} {ca : Nat → ClassId} {ad : Nat → Int → Nat → Nat} {L : List Nat} {aS vS : Nat → Nat} {A : Nat → Prop} {p : Program} {l : Launch} {e : Env} {s : State} {m : MethodId} {args : Array Value} {below : List Frame} {meth : Method} {c : Code} {K : Nat} {r : Int} {F9 : zF} {B9 : zB} (X : zX D ca L aS vS A p s m args meth c prog_15_method_198_code 13 (Option.some Jvm.ClassFile.FieldType.long) "StaveHouseModel") {rec146 : Int → Int → Int → Int → Int → Int → Int → Int → Int → zF → zB → zO} (hrec146 : ∀ {l10 : Int} {l9 : Int} {l8 : Int} {l7 : Int} {l6 : Int} {l5 : Int} {l2 : Int} {l3 : Int} {l4 : Int} {F : zF} {B : zB} {H : Heap} {locs : List Loc} {ls : Array Slot}, rec146 l10 l9 l8 l7 l6 l5 l2 l3 l4 F B = some (r, F9, B9) → zH D ca ad lnM nM L F B A H → va_S A s.heap H locs → lv_has ls 13 [(10, .int (iI l10)), (9, .int (iI l9)), (8, .int (iI l8)), (7, .int (iI l7)), (6, .int (iI l6)), (5, va_rf (zrf ad 13 l5)), (0, .ref (ad 14 0 0)), (2, .int (iI l2)), (3, .int (iI l3)), (4, .int (iI l4))] → W p l e ({ frames := 3, cells := 0, slots := 0, locals := 85 } : Room) s m args below meth c H locs 0 0 (MQ below (Q_M_follows D ca ad L r F9 B9 A) args s 0 0 A) (F0 m 146 ls [])) {l9 : Int} {l8 : Int} {l7 : Int} {l6 : Int} {l5 : Int} {l2 : Int} {l3 : Int} {l4 : Int} {F : zF} {B : zB} {H : Heap} {locs : List Loc} {ls : Array Slot} (hf : f_M_follows_310 rec146 K l9 l8 l7 l6 l5 l2 l3 l4 F B = some (r, F9, B9)) (hZ : zH D ca ad lnM nM L F B A H) (hS : va_S A s.heap H locs) (hl : lv_has ls 13 [(9, .int (iI l9)), (8, .int (iI l8)), (7, .int (iI l7)), (6, .int (iI l6)), (5, va_rf (zrf ad 13 l5)), (0, .ref (ad 14 0 0)), (2, .int (iI l2)), (3, .int (iI l3)), (4, .int (iI l4))]) : W p l e ({ frames := 3, cells := 0, slots := 0, locals := 85 } : Room) s m args below meth c H locs 0 0 (MQ below (Q_M_follows D ca ad L r F9 B9 A) args s 0 0 A) (F0 m 310 ls []) := by
  obtain ⟨hx, hb, hr, hml, hown, hts, hlk, hK, hA, hL, hX⟩ := id X
  replace hf : (f_M_follows_315 rec146 K l9 l8 l7 l6 l5 l2 l3 l4 1 F B) = some (r, F9, B9) := hf
  refine lv_iconst (v := iI 1) hx hb (D_4 W_prog_15_method_198_code_288 22 rfl rfl) rfl ?_
  refine lv_goto (tgt := 315) hx hb (D_167 W_prog_15_method_198_code_288 23 rfl rfl rfl) (by decide) ?_
  exact b_M_follows_315 X hrec146 hf hZ hS (lv_sub hl [0, 1, 2, 3, 4, 5, 6, 7, 8] rfl)

def f_M_follows_260 (rec146 : Int → Int → Int → Int → Int → Int → Int → Int → Int → zF → zB → zO) (K : Nat) (l12 : Int) (l11 : Int) (l9 : Int) (l8 : Int) (l7 : Int) (l6 : Int) (l5 : Int) (l2 : Int) (l3 : Int) (l4 : Int) (s0 : Int) (F : zF) (B : zB) : zO := if r32 s0 then (if s0 = 0 then f_M_follows_314 rec146 K l9 l8 l7 l6 l5 l2 l3 l4 F B else if 0 ≤ l5 ∧ l5 < 3 then if 0 ≤ l11 ∧ l11 < 4000 then if r32 (B 13 l5 21 l11) then (if (B 13 l5 21 l11) = 0 then f_M_follows_310 rec146 K l9 l8 l7 l6 l5 l2 l3 l4 F B else zbind (f_M_lineOf K l5 l12 F B) (fun r71 F71 B71 => if 0 ≤ r71 ∧ r71 < 24000 then zbind (f_M_lineOf K l5 l11 F71 B71) (fun r73 F73 B73 => if 0 ≤ r73 ∧ r73 < 24000 then if r32 ((B71 13 l5 28 r71) - (B73 13 l5 28 r73)) then if r32 l8 then (if ((B71 13 l5 28 r71) - (B73 13 l5 28 r73)) = l8 then f_M_follows_310 rec146 K l9 l8 l7 l6 l5 l2 l3 l4 F73 B73 else f_M_follows_314 rec146 K l9 l8 l7 l6 l5 l2 l3 l4 F73 B73) else none else none else none) else none)) else none else none else none) else none
set_option maxHeartbeats 4000000 in
set_option maxRecDepth 100000 in
theorem b_M_follows_260 {D : va_G} {ca : Nat → ClassId} {ad : Nat → Int → Nat → Nat} {L : List Nat} {aS vS : Nat → Nat} {A : Nat → Prop} {p : Program} {l : Launch} {e : Env} {s : State} {m : MethodId} {args : Array Value} {below : List Frame} {meth : Method} {c : Code} {K : Nat} {r : Int} {F9 : zF} {B9 : zB} (X : zX D ca L aS vS A p s m args meth c prog_15_method_198_code 13 (Option.some Jvm.ClassFile.FieldType.long) "StaveHouseModel") {rec146 : Int → Int → Int → Int → Int → Int → Int → Int → Int → zF → zB → zO} (hrec146 : ∀ {l10 : Int} {l9 : Int} {l8 : Int} {l7 : Int} {l6 : Int} {l5 : Int} {l2 : Int} {l3 : Int} {l4 : Int} {F : zF} {B : zB} {H : Heap} {locs : List Loc} {ls : Array Slot}, rec146 l10 l9 l8 l7 l6 l5 l2 l3 l4 F B = some (r, F9, B9) → zH D ca ad lnM nM L F B A H → va_S A s.heap H locs → lv_has ls 13 [(10, .int (iI l10)), (9, .int (iI l9)), (8, .int (iI l8)), (7, .int (iI l7)), (6, .int (iI l6)), (5, va_rf (zrf ad 13 l5)), (0, .ref (ad 14 0 0)), (2, .int (iI l2)), (3, .int (iI l3)), (4, .int (iI l4))] → W p l e ({ frames := 3, cells := 0, slots := 0, locals := 85 } : Room) s m args below meth c H locs 0 0 (MQ below (Q_M_follows D ca ad L r F9 B9 A) args s 0 0 A) (F0 m 146 ls [])) {l12 : Int} {l11 : Int} {l9 : Int} {l8 : Int} {l7 : Int} {l6 : Int} {l5 : Int} {l2 : Int} {l3 : Int} {l4 : Int} {s0 : Int} {F : zF} {B : zB} {H : Heap} {locs : List Loc} {ls : Array Slot} (hf : f_M_follows_260 rec146 K l12 l11 l9 l8 l7 l6 l5 l2 l3 l4 s0 F B = some (r, F9, B9)) (hZ : zH D ca ad lnM nM L F B A H) (hS : va_S A s.heap H locs) (hl : lv_has ls 13 [(12, .int (iI l12)), (11, .int (iI l11)), (9, .int (iI l9)), (8, .int (iI l8)), (7, .int (iI l7)), (6, .int (iI l6)), (5, va_rf (zrf ad 13 l5)), (0, .ref (ad 14 0 0)), (2, .int (iI l2)), (3, .int (iI l3)), (4, .int (iI l4))]) : W p l e ({ frames := 3, cells := 0, slots := 0, locals := 85 } : Room) s m args below meth c H locs 0 0 (MQ below (Q_M_follows D ca ad L r F9 B9 A) args s 0 0 A) (F0 m 260 ls [.int (iI s0)]) := by
  obtain ⟨hx, hb, hr, hml, hown, hts, hlk, hK, hA, hL, hX⟩ := id X
  replace hf : (if r32 s0 then (if s0 = 0 then f_M_follows_314 rec146 K l9 l8 l7 l6 l5 l2 l3 l4 F B else if 0 ≤ l5 ∧ l5 < 3 then if 0 ≤ l11 ∧ l11 < 4000 then if r32 (B 13 l5 21 l11) then (if (B 13 l5 21 l11) = 0 then f_M_follows_310 rec146 K l9 l8 l7 l6 l5 l2 l3 l4 F B else zbind (f_M_lineOf K l5 l12 F B) (fun r71 F71 B71 => if 0 ≤ r71 ∧ r71 < 24000 then zbind (f_M_lineOf K l5 l11 F71 B71) (fun r73 F73 B73 => if 0 ≤ r73 ∧ r73 < 24000 then if r32 ((B71 13 l5 28 r71) - (B73 13 l5 28 r73)) then if r32 l8 then (if ((B71 13 l5 28 r71) - (B73 13 l5 28 r73)) = l8 then f_M_follows_310 rec146 K l9 l8 l7 l6 l5 l2 l3 l4 F73 B73 else f_M_follows_314 rec146 K l9 l8 l7 l6 l5 l2 l3 l4 F73 B73) else none else none else none) else none)) else none else none else none) else none) = some (r, F9, B9) := hf
  refine lv_istore (lv' := [(10, .int (iI s0)), (12, .int (iI l12)), (11, .int (iI l11)), (9, .int (iI l9)), (8, .int (iI l8)), (7, .int (iI l7)), (6, .int (iI l6)), (5, va_rf (zrf ad 13 l5)), (0, .ref (ad 14 0 0)), (2, .int (iI l2)), (3, .int (iI l3)), (4, .int (iI l4))]) hx hb (D_54 W_prog_15_method_198_code_256 4 rfl rfl) hl (by decide) rfl (fun ls hl => ?_)
  refine lv_iload hx hb (D_21 W_prog_15_method_198_code_256 6 rfl rfl) (lv_at hl 0 rfl) ?_
  obtain ⟨g65, hf⟩ := gif hf
  refine z0eq (tgt := 314) hx hb g65 (D_153 W_prog_15_method_198_code_256 8 rfl rfl rfl) (by decide) (fun h66 => ?_) (fun h66 => ?_)
  · replace hf := gpos hf h66
    exact b_M_follows_314 X hrec146 hf hZ hS (lv_sub hl [3, 4, 5, 6, 7, 8, 9, 10, 11] rfl)
  · replace hf := gneg hf h66
    refine zaload hx hb (D_25 W_prog_15_method_198_code_256 11 rfl rfl) (lv_at hl 7 rfl) ?_
    obtain ⟨g67, hf⟩ := gif hf
    refine zunrf g67.1 ?_
    refine zget (ci := 13) (C := RX13) (T := TX13) (v := .ref (ad 13 l5 (21 + 1))) (k := 21) hx hb hts inW_13 hown hK hZ g67.1 g67.2 rfl (by decide) k_9_160 rfl (D_180 W_prog_15_method_198_code_256 13 rfl rfl rfl) ?_
    refine lv_iload hx hb (D_21 W_prog_15_method_198_code_256 16 rfl rfl) (lv_at hl 2 rfl) ?_
    obtain ⟨g68, hf⟩ := gif hf
    refine zald (ci := 13) (k := 21) hx hb hK rfl hZ g67.1 g67.2 rfl (Nat.le_of_ble_eq_true rfl) g68.1 g68.2 (D_46 W_prog_15_method_198_code_256 18 rfl rfl) ?_
    obtain ⟨g69, hf⟩ := gif hf
    refine z0eq (tgt := 310) hx hb g69 (D_153 W_prog_15_method_198_code_256 19 rfl rfl rfl) (by decide) (fun h70 => ?_) (fun h70 => ?_)
    · replace hf := gpos hf h70
      exact b_M_follows_310 X hrec146 hf hZ hS (lv_sub hl [3, 4, 5, 6, 7, 8, 9, 10, 11] rfl)
    · replace hf := gneg hf h70
      refine zaload hx hb (D_25 W_prog_15_method_198_code_256 22 rfl rfl) (lv_at hl 7 rfl) ?_
      refine zunrf g67.1 ?_
      refine zget (ci := 13) (C := RX13) (T := TX13) (v := .ref (ad 13 l5 (28 + 1))) (k := 28) hx hb hts inW_13 hown hK hZ g67.1 g67.2 rfl (by decide) k_9_174 rfl (D_180 W_prog_15_method_198_code_256 24 rfl rfl rfl) ?_
      refine zaload hx hb (D_25 W_prog_15_method_198_code_256 27 rfl rfl) (lv_at hl 7 rfl) ?_
      refine lv_iload hx hb (D_21 W_prog_15_method_198_code_256 29 rfl rfl) (lv_at hl 1 rfl) ?_
      refine W.eq (g2 := F0 m 287 ls [.int (iI l12), .ref (ad 13 l5 0), .ref (ad 13 l5 (28 + 1))]) (by rw [zrf_pos (ad := ad) (t := 13) g67.1]; try rfl) ?_
      obtain ⟨r71, F71, B71, hc71, hf⟩ := gbind hf
      refine va_calli (va_runS (As := [.ref (ad 13 l5 0), .int (iI l12)]) (rest := [.ref (ad 13 l5 (28 + 1))]) ⟨hx, hb, hml, hown, hts⟩ (c_M_lineOf (l := l) hc71) (va_cwS 2 hts (gdS k_14_61 k_14_62 k_1_9 k_14_63) rfl rfl rfl (by decide +kernel) ⟨Nat.le_of_ble_eq_true rfl, Nat.le_of_ble_eq_true rfl⟩) (zPS X hZ hS [.ref (ad 13 l5 0), .int (iI l12)]) rfl rfl hl.1 rfl (lv_room (Nat.le_of_ble_eq_true rfl)) (D_184 W_prog_15_method_198_code_256 31 rfl rfl rfl) ⟨Nat.le_of_ble_eq_true rfl, Nat.le_of_ble_eq_true rfl⟩) hS (fun q _ h => zAin X hS q h) (zAin X hS) (fun p71 u71 t71 H71 locs71 ht71 hv71 hw71 hB71 hz71 hk71 hS71 => ?_)
      have hZ71 := zBack X ht71 hB71
      subst hw71
      obtain ⟨g72, hf⟩ := gif hf
      refine zald (ci := 13) (k := 28) hx hb hK rfl hZ71 g67.1 g67.2 rfl (Nat.le_of_ble_eq_true rfl) g72.1 g72.2 (D_46 W_prog_15_method_198_code_288 2 rfl rfl) ?_
      refine zaload hx hb (D_25 W_prog_15_method_198_code_288 3 rfl rfl) (lv_at hl 7 rfl) ?_
      refine zunrf g67.1 ?_
      refine zget (ci := 13) (C := RX13) (T := TX13) (v := .ref (ad 13 l5 (28 + 1))) (k := 28) hx hb hts inW_13 hown hK hZ71 g67.1 g67.2 rfl (by decide) k_9_174 rfl (D_180 W_prog_15_method_198_code_288 5 rfl rfl rfl) ?_
      refine zaload hx hb (D_25 W_prog_15_method_198_code_288 8 rfl rfl) (lv_at hl 7 rfl) ?_
      refine lv_iload hx hb (D_21 W_prog_15_method_198_code_288 10 rfl rfl) (lv_at hl 2 rfl) ?_
      refine W.eq (g2 := F0 m 300 ls [.int (iI l11), .ref (ad 13 l5 0), .ref (ad 13 l5 (28 + 1)), .int (iI (B71 13 l5 28 r71))]) (by rw [zrf_pos (ad := ad) (t := 13) g67.1]; try rfl) ?_
      obtain ⟨r73, F73, B73, hc73, hf⟩ := gbind hf
      refine va_calli (va_runS (As := [.ref (ad 13 l5 0), .int (iI l11)]) (rest := [.ref (ad 13 l5 (28 + 1)), .int (iI (B71 13 l5 28 r71))]) ⟨hx, hb, hml, hown, hts⟩ (c_M_lineOf (l := l) hc73) (va_cwS 2 hts (gdS k_14_61 k_14_62 k_1_9 k_14_63) rfl rfl rfl (by decide +kernel) ⟨Nat.le_of_ble_eq_true rfl, Nat.le_of_ble_eq_true rfl⟩) (zPS X hZ71 hS71 [.ref (ad 13 l5 0), .int (iI l11)]) rfl rfl hl.1 rfl (lv_room (Nat.le_of_ble_eq_true rfl)) (D_184 W_prog_15_method_198_code_288 12 rfl rfl rfl) ⟨Nat.le_of_ble_eq_true rfl, Nat.le_of_ble_eq_true rfl⟩) hS71 (fun q _ h => zAin X hS71 q h) (zAin X hS71) (fun p73 u73 t73 H73 locs73 ht73 hv73 hw73 hB73 hz73 hk73 hS73 => ?_)
      have hZ73 := zBack X ht73 hB73
      subst hw73
      obtain ⟨g74, hf⟩ := gif hf
      refine zald (ci := 13) (k := 28) hx hb hK rfl hZ73 g67.1 g67.2 rfl (Nat.le_of_ble_eq_true rfl) g74.1 g74.2 (D_46 W_prog_15_method_198_code_288 15 rfl rfl) ?_
      refine zsub hx hb (D_100 W_prog_15_method_198_code_288 16 rfl rfl) ?_
      refine lv_iload hx hb (D_21 W_prog_15_method_198_code_288 17 rfl rfl) (lv_at hl 4 rfl) ?_
      obtain ⟨g75, hf⟩ := gif hf
      obtain ⟨g76, hf⟩ := gif hf
      refine zne (tgt := 314) hx hb g75 g76 (D_160 W_prog_15_method_198_code_288 19 rfl rfl rfl) (by decide) (fun h77 => ?_) (fun h77 => ?_)
      · replace hf := gneg hf h77
        exact b_M_follows_314 X hrec146 hf hZ73 hS73 (lv_sub hl [3, 4, 5, 6, 7, 8, 9, 10, 11] rfl)
      · replace hf := gpos hf h77
        exact b_M_follows_310 X hrec146 hf hZ73 hS73 (lv_sub hl [3, 4, 5, 6, 7, 8, 9, 10, 11] rfl)

def f_M_follows_259 (rec146 : Int → Int → Int → Int → Int → Int → Int → Int → Int → zF → zB → zO) (K : Nat) (l12 : Int) (l11 : Int) (l9 : Int) (l8 : Int) (l7 : Int) (l6 : Int) (l5 : Int) (l2 : Int) (l3 : Int) (l4 : Int) (F : zF) (B : zB) : zO := f_M_follows_260 rec146 K l12 l11 l9 l8 l7 l6 l5 l2 l3 l4 0 F B
set_option maxHeartbeats 4000000 in
set_option maxRecDepth 100000 in
theorem b_M_follows_259 {D : va_G} {ca : Nat → ClassId} {ad : Nat → Int → Nat → Nat} {L : List Nat} {aS vS : Nat → Nat} {A : Nat → Prop} {p : Program} {l : Launch} {e : Env} {s : State} {m : MethodId} {args : Array Value} {below : List Frame} {meth : Method} {c : Code} {K : Nat} {r : Int} {F9 : zF} {B9 : zB} (X : zX D ca L aS vS A p s m args meth c prog_15_method_198_code 13 (Option.some Jvm.ClassFile.FieldType.long) "StaveHouseModel") {rec146 : Int → Int → Int → Int → Int → Int → Int → Int → Int → zF → zB → zO} (hrec146 : ∀ {l10 : Int} {l9 : Int} {l8 : Int} {l7 : Int} {l6 : Int} {l5 : Int} {l2 : Int} {l3 : Int} {l4 : Int} {F : zF} {B : zB} {H : Heap} {locs : List Loc} {ls : Array Slot}, rec146 l10 l9 l8 l7 l6 l5 l2 l3 l4 F B = some (r, F9, B9) → zH D ca ad lnM nM L F B A H → va_S A s.heap H locs → lv_has ls 13 [(10, .int (iI l10)), (9, .int (iI l9)), (8, .int (iI l8)), (7, .int (iI l7)), (6, .int (iI l6)), (5, va_rf (zrf ad 13 l5)), (0, .ref (ad 14 0 0)), (2, .int (iI l2)), (3, .int (iI l3)), (4, .int (iI l4))] → W p l e ({ frames := 3, cells := 0, slots := 0, locals := 85 } : Room) s m args below meth c H locs 0 0 (MQ below (Q_M_follows D ca ad L r F9 B9 A) args s 0 0 A) (F0 m 146 ls [])) {l12 : Int} {l11 : Int} {l9 : Int} {l8 : Int} {l7 : Int} {l6 : Int} {l5 : Int} {l2 : Int} {l3 : Int} {l4 : Int} {F : zF} {B : zB} {H : Heap} {locs : List Loc} {ls : Array Slot} (hf : f_M_follows_259 rec146 K l12 l11 l9 l8 l7 l6 l5 l2 l3 l4 F B = some (r, F9, B9)) (hZ : zH D ca ad lnM nM L F B A H) (hS : va_S A s.heap H locs) (hl : lv_has ls 13 [(12, .int (iI l12)), (11, .int (iI l11)), (9, .int (iI l9)), (8, .int (iI l8)), (7, .int (iI l7)), (6, .int (iI l6)), (5, va_rf (zrf ad 13 l5)), (0, .ref (ad 14 0 0)), (2, .int (iI l2)), (3, .int (iI l3)), (4, .int (iI l4))]) : W p l e ({ frames := 3, cells := 0, slots := 0, locals := 85 } : Room) s m args below meth c H locs 0 0 (MQ below (Q_M_follows D ca ad L r F9 B9 A) args s 0 0 A) (F0 m 259 ls []) := by
  obtain ⟨hx, hb, hr, hml, hown, hts, hlk, hK, hA, hL, hX⟩ := id X
  replace hf : (f_M_follows_260 rec146 K l12 l11 l9 l8 l7 l6 l5 l2 l3 l4 0 F B) = some (r, F9, B9) := hf
  refine lv_iconst (v := iI 0) hx hb (D_3 W_prog_15_method_198_code_256 3 rfl rfl) rfl ?_
  exact b_M_follows_260 X hrec146 hf hZ hS (lv_sub hl [0, 1, 2, 3, 4, 5, 6, 7, 8, 9, 10] rfl)

def f_M_follows_146 (K : Nat) : Nat → Int → Int → Int → Int → Int → Int → Int → Int → Int → zF → zB → zO
  | 0, _, _, _, _, _, _, _, _, _, _, _ => none
  | n + 1, l10, l9, l8, l7, l6, l5, l2, l3, l4, F, B => if r32 l10 then (if l10 = 0 then if r32 l9 then (if l9 = 0 then some (0, F, B) else if 0 ≤ l5 ∧ l5 < 3 then if 0 ≤ l7 ∧ l7 < 4000 then if 0 ≤ l6 ∧ l6 < 4000 then zbind (f_M_minus K (B 13 l5 14 l7) (B 13 l5 15 l7) (B 13 l5 14 l6) (B 13 l5 15 l6) F B) (fun r38 F38 B38 => if r32 l4 then (if l4 = 0 then some (l9, F38, B38) else (if l4 = 1 then if r32 l8 then f_M_follows_409 K l8 F38 B38 else none else (if l4 = 2 then f_M_follows_409 K (F38 14 0 0) F38 B38 else f_M_follows_409 K (F38 14 0 1) F38 B38))) else none) else none else none else none) else none else if 0 ≤ l5 ∧ l5 < 3 then if 0 ≤ l2 ∧ l2 < 4 then if r32 (l6 + l9) then if r32 ((1000 * l2) + (B 13 l5 12 l2)) then (if ((1000 * l2) + (B 13 l5 12 l2)) ≤ (l6 + l9) then f_M_follows_259 (f_M_follows_146 K n) K (l7 + l9) (l6 + l9) l9 l8 l7 l6 l5 l2 l3 l4 F B else if 0 ≤ l3 ∧ l3 < 4 then if r32 (l7 + l9) then if r32 ((1000 * l3) + (B 13 l5 12 l3)) then (if ((1000 * l3) + (B 13 l5 12 l3)) ≤ (l7 + l9) then f_M_follows_259 (f_M_follows_146 K n) K (l7 + l9) (l6 + l9) l9 l8 l7 l6 l5 l2 l3 l4 F B else zbind (f_M_isLike K l5 (l6 + l9) l5 (l7 + l9) F B) (fun r53 F53 B53 => if r32 r53 then (if r53 = 0 then f_M_follows_259 (f_M_follows_146 K n) K (l7 + l9) (l6 + l9) l9 l8 l7 l6 l5 l2 l3 l4 F53 B53 else if 0 ≤ (l6 + l9) ∧ (l6 + l9) < 4000 then if 0 ≤ (l7 + l9) ∧ (l7 + l9) < 4000 then if r64 (B53 13 l5 16 (l6 + l9)) then if r64 (B53 13 l5 16 (l7 + l9)) then (if (zcmp (B53 13 l5 16 (l6 + l9)) (B53 13 l5 16 (l7 + l9))) = 0 then if r64 (B53 13 l5 17 (l6 + l9)) then if r64 (B53 13 l5 17 (l7 + l9)) then (if (zcmp (B53 13 l5 17 (l6 + l9)) (B53 13 l5 17 (l7 + l9))) = 0 then f_M_follows_260 (f_M_follows_146 K n) K (l7 + l9) (l6 + l9) l9 l8 l7 l6 l5 l2 l3 l4 1 F53 B53 else f_M_follows_259 (f_M_follows_146 K n) K (l7 + l9) (l6 + l9) l9 l8 l7 l6 l5 l2 l3 l4 F53 B53) else none else none else f_M_follows_259 (f_M_follows_146 K n) K (l7 + l9) (l6 + l9) l9 l8 l7 l6 l5 l2 l3 l4 F53 B53) else none else none else none else none) else none)) else none else none else none) else none else none else none else none) else none
set_option maxHeartbeats 4000000 in
set_option maxRecDepth 100000 in
theorem b_M_follows_146 {D : va_G} {ca : Nat → ClassId} {ad : Nat → Int → Nat → Nat} {L : List Nat} {aS vS : Nat → Nat} {A : Nat → Prop} {p : Program} {l : Launch} {e : Env} {s : State} {m : MethodId} {args : Array Value} {below : List Frame} {meth : Method} {c : Code} {K : Nat} {r : Int} {F9 : zF} {B9 : zB} (X : zX D ca L aS vS A p s m args meth c prog_15_method_198_code 13 (Option.some Jvm.ClassFile.FieldType.long) "StaveHouseModel") : ∀ {n : Nat} {l10 : Int} {l9 : Int} {l8 : Int} {l7 : Int} {l6 : Int} {l5 : Int} {l2 : Int} {l3 : Int} {l4 : Int} {F : zF} {B : zB} {H : Heap} {locs : List Loc} {ls : Array Slot}, f_M_follows_146 K n l10 l9 l8 l7 l6 l5 l2 l3 l4 F B = some (r, F9, B9) → zH D ca ad lnM nM L F B A H → va_S A s.heap H locs → lv_has ls 13 [(10, .int (iI l10)), (9, .int (iI l9)), (8, .int (iI l8)), (7, .int (iI l7)), (6, .int (iI l6)), (5, va_rf (zrf ad 13 l5)), (0, .ref (ad 14 0 0)), (2, .int (iI l2)), (3, .int (iI l3)), (4, .int (iI l4))] → W p l e ({ frames := 3, cells := 0, slots := 0, locals := 85 } : Room) s m args below meth c H locs 0 0 (MQ below (Q_M_follows D ca ad L r F9 B9 A) args s 0 0 A) (F0 m 146 ls []) := by
  obtain ⟨hx, hb, hr, hml, hown, hts, hlk, hK, hA, hL, hX⟩ := id X
  intro n
  induction n with
  | zero =>
    intros
    rename_i hf _ _ _
    cases hf
  | succ n ih =>
    intro l10 l9 l8 l7 l6 l5 l2 l3 l4 F B H locs ls hf hZ hS hl
    replace hf : (if r32 l10 then (if l10 = 0 then if r32 l9 then (if l9 = 0 then some (0, F, B) else if 0 ≤ l5 ∧ l5 < 3 then if 0 ≤ l7 ∧ l7 < 4000 then if 0 ≤ l6 ∧ l6 < 4000 then zbind (f_M_minus K (B 13 l5 14 l7) (B 13 l5 15 l7) (B 13 l5 14 l6) (B 13 l5 15 l6) F B) (fun r38 F38 B38 => if r32 l4 then (if l4 = 0 then some (l9, F38, B38) else (if l4 = 1 then if r32 l8 then f_M_follows_409 K l8 F38 B38 else none else (if l4 = 2 then f_M_follows_409 K (F38 14 0 0) F38 B38 else f_M_follows_409 K (F38 14 0 1) F38 B38))) else none) else none else none else none) else none else if 0 ≤ l5 ∧ l5 < 3 then if 0 ≤ l2 ∧ l2 < 4 then if r32 (l6 + l9) then if r32 ((1000 * l2) + (B 13 l5 12 l2)) then (if ((1000 * l2) + (B 13 l5 12 l2)) ≤ (l6 + l9) then f_M_follows_259 (f_M_follows_146 K n) K (l7 + l9) (l6 + l9) l9 l8 l7 l6 l5 l2 l3 l4 F B else if 0 ≤ l3 ∧ l3 < 4 then if r32 (l7 + l9) then if r32 ((1000 * l3) + (B 13 l5 12 l3)) then (if ((1000 * l3) + (B 13 l5 12 l3)) ≤ (l7 + l9) then f_M_follows_259 (f_M_follows_146 K n) K (l7 + l9) (l6 + l9) l9 l8 l7 l6 l5 l2 l3 l4 F B else zbind (f_M_isLike K l5 (l6 + l9) l5 (l7 + l9) F B) (fun r53 F53 B53 => if r32 r53 then (if r53 = 0 then f_M_follows_259 (f_M_follows_146 K n) K (l7 + l9) (l6 + l9) l9 l8 l7 l6 l5 l2 l3 l4 F53 B53 else if 0 ≤ (l6 + l9) ∧ (l6 + l9) < 4000 then if 0 ≤ (l7 + l9) ∧ (l7 + l9) < 4000 then if r64 (B53 13 l5 16 (l6 + l9)) then if r64 (B53 13 l5 16 (l7 + l9)) then (if (zcmp (B53 13 l5 16 (l6 + l9)) (B53 13 l5 16 (l7 + l9))) = 0 then if r64 (B53 13 l5 17 (l6 + l9)) then if r64 (B53 13 l5 17 (l7 + l9)) then (if (zcmp (B53 13 l5 17 (l6 + l9)) (B53 13 l5 17 (l7 + l9))) = 0 then f_M_follows_260 (f_M_follows_146 K n) K (l7 + l9) (l6 + l9) l9 l8 l7 l6 l5 l2 l3 l4 1 F53 B53 else f_M_follows_259 (f_M_follows_146 K n) K (l7 + l9) (l6 + l9) l9 l8 l7 l6 l5 l2 l3 l4 F53 B53) else none else none else f_M_follows_259 (f_M_follows_146 K n) K (l7 + l9) (l6 + l9) l9 l8 l7 l6 l5 l2 l3 l4 F53 B53) else none else none else none else none) else none)) else none else none else none) else none else none else none else none) else none) = some (r, F9, B9) := hf
    refine lv_iload hx hb (D_21 W_prog_15_method_198_code_128 18 rfl rfl) (lv_at hl 0 rfl) ?_
    obtain ⟨g30, hf⟩ := gif hf
    refine z0eq (tgt := 328) hx hb g30 (D_153 W_prog_15_method_198_code_128 20 rfl rfl rfl) (by decide) (fun h31 => ?_) (fun h31 => ?_)
    · replace hf := gpos hf h31
      refine lv_iload hx hb (D_21 W_prog_15_method_198_code_320 8 rfl rfl) (lv_at hl 1 rfl) ?_
      obtain ⟨g33, hf⟩ := gif hf
      refine z0ne (tgt := 335) hx hb g33 (D_154 W_prog_15_method_198_code_320 10 rfl rfl rfl) (by decide) (fun h34 => ?_) (fun h34 => ?_)
      · replace hf := gneg hf h34
        refine lv_aload_n hx hb (D_42 W_prog_15_method_198_code_320 15 rfl rfl) rfl (lv_at hl 6 rfl) ?_
        refine zaload hx hb (D_25 W_prog_15_method_198_code_320 16 rfl rfl) (lv_at hl 5 rfl) ?_
        obtain ⟨g35, hf⟩ := gif hf
        refine zunrf g35.1 ?_
        refine zget (ci := 13) (C := RX13) (T := TX13) (v := .ref (ad 13 l5 (14 + 1))) (k := 14) hx hb hts inW_13 hown hK hZ g35.1 g35.2 rfl (by decide) k_9_146 rfl (D_180 W_prog_15_method_198_code_320 18 rfl rfl rfl) ?_
        refine lv_iload hx hb (D_21 W_prog_15_method_198_code_320 21 rfl rfl) (lv_at hl 3 rfl) ?_
        obtain ⟨g36, hf⟩ := gif hf
        refine zlald (ci := 13) (k := 14) hx hb hK rfl hZ g35.1 g35.2 rfl (Nat.le_of_ble_eq_true rfl) g36.1 g36.2 (D_47 W_prog_15_method_198_code_320 23 rfl rfl) ?_
        refine zaload hx hb (D_25 W_prog_15_method_198_code_320 24 rfl rfl) (lv_at hl 5 rfl) ?_
        refine zunrf g35.1 ?_
        refine zget (ci := 13) (C := RX13) (T := TX13) (v := .ref (ad 13 l5 (15 + 1))) (k := 15) hx hb hts inW_13 hown hK hZ g35.1 g35.2 rfl (by decide) k_9_148 rfl (D_180 W_prog_15_method_198_code_320 26 rfl rfl rfl) ?_
        refine lv_iload hx hb (D_21 W_prog_15_method_198_code_320 29 rfl rfl) (lv_at hl 3 rfl) ?_
        refine zlald (ci := 13) (k := 15) hx hb hK rfl hZ g35.1 g35.2 rfl (Nat.le_of_ble_eq_true rfl) g36.1 g36.2 (D_47 W_prog_15_method_198_code_320 31 rfl rfl) ?_
        refine zaload hx hb (D_25 W_prog_15_method_198_code_352 0 rfl rfl) (lv_at hl 5 rfl) ?_
        refine zunrf g35.1 ?_
        refine zget (ci := 13) (C := RX13) (T := TX13) (v := .ref (ad 13 l5 (14 + 1))) (k := 14) hx hb hts inW_13 hown hK hZ g35.1 g35.2 rfl (by decide) k_9_146 rfl (D_180 W_prog_15_method_198_code_352 2 rfl rfl rfl) ?_
        refine lv_iload hx hb (D_21 W_prog_15_method_198_code_352 5 rfl rfl) (lv_at hl 4 rfl) ?_
        obtain ⟨g37, hf⟩ := gif hf
        refine zlald (ci := 13) (k := 14) hx hb hK rfl hZ g35.1 g35.2 rfl (Nat.le_of_ble_eq_true rfl) g37.1 g37.2 (D_47 W_prog_15_method_198_code_352 7 rfl rfl) ?_
        refine zaload hx hb (D_25 W_prog_15_method_198_code_352 8 rfl rfl) (lv_at hl 5 rfl) ?_
        refine zunrf g35.1 ?_
        refine zget (ci := 13) (C := RX13) (T := TX13) (v := .ref (ad 13 l5 (15 + 1))) (k := 15) hx hb hts inW_13 hown hK hZ g35.1 g35.2 rfl (by decide) k_9_148 rfl (D_180 W_prog_15_method_198_code_352 10 rfl rfl rfl) ?_
        refine lv_iload hx hb (D_21 W_prog_15_method_198_code_352 13 rfl rfl) (lv_at hl 4 rfl) ?_
        refine zlald (ci := 13) (k := 15) hx hb hK rfl hZ g35.1 g35.2 rfl (Nat.le_of_ble_eq_true rfl) g37.1 g37.2 (D_47 W_prog_15_method_198_code_352 15 rfl rfl) ?_
        obtain ⟨r38, F38, B38, hc38, hf⟩ := gbind hf
        refine va_callv (va_runV (As := [.long (lI (B 13 l5 14 l7)), .long (lI (B 13 l5 15 l7)), .long (lI (B 13 l5 14 l6)), .long (lI (B 13 l5 15 l6))]) (rest := []) ⟨hx, hb, hml, hown, hts⟩ (c_M_minus (l := l) hc38) (cwV 4 hts (gdV k_13_132 k_13_134 ks_174 k_1_9 k_13_135) rfl rfl rfl (by decide +kernel) ⟨Nat.le_of_ble_eq_true rfl, Nat.le_of_ble_eq_true rfl⟩) (zPV X hZ hS (ci := 14) (by decide) (by decide) (r := (RX14, TX14, 107)) rfl [.long (lI (B 13 l5 14 l7)), .long (lI (B 13 l5 15 l7)), .long (lI (B 13 l5 14 l6)), .long (lI (B 13 l5 15 l6))]) rfl rfl hl.1 rfl (lv_room (Nat.le_of_ble_eq_true rfl)) (D_182 W_prog_15_method_198_code_352 16 rfl rfl rfl) ⟨Nat.le_of_ble_eq_true rfl, Nat.le_of_ble_eq_true rfl⟩) hS (fun q _ h => zAin X hS q h) (zAin X hS) (fun u38 t38 H38 locs38 ht38 hv38 hw38 hB38 hz38 hk38 hS38 => ?_)
        have hZ38 := zBack X ht38 hB38
        refine lv_iload hx hb (D_21 W_prog_15_method_198_code_352 19 rfl rfl) (lv_at hl 9 rfl) ?_
        obtain ⟨g39, hf⟩ := gif hf
        refine z0ne (tgt := 380) hx hb g39 (D_154 W_prog_15_method_198_code_352 21 rfl rfl rfl) (by decide) (fun h40 => ?_) (fun h40 => ?_)
        · replace hf := gneg hf h40
          refine lv_iload hx hb (D_21 W_prog_15_method_198_code_352 28 rfl rfl) (lv_at hl 9 rfl) ?_
          refine lv_iconst (v := iI 1) hx hb (D_4 W_prog_15_method_198_code_352 30 rfl rfl) rfl ?_
          refine zne (tgt := 392) hx hb g39 (by decide) (D_160 W_prog_15_method_198_code_352 31 rfl rfl rfl) (by decide) (fun h41 => ?_) (fun h41 => ?_)
          · replace hf := gneg hf h41
            refine lv_iload hx hb (D_21 W_prog_15_method_198_code_384 8 rfl rfl) (lv_at hl 9 rfl) ?_
            refine lv_iconst (v := iI 2) hx hb (D_5 W_prog_15_method_198_code_384 10 rfl rfl) rfl ?_
            refine zne (tgt := 405) hx hb g39 (by decide) (D_160 W_prog_15_method_198_code_384 11 rfl rfl rfl) (by decide) (fun h42 => ?_) (fun h42 => ?_)
            · replace hf := gneg hf h42
              refine lv_aload_n hx hb (D_42 W_prog_15_method_198_code_384 21 rfl rfl) rfl (lv_at hl 6 rfl) ?_
              refine zget (ci := 14) (C := RX14) (T := TX14) (v := .long (lI (F38 14 0 1))) (k := 1) hx hb hts inW_14 hown hK hZ38 (by decide) (by decide) rfl (by decide) k_10_239 rfl (D_180 W_prog_15_method_198_code_384 22 rfl rfl rfl) ?_
              exact b_M_follows_409 X hf hZ38 hS38 (lv_sub hl [] rfl)
            · replace hf := gpos hf h42
              refine lv_aload_n hx hb (D_42 W_prog_15_method_198_code_384 14 rfl rfl) rfl (lv_at hl 6 rfl) ?_
              refine zget (ci := 14) (C := RX14) (T := TX14) (v := .long (lI (F38 14 0 0))) (k := 0) hx hb hts inW_14 hown hK hZ38 (by decide) (by decide) rfl (by decide) k_10_238 rfl (D_180 W_prog_15_method_198_code_384 15 rfl rfl rfl) ?_
              refine lv_goto (tgt := 409) hx hb (D_167 W_prog_15_method_198_code_384 18 rfl rfl rfl) (by decide) ?_
              exact b_M_follows_409 X hf hZ38 hS38 (lv_sub hl [] rfl)
          · replace hf := gpos hf h41
            refine lv_iload hx hb (D_21 W_prog_15_method_198_code_384 2 rfl rfl) (lv_at hl 2 rfl) ?_
            obtain ⟨g43, hf⟩ := gif hf
            refine zi2l hx hb g43 (D_133 W_prog_15_method_198_code_384 4 rfl rfl) ?_
            refine lv_goto (tgt := 409) hx hb (D_167 W_prog_15_method_198_code_384 5 rfl rfl rfl) (by decide) ?_
            exact b_M_follows_409 X hf hZ38 hS38 (lv_sub hl [] rfl)
        · replace hf := gpos hf h40
          refine lv_iload hx hb (D_21 W_prog_15_method_198_code_352 24 rfl rfl) (lv_at hl 1 rfl) ?_
          refine zi2l hx hb g33 (D_133 W_prog_15_method_198_code_352 26 rfl rfl) ?_
          cases hf
          exact W.lret hx hb hr (fun t ht hW => ⟨⟨_, (), rfl, rfl, by rw [ht]; exact hZ38, va_K.moved hW.alike hK⟩, hS38.F ht⟩) hS38.2.2 (D_173 W_prog_15_method_198_code_352 27 rfl rfl) hlk
      · replace hf := gpos hf h34
        refine lv_lconst (v := lI 0) hx hb (D_9 W_prog_15_method_198_code_320 13 rfl rfl) (by decide) ?_
        cases hf
        exact W.lret hx hb hr (fun t ht hW => ⟨⟨_, (), rfl, rfl, by rw [ht]; exact hZ, va_K.moved hW.alike hK⟩, hS.F ht⟩) hS.2.2 (D_173 W_prog_15_method_198_code_320 14 rfl rfl) hlk
    · replace hf := gneg hf h31
      refine lv_iload hx hb (D_21 W_prog_15_method_198_code_128 23 rfl rfl) (lv_at hl 4 rfl) ?_
      refine lv_iload hx hb (D_21 W_prog_15_method_198_code_128 25 rfl rfl) (lv_at hl 1 rfl) ?_
      refine zadd hx hb (D_96 W_prog_15_method_198_code_128 27 rfl rfl) ?_
      refine lv_istore (lv' := [(11, .int (iI (l6 + l9))), (10, .int (iI l10)), (9, .int (iI l9)), (8, .int (iI l8)), (7, .int (iI l7)), (6, .int (iI l6)), (5, va_rf (zrf ad 13 l5)), (0, .ref (ad 14 0 0)), (2, .int (iI l2)), (3, .int (iI l3)), (4, .int (iI l4))]) hx hb (D_54 W_prog_15_method_198_code_128 28 rfl rfl) hl (by decide) rfl (fun ls hl => ?_)
      refine lv_iload hx hb (D_21 W_prog_15_method_198_code_128 30 rfl rfl) (lv_at hl 4 rfl) ?_
      refine lv_iload hx hb (D_21 W_prog_15_method_198_code_160 0 rfl rfl) (lv_at hl 2 rfl) ?_
      refine zadd hx hb (D_96 W_prog_15_method_198_code_160 2 rfl rfl) ?_
      refine lv_istore (lv' := [(12, .int (iI (l7 + l9))), (11, .int (iI (l6 + l9))), (10, .int (iI l10)), (9, .int (iI l9)), (8, .int (iI l8)), (7, .int (iI l7)), (6, .int (iI l6)), (5, va_rf (zrf ad 13 l5)), (0, .ref (ad 14 0 0)), (2, .int (iI l2)), (3, .int (iI l3)), (4, .int (iI l4))]) hx hb (D_54 W_prog_15_method_198_code_160 3 rfl rfl) hl (by decide) rfl (fun ls hl => ?_)
      refine lv_iload hx hb (D_21 W_prog_15_method_198_code_160 5 rfl rfl) (lv_at hl 1 rfl) ?_
      refine lv_sipush (v := iI 1000) hx hb (D_17 W_prog_15_method_198_code_160 7 rfl rfl rfl) (by decide) ?_
      refine lv_iload_n hx hb (D_28 W_prog_15_method_198_code_160 10 rfl rfl) rfl (lv_at hl 9 rfl) ?_
      refine zmul hx hb (D_104 W_prog_15_method_198_code_160 11 rfl rfl) ?_
      refine zaload hx hb (D_25 W_prog_15_method_198_code_160 12 rfl rfl) (lv_at hl 7 rfl) ?_
      obtain ⟨g44, hf⟩ := gif hf
      refine zunrf g44.1 ?_
      refine zget (ci := 13) (C := RX13) (T := TX13) (v := .ref (ad 13 l5 (12 + 1))) (k := 12) hx hb hts inW_13 hown hK hZ g44.1 g44.2 rfl (by decide) k_9_142 rfl (D_180 W_prog_15_method_198_code_160 14 rfl rfl rfl) ?_
      refine lv_iload_n hx hb (D_28 W_prog_15_method_198_code_160 17 rfl rfl) rfl (lv_at hl 9 rfl) ?_
      obtain ⟨g45, hf⟩ := gif hf
      refine zald (ci := 13) (k := 12) hx hb hK rfl hZ g44.1 g44.2 rfl (Nat.le_of_ble_eq_true rfl) g45.1 g45.2 (D_46 W_prog_15_method_198_code_160 18 rfl rfl) ?_
      refine zadd hx hb (D_96 W_prog_15_method_198_code_160 19 rfl rfl) ?_
      obtain ⟨g46, hf⟩ := gif hf
      obtain ⟨g47, hf⟩ := gif hf
      refine zge (tgt := 259) hx hb g46 g47 (D_162 W_prog_15_method_198_code_160 20 rfl rfl rfl) (by decide) (fun h48 => ?_) (fun h48 => ?_)
      · replace hf := gpos hf h48
        exact b_M_follows_259 X ih hf hZ hS (lv_sub hl [0, 1, 3, 4, 5, 6, 7, 8, 9, 10, 11] rfl)
      · replace hf := gneg hf h48
        refine lv_iload hx hb (D_21 W_prog_15_method_198_code_160 23 rfl rfl) (lv_at hl 0 rfl) ?_
        refine lv_sipush (v := iI 1000) hx hb (D_17 W_prog_15_method_198_code_160 25 rfl rfl rfl) (by decide) ?_
        refine lv_iload_n hx hb (D_29 W_prog_15_method_198_code_160 28 rfl rfl) rfl (lv_at hl 10 rfl) ?_
        refine zmul hx hb (D_104 W_prog_15_method_198_code_160 29 rfl rfl) ?_
        refine zaload hx hb (D_25 W_prog_15_method_198_code_160 30 rfl rfl) (lv_at hl 7 rfl) ?_
        refine zunrf g44.1 ?_
        refine zget (ci := 13) (C := RX13) (T := TX13) (v := .ref (ad 13 l5 (12 + 1))) (k := 12) hx hb hts inW_13 hown hK hZ g44.1 g44.2 rfl (by decide) k_9_142 rfl (D_180 W_prog_15_method_198_code_192 0 rfl rfl rfl) ?_
        refine lv_iload_n hx hb (D_29 W_prog_15_method_198_code_192 3 rfl rfl) rfl (lv_at hl 10 rfl) ?_
        obtain ⟨g49, hf⟩ := gif hf
        refine zald (ci := 13) (k := 12) hx hb hK rfl hZ g44.1 g44.2 rfl (Nat.le_of_ble_eq_true rfl) g49.1 g49.2 (D_46 W_prog_15_method_198_code_192 4 rfl rfl) ?_
        refine zadd hx hb (D_96 W_prog_15_method_198_code_192 5 rfl rfl) ?_
        obtain ⟨g50, hf⟩ := gif hf
        obtain ⟨g51, hf⟩ := gif hf
        refine zge (tgt := 259) hx hb g50 g51 (D_162 W_prog_15_method_198_code_192 6 rfl rfl rfl) (by decide) (fun h52 => ?_) (fun h52 => ?_)
        · replace hf := gpos hf h52
          exact b_M_follows_259 X ih hf hZ hS (lv_sub hl [0, 1, 3, 4, 5, 6, 7, 8, 9, 10, 11] rfl)
        · replace hf := gneg hf h52
          refine zaload hx hb (D_25 W_prog_15_method_198_code_192 9 rfl rfl) (lv_at hl 7 rfl) ?_
          refine lv_iload hx hb (D_21 W_prog_15_method_198_code_192 11 rfl rfl) (lv_at hl 1 rfl) ?_
          refine zaload hx hb (D_25 W_prog_15_method_198_code_192 13 rfl rfl) (lv_at hl 7 rfl) ?_
          refine lv_iload hx hb (D_21 W_prog_15_method_198_code_192 15 rfl rfl) (lv_at hl 0 rfl) ?_
          refine W.eq (g2 := F0 m 209 ls [.int (iI (l7 + l9)), va_rf (zrf ad 13 l5), .int (iI (l6 + l9)), .ref (ad 13 l5 0)]) (by rw [zrf_pos (ad := ad) (t := 13) g44.1]; try rfl) ?_
          refine W.eq (g2 := F0 m 209 ls [.int (iI (l7 + l9)), .ref (ad 13 l5 0), .int (iI (l6 + l9)), .ref (ad 13 l5 0)]) (by rw [zrf_pos (ad := ad) (t := 13) g44.1]; try rfl) ?_
          obtain ⟨r53, F53, B53, hc53, hf⟩ := gbind hf
          refine va_calli (va_runS (As := [.ref (ad 13 l5 0), .int (iI (l6 + l9)), .ref (ad 13 l5 0), .int (iI (l7 + l9))]) (rest := []) ⟨hx, hb, hml, hown, hts⟩ (c_M_isLike (l := l) hc53) (va_cwS 4 hts (gdS k_14_64 k_14_65 k_1_9 k_14_66) rfl rfl rfl (by decide +kernel) ⟨Nat.le_of_ble_eq_true rfl, Nat.le_of_ble_eq_true rfl⟩) (zPS X hZ hS [.ref (ad 13 l5 0), .int (iI (l6 + l9)), .ref (ad 13 l5 0), .int (iI (l7 + l9))]) rfl rfl hl.1 rfl (lv_room (Nat.le_of_ble_eq_true rfl)) (D_184 W_prog_15_method_198_code_192 17 rfl rfl rfl) ⟨Nat.le_of_ble_eq_true rfl, Nat.le_of_ble_eq_true rfl⟩) hS (fun q _ h => zAin X hS q h) (zAin X hS) (fun p53 u53 t53 H53 locs53 ht53 hv53 hw53 hB53 hz53 hk53 hS53 => ?_)
          have hZ53 := zBack X ht53 hB53
          subst hw53
          obtain ⟨g54, hf⟩ := gif hf
          refine z0eq (tgt := 259) hx hb g54 (D_153 W_prog_15_method_198_code_192 20 rfl rfl rfl) (by decide) (fun h55 => ?_) (fun h55 => ?_)
          · replace hf := gpos hf h55
            exact b_M_follows_259 X ih hf hZ53 hS53 (lv_sub hl [0, 1, 3, 4, 5, 6, 7, 8, 9, 10, 11] rfl)
          · replace hf := gneg hf h55
            refine zaload hx hb (D_25 W_prog_15_method_198_code_192 23 rfl rfl) (lv_at hl 7 rfl) ?_
            refine zunrf g44.1 ?_
            refine zget (ci := 13) (C := RX13) (T := TX13) (v := .ref (ad 13 l5 (16 + 1))) (k := 16) hx hb hts inW_13 hown hK hZ53 g44.1 g44.2 rfl (by decide) k_9_150 rfl (D_180 W_prog_15_method_198_code_192 25 rfl rfl rfl) ?_
            refine lv_iload hx hb (D_21 W_prog_15_method_198_code_192 28 rfl rfl) (lv_at hl 1 rfl) ?_
            obtain ⟨g56, hf⟩ := gif hf
            refine zlald (ci := 13) (k := 16) hx hb hK rfl hZ53 g44.1 g44.2 rfl (Nat.le_of_ble_eq_true rfl) g56.1 g56.2 (D_47 W_prog_15_method_198_code_192 30 rfl rfl) ?_
            refine zaload hx hb (D_25 W_prog_15_method_198_code_192 31 rfl rfl) (lv_at hl 7 rfl) ?_
            refine zunrf g44.1 ?_
            refine zget (ci := 13) (C := RX13) (T := TX13) (v := .ref (ad 13 l5 (16 + 1))) (k := 16) hx hb hts inW_13 hown hK hZ53 g44.1 g44.2 rfl (by decide) k_9_150 rfl (D_180 W_prog_15_method_198_code_224 1 rfl rfl rfl) ?_
            refine lv_iload hx hb (D_21 W_prog_15_method_198_code_224 4 rfl rfl) (lv_at hl 0 rfl) ?_
            obtain ⟨g57, hf⟩ := gif hf
            refine zlald (ci := 13) (k := 16) hx hb hK rfl hZ53 g44.1 g44.2 rfl (Nat.le_of_ble_eq_true rfl) g57.1 g57.2 (D_47 W_prog_15_method_198_code_224 6 rfl rfl) ?_
            obtain ⟨g58, hf⟩ := gif hf
            obtain ⟨g59, hf⟩ := gif hf
            refine zcmp_r hx hb g58 g59 (D_148 W_prog_15_method_198_code_224 7 rfl rfl) ?_
            refine z0ne (tgt := 259) hx hb zcmp_32 (D_154 W_prog_15_method_198_code_224 8 rfl rfl rfl) (by decide) (fun h60 => ?_) (fun h60 => ?_)
            · replace hf := gneg hf h60
              exact b_M_follows_259 X ih hf hZ53 hS53 (lv_sub hl [0, 1, 3, 4, 5, 6, 7, 8, 9, 10, 11] rfl)
            · replace hf := gpos hf h60
              refine zaload hx hb (D_25 W_prog_15_method_198_code_224 11 rfl rfl) (lv_at hl 7 rfl) ?_
              refine zunrf g44.1 ?_
              refine zget (ci := 13) (C := RX13) (T := TX13) (v := .ref (ad 13 l5 (17 + 1))) (k := 17) hx hb hts inW_13 hown hK hZ53 g44.1 g44.2 rfl (by decide) k_9_152 rfl (D_180 W_prog_15_method_198_code_224 13 rfl rfl rfl) ?_
              refine lv_iload hx hb (D_21 W_prog_15_method_198_code_224 16 rfl rfl) (lv_at hl 1 rfl) ?_
              refine zlald (ci := 13) (k := 17) hx hb hK rfl hZ53 g44.1 g44.2 rfl (Nat.le_of_ble_eq_true rfl) g56.1 g56.2 (D_47 W_prog_15_method_198_code_224 18 rfl rfl) ?_
              refine zaload hx hb (D_25 W_prog_15_method_198_code_224 19 rfl rfl) (lv_at hl 7 rfl) ?_
              refine zunrf g44.1 ?_
              refine zget (ci := 13) (C := RX13) (T := TX13) (v := .ref (ad 13 l5 (17 + 1))) (k := 17) hx hb hts inW_13 hown hK hZ53 g44.1 g44.2 rfl (by decide) k_9_152 rfl (D_180 W_prog_15_method_198_code_224 21 rfl rfl rfl) ?_
              refine lv_iload hx hb (D_21 W_prog_15_method_198_code_224 24 rfl rfl) (lv_at hl 0 rfl) ?_
              refine zlald (ci := 13) (k := 17) hx hb hK rfl hZ53 g44.1 g44.2 rfl (Nat.le_of_ble_eq_true rfl) g57.1 g57.2 (D_47 W_prog_15_method_198_code_224 26 rfl rfl) ?_
              obtain ⟨g61, hf⟩ := gif hf
              obtain ⟨g62, hf⟩ := gif hf
              refine zcmp_r hx hb g61 g62 (D_148 W_prog_15_method_198_code_224 27 rfl rfl) ?_
              refine z0ne (tgt := 259) hx hb zcmp_32 (D_154 W_prog_15_method_198_code_224 28 rfl rfl rfl) (by decide) (fun h63 => ?_) (fun h63 => ?_)
              · replace hf := gneg hf h63
                exact b_M_follows_259 X ih hf hZ53 hS53 (lv_sub hl [0, 1, 3, 4, 5, 6, 7, 8, 9, 10, 11] rfl)
              · replace hf := gpos hf h63
                refine lv_iconst (v := iI 1) hx hb (D_4 W_prog_15_method_198_code_224 31 rfl rfl) rfl ?_
                refine lv_goto (tgt := 260) hx hb (D_167 W_prog_15_method_198_code_256 0 rfl rfl rfl) (by decide) ?_
                exact b_M_follows_260 X ih hf hZ53 hS53 (lv_sub hl [0, 1, 3, 4, 5, 6, 7, 8, 9, 10, 11] rfl)

def f_M_follows_109 (K : Nat)  (F : zF) (B : zB) : zO := some (0, F, B)
set_option maxHeartbeats 4000000 in
set_option maxRecDepth 100000 in
theorem b_M_follows_109 {D : va_G} {ca : Nat → ClassId} {ad : Nat → Int → Nat → Nat} {L : List Nat} {aS vS : Nat → Nat} {A : Nat → Prop} {p : Program} {l : Launch} {e : Env} {s : State} {m : MethodId} {args : Array Value} {below : List Frame} {meth : Method} {c : Code} {K : Nat} {r : Int} {F9 : zF} {B9 : zB} (X : zX D ca L aS vS A p s m args meth c prog_15_method_198_code 13 (Option.some Jvm.ClassFile.FieldType.long) "StaveHouseModel")  {F : zF} {B : zB} {H : Heap} {locs : List Loc} {ls : Array Slot} (hf : f_M_follows_109 K  F B = some (r, F9, B9)) (hZ : zH D ca ad lnM nM L F B A H) (hS : va_S A s.heap H locs) (hl : lv_has ls 13 []) : W p l e ({ frames := 3, cells := 0, slots := 0, locals := 85 } : Room) s m args below meth c H locs 0 0 (MQ below (Q_M_follows D ca ad L r F9 B9 A) args s 0 0 A) (F0 m 109 ls []) := by
  obtain ⟨hx, hb, hr, hml, hown, hts, hlk, hK, hA, hL, hX⟩ := id X
  replace hf : (some (0, F, B)) = some (r, F9, B9) := hf
  refine lv_lconst (v := lI 0) hx hb (D_9 W_prog_15_method_198_code_96 13 rfl rfl) (by decide) ?_
  cases hf
  exact W.lret hx hb hr (fun t ht hW => ⟨⟨_, (), rfl, rfl, by rw [ht]; exact hZ, va_K.moved hW.alike hK⟩, hS.F ht⟩) hS.2.2 (D_173 W_prog_15_method_198_code_96 14 rfl rfl) hlk

def f_M_follows_41 (K : Nat)  (F : zF) (B : zB) : zO := some ((-1), F, B)
set_option maxHeartbeats 4000000 in
set_option maxRecDepth 100000 in
theorem b_M_follows_41 {D : va_G} {ca : Nat → ClassId} {ad : Nat → Int → Nat → Nat} {L : List Nat} {aS vS : Nat → Nat} {A : Nat → Prop} {p : Program} {l : Launch} {e : Env} {s : State} {m : MethodId} {args : Array Value} {below : List Frame} {meth : Method} {c : Code} {K : Nat} {r : Int} {F9 : zF} {B9 : zB} (X : zX D ca L aS vS A p s m args meth c prog_15_method_198_code 13 (Option.some Jvm.ClassFile.FieldType.long) "StaveHouseModel")  {F : zF} {B : zB} {H : Heap} {locs : List Loc} {ls : Array Slot} (hf : f_M_follows_41 K  F B = some (r, F9, B9)) (hZ : zH D ca ad lnM nM L F B A H) (hS : va_S A s.heap H locs) (hl : lv_has ls 13 []) : W p l e ({ frames := 3, cells := 0, slots := 0, locals := 85 } : Room) s m args below meth c H locs 0 0 (MQ below (Q_M_follows D ca ad L r F9 B9 A) args s 0 0 A) (F0 m 41 ls []) := by
  obtain ⟨hx, hb, hr, hml, hown, hts, hlk, hK, hA, hL, hX⟩ := id X
  replace hf : (some ((-1), F, B)) = some (r, F9, B9) := hf
  refine lv_ldc2 hx hb hown (hts _ k_12_105) (D_20 W_prog_15_method_198_code_32 9 rfl rfl rfl) ?_
  refine W.eq (g2 := F0 m 44 ls [.long (lI (-1))]) rfl ?_
  cases hf
  exact W.lret hx hb hr (fun t ht hW => ⟨⟨_, (), rfl, rfl, by rw [ht]; exact hZ, va_K.moved hW.alike hK⟩, hS.F ht⟩) hS.2.2 (D_173 W_prog_15_method_198_code_32 12 rfl rfl) hlk

def f_M_follows (K : Nat) (l1 : Int) (l2 : Int) (l3 : Int) (l4 : Int) (F : zF) (B : zB) : zO := zbind (f_M_piece K l1 F B) (fun r1 F1 B1 => zbind (f_M_isVoice K r1 l2 F1 B1) (fun r2 F2 B2 => if r32 r2 then (if r2 = 0 then f_M_follows_41 K F2 B2 else zbind (f_M_isVoice K r1 l3 F2 B2) (fun r5 F5 B5 => if r32 r5 then (if r5 = 0 then f_M_follows_41 K F5 B5 else if r32 l2 then if r32 l3 then (if l2 = l3 then f_M_follows_41 K F5 B5 else if r32 l4 then (if l4 < 0 then f_M_follows_41 K F5 B5 else (if l4 ≤ 3 then if 0 ≤ r1 ∧ r1 < 3 then zbind (f_M_firstSounding K r1 l2 F5 B5) (fun r15 F15 B15 => zbind (f_M_firstSounding K r1 l3 F15 B15) (fun r16 F16 B16 => if r32 r15 then (if r15 < 0 then f_M_follows_109 K F16 B16 else if r32 r16 then (if r16 < 0 then f_M_follows_109 K F16 B16 else if 0 ≤ r16 ∧ r16 < 4000 then if 0 ≤ r15 ∧ r15 < 4000 then zbind (f_M_compare K (B16 13 r1 14 r16) (B16 13 r1 15 r16) (B16 13 r1 14 r15) (B16 13 r1 15 r15) F16 B16) (fun r23 F23 B23 => if r32 r23 then (if 0 < r23 then zbind (f_M_lineOf K r1 r16 F23 B23) (fun r26 F26 B26 => if 0 ≤ r26 ∧ r26 < 24000 then zbind (f_M_lineOf K r1 r15 F26 B26) (fun r28 F28 B28 => if 0 ≤ r28 ∧ r28 < 24000 then f_M_follows_146 K K 1 0 ((B26 13 r1 28 r26) - (B28 13 r1 28 r28)) r16 r15 r1 l2 l3 l4 F28 B28 else none) else none) else f_M_follows_109 K F23 B23) else none) else none else none) else none) else none)) else none else f_M_follows_41 K F5 B5)) else none) else none else none) else none)) else none))
set_option maxHeartbeats 4000000 in
set_option maxRecDepth 100000 in
theorem c_M_follows {l : Launch} {D : va_G} {ca : Nat → ClassId} {ad : Nat → Int → Nat → Nat} {L : List Nat} {aS vS : Nat → Nat} {sz K : Nat}  {l1 : Int} {l2 : Int} {l3 : Int} {l4 : Int} {F F9 : zF} {B B9 : zB} {r : Int} (hf : f_M_follows K l1 l2 l3 l4 F B = some (r, F9, B9)) : Met l ({ cls := "StaveHouseModel", name := "follows", desc := "(IIII)J" } : Jvm.MethodName) (Cond.code ({ cls := "StaveHouseModel", name := "follows", desc := "(IIII)J" } : Jvm.MethodName) prog_15_method_198_code 13 (Option.some Jvm.ClassFile.FieldType.long) :: wAll) ({ frames := 3, cells := 0, slots := 0, locals := 85 } : Room) (va_Pc [.ref (ad 14 0 0), .int (iI l1), .int (iI l2), .int (iI l3), .int (iI l4)] (zPre D ca ad lnM nM L aS vS F B sz)) (Q_M_follows D ca ad L r F9 B9 (zA L sz)) 0 0 (zA L sz) := by
  refine zMet (Qc := Q_M_follows D ca ad L r F9 B9) (lv := [(0, .ref (ad 14 0 0)), (1, .int (iI l1)), (2, .int (iI l2)), (3, .int (iI l3)), (4, .int (iI l4))]) (by decide) (Nat.le_of_ble_eq_true rfl) rfl (fun A p e s m below meth c ls X hZ hS hl => ?_)
  obtain ⟨hx, hb, hr, hml, hown, hts, hlk, hK, hA, hL, hX⟩ := id X
  replace hf : (zbind (f_M_piece K l1 F B) (fun r1 F1 B1 => zbind (f_M_isVoice K r1 l2 F1 B1) (fun r2 F2 B2 => if r32 r2 then (if r2 = 0 then f_M_follows_41 K F2 B2 else zbind (f_M_isVoice K r1 l3 F2 B2) (fun r5 F5 B5 => if r32 r5 then (if r5 = 0 then f_M_follows_41 K F5 B5 else if r32 l2 then if r32 l3 then (if l2 = l3 then f_M_follows_41 K F5 B5 else if r32 l4 then (if l4 < 0 then f_M_follows_41 K F5 B5 else (if l4 ≤ 3 then if 0 ≤ r1 ∧ r1 < 3 then zbind (f_M_firstSounding K r1 l2 F5 B5) (fun r15 F15 B15 => zbind (f_M_firstSounding K r1 l3 F15 B15) (fun r16 F16 B16 => if r32 r15 then (if r15 < 0 then f_M_follows_109 K F16 B16 else if r32 r16 then (if r16 < 0 then f_M_follows_109 K F16 B16 else if 0 ≤ r16 ∧ r16 < 4000 then if 0 ≤ r15 ∧ r15 < 4000 then zbind (f_M_compare K (B16 13 r1 14 r16) (B16 13 r1 15 r16) (B16 13 r1 14 r15) (B16 13 r1 15 r15) F16 B16) (fun r23 F23 B23 => if r32 r23 then (if 0 < r23 then zbind (f_M_lineOf K r1 r16 F23 B23) (fun r26 F26 B26 => if 0 ≤ r26 ∧ r26 < 24000 then zbind (f_M_lineOf K r1 r15 F26 B26) (fun r28 F28 B28 => if 0 ≤ r28 ∧ r28 < 24000 then f_M_follows_146 K K 1 0 ((B26 13 r1 28 r26) - (B28 13 r1 28 r28)) r16 r15 r1 l2 l3 l4 F28 B28 else none) else none) else f_M_follows_109 K F23 B23) else none) else none else none) else none) else none)) else none else f_M_follows_41 K F5 B5)) else none) else none else none) else none)) else none))) = some (r, F9, B9) := hf
  refine lv_aload_n hx hb (D_42 W_prog_15_method_198_code_0 0 rfl rfl) rfl (lv_at hl 0 rfl) ?_
  refine lv_iload_n hx hb (D_27 W_prog_15_method_198_code_0 1 rfl rfl) rfl (lv_at hl 1 rfl) ?_
  obtain ⟨r1, F1, B1, hc1, hf⟩ := gbind hf
  refine va_callq (va_runV (As := [.int (iI l1)]) (rest := []) ⟨hx, hb, hml, hown, hts⟩ (c_M_piece (l := l) hc1) (cwV 1 hts (gdV k_12_92 k_12_94 ks_131 k_1_9 k_12_95) rfl rfl rfl (by decide +kernel) ⟨Nat.le_of_ble_eq_true rfl, Nat.le_of_ble_eq_true rfl⟩) (zPV X hZ hS (ci := 14) (by decide) (by decide) (r := (RX14, TX14, 107)) rfl [.int (iI l1)]) rfl rfl hl.1 rfl (lv_room (Nat.le_of_ble_eq_true rfl)) (D_182 W_prog_15_method_198_code_0 2 rfl rfl rfl) ⟨Nat.le_of_ble_eq_true rfl, Nat.le_of_ble_eq_true rfl⟩) hS (fun q _ h => zAin X hS q h) (zAin X hS) (fun p1 u1 t1 H1 locs1 ht1 hv1 hw1 hB1 hz1 hk1 hS1 => ?_)
  have hZ1 := zBack X ht1 hB1
  subst hw1
  refine zastore (lv' := [(0, .ref (ad 14 0 0)), (1, .int (iI l1)), (2, .int (iI l2)), (3, .int (iI l3)), (4, .int (iI l4))]) hx hb (D_58 W_prog_15_method_198_code_0 5 rfl rfl) hl (by decide) (fun _ _ => rfl) (fun ls hl => ?_)
  refine zaload hx hb (D_25 W_prog_15_method_198_code_0 7 rfl rfl) (lv_at hl 0 rfl) ?_
  refine lv_iload_n hx hb (D_28 W_prog_15_method_198_code_0 9 rfl rfl) rfl (lv_at hl 3 rfl) ?_
  obtain ⟨r2, F2, B2, hc2, hf⟩ := gbind hf
  refine va_calli (va_runS (As := [va_rf (zrf ad 13 r1), .int (iI l2)]) (rest := []) ⟨hx, hb, hml, hown, hts⟩ (c_M_isVoice (l := l) hc2) (va_cwS 2 hts (gdS k_12_118 k_12_119 k_1_9 k_12_120) rfl rfl rfl (by decide +kernel) ⟨Nat.le_of_ble_eq_true rfl, Nat.le_of_ble_eq_true rfl⟩) (zPS X hZ1 hS1 [va_rf (zrf ad 13 r1), .int (iI l2)]) rfl rfl hl.1 rfl (lv_room (Nat.le_of_ble_eq_true rfl)) (D_184 W_prog_15_method_198_code_0 10 rfl rfl rfl) ⟨Nat.le_of_ble_eq_true rfl, Nat.le_of_ble_eq_true rfl⟩) hS1 (fun q _ h => zAin X hS1 q h) (zAin X hS1) (fun p2 u2 t2 H2 locs2 ht2 hv2 hw2 hB2 hz2 hk2 hS2 => ?_)
  have hZ2 := zBack X ht2 hB2
  subst hw2
  obtain ⟨g3, hf⟩ := gif hf
  refine z0eq (tgt := 41) hx hb g3 (D_153 W_prog_15_method_198_code_0 13 rfl rfl rfl) (by decide) (fun h4 => ?_) (fun h4 => ?_)
  · replace hf := gpos hf h4
    exact b_M_follows_41 X hf hZ2 hS2 (lv_sub hl [] rfl)
  · replace hf := gneg hf h4
    refine zaload hx hb (D_25 W_prog_15_method_198_code_0 16 rfl rfl) (lv_at hl 0 rfl) ?_
    refine lv_iload_n hx hb (D_29 W_prog_15_method_198_code_0 18 rfl rfl) rfl (lv_at hl 4 rfl) ?_
    obtain ⟨r5, F5, B5, hc5, hf⟩ := gbind hf
    refine va_calli (va_runS (As := [va_rf (zrf ad 13 r1), .int (iI l3)]) (rest := []) ⟨hx, hb, hml, hown, hts⟩ (c_M_isVoice (l := l) hc5) (va_cwS 2 hts (gdS k_12_118 k_12_119 k_1_9 k_12_120) rfl rfl rfl (by decide +kernel) ⟨Nat.le_of_ble_eq_true rfl, Nat.le_of_ble_eq_true rfl⟩) (zPS X hZ2 hS2 [va_rf (zrf ad 13 r1), .int (iI l3)]) rfl rfl hl.1 rfl (lv_room (Nat.le_of_ble_eq_true rfl)) (D_184 W_prog_15_method_198_code_0 19 rfl rfl rfl) ⟨Nat.le_of_ble_eq_true rfl, Nat.le_of_ble_eq_true rfl⟩) hS2 (fun q _ h => zAin X hS2 q h) (zAin X hS2) (fun p5 u5 t5 H5 locs5 ht5 hv5 hw5 hB5 hz5 hk5 hS5 => ?_)
    have hZ5 := zBack X ht5 hB5
    subst hw5
    obtain ⟨g6, hf⟩ := gif hf
    refine z0eq (tgt := 41) hx hb g6 (D_153 W_prog_15_method_198_code_0 22 rfl rfl rfl) (by decide) (fun h7 => ?_) (fun h7 => ?_)
    · replace hf := gpos hf h7
      exact b_M_follows_41 X hf hZ5 hS5 (lv_sub hl [] rfl)
    · replace hf := gneg hf h7
      refine lv_iload_n hx hb (D_28 W_prog_15_method_198_code_0 25 rfl rfl) rfl (lv_at hl 3 rfl) ?_
      refine lv_iload_n hx hb (D_29 W_prog_15_method_198_code_0 26 rfl rfl) rfl (lv_at hl 4 rfl) ?_
      obtain ⟨g8, hf⟩ := gif hf
      obtain ⟨g9, hf⟩ := gif hf
      refine zeq (tgt := 41) hx hb g8 g9 (D_159 W_prog_15_method_198_code_0 27 rfl rfl rfl) (by decide) (fun h10 => ?_) (fun h10 => ?_)
      · replace hf := gpos hf h10
        exact b_M_follows_41 X hf hZ5 hS5 (lv_sub hl [] rfl)
      · replace hf := gneg hf h10
        refine lv_iload hx hb (D_21 W_prog_15_method_198_code_0 30 rfl rfl) (lv_at hl 5 rfl) ?_
        obtain ⟨g11, hf⟩ := gif hf
        refine z0lt (tgt := 41) hx hb g11 (D_155 W_prog_15_method_198_code_32 0 rfl rfl rfl) (by decide) (fun h12 => ?_) (fun h12 => ?_)
        · replace hf := gpos hf h12
          exact b_M_follows_41 X hf hZ5 hS5 (lv_sub hl [] rfl)
        · replace hf := gneg hf h12
          refine lv_iload hx hb (D_21 W_prog_15_method_198_code_32 3 rfl rfl) (lv_at hl 5 rfl) ?_
          refine lv_iconst (v := iI 3) hx hb (D_6 W_prog_15_method_198_code_32 5 rfl rfl) rfl ?_
          refine zle (tgt := 45) hx hb g11 (by decide) (D_164 W_prog_15_method_198_code_32 6 rfl rfl rfl) (by decide) (fun h13 => ?_) (fun h13 => ?_)
          · replace hf := gpos hf h13
            refine zaload hx hb (D_25 W_prog_15_method_198_code_32 13 rfl rfl) (lv_at hl 0 rfl) ?_
            refine lv_iload_n hx hb (D_28 W_prog_15_method_198_code_32 15 rfl rfl) rfl (lv_at hl 3 rfl) ?_
            obtain ⟨g14, hf⟩ := gif hf
            refine W.eq (g2 := F0 m 48 ls [.int (iI l2), .ref (ad 13 r1 0)]) (by rw [zrf_pos (ad := ad) (t := 13) g14.1]; try rfl) ?_
            obtain ⟨r15, F15, B15, hc15, hf⟩ := gbind hf
            refine va_calli (va_runS (As := [.ref (ad 13 r1 0), .int (iI l2)]) (rest := []) ⟨hx, hb, hml, hown, hts⟩ (c_M_firstSounding (l := l) hc15) (va_cwS 2 hts (gdS k_14_58 k_14_59 k_1_9 k_14_60) rfl rfl rfl (by decide +kernel) ⟨Nat.le_of_ble_eq_true rfl, Nat.le_of_ble_eq_true rfl⟩) (zPS X hZ5 hS5 [.ref (ad 13 r1 0), .int (iI l2)]) rfl rfl hl.1 rfl (lv_room (Nat.le_of_ble_eq_true rfl)) (D_184 W_prog_15_method_198_code_32 16 rfl rfl rfl) ⟨Nat.le_of_ble_eq_true rfl, Nat.le_of_ble_eq_true rfl⟩) hS5 (fun q _ h => zAin X hS5 q h) (zAin X hS5) (fun p15 u15 t15 H15 locs15 ht15 hv15 hw15 hB15 hz15 hk15 hS15 => ?_)
            have hZ15 := zBack X ht15 hB15
            subst hw15
            refine lv_istore (lv' := [(6, .int (iI r15)), (5, va_rf (zrf ad 13 r1)), (0, .ref (ad 14 0 0)), (1, .int (iI l1)), (2, .int (iI l2)), (3, .int (iI l3)), (4, .int (iI l4))]) hx hb (D_54 W_prog_15_method_198_code_32 19 rfl rfl) hl (by decide) (by cases zrf ad 13 r1 <;> rfl) (fun ls hl => ?_)
            refine zaload hx hb (D_25 W_prog_15_method_198_code_32 21 rfl rfl) (lv_at hl 1 rfl) ?_
            refine lv_iload_n hx hb (D_29 W_prog_15_method_198_code_32 23 rfl rfl) rfl (lv_at hl 5 rfl) ?_
            refine W.eq (g2 := F0 m 56 ls [.int (iI l3), .ref (ad 13 r1 0)]) (by rw [zrf_pos (ad := ad) (t := 13) g14.1]; try rfl) ?_
            obtain ⟨r16, F16, B16, hc16, hf⟩ := gbind hf
            refine va_calli (va_runS (As := [.ref (ad 13 r1 0), .int (iI l3)]) (rest := []) ⟨hx, hb, hml, hown, hts⟩ (c_M_firstSounding (l := l) hc16) (va_cwS 2 hts (gdS k_14_58 k_14_59 k_1_9 k_14_60) rfl rfl rfl (by decide +kernel) ⟨Nat.le_of_ble_eq_true rfl, Nat.le_of_ble_eq_true rfl⟩) (zPS X hZ15 hS15 [.ref (ad 13 r1 0), .int (iI l3)]) rfl rfl hl.1 rfl (lv_room (Nat.le_of_ble_eq_true rfl)) (D_184 W_prog_15_method_198_code_32 24 rfl rfl rfl) ⟨Nat.le_of_ble_eq_true rfl, Nat.le_of_ble_eq_true rfl⟩) hS15 (fun q _ h => zAin X hS15 q h) (zAin X hS15) (fun p16 u16 t16 H16 locs16 ht16 hv16 hw16 hB16 hz16 hk16 hS16 => ?_)
            have hZ16 := zBack X ht16 hB16
            subst hw16
            refine lv_istore (lv' := [(7, .int (iI r16)), (6, .int (iI r15)), (5, va_rf (zrf ad 13 r1)), (0, .ref (ad 14 0 0)), (1, .int (iI l1)), (2, .int (iI l2)), (3, .int (iI l3)), (4, .int (iI l4))]) hx hb (D_54 W_prog_15_method_198_code_32 27 rfl rfl) hl (by decide) rfl (fun ls hl => ?_)
            refine lv_iload hx hb (D_21 W_prog_15_method_198_code_32 29 rfl rfl) (lv_at hl 1 rfl) ?_
            obtain ⟨g17, hf⟩ := gif hf
            refine z0lt (tgt := 109) hx hb g17 (D_155 W_prog_15_method_198_code_32 31 rfl rfl rfl) (by decide) (fun h18 => ?_) (fun h18 => ?_)
            · replace hf := gpos hf h18
              exact b_M_follows_109 X hf hZ16 hS16 (lv_sub hl [] rfl)
            · replace hf := gneg hf h18
              refine lv_iload hx hb (D_21 W_prog_15_method_198_code_64 2 rfl rfl) (lv_at hl 0 rfl) ?_
              obtain ⟨g19, hf⟩ := gif hf
              refine z0lt (tgt := 109) hx hb g19 (D_155 W_prog_15_method_198_code_64 4 rfl rfl rfl) (by decide) (fun h20 => ?_) (fun h20 => ?_)
              · replace hf := gpos hf h20
                exact b_M_follows_109 X hf hZ16 hS16 (lv_sub hl [] rfl)
              · replace hf := gneg hf h20
                refine zaload hx hb (D_25 W_prog_15_method_198_code_64 7 rfl rfl) (lv_at hl 2 rfl) ?_
                refine zunrf g14.1 ?_
                refine zget (ci := 13) (C := RX13) (T := TX13) (v := .ref (ad 13 r1 (14 + 1))) (k := 14) hx hb hts inW_13 hown hK hZ16 g14.1 g14.2 rfl (by decide) k_9_146 rfl (D_180 W_prog_15_method_198_code_64 9 rfl rfl rfl) ?_
                refine lv_iload hx hb (D_21 W_prog_15_method_198_code_64 12 rfl rfl) (lv_at hl 0 rfl) ?_
                obtain ⟨g21, hf⟩ := gif hf
                refine zlald (ci := 13) (k := 14) hx hb hK rfl hZ16 g14.1 g14.2 rfl (Nat.le_of_ble_eq_true rfl) g21.1 g21.2 (D_47 W_prog_15_method_198_code_64 14 rfl rfl) ?_
                refine zaload hx hb (D_25 W_prog_15_method_198_code_64 15 rfl rfl) (lv_at hl 2 rfl) ?_
                refine zunrf g14.1 ?_
                refine zget (ci := 13) (C := RX13) (T := TX13) (v := .ref (ad 13 r1 (15 + 1))) (k := 15) hx hb hts inW_13 hown hK hZ16 g14.1 g14.2 rfl (by decide) k_9_148 rfl (D_180 W_prog_15_method_198_code_64 17 rfl rfl rfl) ?_
                refine lv_iload hx hb (D_21 W_prog_15_method_198_code_64 20 rfl rfl) (lv_at hl 0 rfl) ?_
                refine zlald (ci := 13) (k := 15) hx hb hK rfl hZ16 g14.1 g14.2 rfl (Nat.le_of_ble_eq_true rfl) g21.1 g21.2 (D_47 W_prog_15_method_198_code_64 22 rfl rfl) ?_
                refine zaload hx hb (D_25 W_prog_15_method_198_code_64 23 rfl rfl) (lv_at hl 2 rfl) ?_
                refine zunrf g14.1 ?_
                refine zget (ci := 13) (C := RX13) (T := TX13) (v := .ref (ad 13 r1 (14 + 1))) (k := 14) hx hb hts inW_13 hown hK hZ16 g14.1 g14.2 rfl (by decide) k_9_146 rfl (D_180 W_prog_15_method_198_code_64 25 rfl rfl rfl) ?_
                refine lv_iload hx hb (D_21 W_prog_15_method_198_code_64 28 rfl rfl) (lv_at hl 1 rfl) ?_
                obtain ⟨g22, hf⟩ := gif hf
                refine zlald (ci := 13) (k := 14) hx hb hK rfl hZ16 g14.1 g14.2 rfl (Nat.le_of_ble_eq_true rfl) g22.1 g22.2 (D_47 W_prog_15_method_198_code_64 30 rfl rfl) ?_
                refine zaload hx hb (D_25 W_prog_15_method_198_code_64 31 rfl rfl) (lv_at hl 2 rfl) ?_
                refine zunrf g14.1 ?_
                refine zget (ci := 13) (C := RX13) (T := TX13) (v := .ref (ad 13 r1 (15 + 1))) (k := 15) hx hb hts inW_13 hown hK hZ16 g14.1 g14.2 rfl (by decide) k_9_148 rfl (D_180 W_prog_15_method_198_code_96 1 rfl rfl rfl) ?_
                refine lv_iload hx hb (D_21 W_prog_15_method_198_code_96 4 rfl rfl) (lv_at hl 1 rfl) ?_
                refine zlald (ci := 13) (k := 15) hx hb hK rfl hZ16 g14.1 g14.2 rfl (Nat.le_of_ble_eq_true rfl) g22.1 g22.2 (D_47 W_prog_15_method_198_code_96 6 rfl rfl) ?_
                obtain ⟨r23, F23, B23, hc23, hf⟩ := gbind hf
                refine va_calli (va_runS (As := [.long (lI (B16 13 r1 14 r16)), .long (lI (B16 13 r1 15 r16)), .long (lI (B16 13 r1 14 r15)), .long (lI (B16 13 r1 15 r15))]) (rest := []) ⟨hx, hb, hml, hown, hts⟩ (c_M_compare (l := l) hc23) (va_cwS 4 hts (gdS k_13_104 k_13_105 k_1_9 k_13_106) rfl rfl rfl (by decide +kernel) ⟨Nat.le_of_ble_eq_true rfl, Nat.le_of_ble_eq_true rfl⟩) (zPS X hZ16 hS16 [.long (lI (B16 13 r1 14 r16)), .long (lI (B16 13 r1 15 r16)), .long (lI (B16 13 r1 14 r15)), .long (lI (B16 13 r1 15 r15))]) rfl rfl hl.1 rfl (lv_room (Nat.le_of_ble_eq_true rfl)) (D_184 W_prog_15_method_198_code_96 7 rfl rfl rfl) ⟨Nat.le_of_ble_eq_true rfl, Nat.le_of_ble_eq_true rfl⟩) hS16 (fun q _ h => zAin X hS16 q h) (zAin X hS16) (fun p23 u23 t23 H23 locs23 ht23 hv23 hw23 hB23 hz23 hk23 hS23 => ?_)
                have hZ23 := zBack X ht23 hB23
                subst hw23
                obtain ⟨g24, hf⟩ := gif hf
                refine z0gt (tgt := 111) hx hb g24 (D_157 W_prog_15_method_198_code_96 10 rfl rfl rfl) (by decide) (fun h25 => ?_) (fun h25 => ?_)
                · replace hf := gpos hf h25
                  refine zaload hx hb (D_25 W_prog_15_method_198_code_96 15 rfl rfl) (lv_at hl 2 rfl) ?_
                  refine zunrf g14.1 ?_
                  refine zget (ci := 13) (C := RX13) (T := TX13) (v := .ref (ad 13 r1 (28 + 1))) (k := 28) hx hb hts inW_13 hown hK hZ23 g14.1 g14.2 rfl (by decide) k_9_174 rfl (D_180 W_prog_15_method_198_code_96 17 rfl rfl rfl) ?_
                  refine zaload hx hb (D_25 W_prog_15_method_198_code_96 20 rfl rfl) (lv_at hl 2 rfl) ?_
                  refine lv_iload hx hb (D_21 W_prog_15_method_198_code_96 22 rfl rfl) (lv_at hl 0 rfl) ?_
                  refine W.eq (g2 := F0 m 120 ls [.int (iI r16), .ref (ad 13 r1 0), .ref (ad 13 r1 (28 + 1))]) (by rw [zrf_pos (ad := ad) (t := 13) g14.1]; try rfl) ?_
                  obtain ⟨r26, F26, B26, hc26, hf⟩ := gbind hf
                  refine va_calli (va_runS (As := [.ref (ad 13 r1 0), .int (iI r16)]) (rest := [.ref (ad 13 r1 (28 + 1))]) ⟨hx, hb, hml, hown, hts⟩ (c_M_lineOf (l := l) hc26) (va_cwS 2 hts (gdS k_14_61 k_14_62 k_1_9 k_14_63) rfl rfl rfl (by decide +kernel) ⟨Nat.le_of_ble_eq_true rfl, Nat.le_of_ble_eq_true rfl⟩) (zPS X hZ23 hS23 [.ref (ad 13 r1 0), .int (iI r16)]) rfl rfl hl.1 rfl (lv_room (Nat.le_of_ble_eq_true rfl)) (D_184 W_prog_15_method_198_code_96 24 rfl rfl rfl) ⟨Nat.le_of_ble_eq_true rfl, Nat.le_of_ble_eq_true rfl⟩) hS23 (fun q _ h => zAin X hS23 q h) (zAin X hS23) (fun p26 u26 t26 H26 locs26 ht26 hv26 hw26 hB26 hz26 hk26 hS26 => ?_)
                  have hZ26 := zBack X ht26 hB26
                  subst hw26
                  obtain ⟨g27, hf⟩ := gif hf
                  refine zald (ci := 13) (k := 28) hx hb hK rfl hZ26 g14.1 g14.2 rfl (Nat.le_of_ble_eq_true rfl) g27.1 g27.2 (D_46 W_prog_15_method_198_code_96 27 rfl rfl) ?_
                  refine zaload hx hb (D_25 W_prog_15_method_198_code_96 28 rfl rfl) (lv_at hl 2 rfl) ?_
                  refine zunrf g14.1 ?_
                  refine zget (ci := 13) (C := RX13) (T := TX13) (v := .ref (ad 13 r1 (28 + 1))) (k := 28) hx hb hts inW_13 hown hK hZ26 g14.1 g14.2 rfl (by decide) k_9_174 rfl (D_180 W_prog_15_method_198_code_96 30 rfl rfl rfl) ?_
                  refine zaload hx hb (D_25 W_prog_15_method_198_code_128 1 rfl rfl) (lv_at hl 2 rfl) ?_
                  refine lv_iload hx hb (D_21 W_prog_15_method_198_code_128 3 rfl rfl) (lv_at hl 1 rfl) ?_
                  refine W.eq (g2 := F0 m 133 ls [.int (iI r15), .ref (ad 13 r1 0), .ref (ad 13 r1 (28 + 1)), .int (iI (B26 13 r1 28 r26))]) (by rw [zrf_pos (ad := ad) (t := 13) g14.1]; try rfl) ?_
                  obtain ⟨r28, F28, B28, hc28, hf⟩ := gbind hf
                  refine va_calli (va_runS (As := [.ref (ad 13 r1 0), .int (iI r15)]) (rest := [.ref (ad 13 r1 (28 + 1)), .int (iI (B26 13 r1 28 r26))]) ⟨hx, hb, hml, hown, hts⟩ (c_M_lineOf (l := l) hc28) (va_cwS 2 hts (gdS k_14_61 k_14_62 k_1_9 k_14_63) rfl rfl rfl (by decide +kernel) ⟨Nat.le_of_ble_eq_true rfl, Nat.le_of_ble_eq_true rfl⟩) (zPS X hZ26 hS26 [.ref (ad 13 r1 0), .int (iI r15)]) rfl rfl hl.1 rfl (lv_room (Nat.le_of_ble_eq_true rfl)) (D_184 W_prog_15_method_198_code_128 5 rfl rfl rfl) ⟨Nat.le_of_ble_eq_true rfl, Nat.le_of_ble_eq_true rfl⟩) hS26 (fun q _ h => zAin X hS26 q h) (zAin X hS26) (fun p28 u28 t28 H28 locs28 ht28 hv28 hw28 hB28 hz28 hk28 hS28 => ?_)
                  have hZ28 := zBack X ht28 hB28
                  subst hw28
                  obtain ⟨g29, hf⟩ := gif hf
                  refine zald (ci := 13) (k := 28) hx hb hK rfl hZ28 g14.1 g14.2 rfl (Nat.le_of_ble_eq_true rfl) g29.1 g29.2 (D_46 W_prog_15_method_198_code_128 8 rfl rfl) ?_
                  refine zsub hx hb (D_100 W_prog_15_method_198_code_128 9 rfl rfl) ?_
                  refine lv_istore (lv' := [(8, .int (iI ((B26 13 r1 28 r26) - (B28 13 r1 28 r28)))), (7, .int (iI r16)), (6, .int (iI r15)), (5, va_rf (zrf ad 13 r1)), (0, .ref (ad 14 0 0)), (1, .int (iI l1)), (2, .int (iI l2)), (3, .int (iI l3)), (4, .int (iI l4))]) hx hb (D_54 W_prog_15_method_198_code_128 10 rfl rfl) hl (by decide) rfl (fun ls hl => ?_)
                  refine lv_iconst (v := iI 0) hx hb (D_3 W_prog_15_method_198_code_128 12 rfl rfl) rfl ?_
                  refine lv_istore (lv' := [(9, .int (iI 0)), (8, .int (iI ((B26 13 r1 28 r26) - (B28 13 r1 28 r28)))), (7, .int (iI r16)), (6, .int (iI r15)), (5, va_rf (zrf ad 13 r1)), (0, .ref (ad 14 0 0)), (1, .int (iI l1)), (2, .int (iI l2)), (3, .int (iI l3)), (4, .int (iI l4))]) hx hb (D_54 W_prog_15_method_198_code_128 13 rfl rfl) hl (by decide) rfl (fun ls hl => ?_)
                  refine lv_iconst (v := iI 1) hx hb (D_4 W_prog_15_method_198_code_128 15 rfl rfl) rfl ?_
                  refine lv_istore (lv' := [(10, .int (iI 1)), (9, .int (iI 0)), (8, .int (iI ((B26 13 r1 28 r26) - (B28 13 r1 28 r28)))), (7, .int (iI r16)), (6, .int (iI r15)), (5, va_rf (zrf ad 13 r1)), (0, .ref (ad 14 0 0)), (1, .int (iI l1)), (2, .int (iI l2)), (3, .int (iI l3)), (4, .int (iI l4))]) hx hb (D_54 W_prog_15_method_198_code_128 16 rfl rfl) hl (by decide) rfl (fun ls hl => ?_)
                  exact b_M_follows_146 X hf hZ28 hS28 (lv_sub hl [0, 1, 2, 3, 4, 5, 6, 8, 9, 10] rfl)
                · replace hf := gneg hf h25
                  exact b_M_follows_109 X hf hZ23 hS23 (lv_sub hl [] rfl)
          · replace hf := gneg hf h13
            exact b_M_follows_41 X hf hZ5 hS5 (lv_sub hl [] rfl)

abbrev Q_M_isShape (D : va_G) (ca : Nat → ClassId) (ad : Nat → Int → Nat → Nat) (L : List Nat) (r : Int) (F : zF) (B : zB) (A : Nat → Prop) : Array Value → State → Outcome → State → Prop := va_Qi (S := Unit) (fun p _ => p = iI r) (fun _ => zPo D ca ad lnM nM L F B A) A
def f_M_isShape_209 (rec41 : Int → Int → Int → Int → Int → Int → Int → Int → Int → Int → Int → zF → zB → zO) (K : Nat) (l11 : Int) (l10 : Int) (l9 : Int) (l8 : Int) (l7 : Int) (l1 : Int) (l2 : Int) (l3 : Int) (l4 : Int) (l5 : Int) (l6 : Int) (F : zF) (B : zB) : zO := rec41 (l11 + 1) l10 l9 l8 l7 l1 l2 l3 l4 l5 l6 F B
set_option maxHeartbeats 4000000 in
set_option maxRecDepth 100000 in
theorem b_M_isShape_209 {D : va_G} {ca : Nat → ClassId} {ad : Nat → Int → Nat → Nat} {L : List Nat} {aS vS : Nat → Nat} {A : Nat → Prop} {p : Program} {l : Launch} {e : Env} {s : State} {m : MethodId} {args : Array Value} {below : List Frame} {meth : Method} {c : Code} {K : Nat} {r : Int} {F9 : zF} {B9 : zB} (X : zX D ca L aS vS A p s m args meth c prog_15_method_200_code 17 (Option.some Jvm.ClassFile.FieldType.boolean) "StaveHouseModel") {rec41 : Int → Int → Int → Int → Int → Int → Int → Int → Int → Int → Int → zF → zB → zO} (hrec41 : ∀ {l11 : Int} {l10 : Int} {l9 : Int} {l8 : Int} {l7 : Int} {l1 : Int} {l2 : Int} {l3 : Int} {l4 : Int} {l5 : Int} {l6 : Int} {F : zF} {B : zB} {H : Heap} {locs : List Loc} {ls : Array Slot}, rec41 l11 l10 l9 l8 l7 l1 l2 l3 l4 l5 l6 F B = some (r, F9, B9) → zH D ca ad lnM nM L F B A H → va_S A s.heap H locs → lv_has ls 17 [(11, .int (iI l11)), (10, .int (iI l10)), (9, .int (iI l9)), (8, .int (iI l8)), (7, .int (iI l7)), (0, .ref (ad 14 0 0)), (1, .ref (ad 13 l1 0)), (2, .int (iI l2)), (3, .int (iI l3)), (4, .ref (ad 13 l4 0)), (5, .int (iI l5)), (6, .int (iI l6))] → W p l e ({ frames := 4, cells := 0, slots := 0, locals := 118 } : Room) s m args below meth c H locs 0 0 (MQ below (Q_M_isShape D ca ad L r F9 B9 A) args s 0 0 A) (F0 m 41 ls [])) {l11 : Int} {l10 : Int} {l9 : Int} {l8 : Int} {l7 : Int} {l1 : Int} {l2 : Int} {l3 : Int} {l4 : Int} {l5 : Int} {l6 : Int} {F : zF} {B : zB} {H : Heap} {locs : List Loc} {ls : Array Slot} (hf : f_M_isShape_209 rec41 K l11 l10 l9 l8 l7 l1 l2 l3 l4 l5 l6 F B = some (r, F9, B9)) (hZ : zH D ca ad lnM nM L F B A H) (hS : va_S A s.heap H locs) (hl : lv_has ls 17 [(11, .int (iI l11)), (10, .int (iI l10)), (9, .int (iI l9)), (8, .int (iI l8)), (7, .int (iI l7)), (0, .ref (ad 14 0 0)), (1, .ref (ad 13 l1 0)), (2, .int (iI l2)), (3, .int (iI l3)), (4, .ref (ad 13 l4 0)), (5, .int (iI l5)), (6, .int (iI l6))]) : W p l e ({ frames := 4, cells := 0, slots := 0, locals := 118 } : Room) s m args below meth c H locs 0 0 (MQ below (Q_M_isShape D ca ad L r F9 B9 A) args s 0 0 A) (F0 m 209 ls []) := by
  obtain ⟨hx, hb, hr, hml, hown, hts, hlk, hK, hA, hL, hX⟩ := id X
  replace hf : (rec41 (l11 + 1) l10 l9 l8 l7 l1 l2 l3 l4 l5 l6 F B) = some (r, F9, B9) := hf
  refine lv_iinc (v := iI (l11 + 1)) (lv' := [(11, .int (iI (l11 + 1))), (10, .int (iI l10)), (9, .int (iI l9)), (8, .int (iI l8)), (7, .int (iI l7)), (0, .ref (ad 14 0 0)), (1, .ref (ad 13 l1 0)), (2, .int (iI l2)), (3, .int (iI l3)), (4, .ref (ad 13 l4 0)), (5, .int (iI l5)), (6, .int (iI l6))]) hx hb d_15_200_209 hl (k := 0) rfl (iI_add _ 1) (by decide) rfl (fun ls hl => ?_)
  refine lv_goto (tgt := 41) hx hb (D_167 W_prog_15_method_200_code_192 20 rfl rfl rfl) (by decide) ?_
  exact hrec41 hf hZ hS (lv_sub hl [0, 1, 2, 3, 4, 5, 6, 7, 8, 9, 10, 11] rfl)

def f_M_isShape_195 (rec41 : Int → Int → Int → Int → Int → Int → Int → Int → Int → Int → Int → zF → zB → zO) (K : Nat) (l15 : Int) (l11 : Int) (l10 : Int) (l9 : Int) (l8 : Int) (l7 : Int) (l1 : Int) (l2 : Int) (l3 : Int) (l4 : Int) (l5 : Int) (l6 : Int) (s0 : Int) (F : zF) (B : zB) : zO := if r32 (l15 - l9) then if r32 s0 then (if (l15 - l9) = s0 then f_M_isShape_209 rec41 K l11 l10 l9 l8 l7 l1 l2 l3 l4 l5 l6 F B else some (0, F, B)) else none else none
set_option maxHeartbeats 4000000 in
set_option maxRecDepth 100000 in
theorem b_M_isShape_195 {D : va_G} {ca : Nat → ClassId} {ad : Nat → Int → Nat → Nat} {L : List Nat} {aS vS : Nat → Nat} {A : Nat → Prop} {p : Program} {l : Launch} {e : Env} {s : State} {m : MethodId} {args : Array Value} {below : List Frame} {meth : Method} {c : Code} {K : Nat} {r : Int} {F9 : zF} {B9 : zB} (X : zX D ca L aS vS A p s m args meth c prog_15_method_200_code 17 (Option.some Jvm.ClassFile.FieldType.boolean) "StaveHouseModel") {rec41 : Int → Int → Int → Int → Int → Int → Int → Int → Int → Int → Int → zF → zB → zO} (hrec41 : ∀ {l11 : Int} {l10 : Int} {l9 : Int} {l8 : Int} {l7 : Int} {l1 : Int} {l2 : Int} {l3 : Int} {l4 : Int} {l5 : Int} {l6 : Int} {F : zF} {B : zB} {H : Heap} {locs : List Loc} {ls : Array Slot}, rec41 l11 l10 l9 l8 l7 l1 l2 l3 l4 l5 l6 F B = some (r, F9, B9) → zH D ca ad lnM nM L F B A H → va_S A s.heap H locs → lv_has ls 17 [(11, .int (iI l11)), (10, .int (iI l10)), (9, .int (iI l9)), (8, .int (iI l8)), (7, .int (iI l7)), (0, .ref (ad 14 0 0)), (1, .ref (ad 13 l1 0)), (2, .int (iI l2)), (3, .int (iI l3)), (4, .ref (ad 13 l4 0)), (5, .int (iI l5)), (6, .int (iI l6))] → W p l e ({ frames := 4, cells := 0, slots := 0, locals := 118 } : Room) s m args below meth c H locs 0 0 (MQ below (Q_M_isShape D ca ad L r F9 B9 A) args s 0 0 A) (F0 m 41 ls [])) {l15 : Int} {l11 : Int} {l10 : Int} {l9 : Int} {l8 : Int} {l7 : Int} {l1 : Int} {l2 : Int} {l3 : Int} {l4 : Int} {l5 : Int} {l6 : Int} {s0 : Int} {F : zF} {B : zB} {H : Heap} {locs : List Loc} {ls : Array Slot} (hf : f_M_isShape_195 rec41 K l15 l11 l10 l9 l8 l7 l1 l2 l3 l4 l5 l6 s0 F B = some (r, F9, B9)) (hZ : zH D ca ad lnM nM L F B A H) (hS : va_S A s.heap H locs) (hl : lv_has ls 17 [(15, .int (iI l15)), (11, .int (iI l11)), (10, .int (iI l10)), (9, .int (iI l9)), (8, .int (iI l8)), (7, .int (iI l7)), (0, .ref (ad 14 0 0)), (1, .ref (ad 13 l1 0)), (2, .int (iI l2)), (3, .int (iI l3)), (4, .ref (ad 13 l4 0)), (5, .int (iI l5)), (6, .int (iI l6))]) : W p l e ({ frames := 4, cells := 0, slots := 0, locals := 118 } : Room) s m args below meth c H locs 0 0 (MQ below (Q_M_isShape D ca ad L r F9 B9 A) args s 0 0 A) (F0 m 195 ls [.int (iI s0)]) := by
  obtain ⟨hx, hb, hr, hml, hown, hts, hlk, hK, hA, hL, hX⟩ := id X
  replace hf : (if r32 (l15 - l9) then if r32 s0 then (if (l15 - l9) = s0 then f_M_isShape_209 rec41 K l11 l10 l9 l8 l7 l1 l2 l3 l4 l5 l6 F B else some (0, F, B)) else none else none) = some (r, F9, B9) := hf
  refine lv_istore (lv' := [(16, .int (iI s0)), (15, .int (iI l15)), (11, .int (iI l11)), (10, .int (iI l10)), (9, .int (iI l9)), (8, .int (iI l8)), (7, .int (iI l7)), (0, .ref (ad 14 0 0)), (1, .ref (ad 13 l1 0)), (2, .int (iI l2)), (3, .int (iI l3)), (4, .ref (ad 13 l4 0)), (5, .int (iI l5)), (6, .int (iI l6))]) hx hb (D_54 W_prog_15_method_200_code_192 3 rfl rfl) hl (by decide) rfl (fun ls hl => ?_)
  refine lv_iload hx hb (D_21 W_prog_15_method_200_code_192 5 rfl rfl) (lv_at hl 1 rfl) ?_
  refine lv_iload hx hb (D_21 W_prog_15_method_200_code_192 7 rfl rfl) (lv_at hl 4 rfl) ?_
  refine zsub hx hb (D_100 W_prog_15_method_200_code_192 9 rfl rfl) ?_
  refine lv_iload hx hb (D_21 W_prog_15_method_200_code_192 10 rfl rfl) (lv_at hl 0 rfl) ?_
  obtain ⟨g38, hf⟩ := gif hf
  obtain ⟨g39, hf⟩ := gif hf
  refine zeq (tgt := 209) hx hb g38 g39 (D_159 W_prog_15_method_200_code_192 12 rfl rfl rfl) (by decide) (fun h40 => ?_) (fun h40 => ?_)
  · replace hf := gpos hf h40
    exact b_M_isShape_209 X hrec41 hf hZ hS (lv_sub hl [2, 3, 4, 5, 6, 7, 8, 9, 10, 11, 12, 13] rfl)
  · replace hf := gneg hf h40
    refine lv_iconst (v := iI 0) hx hb (D_3 W_prog_15_method_200_code_192 15 rfl rfl) rfl ?_
    cases hf
    exact W.zret hx hb hr rfl (fun t ht hW => ⟨⟨_, (), rfl, rfl, by rw [ht]; exact hZ, va_K.moved hW.alike hK⟩, hS.F ht⟩) hS.2.2 (D_172 W_prog_15_method_200_code_192 16 rfl rfl) hlk

def f_M_isShape_175 (rec41 : Int → Int → Int → Int → Int → Int → Int → Int → Int → Int → Int → zF → zB → zO) (K : Nat) (l15 : Int) (l14 : Int) (l11 : Int) (l10 : Int) (l9 : Int) (l8 : Int) (l7 : Int) (l1 : Int) (l2 : Int) (l3 : Int) (l4 : Int) (l5 : Int) (l6 : Int) (F : zF) (B : zB) : zO := if r32 (zand l6 1) then (if (zand l6 1) ≤ 0 then f_M_isShape_195 rec41 K l15 l11 l10 l9 l8 l7 l1 l2 l3 l4 l5 l6 (l14 - l8) F B else f_M_isShape_195 rec41 K l15 l11 l10 l9 l8 l7 l1 l2 l3 l4 l5 l6 (l8 - l14) F B) else none
set_option maxHeartbeats 4000000 in
set_option maxRecDepth 100000 in
theorem b_M_isShape_175 {D : va_G} {ca : Nat → ClassId} {ad : Nat → Int → Nat → Nat} {L : List Nat} {aS vS : Nat → Nat} {A : Nat → Prop} {p : Program} {l : Launch} {e : Env} {s : State} {m : MethodId} {args : Array Value} {below : List Frame} {meth : Method} {c : Code} {K : Nat} {r : Int} {F9 : zF} {B9 : zB} (X : zX D ca L aS vS A p s m args meth c prog_15_method_200_code 17 (Option.some Jvm.ClassFile.FieldType.boolean) "StaveHouseModel") {rec41 : Int → Int → Int → Int → Int → Int → Int → Int → Int → Int → Int → zF → zB → zO} (hrec41 : ∀ {l11 : Int} {l10 : Int} {l9 : Int} {l8 : Int} {l7 : Int} {l1 : Int} {l2 : Int} {l3 : Int} {l4 : Int} {l5 : Int} {l6 : Int} {F : zF} {B : zB} {H : Heap} {locs : List Loc} {ls : Array Slot}, rec41 l11 l10 l9 l8 l7 l1 l2 l3 l4 l5 l6 F B = some (r, F9, B9) → zH D ca ad lnM nM L F B A H → va_S A s.heap H locs → lv_has ls 17 [(11, .int (iI l11)), (10, .int (iI l10)), (9, .int (iI l9)), (8, .int (iI l8)), (7, .int (iI l7)), (0, .ref (ad 14 0 0)), (1, .ref (ad 13 l1 0)), (2, .int (iI l2)), (3, .int (iI l3)), (4, .ref (ad 13 l4 0)), (5, .int (iI l5)), (6, .int (iI l6))] → W p l e ({ frames := 4, cells := 0, slots := 0, locals := 118 } : Room) s m args below meth c H locs 0 0 (MQ below (Q_M_isShape D ca ad L r F9 B9 A) args s 0 0 A) (F0 m 41 ls [])) {l15 : Int} {l14 : Int} {l11 : Int} {l10 : Int} {l9 : Int} {l8 : Int} {l7 : Int} {l1 : Int} {l2 : Int} {l3 : Int} {l4 : Int} {l5 : Int} {l6 : Int} {F : zF} {B : zB} {H : Heap} {locs : List Loc} {ls : Array Slot} (hf : f_M_isShape_175 rec41 K l15 l14 l11 l10 l9 l8 l7 l1 l2 l3 l4 l5 l6 F B = some (r, F9, B9)) (hZ : zH D ca ad lnM nM L F B A H) (hS : va_S A s.heap H locs) (hl : lv_has ls 17 [(15, .int (iI l15)), (14, .int (iI l14)), (11, .int (iI l11)), (10, .int (iI l10)), (9, .int (iI l9)), (8, .int (iI l8)), (7, .int (iI l7)), (0, .ref (ad 14 0 0)), (1, .ref (ad 13 l1 0)), (2, .int (iI l2)), (3, .int (iI l3)), (4, .ref (ad 13 l4 0)), (5, .int (iI l5)), (6, .int (iI l6))]) : W p l e ({ frames := 4, cells := 0, slots := 0, locals := 118 } : Room) s m args below meth c H locs 0 0 (MQ below (Q_M_isShape D ca ad L r F9 B9 A) args s 0 0 A) (F0 m 175 ls []) := by
  obtain ⟨hx, hb, hr, hml, hown, hts, hlk, hK, hA, hL, hX⟩ := id X
  replace hf : (if r32 (zand l6 1) then (if (zand l6 1) ≤ 0 then f_M_isShape_195 rec41 K l15 l11 l10 l9 l8 l7 l1 l2 l3 l4 l5 l6 (l14 - l8) F B else f_M_isShape_195 rec41 K l15 l11 l10 l9 l8 l7 l1 l2 l3 l4 l5 l6 (l8 - l14) F B) else none) = some (r, F9, B9) := hf
  refine lv_iload hx hb (D_21 W_prog_15_method_200_code_160 15 rfl rfl) (lv_at hl 13 rfl) ?_
  refine lv_iconst (v := iI 1) hx hb (D_4 W_prog_15_method_200_code_160 17 rfl rfl) rfl ?_
  refine zand_r hx hb (D_126 W_prog_15_method_200_code_160 18 rfl rfl) ?_
  obtain ⟨g36, hf⟩ := gif hf
  refine z0le (tgt := 190) hx hb g36 (D_158 W_prog_15_method_200_code_160 19 rfl rfl rfl) (by decide) (fun h37 => ?_) (fun h37 => ?_)
  · replace hf := gpos hf h37
    refine lv_iload hx hb (D_21 W_prog_15_method_200_code_160 30 rfl rfl) (lv_at hl 1 rfl) ?_
    refine lv_iload hx hb (D_21 W_prog_15_method_200_code_192 0 rfl rfl) (lv_at hl 5 rfl) ?_
    refine zsub hx hb (D_100 W_prog_15_method_200_code_192 2 rfl rfl) ?_
    exact b_M_isShape_195 X hrec41 hf hZ hS (lv_sub hl [0, 2, 3, 4, 5, 6, 7, 8, 9, 10, 11, 12, 13] rfl)
  · replace hf := gneg hf h37
    refine lv_iload hx hb (D_21 W_prog_15_method_200_code_160 22 rfl rfl) (lv_at hl 5 rfl) ?_
    refine lv_iload hx hb (D_21 W_prog_15_method_200_code_160 24 rfl rfl) (lv_at hl 1 rfl) ?_
    refine zsub hx hb (D_100 W_prog_15_method_200_code_160 26 rfl rfl) ?_
    refine lv_goto (tgt := 195) hx hb (D_167 W_prog_15_method_200_code_160 27 rfl rfl rfl) (by decide) ?_
    exact b_M_isShape_195 X hrec41 hf hZ hS (lv_sub hl [0, 2, 3, 4, 5, 6, 7, 8, 9, 10, 11, 12, 13] rfl)

def f_M_isShape_119 (K : Nat)  (F : zF) (B : zB) : zO := some (0, F, B)
set_option maxHeartbeats 4000000 in
set_option maxRecDepth 100000 in
theorem b_M_isShape_119 {D : va_G} {ca : Nat → ClassId} {ad : Nat → Int → Nat → Nat} {L : List Nat} {aS vS : Nat → Nat} {A : Nat → Prop} {p : Program} {l : Launch} {e : Env} {s : State} {m : MethodId} {args : Array Value} {below : List Frame} {meth : Method} {c : Code} {K : Nat} {r : Int} {F9 : zF} {B9 : zB} (X : zX D ca L aS vS A p s m args meth c prog_15_method_200_code 17 (Option.some Jvm.ClassFile.FieldType.boolean) "StaveHouseModel")  {F : zF} {B : zB} {H : Heap} {locs : List Loc} {ls : Array Slot} (hf : f_M_isShape_119 K  F B = some (r, F9, B9)) (hZ : zH D ca ad lnM nM L F B A H) (hS : va_S A s.heap H locs) (hl : lv_has ls 17 []) : W p l e ({ frames := 4, cells := 0, slots := 0, locals := 118 } : Room) s m args below meth c H locs 0 0 (MQ below (Q_M_isShape D ca ad L r F9 B9 A) args s 0 0 A) (F0 m 119 ls []) := by
  obtain ⟨hx, hb, hr, hml, hown, hts, hlk, hK, hA, hL, hX⟩ := id X
  replace hf : (some (0, F, B)) = some (r, F9, B9) := hf
  refine lv_iconst (v := iI 0) hx hb (D_3 W_prog_15_method_200_code_96 23 rfl rfl) rfl ?_
  cases hf
  exact W.zret hx hb hr rfl (fun t ht hW => ⟨⟨_, (), rfl, rfl, by rw [ht]; exact hZ, va_K.moved hW.alike hK⟩, hS.F ht⟩) hS.2.2 (D_172 W_prog_15_method_200_code_96 24 rfl rfl) hlk

def f_M_isShape_113 (rec41 : Int → Int → Int → Int → Int → Int → Int → Int → Int → Int → Int → zF → zB → zO) (K : Nat) (l13 : Int) (l12 : Int) (l11 : Int) (l10 : Int) (l9 : Int) (l8 : Int) (l7 : Int) (l1 : Int) (l2 : Int) (l3 : Int) (l4 : Int) (l5 : Int) (l6 : Int) (s1 : Int) (s2 : Int) (s3 : Int) (s4 : Int) (s5 : Int) (s6 : Int) (s7 : Int) (F : zF) (B : zB) : zO := if 0 ≤ s1 ∧ s1 < 3 then if 0 ≤ s4 ∧ s4 < 3 then zbind (f_M_isLength K s1 s2 s3 s4 s5 s6 s7 F B) (fun r21 F21 B21 => if r32 r21 then (if r21 = 0 then f_M_isShape_119 K F21 B21 else if 0 ≤ l1 ∧ l1 < 3 then if 0 ≤ l12 ∧ l12 < 4000 then if r32 (B21 13 l1 21 l12) then (if (B21 13 l1 21 l12) = 0 then f_M_isShape_209 rec41 K l11 l10 l9 l8 l7 l1 l2 l3 l4 l5 l6 F21 B21 else zbind (f_M_lineOf K l1 l12 F21 B21) (fun r28 F28 B28 => if 0 ≤ r28 ∧ r28 < 24000 then if 0 ≤ l4 ∧ l4 < 3 then zbind (f_M_lineOf K l4 l13 F28 B28) (fun r31 F31 B31 => if 0 ≤ r31 ∧ r31 < 24000 then if r32 l8 then (if 0 ≤ l8 then f_M_isShape_175 rec41 K (B31 13 l4 28 r31) (B28 13 l1 28 r28) l11 l10 l9 l8 l7 l1 l2 l3 l4 l5 l6 F31 B31 else f_M_isShape_175 rec41 K (B31 13 l4 28 r31) (B28 13 l1 28 r28) l11 l10 (B31 13 l4 28 r31) (B28 13 l1 28 r28) l7 l1 l2 l3 l4 l5 l6 F31 B31) else none else none) else none else none)) else none else none else none) else none) else none else none
set_option maxHeartbeats 4000000 in
set_option maxRecDepth 100000 in
theorem b_M_isShape_113 {D : va_G} {ca : Nat → ClassId} {ad : Nat → Int → Nat → Nat} {L : List Nat} {aS vS : Nat → Nat} {A : Nat → Prop} {p : Program} {l : Launch} {e : Env} {s : State} {m : MethodId} {args : Array Value} {below : List Frame} {meth : Method} {c : Code} {K : Nat} {r : Int} {F9 : zF} {B9 : zB} (X : zX D ca L aS vS A p s m args meth c prog_15_method_200_code 17 (Option.some Jvm.ClassFile.FieldType.boolean) "StaveHouseModel") {rec41 : Int → Int → Int → Int → Int → Int → Int → Int → Int → Int → Int → zF → zB → zO} (hrec41 : ∀ {l11 : Int} {l10 : Int} {l9 : Int} {l8 : Int} {l7 : Int} {l1 : Int} {l2 : Int} {l3 : Int} {l4 : Int} {l5 : Int} {l6 : Int} {F : zF} {B : zB} {H : Heap} {locs : List Loc} {ls : Array Slot}, rec41 l11 l10 l9 l8 l7 l1 l2 l3 l4 l5 l6 F B = some (r, F9, B9) → zH D ca ad lnM nM L F B A H → va_S A s.heap H locs → lv_has ls 17 [(11, .int (iI l11)), (10, .int (iI l10)), (9, .int (iI l9)), (8, .int (iI l8)), (7, .int (iI l7)), (0, .ref (ad 14 0 0)), (1, .ref (ad 13 l1 0)), (2, .int (iI l2)), (3, .int (iI l3)), (4, .ref (ad 13 l4 0)), (5, .int (iI l5)), (6, .int (iI l6))] → W p l e ({ frames := 4, cells := 0, slots := 0, locals := 118 } : Room) s m args below meth c H locs 0 0 (MQ below (Q_M_isShape D ca ad L r F9 B9 A) args s 0 0 A) (F0 m 41 ls [])) {l13 : Int} {l12 : Int} {l11 : Int} {l10 : Int} {l9 : Int} {l8 : Int} {l7 : Int} {l1 : Int} {l2 : Int} {l3 : Int} {l4 : Int} {l5 : Int} {l6 : Int} {s1 : Int} {s2 : Int} {s3 : Int} {s4 : Int} {s5 : Int} {s6 : Int} {s7 : Int} {F : zF} {B : zB} {H : Heap} {locs : List Loc} {ls : Array Slot} (hf : f_M_isShape_113 rec41 K l13 l12 l11 l10 l9 l8 l7 l1 l2 l3 l4 l5 l6 s1 s2 s3 s4 s5 s6 s7 F B = some (r, F9, B9)) (hZ : zH D ca ad lnM nM L F B A H) (hS : va_S A s.heap H locs) (hl : lv_has ls 17 [(13, .int (iI l13)), (12, .int (iI l12)), (11, .int (iI l11)), (10, .int (iI l10)), (9, .int (iI l9)), (8, .int (iI l8)), (7, .int (iI l7)), (0, .ref (ad 14 0 0)), (1, .ref (ad 13 l1 0)), (2, .int (iI l2)), (3, .int (iI l3)), (4, .ref (ad 13 l4 0)), (5, .int (iI l5)), (6, .int (iI l6))]) : W p l e ({ frames := 4, cells := 0, slots := 0, locals := 118 } : Room) s m args below meth c H locs 0 0 (MQ below (Q_M_isShape D ca ad L r F9 B9 A) args s 0 0 A) (F0 m 113 ls [.int (iI s7), .int (iI s6), .int (iI s5), va_rf (zrf ad 13 s4), .int (iI s3), .int (iI s2), va_rf (zrf ad 13 s1), .ref (ad 14 0 0)]) := by
  obtain ⟨hx, hb, hr, hml, hown, hts, hlk, hK, hA, hL, hX⟩ := id X
  replace hf : (if 0 ≤ s1 ∧ s1 < 3 then if 0 ≤ s4 ∧ s4 < 3 then zbind (f_M_isLength K s1 s2 s3 s4 s5 s6 s7 F B) (fun r21 F21 B21 => if r32 r21 then (if r21 = 0 then f_M_isShape_119 K F21 B21 else if 0 ≤ l1 ∧ l1 < 3 then if 0 ≤ l12 ∧ l12 < 4000 then if r32 (B21 13 l1 21 l12) then (if (B21 13 l1 21 l12) = 0 then f_M_isShape_209 rec41 K l11 l10 l9 l8 l7 l1 l2 l3 l4 l5 l6 F21 B21 else zbind (f_M_lineOf K l1 l12 F21 B21) (fun r28 F28 B28 => if 0 ≤ r28 ∧ r28 < 24000 then if 0 ≤ l4 ∧ l4 < 3 then zbind (f_M_lineOf K l4 l13 F28 B28) (fun r31 F31 B31 => if 0 ≤ r31 ∧ r31 < 24000 then if r32 l8 then (if 0 ≤ l8 then f_M_isShape_175 rec41 K (B31 13 l4 28 r31) (B28 13 l1 28 r28) l11 l10 l9 l8 l7 l1 l2 l3 l4 l5 l6 F31 B31 else f_M_isShape_175 rec41 K (B31 13 l4 28 r31) (B28 13 l1 28 r28) l11 l10 (B31 13 l4 28 r31) (B28 13 l1 28 r28) l7 l1 l2 l3 l4 l5 l6 F31 B31) else none else none) else none else none)) else none else none else none) else none) else none else none) = some (r, F9, B9) := hf
  obtain ⟨g19, hf⟩ := gif hf
  refine W.eq (g2 := F0 m 113 ls [.int (iI s7), .int (iI s6), .int (iI s5), va_rf (zrf ad 13 s4), .int (iI s3), .int (iI s2), .ref (ad 13 s1 0), .ref (ad 14 0 0)]) (by rw [zrf_pos (ad := ad) (t := 13) g19.1]; try rfl) ?_
  obtain ⟨g20, hf⟩ := gif hf
  refine W.eq (g2 := F0 m 113 ls [.int (iI s7), .int (iI s6), .int (iI s5), .ref (ad 13 s4 0), .int (iI s3), .int (iI s2), .ref (ad 13 s1 0), .ref (ad 14 0 0)]) (by rw [zrf_pos (ad := ad) (t := 13) g20.1]; try rfl) ?_
  obtain ⟨r21, F21, B21, hc21, hf⟩ := gbind hf
  refine va_calli (va_runV (As := [.ref (ad 13 s1 0), .int (iI s2), .int (iI s3), .ref (ad 13 s4 0), .int (iI s5), .int (iI s6), .int (iI s7)]) (rest := []) ⟨hx, hb, hml, hown, hts⟩ (c_M_isLength (l := l) hc21) (cwV 7 hts (gdV k_14_75 k_14_77 ks_195 k_1_9 k_14_78) rfl rfl rfl (by decide +kernel) ⟨Nat.le_of_ble_eq_true rfl, Nat.le_of_ble_eq_true rfl⟩) (zPV X hZ hS (ci := 14) (by decide) (by decide) (r := (RX14, TX14, 107)) rfl [.ref (ad 13 s1 0), .int (iI s2), .int (iI s3), .ref (ad 13 s4 0), .int (iI s5), .int (iI s6), .int (iI s7)]) rfl rfl hl.1 rfl (lv_room (Nat.le_of_ble_eq_true rfl)) (D_182 W_prog_15_method_200_code_96 17 rfl rfl rfl) ⟨Nat.le_of_ble_eq_true rfl, Nat.le_of_ble_eq_true rfl⟩) hS (fun q _ h => zAin X hS q h) (zAin X hS) (fun p21 u21 t21 H21 locs21 ht21 hv21 hw21 hB21 hz21 hk21 hS21 => ?_)
  have hZ21 := zBack X ht21 hB21
  subst hw21
  obtain ⟨g22, hf⟩ := gif hf
  refine z0ne (tgt := 121) hx hb g22 (D_154 W_prog_15_method_200_code_96 20 rfl rfl rfl) (by decide) (fun h23 => ?_) (fun h23 => ?_)
  · replace hf := gneg hf h23
    refine lv_aload_n hx hb (D_43 W_prog_15_method_200_code_96 25 rfl rfl) rfl (lv_at hl 8 rfl) ?_
    obtain ⟨g24, hf⟩ := gif hf
    refine zget (ci := 13) (C := RX13) (T := TX13) (v := .ref (ad 13 l1 (21 + 1))) (k := 21) hx hb hts inW_13 hown hK hZ21 g24.1 g24.2 rfl (by decide) k_9_160 rfl (D_180 W_prog_15_method_200_code_96 26 rfl rfl rfl) ?_
    refine lv_iload hx hb (D_21 W_prog_15_method_200_code_96 29 rfl rfl) (lv_at hl 1 rfl) ?_
    obtain ⟨g25, hf⟩ := gif hf
    refine zald (ci := 13) (k := 21) hx hb hK rfl hZ21 g24.1 g24.2 rfl (Nat.le_of_ble_eq_true rfl) g25.1 g25.2 (D_46 W_prog_15_method_200_code_96 31 rfl rfl) ?_
    obtain ⟨g26, hf⟩ := gif hf
    refine z0ne (tgt := 134) hx hb g26 (D_154 W_prog_15_method_200_code_128 0 rfl rfl rfl) (by decide) (fun h27 => ?_) (fun h27 => ?_)
    · replace hf := gneg hf h27
      refine lv_aload_n hx hb (D_43 W_prog_15_method_200_code_128 6 rfl rfl) rfl (lv_at hl 8 rfl) ?_
      refine zget (ci := 13) (C := RX13) (T := TX13) (v := .ref (ad 13 l1 (28 + 1))) (k := 28) hx hb hts inW_13 hown hK hZ21 g24.1 g24.2 rfl (by decide) k_9_174 rfl (D_180 W_prog_15_method_200_code_128 7 rfl rfl rfl) ?_
      refine lv_aload_n hx hb (D_43 W_prog_15_method_200_code_128 10 rfl rfl) rfl (lv_at hl 8 rfl) ?_
      refine lv_iload hx hb (D_21 W_prog_15_method_200_code_128 11 rfl rfl) (lv_at hl 1 rfl) ?_
      obtain ⟨r28, F28, B28, hc28, hf⟩ := gbind hf
      refine va_calli (va_runS (As := [.ref (ad 13 l1 0), .int (iI l12)]) (rest := [.ref (ad 13 l1 (28 + 1))]) ⟨hx, hb, hml, hown, hts⟩ (c_M_lineOf (l := l) hc28) (va_cwS 2 hts (gdS k_14_61 k_14_62 k_1_9 k_14_63) rfl rfl rfl (by decide +kernel) ⟨Nat.le_of_ble_eq_true rfl, Nat.le_of_ble_eq_true rfl⟩) (zPS X hZ21 hS21 [.ref (ad 13 l1 0), .int (iI l12)]) rfl rfl hl.1 rfl (lv_room (Nat.le_of_ble_eq_true rfl)) (D_184 W_prog_15_method_200_code_128 13 rfl rfl rfl) ⟨Nat.le_of_ble_eq_true rfl, Nat.le_of_ble_eq_true rfl⟩) hS21 (fun q _ h => zAin X hS21 q h) (zAin X hS21) (fun p28 u28 t28 H28 locs28 ht28 hv28 hw28 hB28 hz28 hk28 hS28 => ?_)
      have hZ28 := zBack X ht28 hB28
      subst hw28
      obtain ⟨g29, hf⟩ := gif hf
      refine zald (ci := 13) (k := 28) hx hb hK rfl hZ28 g24.1 g24.2 rfl (Nat.le_of_ble_eq_true rfl) g29.1 g29.2 (D_46 W_prog_15_method_200_code_128 16 rfl rfl) ?_
      refine lv_istore (lv' := [(14, .int (iI (B28 13 l1 28 r28))), (13, .int (iI l13)), (12, .int (iI l12)), (11, .int (iI l11)), (10, .int (iI l10)), (9, .int (iI l9)), (8, .int (iI l8)), (7, .int (iI l7)), (0, .ref (ad 14 0 0)), (1, .ref (ad 13 l1 0)), (2, .int (iI l2)), (3, .int (iI l3)), (4, .ref (ad 13 l4 0)), (5, .int (iI l5)), (6, .int (iI l6))]) hx hb (D_54 W_prog_15_method_200_code_128 17 rfl rfl) hl (by decide) rfl (fun ls hl => ?_)
      refine lv_aload hx hb (D_25 W_prog_15_method_200_code_128 19 rfl rfl) (lv_at hl 12 rfl) ?_
      obtain ⟨g30, hf⟩ := gif hf
      refine zget (ci := 13) (C := RX13) (T := TX13) (v := .ref (ad 13 l4 (28 + 1))) (k := 28) hx hb hts inW_13 hown hK hZ28 g30.1 g30.2 rfl (by decide) k_9_174 rfl (D_180 W_prog_15_method_200_code_128 21 rfl rfl rfl) ?_
      refine lv_aload hx hb (D_25 W_prog_15_method_200_code_128 24 rfl rfl) (lv_at hl 12 rfl) ?_
      refine lv_iload hx hb (D_21 W_prog_15_method_200_code_128 26 rfl rfl) (lv_at hl 1 rfl) ?_
      obtain ⟨r31, F31, B31, hc31, hf⟩ := gbind hf
      refine va_calli (va_runS (As := [.ref (ad 13 l4 0), .int (iI l13)]) (rest := [.ref (ad 13 l4 (28 + 1))]) ⟨hx, hb, hml, hown, hts⟩ (c_M_lineOf (l := l) hc31) (va_cwS 2 hts (gdS k_14_61 k_14_62 k_1_9 k_14_63) rfl rfl rfl (by decide +kernel) ⟨Nat.le_of_ble_eq_true rfl, Nat.le_of_ble_eq_true rfl⟩) (zPS X hZ28 hS28 [.ref (ad 13 l4 0), .int (iI l13)]) rfl rfl hl.1 rfl (lv_room (Nat.le_of_ble_eq_true rfl)) (D_184 W_prog_15_method_200_code_128 28 rfl rfl rfl) ⟨Nat.le_of_ble_eq_true rfl, Nat.le_of_ble_eq_true rfl⟩) hS28 (fun q _ h => zAin X hS28 q h) (zAin X hS28) (fun p31 u31 t31 H31 locs31 ht31 hv31 hw31 hB31 hz31 hk31 hS31 => ?_)
      have hZ31 := zBack X ht31 hB31
      subst hw31
      obtain ⟨g33, hf⟩ := gif hf
      refine zald (ci := 13) (k := 28) hx hb hK rfl hZ31 g30.1 g30.2 rfl (Nat.le_of_ble_eq_true rfl) g33.1 g33.2 (D_46 W_prog_15_method_200_code_128 31 rfl rfl) ?_
      refine lv_istore (lv' := [(15, .int (iI (B31 13 l4 28 r31))), (14, .int (iI (B28 13 l1 28 r28))), (13, .int (iI l13)), (12, .int (iI l12)), (11, .int (iI l11)), (10, .int (iI l10)), (9, .int (iI l9)), (8, .int (iI l8)), (7, .int (iI l7)), (0, .ref (ad 14 0 0)), (1, .ref (ad 13 l1 0)), (2, .int (iI l2)), (3, .int (iI l3)), (4, .ref (ad 13 l4 0)), (5, .int (iI l5)), (6, .int (iI l6))]) hx hb (D_54 W_prog_15_method_200_code_160 0 rfl rfl) hl (by decide) rfl (fun ls hl => ?_)
      refine lv_iload hx hb (D_21 W_prog_15_method_200_code_160 2 rfl rfl) (lv_at hl 7 rfl) ?_
      obtain ⟨g34, hf⟩ := gif hf
      refine z0ge (tgt := 175) hx hb g34 (D_156 W_prog_15_method_200_code_160 4 rfl rfl rfl) (by decide) (fun h35 => ?_) (fun h35 => ?_)
      · replace hf := gpos hf h35
        exact b_M_isShape_175 X hrec41 hf hZ31 hS31 (lv_sub hl [0, 1, 4, 5, 6, 7, 8, 9, 10, 11, 12, 13, 14, 15] rfl)
      · replace hf := gneg hf h35
        refine lv_iload hx hb (D_21 W_prog_15_method_200_code_160 7 rfl rfl) (lv_at hl 1 rfl) ?_
        refine lv_istore (lv' := [(8, .int (iI (B28 13 l1 28 r28))), (15, .int (iI (B31 13 l4 28 r31))), (14, .int (iI (B28 13 l1 28 r28))), (13, .int (iI l13)), (12, .int (iI l12)), (11, .int (iI l11)), (10, .int (iI l10)), (9, .int (iI l9)), (7, .int (iI l7)), (0, .ref (ad 14 0 0)), (1, .ref (ad 13 l1 0)), (2, .int (iI l2)), (3, .int (iI l3)), (4, .ref (ad 13 l4 0)), (5, .int (iI l5)), (6, .int (iI l6))]) hx hb (D_54 W_prog_15_method_200_code_160 9 rfl rfl) hl (by decide) rfl (fun ls hl => ?_)
        refine lv_iload hx hb (D_21 W_prog_15_method_200_code_160 11 rfl rfl) (lv_at hl 1 rfl) ?_
        refine lv_istore (lv' := [(9, .int (iI (B31 13 l4 28 r31))), (8, .int (iI (B28 13 l1 28 r28))), (15, .int (iI (B31 13 l4 28 r31))), (14, .int (iI (B28 13 l1 28 r28))), (13, .int (iI l13)), (12, .int (iI l12)), (11, .int (iI l11)), (10, .int (iI l10)), (7, .int (iI l7)), (0, .ref (ad 14 0 0)), (1, .ref (ad 13 l1 0)), (2, .int (iI l2)), (3, .int (iI l3)), (4, .ref (ad 13 l4 0)), (5, .int (iI l5)), (6, .int (iI l6))]) hx hb (D_54 W_prog_15_method_200_code_160 13 rfl rfl) hl (by decide) rfl (fun ls hl => ?_)
        exact b_M_isShape_175 X hrec41 hf hZ31 hS31 (lv_sub hl [2, 3, 6, 7, 0, 1, 8, 9, 10, 11, 12, 13, 14, 15] rfl)
    · replace hf := gpos hf h27
      refine lv_goto (tgt := 209) hx hb (D_167 W_prog_15_method_200_code_128 3 rfl rfl rfl) (by decide) ?_
      exact b_M_isShape_209 X hrec41 hf hZ21 hS21 (lv_sub hl [2, 3, 4, 5, 6, 7, 8, 9, 10, 11, 12, 13] rfl)
  · replace hf := gpos hf h23
    exact b_M_isShape_119 X hf hZ21 hS21 (lv_sub hl [] rfl)

def f_M_isShape_75 (rec41 : Int → Int → Int → Int → Int → Int → Int → Int → Int → Int → Int → zF → zB → zO) (K : Nat) (l12 : Int) (l11 : Int) (l10 : Int) (l9 : Int) (l8 : Int) (l7 : Int) (l1 : Int) (l2 : Int) (l3 : Int) (l4 : Int) (l5 : Int) (l6 : Int) (s0 : Int) (F : zF) (B : zB) : zO := zbind (f_M_isLike K l1 l12 l4 s0 F B) (fun r10 F10 B10 => if r32 r10 then (if r10 = 0 then f_M_isShape_119 K F10 B10 else if r32 (zand l6 4) then (if (zand l6 4) ≤ 0 then if 0 ≤ l1 ∧ l1 < 3 then if 0 ≤ l4 ∧ l4 < 3 then f_M_isShape_113 rec41 K s0 l12 l11 l10 l9 l8 l7 l1 l2 l3 l4 l5 l6 l1 l2 l12 l4 l10 s0 0 F10 B10 else none else none else if 0 ≤ l1 ∧ l1 < 3 then if 0 ≤ l4 ∧ l4 < 3 then f_M_isShape_113 rec41 K s0 l12 l11 l10 l9 l8 l7 l1 l2 l3 l4 l5 l6 l1 l2 l12 l4 l10 s0 1 F10 B10 else none else none) else none) else none)
set_option maxHeartbeats 4000000 in
set_option maxRecDepth 100000 in
theorem b_M_isShape_75 {D : va_G} {ca : Nat → ClassId} {ad : Nat → Int → Nat → Nat} {L : List Nat} {aS vS : Nat → Nat} {A : Nat → Prop} {p : Program} {l : Launch} {e : Env} {s : State} {m : MethodId} {args : Array Value} {below : List Frame} {meth : Method} {c : Code} {K : Nat} {r : Int} {F9 : zF} {B9 : zB} (X : zX D ca L aS vS A p s m args meth c prog_15_method_200_code 17 (Option.some Jvm.ClassFile.FieldType.boolean) "StaveHouseModel") {rec41 : Int → Int → Int → Int → Int → Int → Int → Int → Int → Int → Int → zF → zB → zO} (hrec41 : ∀ {l11 : Int} {l10 : Int} {l9 : Int} {l8 : Int} {l7 : Int} {l1 : Int} {l2 : Int} {l3 : Int} {l4 : Int} {l5 : Int} {l6 : Int} {F : zF} {B : zB} {H : Heap} {locs : List Loc} {ls : Array Slot}, rec41 l11 l10 l9 l8 l7 l1 l2 l3 l4 l5 l6 F B = some (r, F9, B9) → zH D ca ad lnM nM L F B A H → va_S A s.heap H locs → lv_has ls 17 [(11, .int (iI l11)), (10, .int (iI l10)), (9, .int (iI l9)), (8, .int (iI l8)), (7, .int (iI l7)), (0, .ref (ad 14 0 0)), (1, .ref (ad 13 l1 0)), (2, .int (iI l2)), (3, .int (iI l3)), (4, .ref (ad 13 l4 0)), (5, .int (iI l5)), (6, .int (iI l6))] → W p l e ({ frames := 4, cells := 0, slots := 0, locals := 118 } : Room) s m args below meth c H locs 0 0 (MQ below (Q_M_isShape D ca ad L r F9 B9 A) args s 0 0 A) (F0 m 41 ls [])) {l12 : Int} {l11 : Int} {l10 : Int} {l9 : Int} {l8 : Int} {l7 : Int} {l1 : Int} {l2 : Int} {l3 : Int} {l4 : Int} {l5 : Int} {l6 : Int} {s0 : Int} {F : zF} {B : zB} {H : Heap} {locs : List Loc} {ls : Array Slot} (hf : f_M_isShape_75 rec41 K l12 l11 l10 l9 l8 l7 l1 l2 l3 l4 l5 l6 s0 F B = some (r, F9, B9)) (hZ : zH D ca ad lnM nM L F B A H) (hS : va_S A s.heap H locs) (hl : lv_has ls 17 [(12, .int (iI l12)), (11, .int (iI l11)), (10, .int (iI l10)), (9, .int (iI l9)), (8, .int (iI l8)), (7, .int (iI l7)), (0, .ref (ad 14 0 0)), (1, .ref (ad 13 l1 0)), (2, .int (iI l2)), (3, .int (iI l3)), (4, .ref (ad 13 l4 0)), (5, .int (iI l5)), (6, .int (iI l6))]) : W p l e ({ frames := 4, cells := 0, slots := 0, locals := 118 } : Room) s m args below meth c H locs 0 0 (MQ below (Q_M_isShape D ca ad L r F9 B9 A) args s 0 0 A) (F0 m 75 ls [.int (iI s0)]) := by
  obtain ⟨hx, hb, hr, hml, hown, hts, hlk, hK, hA, hL, hX⟩ := id X
  replace hf : (zbind (f_M_isLike K l1 l12 l4 s0 F B) (fun r10 F10 B10 => if r32 r10 then (if r10 = 0 then f_M_isShape_119 K F10 B10 else if r32 (zand l6 4) then (if (zand l6 4) ≤ 0 then if 0 ≤ l1 ∧ l1 < 3 then if 0 ≤ l4 ∧ l4 < 3 then f_M_isShape_113 rec41 K s0 l12 l11 l10 l9 l8 l7 l1 l2 l3 l4 l5 l6 l1 l2 l12 l4 l10 s0 0 F10 B10 else none else none else if 0 ≤ l1 ∧ l1 < 3 then if 0 ≤ l4 ∧ l4 < 3 then f_M_isShape_113 rec41 K s0 l12 l11 l10 l9 l8 l7 l1 l2 l3 l4 l5 l6 l1 l2 l12 l4 l10 s0 1 F10 B10 else none else none) else none) else none)) = some (r, F9, B9) := hf
  refine lv_istore (lv' := [(13, .int (iI s0)), (12, .int (iI l12)), (11, .int (iI l11)), (10, .int (iI l10)), (9, .int (iI l9)), (8, .int (iI l8)), (7, .int (iI l7)), (0, .ref (ad 14 0 0)), (1, .ref (ad 13 l1 0)), (2, .int (iI l2)), (3, .int (iI l3)), (4, .ref (ad 13 l4 0)), (5, .int (iI l5)), (6, .int (iI l6))]) hx hb (D_54 W_prog_15_method_200_code_64 11 rfl rfl) hl (by decide) rfl (fun ls hl => ?_)
  refine lv_aload_n hx hb (D_43 W_prog_15_method_200_code_64 13 rfl rfl) rfl (lv_at hl 8 rfl) ?_
  refine lv_iload hx hb (D_21 W_prog_15_method_200_code_64 14 rfl rfl) (lv_at hl 1 rfl) ?_
  refine lv_aload hx hb (D_25 W_prog_15_method_200_code_64 16 rfl rfl) (lv_at hl 11 rfl) ?_
  refine lv_iload hx hb (D_21 W_prog_15_method_200_code_64 18 rfl rfl) (lv_at hl 0 rfl) ?_
  obtain ⟨r10, F10, B10, hc10, hf⟩ := gbind hf
  refine va_calli (va_runS (As := [.ref (ad 13 l1 0), .int (iI l12), .ref (ad 13 l4 0), .int (iI s0)]) (rest := []) ⟨hx, hb, hml, hown, hts⟩ (c_M_isLike (l := l) hc10) (va_cwS 4 hts (gdS k_14_64 k_14_65 k_1_9 k_14_66) rfl rfl rfl (by decide +kernel) ⟨Nat.le_of_ble_eq_true rfl, Nat.le_of_ble_eq_true rfl⟩) (zPS X hZ hS [.ref (ad 13 l1 0), .int (iI l12), .ref (ad 13 l4 0), .int (iI s0)]) rfl rfl hl.1 rfl (lv_room (Nat.le_of_ble_eq_true rfl)) (D_184 W_prog_15_method_200_code_64 20 rfl rfl rfl) ⟨Nat.le_of_ble_eq_true rfl, Nat.le_of_ble_eq_true rfl⟩) hS (fun q _ h => zAin X hS q h) (zAin X hS) (fun p10 u10 t10 H10 locs10 ht10 hv10 hw10 hB10 hz10 hk10 hS10 => ?_)
  have hZ10 := zBack X ht10 hB10
  subst hw10
  obtain ⟨g11, hf⟩ := gif hf
  refine z0eq (tgt := 119) hx hb g11 (D_153 W_prog_15_method_200_code_64 23 rfl rfl rfl) (by decide) (fun h12 => ?_) (fun h12 => ?_)
  · replace hf := gpos hf h12
    exact b_M_isShape_119 X hf hZ10 hS10 (lv_sub hl [] rfl)
  · replace hf := gneg hf h12
    refine lv_aload_n hx hb (D_42 W_prog_15_method_200_code_64 26 rfl rfl) rfl (lv_at hl 7 rfl) ?_
    refine lv_aload_n hx hb (D_43 W_prog_15_method_200_code_64 27 rfl rfl) rfl (lv_at hl 8 rfl) ?_
    refine lv_iload_n hx hb (D_28 W_prog_15_method_200_code_64 28 rfl rfl) rfl (lv_at hl 9 rfl) ?_
    refine lv_iload hx hb (D_21 W_prog_15_method_200_code_64 29 rfl rfl) (lv_at hl 1 rfl) ?_
    refine lv_aload hx hb (D_25 W_prog_15_method_200_code_64 31 rfl rfl) (lv_at hl 11 rfl) ?_
    refine lv_iload hx hb (D_21 W_prog_15_method_200_code_96 1 rfl rfl) (lv_at hl 3 rfl) ?_
    refine lv_iload hx hb (D_21 W_prog_15_method_200_code_96 3 rfl rfl) (lv_at hl 0 rfl) ?_
    refine lv_iload hx hb (D_21 W_prog_15_method_200_code_96 5 rfl rfl) (lv_at hl 13 rfl) ?_
    refine lv_iconst (v := iI 4) hx hb (D_7 W_prog_15_method_200_code_96 7 rfl rfl) rfl ?_
    refine zand_r hx hb (D_126 W_prog_15_method_200_code_96 8 rfl rfl) ?_
    obtain ⟨g13, hf⟩ := gif hf
    refine z0le (tgt := 112) hx hb g13 (D_158 W_prog_15_method_200_code_96 9 rfl rfl rfl) (by decide) (fun h14 => ?_) (fun h14 => ?_)
    · replace hf := gpos hf h14
      refine lv_iconst (v := iI 0) hx hb (D_3 W_prog_15_method_200_code_96 16 rfl rfl) rfl ?_
      obtain ⟨g15, hf⟩ := gif hf
      refine W.eq (g2 := F0 m 113 ls [.int (iI 0), .int (iI s0), .int (iI l10), .ref (ad 13 l4 0), .int (iI l12), .int (iI l2), va_rf (zrf ad 13 l1), .ref (ad 14 0 0)]) (by rw [zrf_pos (ad := ad) (t := 13) g15.1]; try rfl) ?_
      obtain ⟨g16, hf⟩ := gif hf
      refine W.eq (g2 := F0 m 113 ls [.int (iI 0), .int (iI s0), .int (iI l10), va_rf (zrf ad 13 l4), .int (iI l12), .int (iI l2), va_rf (zrf ad 13 l1), .ref (ad 14 0 0)]) (by rw [zrf_pos (ad := ad) (t := 13) g16.1]; try rfl) ?_
      exact b_M_isShape_113 X hrec41 hf hZ10 hS10 (lv_sub hl [0, 1, 2, 3, 4, 5, 6, 7, 8, 9, 10, 11, 12, 13] rfl)
    · replace hf := gneg hf h14
      refine lv_iconst (v := iI 1) hx hb (D_4 W_prog_15_method_200_code_96 12 rfl rfl) rfl ?_
      refine lv_goto (tgt := 113) hx hb (D_167 W_prog_15_method_200_code_96 13 rfl rfl rfl) (by decide) ?_
      obtain ⟨g17, hf⟩ := gif hf
      refine W.eq (g2 := F0 m 113 ls [.int (iI 1), .int (iI s0), .int (iI l10), .ref (ad 13 l4 0), .int (iI l12), .int (iI l2), va_rf (zrf ad 13 l1), .ref (ad 14 0 0)]) (by rw [zrf_pos (ad := ad) (t := 13) g17.1]; try rfl) ?_
      obtain ⟨g18, hf⟩ := gif hf
      refine W.eq (g2 := F0 m 113 ls [.int (iI 1), .int (iI s0), .int (iI l10), va_rf (zrf ad 13 l4), .int (iI l12), .int (iI l2), va_rf (zrf ad 13 l1), .ref (ad 14 0 0)]) (by rw [zrf_pos (ad := ad) (t := 13) g18.1]; try rfl) ?_
      exact b_M_isShape_113 X hrec41 hf hZ10 hS10 (lv_sub hl [0, 1, 2, 3, 4, 5, 6, 7, 8, 9, 10, 11, 12, 13] rfl)

def f_M_isShape_41 (K : Nat) : Nat → Int → Int → Int → Int → Int → Int → Int → Int → Int → Int → Int → zF → zB → zO
  | 0, _, _, _, _, _, _, _, _, _, _, _, _, _ => none
  | n + 1, l11, l10, l9, l8, l7, l1, l2, l3, l4, l5, l6, F, B => if r32 l11 then if r32 l3 then (if l3 ≤ l11 then some (1, F, B) else if r32 l7 then (if l7 = 0 then f_M_isShape_75 (f_M_isShape_41 K n) K (l2 + l11) l11 l10 l9 l8 l7 l1 l2 l3 l4 l5 l6 (l5 + l11) F B else f_M_isShape_75 (f_M_isShape_41 K n) K (l2 + l11) l11 l10 l9 l8 l7 l1 l2 l3 l4 l5 l6 (((l5 + l3) - 1) - l11) F B) else none) else none else none
set_option maxHeartbeats 4000000 in
set_option maxRecDepth 100000 in
theorem b_M_isShape_41 {D : va_G} {ca : Nat → ClassId} {ad : Nat → Int → Nat → Nat} {L : List Nat} {aS vS : Nat → Nat} {A : Nat → Prop} {p : Program} {l : Launch} {e : Env} {s : State} {m : MethodId} {args : Array Value} {below : List Frame} {meth : Method} {c : Code} {K : Nat} {r : Int} {F9 : zF} {B9 : zB} (X : zX D ca L aS vS A p s m args meth c prog_15_method_200_code 17 (Option.some Jvm.ClassFile.FieldType.boolean) "StaveHouseModel") : ∀ {n : Nat} {l11 : Int} {l10 : Int} {l9 : Int} {l8 : Int} {l7 : Int} {l1 : Int} {l2 : Int} {l3 : Int} {l4 : Int} {l5 : Int} {l6 : Int} {F : zF} {B : zB} {H : Heap} {locs : List Loc} {ls : Array Slot}, f_M_isShape_41 K n l11 l10 l9 l8 l7 l1 l2 l3 l4 l5 l6 F B = some (r, F9, B9) → zH D ca ad lnM nM L F B A H → va_S A s.heap H locs → lv_has ls 17 [(11, .int (iI l11)), (10, .int (iI l10)), (9, .int (iI l9)), (8, .int (iI l8)), (7, .int (iI l7)), (0, .ref (ad 14 0 0)), (1, .ref (ad 13 l1 0)), (2, .int (iI l2)), (3, .int (iI l3)), (4, .ref (ad 13 l4 0)), (5, .int (iI l5)), (6, .int (iI l6))] → W p l e ({ frames := 4, cells := 0, slots := 0, locals := 118 } : Room) s m args below meth c H locs 0 0 (MQ below (Q_M_isShape D ca ad L r F9 B9 A) args s 0 0 A) (F0 m 41 ls []) := by
  obtain ⟨hx, hb, hr, hml, hown, hts, hlk, hK, hA, hL, hX⟩ := id X
  intro n
  induction n with
  | zero =>
    intros
    rename_i hf _ _ _
    cases hf
  | succ n ih =>
    intro l11 l10 l9 l8 l7 l1 l2 l3 l4 l5 l6 F B H locs ls hf hZ hS hl
    replace hf : (if r32 l11 then if r32 l3 then (if l3 ≤ l11 then some (1, F, B) else if r32 l7 then (if l7 = 0 then f_M_isShape_75 (f_M_isShape_41 K n) K (l2 + l11) l11 l10 l9 l8 l7 l1 l2 l3 l4 l5 l6 (l5 + l11) F B else f_M_isShape_75 (f_M_isShape_41 K n) K (l2 + l11) l11 l10 l9 l8 l7 l1 l2 l3 l4 l5 l6 (((l5 + l3) - 1) - l11) F B) else none) else none else none) = some (r, F9, B9) := hf
    refine lv_iload hx hb (D_21 W_prog_15_method_200_code_32 9 rfl rfl) (lv_at hl 0 rfl) ?_
    refine lv_iload_n hx hb (D_29 W_prog_15_method_200_code_32 11 rfl rfl) rfl (lv_at hl 8 rfl) ?_
    obtain ⟨g5, hf⟩ := gif hf
    obtain ⟨g6, hf⟩ := gif hf
    refine zge (tgt := 215) hx hb g5 g6 (D_162 W_prog_15_method_200_code_32 12 rfl rfl rfl) (by decide) (fun h7 => ?_) (fun h7 => ?_)
    · replace hf := gpos hf h7
      refine lv_iconst (v := iI 1) hx hb (D_4 W_prog_15_method_200_code_192 23 rfl rfl) rfl ?_
      cases hf
      exact W.zret hx hb hr rfl (fun t ht hW => ⟨⟨_, (), rfl, rfl, by rw [ht]; exact hZ, va_K.moved hW.alike hK⟩, hS.F ht⟩) hS.2.2 (D_172 W_prog_15_method_200_code_192 24 rfl rfl) hlk
    · replace hf := gneg hf h7
      refine lv_iload_n hx hb (D_28 W_prog_15_method_200_code_32 15 rfl rfl) rfl (lv_at hl 7 rfl) ?_
      refine lv_iload hx hb (D_21 W_prog_15_method_200_code_32 16 rfl rfl) (lv_at hl 0 rfl) ?_
      refine zadd hx hb (D_96 W_prog_15_method_200_code_32 18 rfl rfl) ?_
      refine lv_istore (lv' := [(12, .int (iI (l2 + l11))), (11, .int (iI l11)), (10, .int (iI l10)), (9, .int (iI l9)), (8, .int (iI l8)), (7, .int (iI l7)), (0, .ref (ad 14 0 0)), (1, .ref (ad 13 l1 0)), (2, .int (iI l2)), (3, .int (iI l3)), (4, .ref (ad 13 l4 0)), (5, .int (iI l5)), (6, .int (iI l6))]) hx hb (D_54 W_prog_15_method_200_code_32 19 rfl rfl) hl (by decide) rfl (fun ls hl => ?_)
      refine lv_iload hx hb (D_21 W_prog_15_method_200_code_32 21 rfl rfl) (lv_at hl 5 rfl) ?_
      obtain ⟨g8, hf⟩ := gif hf
      refine z0eq (tgt := 70) hx hb g8 (D_153 W_prog_15_method_200_code_32 23 rfl rfl rfl) (by decide) (fun h9 => ?_) (fun h9 => ?_)
      · replace hf := gpos hf h9
        refine lv_iload hx hb (D_21 W_prog_15_method_200_code_64 6 rfl rfl) (lv_at hl 11 rfl) ?_
        refine lv_iload hx hb (D_21 W_prog_15_method_200_code_64 8 rfl rfl) (lv_at hl 1 rfl) ?_
        refine zadd hx hb (D_96 W_prog_15_method_200_code_64 10 rfl rfl) ?_
        exact b_M_isShape_75 X ih hf hZ hS (lv_sub hl [0, 1, 2, 3, 4, 5, 6, 7, 8, 9, 10, 11, 12] rfl)
      · replace hf := gneg hf h9
        refine lv_iload hx hb (D_21 W_prog_15_method_200_code_32 26 rfl rfl) (lv_at hl 11 rfl) ?_
        refine lv_iload_n hx hb (D_29 W_prog_15_method_200_code_32 28 rfl rfl) rfl (lv_at hl 9 rfl) ?_
        refine zadd hx hb (D_96 W_prog_15_method_200_code_32 29 rfl rfl) ?_
        refine lv_iconst (v := iI 1) hx hb (D_4 W_prog_15_method_200_code_32 30 rfl rfl) rfl ?_
        refine zsub hx hb (D_100 W_prog_15_method_200_code_32 31 rfl rfl) ?_
        refine lv_iload hx hb (D_21 W_prog_15_method_200_code_64 0 rfl rfl) (lv_at hl 1 rfl) ?_
        refine zsub hx hb (D_100 W_prog_15_method_200_code_64 2 rfl rfl) ?_
        refine lv_goto (tgt := 75) hx hb (D_167 W_prog_15_method_200_code_64 3 rfl rfl rfl) (by decide) ?_
        exact b_M_isShape_75 X ih hf hZ hS (lv_sub hl [0, 1, 2, 3, 4, 5, 6, 7, 8, 9, 10, 11, 12] rfl)

def f_M_isShape_36 (K : Nat) (l9 : Int) (l8 : Int) (l7 : Int) (l1 : Int) (l2 : Int) (l3 : Int) (l4 : Int) (l5 : Int) (l6 : Int) (s0 : Int) (F : zF) (B : zB) : zO := f_M_isShape_41 K K 0 s0 l9 l8 l7 l1 l2 l3 l4 l5 l6 F B
set_option maxHeartbeats 4000000 in
set_option maxRecDepth 100000 in
theorem b_M_isShape_36 {D : va_G} {ca : Nat → ClassId} {ad : Nat → Int → Nat → Nat} {L : List Nat} {aS vS : Nat → Nat} {A : Nat → Prop} {p : Program} {l : Launch} {e : Env} {s : State} {m : MethodId} {args : Array Value} {below : List Frame} {meth : Method} {c : Code} {K : Nat} {r : Int} {F9 : zF} {B9 : zB} (X : zX D ca L aS vS A p s m args meth c prog_15_method_200_code 17 (Option.some Jvm.ClassFile.FieldType.boolean) "StaveHouseModel") {l9 : Int} {l8 : Int} {l7 : Int} {l1 : Int} {l2 : Int} {l3 : Int} {l4 : Int} {l5 : Int} {l6 : Int} {s0 : Int} {F : zF} {B : zB} {H : Heap} {locs : List Loc} {ls : Array Slot} (hf : f_M_isShape_36 K l9 l8 l7 l1 l2 l3 l4 l5 l6 s0 F B = some (r, F9, B9)) (hZ : zH D ca ad lnM nM L F B A H) (hS : va_S A s.heap H locs) (hl : lv_has ls 17 [(9, .int (iI l9)), (8, .int (iI l8)), (7, .int (iI l7)), (0, .ref (ad 14 0 0)), (1, .ref (ad 13 l1 0)), (2, .int (iI l2)), (3, .int (iI l3)), (4, .ref (ad 13 l4 0)), (5, .int (iI l5)), (6, .int (iI l6))]) : W p l e ({ frames := 4, cells := 0, slots := 0, locals := 118 } : Room) s m args below meth c H locs 0 0 (MQ below (Q_M_isShape D ca ad L r F9 B9 A) args s 0 0 A) (F0 m 36 ls [.int (iI s0)]) := by
  obtain ⟨hx, hb, hr, hml, hown, hts, hlk, hK, hA, hL, hX⟩ := id X
  replace hf : (f_M_isShape_41 K K 0 s0 l9 l8 l7 l1 l2 l3 l4 l5 l6 F B) = some (r, F9, B9) := hf
  refine lv_istore (lv' := [(10, .int (iI s0)), (9, .int (iI l9)), (8, .int (iI l8)), (7, .int (iI l7)), (0, .ref (ad 14 0 0)), (1, .ref (ad 13 l1 0)), (2, .int (iI l2)), (3, .int (iI l3)), (4, .ref (ad 13 l4 0)), (5, .int (iI l5)), (6, .int (iI l6))]) hx hb (D_54 W_prog_15_method_200_code_32 4 rfl rfl) hl (by decide) rfl (fun ls hl => ?_)
  refine lv_iconst (v := iI 0) hx hb (D_3 W_prog_15_method_200_code_32 6 rfl rfl) rfl ?_
  refine lv_istore (lv' := [(11, .int (iI 0)), (10, .int (iI s0)), (9, .int (iI l9)), (8, .int (iI l8)), (7, .int (iI l7)), (0, .ref (ad 14 0 0)), (1, .ref (ad 13 l1 0)), (2, .int (iI l2)), (3, .int (iI l3)), (4, .ref (ad 13 l4 0)), (5, .int (iI l5)), (6, .int (iI l6))]) hx hb (D_54 W_prog_15_method_200_code_32 7 rfl rfl) hl (by decide) rfl (fun ls hl => ?_)
  exact b_M_isShape_41 X hf hZ hS (lv_sub hl [0, 1, 2, 3, 4, 5, 6, 7, 8, 9, 10, 11] rfl)

def f_M_isShape_12 (K : Nat) (l1 : Int) (l2 : Int) (l3 : Int) (l4 : Int) (l5 : Int) (l6 : Int) (s0 : Int) (F : zF) (B : zB) : zO := if r32 s0 then (if s0 = 0 then f_M_isShape_36 K (-1) (-1) s0 l1 l2 l3 l4 l5 l6 l5 F B else f_M_isShape_36 K (-1) (-1) s0 l1 l2 l3 l4 l5 l6 ((l5 + l3) - 1) F B) else none
set_option maxHeartbeats 4000000 in
set_option maxRecDepth 100000 in
theorem b_M_isShape_12 {D : va_G} {ca : Nat → ClassId} {ad : Nat → Int → Nat → Nat} {L : List Nat} {aS vS : Nat → Nat} {A : Nat → Prop} {p : Program} {l : Launch} {e : Env} {s : State} {m : MethodId} {args : Array Value} {below : List Frame} {meth : Method} {c : Code} {K : Nat} {r : Int} {F9 : zF} {B9 : zB} (X : zX D ca L aS vS A p s m args meth c prog_15_method_200_code 17 (Option.some Jvm.ClassFile.FieldType.boolean) "StaveHouseModel") {l1 : Int} {l2 : Int} {l3 : Int} {l4 : Int} {l5 : Int} {l6 : Int} {s0 : Int} {F : zF} {B : zB} {H : Heap} {locs : List Loc} {ls : Array Slot} (hf : f_M_isShape_12 K l1 l2 l3 l4 l5 l6 s0 F B = some (r, F9, B9)) (hZ : zH D ca ad lnM nM L F B A H) (hS : va_S A s.heap H locs) (hl : lv_has ls 17 [(0, .ref (ad 14 0 0)), (1, .ref (ad 13 l1 0)), (2, .int (iI l2)), (3, .int (iI l3)), (4, .ref (ad 13 l4 0)), (5, .int (iI l5)), (6, .int (iI l6))]) : W p l e ({ frames := 4, cells := 0, slots := 0, locals := 118 } : Room) s m args below meth c H locs 0 0 (MQ below (Q_M_isShape D ca ad L r F9 B9 A) args s 0 0 A) (F0 m 12 ls [.int (iI s0)]) := by
  obtain ⟨hx, hb, hr, hml, hown, hts, hlk, hK, hA, hL, hX⟩ := id X
  replace hf : (if r32 s0 then (if s0 = 0 then f_M_isShape_36 K (-1) (-1) s0 l1 l2 l3 l4 l5 l6 l5 F B else f_M_isShape_36 K (-1) (-1) s0 l1 l2 l3 l4 l5 l6 ((l5 + l3) - 1) F B) else none) = some (r, F9, B9) := hf
  refine lv_istore (lv' := [(7, .int (iI s0)), (0, .ref (ad 14 0 0)), (1, .ref (ad 13 l1 0)), (2, .int (iI l2)), (3, .int (iI l3)), (4, .ref (ad 13 l4 0)), (5, .int (iI l5)), (6, .int (iI l6))]) hx hb (D_54 W_prog_15_method_200_code_0 12 rfl rfl) hl (by decide) rfl (fun ls hl => ?_)
  refine lv_iconst (v := iI (-1)) hx hb (D_2 W_prog_15_method_200_code_0 14 rfl rfl) rfl ?_
  refine lv_istore (lv' := [(8, .int (iI (-1))), (7, .int (iI s0)), (0, .ref (ad 14 0 0)), (1, .ref (ad 13 l1 0)), (2, .int (iI l2)), (3, .int (iI l3)), (4, .ref (ad 13 l4 0)), (5, .int (iI l5)), (6, .int (iI l6))]) hx hb (D_54 W_prog_15_method_200_code_0 15 rfl rfl) hl (by decide) rfl (fun ls hl => ?_)
  refine lv_iconst (v := iI (-1)) hx hb (D_2 W_prog_15_method_200_code_0 17 rfl rfl) rfl ?_
  refine lv_istore (lv' := [(9, .int (iI (-1))), (8, .int (iI (-1))), (7, .int (iI s0)), (0, .ref (ad 14 0 0)), (1, .ref (ad 13 l1 0)), (2, .int (iI l2)), (3, .int (iI l3)), (4, .ref (ad 13 l4 0)), (5, .int (iI l5)), (6, .int (iI l6))]) hx hb (D_54 W_prog_15_method_200_code_0 18 rfl rfl) hl (by decide) rfl (fun ls hl => ?_)
  refine lv_iload hx hb (D_21 W_prog_15_method_200_code_0 20 rfl rfl) (lv_at hl 2 rfl) ?_
  obtain ⟨g3, hf⟩ := gif hf
  refine z0eq (tgt := 34) hx hb g3 (D_153 W_prog_15_method_200_code_0 22 rfl rfl rfl) (by decide) (fun h4 => ?_) (fun h4 => ?_)
  · replace hf := gpos hf h4
    refine lv_iload hx hb (D_21 W_prog_15_method_200_code_32 2 rfl rfl) (lv_at hl 8 rfl) ?_
    exact b_M_isShape_36 X hf hZ hS (lv_sub hl [0, 1, 2, 3, 4, 5, 6, 7, 8, 9] rfl)
  · replace hf := gneg hf h4
    refine lv_iload hx hb (D_21 W_prog_15_method_200_code_0 25 rfl rfl) (lv_at hl 8 rfl) ?_
    refine lv_iload_n hx hb (D_29 W_prog_15_method_200_code_0 27 rfl rfl) rfl (lv_at hl 6 rfl) ?_
    refine zadd hx hb (D_96 W_prog_15_method_200_code_0 28 rfl rfl) ?_
    refine lv_iconst (v := iI 1) hx hb (D_4 W_prog_15_method_200_code_0 29 rfl rfl) rfl ?_
    refine zsub hx hb (D_100 W_prog_15_method_200_code_0 30 rfl rfl) ?_
    refine lv_goto (tgt := 36) hx hb (D_167 W_prog_15_method_200_code_0 31 rfl rfl rfl) (by decide) ?_
    exact b_M_isShape_36 X hf hZ hS (lv_sub hl [0, 1, 2, 3, 4, 5, 6, 7, 8, 9] rfl)

def f_M_isShape (K : Nat) (l1 : Int) (l2 : Int) (l3 : Int) (l4 : Int) (l5 : Int) (l6 : Int) (F : zF) (B : zB) : zO := if r32 (zand l6 2) then (if (zand l6 2) ≤ 0 then f_M_isShape_12 K l1 l2 l3 l4 l5 l6 0 F B else f_M_isShape_12 K l1 l2 l3 l4 l5 l6 1 F B) else none
set_option maxHeartbeats 4000000 in
set_option maxRecDepth 100000 in
theorem c_M_isShape {l : Launch} {D : va_G} {ca : Nat → ClassId} {ad : Nat → Int → Nat → Nat} {L : List Nat} {aS vS : Nat → Nat} {sz K : Nat}  {l1 : Int} {l2 : Int} {l3 : Int} {l4 : Int} {l5 : Int} {l6 : Int} {F F9 : zF} {B B9 : zB} {r : Int} (hf : f_M_isShape K l1 l2 l3 l4 l5 l6 F B = some (r, F9, B9)) : Met l ({ cls := "StaveHouseModel", name := "isShape", desc := "(LStaveHouseModel$Piece;IILStaveHouseModel$Piece;II)Z" } : Jvm.MethodName) (Cond.code ({ cls := "StaveHouseModel", name := "isShape", desc := "(LStaveHouseModel$Piece;IILStaveHouseModel$Piece;II)Z" } : Jvm.MethodName) prog_15_method_200_code 17 (Option.some Jvm.ClassFile.FieldType.boolean) :: wAll) ({ frames := 4, cells := 0, slots := 0, locals := 118 } : Room) (va_Pc [.ref (ad 14 0 0), .ref (ad 13 l1 0), .int (iI l2), .int (iI l3), .ref (ad 13 l4 0), .int (iI l5), .int (iI l6)] (zPre D ca ad lnM nM L aS vS F B sz)) (Q_M_isShape D ca ad L r F9 B9 (zA L sz)) 0 0 (zA L sz) := by
  refine zMet (Qc := Q_M_isShape D ca ad L r F9 B9) (lv := [(0, .ref (ad 14 0 0)), (1, .ref (ad 13 l1 0)), (2, .int (iI l2)), (3, .int (iI l3)), (4, .ref (ad 13 l4 0)), (5, .int (iI l5)), (6, .int (iI l6))]) (by decide) (Nat.le_of_ble_eq_true rfl) rfl (fun A p e s m below meth c ls X hZ hS hl => ?_)
  obtain ⟨hx, hb, hr, hml, hown, hts, hlk, hK, hA, hL, hX⟩ := id X
  replace hf : (if r32 (zand l6 2) then (if (zand l6 2) ≤ 0 then f_M_isShape_12 K l1 l2 l3 l4 l5 l6 0 F B else f_M_isShape_12 K l1 l2 l3 l4 l5 l6 1 F B) else none) = some (r, F9, B9) := hf
  refine lv_iload hx hb (D_21 W_prog_15_method_200_code_0 0 rfl rfl) (lv_at hl 6 rfl) ?_
  refine lv_iconst (v := iI 2) hx hb (D_5 W_prog_15_method_200_code_0 2 rfl rfl) rfl ?_
  refine zand_r hx hb (D_126 W_prog_15_method_200_code_0 3 rfl rfl) ?_
  obtain ⟨g1, hf⟩ := gif hf
  refine z0le (tgt := 11) hx hb g1 (D_158 W_prog_15_method_200_code_0 4 rfl rfl rfl) (by decide) (fun h2 => ?_) (fun h2 => ?_)
  · replace hf := gpos hf h2
    refine lv_iconst (v := iI 0) hx hb (D_3 W_prog_15_method_200_code_0 11 rfl rfl) rfl ?_
    exact b_M_isShape_12 X hf hZ hS (lv_sub hl [0, 1, 2, 3, 4, 5, 6] rfl)
  · replace hf := gneg hf h2
    refine lv_iconst (v := iI 1) hx hb (D_4 W_prog_15_method_200_code_0 7 rfl rfl) rfl ?_
    refine lv_goto (tgt := 12) hx hb (D_167 W_prog_15_method_200_code_0 8 rfl rfl rfl) (by decide) ?_
    exact b_M_isShape_12 X hf hZ hS (lv_sub hl [0, 1, 2, 3, 4, 5, 6] rfl)

abbrev Q_M_isRun (D : va_G) (ca : Nat → ClassId) (ad : Nat → Int → Nat → Nat) (L : List Nat) (r : Int) (F : zF) (B : zB) (A : Nat → Prop) : Array Value → State → Outcome → State → Prop := va_Qi (S := Unit) (fun p _ => p = iI r) (fun _ => zPo D ca ad lnM nM L F B A) A
def f_M_isRun_25 (K : Nat) (s0 : Int) (F : zF) (B : zB) : zO := if (s0 = 0 ∨ s0 = 1) then some (s0, F, B) else none
set_option maxHeartbeats 4000000 in
set_option maxRecDepth 100000 in
theorem b_M_isRun_25 {D : va_G} {ca : Nat → ClassId} {ad : Nat → Int → Nat → Nat} {L : List Nat} {aS vS : Nat → Nat} {A : Nat → Prop} {p : Program} {l : Launch} {e : Env} {s : State} {m : MethodId} {args : Array Value} {below : List Frame} {meth : Method} {c : Code} {K : Nat} {r : Int} {F9 : zF} {B9 : zB} (X : zX D ca L aS vS A p s m args meth c prog_15_method_22_code 1 (Option.some Jvm.ClassFile.FieldType.boolean) "StaveHouseModel") {s0 : Int} {F : zF} {B : zB} {H : Heap} {locs : List Loc} {ls : Array Slot} (hf : f_M_isRun_25 K s0 F B = some (r, F9, B9)) (hZ : zH D ca ad lnM nM L F B A H) (hS : va_S A s.heap H locs) (hl : lv_has ls 1 []) : W p l e ({ frames := 1, cells := 0, slots := 0, locals := 20 } : Room) s m args below meth c H locs 0 0 (MQ below (Q_M_isRun D ca ad L r F9 B9 A) args s 0 0 A) (F0 m 25 ls [.int (iI s0)]) := by
  obtain ⟨hx, hb, hr, hml, hown, hts, hlk, hK, hA, hL, hX⟩ := id X
  replace hf : (if (s0 = 0 ∨ s0 = 1) then some (s0, F, B) else none) = some (r, F9, B9) := hf
  obtain ⟨g9, hf⟩ := gif hf
  cases hf
  exact W.zret hx hb hr (zbool g9) (fun t ht hW => ⟨⟨_, (), rfl, rfl, by rw [ht]; exact hZ, va_K.moved hW.alike hK⟩, hS.F ht⟩) hS.2.2 (D_172 W_prog_15_method_22_code_0 25 rfl rfl) hlk

def f_M_isRun_20 (K : Nat)  (F : zF) (B : zB) : zO := f_M_isRun_25 K 1 F B
set_option maxHeartbeats 4000000 in
set_option maxRecDepth 100000 in
theorem b_M_isRun_20 {D : va_G} {ca : Nat → ClassId} {ad : Nat → Int → Nat → Nat} {L : List Nat} {aS vS : Nat → Nat} {A : Nat → Prop} {p : Program} {l : Launch} {e : Env} {s : State} {m : MethodId} {args : Array Value} {below : List Frame} {meth : Method} {c : Code} {K : Nat} {r : Int} {F9 : zF} {B9 : zB} (X : zX D ca L aS vS A p s m args meth c prog_15_method_22_code 1 (Option.some Jvm.ClassFile.FieldType.boolean) "StaveHouseModel")  {F : zF} {B : zB} {H : Heap} {locs : List Loc} {ls : Array Slot} (hf : f_M_isRun_20 K  F B = some (r, F9, B9)) (hZ : zH D ca ad lnM nM L F B A H) (hS : va_S A s.heap H locs) (hl : lv_has ls 1 []) : W p l e ({ frames := 1, cells := 0, slots := 0, locals := 20 } : Room) s m args below meth c H locs 0 0 (MQ below (Q_M_isRun D ca ad L r F9 B9 A) args s 0 0 A) (F0 m 20 ls []) := by
  obtain ⟨hx, hb, hr, hml, hown, hts, hlk, hK, hA, hL, hX⟩ := id X
  replace hf : (f_M_isRun_25 K 1 F B) = some (r, F9, B9) := hf
  refine lv_iconst (v := iI 1) hx hb (D_4 W_prog_15_method_22_code_0 20 rfl rfl) rfl ?_
  refine lv_goto (tgt := 25) hx hb (D_167 W_prog_15_method_22_code_0 21 rfl rfl rfl) (by decide) ?_
  exact b_M_isRun_25 X hf hZ hS (lv_sub hl [] rfl)

def f_M_isRun (K : Nat) (l0 : Int) (F : zF) (B : zB) : zO := zbind (f_M_isLetter K l0 F B) (fun r1 F1 B1 => if r32 r1 then (if r1 = 0 then zbind (f_M_isDigit K l0 F1 B1) (fun r4 F4 B4 => if r32 r4 then (if r4 = 0 then if r32 l0 then (if l0 = 35 then f_M_isRun_20 K F4 B4 else f_M_isRun_25 K 0 F4 B4) else none else f_M_isRun_20 K F4 B4) else none) else f_M_isRun_20 K F1 B1) else none)
set_option maxHeartbeats 4000000 in
set_option maxRecDepth 100000 in
theorem c_M_isRun {l : Launch} {D : va_G} {ca : Nat → ClassId} {ad : Nat → Int → Nat → Nat} {L : List Nat} {aS vS : Nat → Nat} {sz K : Nat}  {l0 : Int} {F F9 : zF} {B B9 : zB} {r : Int} (hf : f_M_isRun K l0 F B = some (r, F9, B9)) : Met l ({ cls := "StaveHouseModel", name := "isRun", desc := "(I)Z" } : Jvm.MethodName) (Cond.code ({ cls := "StaveHouseModel", name := "isRun", desc := "(I)Z" } : Jvm.MethodName) prog_15_method_22_code 1 (Option.some Jvm.ClassFile.FieldType.boolean) :: wAll) ({ frames := 1, cells := 0, slots := 0, locals := 20 } : Room) (va_Pc [.int (iI l0)] (zPre D ca ad lnM nM L aS vS F B sz)) (Q_M_isRun D ca ad L r F9 B9 (zA L sz)) 0 0 (zA L sz) := by
  refine zMet (Qc := Q_M_isRun D ca ad L r F9 B9) (lv := [(0, .int (iI l0))]) (by decide) (Nat.le_of_ble_eq_true rfl) rfl (fun A p e s m below meth c ls X hZ hS hl => ?_)
  obtain ⟨hx, hb, hr, hml, hown, hts, hlk, hK, hA, hL, hX⟩ := id X
  replace hf : (zbind (f_M_isLetter K l0 F B) (fun r1 F1 B1 => if r32 r1 then (if r1 = 0 then zbind (f_M_isDigit K l0 F1 B1) (fun r4 F4 B4 => if r32 r4 then (if r4 = 0 then if r32 l0 then (if l0 = 35 then f_M_isRun_20 K F4 B4 else f_M_isRun_25 K 0 F4 B4) else none else f_M_isRun_20 K F4 B4) else none) else f_M_isRun_20 K F1 B1) else none)) = some (r, F9, B9) := hf
  refine lv_iload_n hx hb (D_26 W_prog_15_method_22_code_0 0 rfl rfl) rfl (lv_at hl 0 rfl) ?_
  obtain ⟨r1, F1, B1, hc1, hf⟩ := gbind hf
  refine va_calli (va_runS (As := [.int (iI l0)]) (rest := []) ⟨hx, hb, hml, hown, hts⟩ (c_M_isLetter (l := l) hc1) (va_cwS 1 hts (gdS k_14_90 k_14_91 k_1_9 k_14_92) rfl rfl rfl (by decide +kernel) ⟨Nat.le_of_ble_eq_true rfl, Nat.le_of_ble_eq_true rfl⟩) (zPS X hZ hS [.int (iI l0)]) rfl rfl hl.1 rfl (lv_room (Nat.le_of_ble_eq_true rfl)) (D_184 W_prog_15_method_22_code_0 1 rfl rfl rfl) ⟨Nat.le_of_ble_eq_true rfl, Nat.le_of_ble_eq_true rfl⟩) hS (fun q _ h => zAin X hS q h) (zAin X hS) (fun p1 u1 t1 H1 locs1 ht1 hv1 hw1 hB1 hz1 hk1 hS1 => ?_)
  have hZ1 := zBack X ht1 hB1
  subst hw1
  obtain ⟨g2, hf⟩ := gif hf
  refine z0ne (tgt := 20) hx hb g2 (D_154 W_prog_15_method_22_code_0 4 rfl rfl rfl) (by decide) (fun h3 => ?_) (fun h3 => ?_)
  · replace hf := gneg hf h3
    exact b_M_isRun_20 X hf hZ1 hS1 (lv_sub hl [] rfl)
  · replace hf := gpos hf h3
    refine lv_iload_n hx hb (D_26 W_prog_15_method_22_code_0 7 rfl rfl) rfl (lv_at hl 0 rfl) ?_
    obtain ⟨r4, F4, B4, hc4, hf⟩ := gbind hf
    refine va_calli (va_runS (As := [.int (iI l0)]) (rest := []) ⟨hx, hb, hml, hown, hts⟩ (c_M_isDigit (l := l) hc4) (va_cwS 1 hts (gdS k_14_93 k_14_94 k_1_9 k_14_95) rfl rfl rfl (by decide +kernel) ⟨Nat.le_of_ble_eq_true rfl, Nat.le_of_ble_eq_true rfl⟩) (zPS X hZ1 hS1 [.int (iI l0)]) rfl rfl hl.1 rfl (lv_room (Nat.le_of_ble_eq_true rfl)) (D_184 W_prog_15_method_22_code_0 8 rfl rfl rfl) ⟨Nat.le_of_ble_eq_true rfl, Nat.le_of_ble_eq_true rfl⟩) hS1 (fun q _ h => zAin X hS1 q h) (zAin X hS1) (fun p4 u4 t4 H4 locs4 ht4 hv4 hw4 hB4 hz4 hk4 hS4 => ?_)
    have hZ4 := zBack X ht4 hB4
    subst hw4
    obtain ⟨g5, hf⟩ := gif hf
    refine z0ne (tgt := 20) hx hb g5 (D_154 W_prog_15_method_22_code_0 11 rfl rfl rfl) (by decide) (fun h6 => ?_) (fun h6 => ?_)
    · replace hf := gneg hf h6
      exact b_M_isRun_20 X hf hZ4 hS4 (lv_sub hl [] rfl)
    · replace hf := gpos hf h6
      refine lv_iload_n hx hb (D_26 W_prog_15_method_22_code_0 14 rfl rfl) rfl (lv_at hl 0 rfl) ?_
      refine lv_bipush (v := iI 35) hx hb (D_16 W_prog_15_method_22_code_0 15 rfl rfl rfl) (by decide) ?_
      obtain ⟨g7, hf⟩ := gif hf
      refine zne (tgt := 24) hx hb g7 (by decide) (D_160 W_prog_15_method_22_code_0 17 rfl rfl rfl) (by decide) (fun h8 => ?_) (fun h8 => ?_)
      · replace hf := gneg hf h8
        refine lv_iconst (v := iI 0) hx hb (D_3 W_prog_15_method_22_code_0 24 rfl rfl) rfl ?_
        exact b_M_isRun_25 X hf hZ4 hS4 (lv_sub hl [] rfl)
      · replace hf := gpos hf h8
        exact b_M_isRun_20 X hf hZ4 hS4 (lv_sub hl [] rfl)

abbrev Q_M_cutPitch (D : va_G) (ca : Nat → ClassId) (ad : Nat → Int → Nat → Nat) (L : List Nat) (r : Int) (F : zF) (B : zB) (A : Nat → Prop) : Array Value → State → Outcome → State → Prop := va_Qv (S := Unit) (fun _ => True) (fun _ => zPo D ca ad lnM nM L F B A) A
def f_M_cutPitch_115 (rec58 : Int → Int → Int → Int → Int → Int → zF → zB → zO) (K : Nat) (l6 : Int) (l4 : Int) (l3 : Int) (l1 : Int) (l2 : Int) (s0 : Int) (s1 : Int) (F : zF) (B : zB) : zO := rec58 (l6 + 1) (s0 + s1) l4 l3 l1 l2 F B
set_option maxHeartbeats 4000000 in
set_option maxRecDepth 100000 in
theorem b_M_cutPitch_115 {D : va_G} {ca : Nat → ClassId} {ad : Nat → Int → Nat → Nat} {L : List Nat} {aS vS : Nat → Nat} {A : Nat → Prop} {p : Program} {l : Launch} {e : Env} {s : State} {m : MethodId} {args : Array Value} {below : List Frame} {meth : Method} {c : Code} {K : Nat} {r : Int} {F9 : zF} {B9 : zB} (X : zX D ca L aS vS A p s m args meth c prog_15_method_27_code 8 (Option.none : Option Jvm.ClassFile.FieldType) "StaveHouseModel") {rec58 : Int → Int → Int → Int → Int → Int → zF → zB → zO} (hrec58 : ∀ {l6 : Int} {l5 : Int} {l4 : Int} {l3 : Int} {l1 : Int} {l2 : Int} {F : zF} {B : zB} {H : Heap} {locs : List Loc} {ls : Array Slot}, rec58 l6 l5 l4 l3 l1 l2 F B = some (r, F9, B9) → zH D ca ad lnM nM L F B A H → va_S A s.heap H locs → lv_has ls 8 [(6, .int (iI l6)), (5, .int (iI l5)), (4, .int (iI l4)), (3, .int (iI l3)), (0, .ref (ad 14 0 0)), (1, .int (iI l1)), (2, .int (iI l2))] → W p l e ({ frames := 2, cells := 0, slots := 0, locals := 43 } : Room) s m args below meth c H locs 0 0 (MQ below (Q_M_cutPitch D ca ad L r F9 B9 A) args s 0 0 A) (F0 m 58 ls [])) {l6 : Int} {l4 : Int} {l3 : Int} {l1 : Int} {l2 : Int} {s0 : Int} {s1 : Int} {F : zF} {B : zB} {H : Heap} {locs : List Loc} {ls : Array Slot} (hf : f_M_cutPitch_115 rec58 K l6 l4 l3 l1 l2 s0 s1 F B = some (r, F9, B9)) (hZ : zH D ca ad lnM nM L F B A H) (hS : va_S A s.heap H locs) (hl : lv_has ls 8 [(6, .int (iI l6)), (4, .int (iI l4)), (3, .int (iI l3)), (0, .ref (ad 14 0 0)), (1, .int (iI l1)), (2, .int (iI l2))]) : W p l e ({ frames := 2, cells := 0, slots := 0, locals := 43 } : Room) s m args below meth c H locs 0 0 (MQ below (Q_M_cutPitch D ca ad L r F9 B9 A) args s 0 0 A) (F0 m 115 ls [.int (iI s1), .int (iI s0)]) := by
  obtain ⟨hx, hb, hr, hml, hown, hts, hlk, hK, hA, hL, hX⟩ := id X
  replace hf : (rec58 (l6 + 1) (s0 + s1) l4 l3 l1 l2 F B) = some (r, F9, B9) := hf
  refine zadd hx hb (D_96 W_prog_15_method_27_code_96 19 rfl rfl) ?_
  refine lv_istore (lv' := [(5, .int (iI (s0 + s1))), (6, .int (iI l6)), (4, .int (iI l4)), (3, .int (iI l3)), (0, .ref (ad 14 0 0)), (1, .int (iI l1)), (2, .int (iI l2))]) hx hb (D_54 W_prog_15_method_27_code_96 20 rfl rfl) hl (by decide) rfl (fun ls hl => ?_)
  refine lv_iinc (v := iI (l6 + 1)) (lv' := [(6, .int (iI (l6 + 1))), (5, .int (iI (s0 + s1))), (4, .int (iI l4)), (3, .int (iI l3)), (0, .ref (ad 14 0 0)), (1, .int (iI l1)), (2, .int (iI l2))]) hx hb d_15_27_118 hl (k := 1) rfl (iI_add _ 1) (by decide) rfl (fun ls hl => ?_)
  refine lv_goto (tgt := 58) hx hb (D_167 W_prog_15_method_27_code_96 25 rfl rfl rfl) (by decide) ?_
  exact hrec58 hf hZ hS (lv_sub hl [0, 1, 2, 3, 4, 5, 6] rfl)

def f_M_cutPitch_100 (K : Nat)  (F : zF) (B : zB) : zO := some (0, F, B)
set_option maxHeartbeats 4000000 in
set_option maxRecDepth 100000 in
theorem b_M_cutPitch_100 {D : va_G} {ca : Nat → ClassId} {ad : Nat → Int → Nat → Nat} {L : List Nat} {aS vS : Nat → Nat} {A : Nat → Prop} {p : Program} {l : Launch} {e : Env} {s : State} {m : MethodId} {args : Array Value} {below : List Frame} {meth : Method} {c : Code} {K : Nat} {r : Int} {F9 : zF} {B9 : zB} (X : zX D ca L aS vS A p s m args meth c prog_15_method_27_code 8 (Option.none : Option Jvm.ClassFile.FieldType) "StaveHouseModel")  {F : zF} {B : zB} {H : Heap} {locs : List Loc} {ls : Array Slot} (hf : f_M_cutPitch_100 K  F B = some (r, F9, B9)) (hZ : zH D ca ad lnM nM L F B A H) (hS : va_S A s.heap H locs) (hl : lv_has ls 8 []) : W p l e ({ frames := 2, cells := 0, slots := 0, locals := 43 } : Room) s m args below meth c H locs 0 0 (MQ below (Q_M_cutPitch D ca ad L r F9 B9 A) args s 0 0 A) (F0 m 100 ls []) := by
  obtain ⟨hx, hb, hr, hml, hown, hts, hlk, hK, hA, hL, hX⟩ := id X
  replace hf : (some (0, F, B)) = some (r, F9, B9) := hf
  cases hf
  exact W.vret hx hb hr (fun t ht hW => ⟨⟨(), rfl, trivial, by rw [ht]; exact hZ, va_K.moved hW.alike hK⟩, hS.F ht⟩) hS.2.2 (D_177 W_prog_15_method_27_code_96 4 rfl rfl) hlk

def f_M_cutPitch_88 (rec58 : Int → Int → Int → Int → Int → Int → zF → zB → zO) (K : Nat) (l7 : Int) (l6 : Int) (l5 : Int) (l4 : Int) (l3 : Int) (l1 : Int) (l2 : Int) (F : zF) (B : zB) : zO := zbind (f_M_byteAt K (l1 + 1) F B) (fun r24 F24 B24 => if r32 l7 then if r32 r24 then (if l7 = r24 then (if l7 = 35 then f_M_cutPitch_115 rec58 K l6 l4 l3 l1 l2 l5 1 F24 B24 else f_M_cutPitch_115 rec58 K l6 l4 l3 l1 l2 l5 (-1) F24 B24) else f_M_cutPitch_100 K F24 B24) else none else none)
set_option maxHeartbeats 4000000 in
set_option maxRecDepth 100000 in
theorem b_M_cutPitch_88 {D : va_G} {ca : Nat → ClassId} {ad : Nat → Int → Nat → Nat} {L : List Nat} {aS vS : Nat → Nat} {A : Nat → Prop} {p : Program} {l : Launch} {e : Env} {s : State} {m : MethodId} {args : Array Value} {below : List Frame} {meth : Method} {c : Code} {K : Nat} {r : Int} {F9 : zF} {B9 : zB} (X : zX D ca L aS vS A p s m args meth c prog_15_method_27_code 8 (Option.none : Option Jvm.ClassFile.FieldType) "StaveHouseModel") {rec58 : Int → Int → Int → Int → Int → Int → zF → zB → zO} (hrec58 : ∀ {l6 : Int} {l5 : Int} {l4 : Int} {l3 : Int} {l1 : Int} {l2 : Int} {F : zF} {B : zB} {H : Heap} {locs : List Loc} {ls : Array Slot}, rec58 l6 l5 l4 l3 l1 l2 F B = some (r, F9, B9) → zH D ca ad lnM nM L F B A H → va_S A s.heap H locs → lv_has ls 8 [(6, .int (iI l6)), (5, .int (iI l5)), (4, .int (iI l4)), (3, .int (iI l3)), (0, .ref (ad 14 0 0)), (1, .int (iI l1)), (2, .int (iI l2))] → W p l e ({ frames := 2, cells := 0, slots := 0, locals := 43 } : Room) s m args below meth c H locs 0 0 (MQ below (Q_M_cutPitch D ca ad L r F9 B9 A) args s 0 0 A) (F0 m 58 ls [])) {l7 : Int} {l6 : Int} {l5 : Int} {l4 : Int} {l3 : Int} {l1 : Int} {l2 : Int} {F : zF} {B : zB} {H : Heap} {locs : List Loc} {ls : Array Slot} (hf : f_M_cutPitch_88 rec58 K l7 l6 l5 l4 l3 l1 l2 F B = some (r, F9, B9)) (hZ : zH D ca ad lnM nM L F B A H) (hS : va_S A s.heap H locs) (hl : lv_has ls 8 [(7, .int (iI l7)), (6, .int (iI l6)), (5, .int (iI l5)), (4, .int (iI l4)), (3, .int (iI l3)), (0, .ref (ad 14 0 0)), (1, .int (iI l1)), (2, .int (iI l2))]) : W p l e ({ frames := 2, cells := 0, slots := 0, locals := 43 } : Room) s m args below meth c H locs 0 0 (MQ below (Q_M_cutPitch D ca ad L r F9 B9 A) args s 0 0 A) (F0 m 88 ls []) := by
  obtain ⟨hx, hb, hr, hml, hown, hts, hlk, hK, hA, hL, hX⟩ := id X
  replace hf : (zbind (f_M_byteAt K (l1 + 1) F B) (fun r24 F24 B24 => if r32 l7 then if r32 r24 then (if l7 = r24 then (if l7 = 35 then f_M_cutPitch_115 rec58 K l6 l4 l3 l1 l2 l5 1 F24 B24 else f_M_cutPitch_115 rec58 K l6 l4 l3 l1 l2 l5 (-1) F24 B24) else f_M_cutPitch_100 K F24 B24) else none else none)) = some (r, F9, B9) := hf
  refine lv_iload hx hb (D_21 W_prog_15_method_27_code_64 24 rfl rfl) (lv_at hl 0 rfl) ?_
  refine lv_aload_n hx hb (D_42 W_prog_15_method_27_code_64 26 rfl rfl) rfl (lv_at hl 5 rfl) ?_
  refine lv_iload_n hx hb (D_27 W_prog_15_method_27_code_64 27 rfl rfl) rfl (lv_at hl 6 rfl) ?_
  refine lv_iconst (v := iI 1) hx hb (D_4 W_prog_15_method_27_code_64 28 rfl rfl) rfl ?_
  refine zadd hx hb (D_96 W_prog_15_method_27_code_64 29 rfl rfl) ?_
  obtain ⟨r24, F24, B24, hc24, hf⟩ := gbind hf
  refine va_calli (va_runV (As := [.int (iI (l1 + 1))]) (rest := [.int (iI l7)]) ⟨hx, hb, hml, hown, hts⟩ (c_M_byteAt (l := l) hc24) (cwV 1 hts (gdV k_13_23 k_13_25 ks_154 k_1_9 k_13_26) rfl rfl rfl (by decide +kernel) ⟨Nat.le_of_ble_eq_true rfl, Nat.le_of_ble_eq_true rfl⟩) (zPV X hZ hS (ci := 14) (by decide) (by decide) (r := (RX14, TX14, 107)) rfl [.int (iI (l1 + 1))]) rfl rfl hl.1 rfl (lv_room (Nat.le_of_ble_eq_true rfl)) (D_182 W_prog_15_method_27_code_64 30 rfl rfl rfl) ⟨Nat.le_of_ble_eq_true rfl, Nat.le_of_ble_eq_true rfl⟩) hS (fun q _ h => zAin X hS q h) (zAin X hS) (fun p24 u24 t24 H24 locs24 ht24 hv24 hw24 hB24 hz24 hk24 hS24 => ?_)
  have hZ24 := zBack X ht24 hB24
  subst hw24
  obtain ⟨g25, hf⟩ := gif hf
  obtain ⟨g26, hf⟩ := gif hf
  refine zeq (tgt := 101) hx hb g25 g26 (D_159 W_prog_15_method_27_code_96 1 rfl rfl rfl) (by decide) (fun h27 => ?_) (fun h27 => ?_)
  · replace hf := gpos hf h27
    refine lv_iload hx hb (D_21 W_prog_15_method_27_code_96 5 rfl rfl) (lv_at hl 2 rfl) ?_
    refine lv_iload hx hb (D_21 W_prog_15_method_27_code_96 7 rfl rfl) (lv_at hl 0 rfl) ?_
    refine lv_bipush (v := iI 35) hx hb (D_16 W_prog_15_method_27_code_96 9 rfl rfl rfl) (by decide) ?_
    refine zne (tgt := 114) hx hb g25 (by decide) (D_160 W_prog_15_method_27_code_96 11 rfl rfl rfl) (by decide) (fun h28 => ?_) (fun h28 => ?_)
    · replace hf := gneg hf h28
      refine lv_iconst (v := iI (-1)) hx hb (D_2 W_prog_15_method_27_code_96 18 rfl rfl) rfl ?_
      exact b_M_cutPitch_115 X hrec58 hf hZ24 hS24 (lv_sub hl [1, 3, 4, 5, 6, 7] rfl)
    · replace hf := gpos hf h28
      refine lv_iconst (v := iI 1) hx hb (D_4 W_prog_15_method_27_code_96 14 rfl rfl) rfl ?_
      refine lv_goto (tgt := 115) hx hb (D_167 W_prog_15_method_27_code_96 15 rfl rfl rfl) (by decide) ?_
      exact b_M_cutPitch_115 X hrec58 hf hZ24 hS24 (lv_sub hl [1, 3, 4, 5, 6, 7] rfl)
  · replace hf := gneg hf h27
    exact b_M_cutPitch_100 X hf hZ24 hS24 (lv_sub hl [] rfl)

def f_M_cutPitch_58 (K : Nat) : Nat → Int → Int → Int → Int → Int → Int → zF → zB → zO
  | 0, _, _, _, _, _, _, _, _ => none
  | n + 1, l6, l5, l4, l3, l1, l2, F, B => if r32 l6 then if r32 (l2 - 1) then (if (l2 - 1) ≤ l6 then if 0 ≤ (F 14 0 12) ∧ (F 14 0 12) < 3001 then zbind (f_M_mod K (l3 - 99) 7 F (zup4 B 14 0 7 (F 14 0 12) 2)) (fun r16 F16 B16 => if 0 ≤ (F16 14 0 12) ∧ (F16 14 0 12) < 3001 then some (0, F16, (zup4 (zup4 B16 14 0 9 (F 14 0 12) ((7 * l4) + r16)) 14 0 10 (F16 14 0 12) l5)) else none) else none else zbind (f_M_byteAt K l6 F B) (fun r20 F20 B20 => if r32 r20 then (if r20 = 35 then f_M_cutPitch_88 (f_M_cutPitch_58 K n) K r20 l6 l5 l4 l3 l1 l2 F20 B20 else (if r20 = 98 then f_M_cutPitch_88 (f_M_cutPitch_58 K n) K r20 l6 l5 l4 l3 l1 l2 F20 B20 else f_M_cutPitch_100 K F20 B20)) else none)) else none else none
set_option maxHeartbeats 4000000 in
set_option maxRecDepth 100000 in
theorem b_M_cutPitch_58 {D : va_G} {ca : Nat → ClassId} {ad : Nat → Int → Nat → Nat} {L : List Nat} {aS vS : Nat → Nat} {A : Nat → Prop} {p : Program} {l : Launch} {e : Env} {s : State} {m : MethodId} {args : Array Value} {below : List Frame} {meth : Method} {c : Code} {K : Nat} {r : Int} {F9 : zF} {B9 : zB} (X : zX D ca L aS vS A p s m args meth c prog_15_method_27_code 8 (Option.none : Option Jvm.ClassFile.FieldType) "StaveHouseModel") : ∀ {n : Nat} {l6 : Int} {l5 : Int} {l4 : Int} {l3 : Int} {l1 : Int} {l2 : Int} {F : zF} {B : zB} {H : Heap} {locs : List Loc} {ls : Array Slot}, f_M_cutPitch_58 K n l6 l5 l4 l3 l1 l2 F B = some (r, F9, B9) → zH D ca ad lnM nM L F B A H → va_S A s.heap H locs → lv_has ls 8 [(6, .int (iI l6)), (5, .int (iI l5)), (4, .int (iI l4)), (3, .int (iI l3)), (0, .ref (ad 14 0 0)), (1, .int (iI l1)), (2, .int (iI l2))] → W p l e ({ frames := 2, cells := 0, slots := 0, locals := 43 } : Room) s m args below meth c H locs 0 0 (MQ below (Q_M_cutPitch D ca ad L r F9 B9 A) args s 0 0 A) (F0 m 58 ls []) := by
  obtain ⟨hx, hb, hr, hml, hown, hts, hlk, hK, hA, hL, hX⟩ := id X
  intro n
  induction n with
  | zero =>
    intros
    rename_i hf _ _ _
    cases hf
  | succ n ih =>
    intro l6 l5 l4 l3 l1 l2 F B H locs ls hf hZ hS hl
    replace hf : (if r32 l6 then if r32 (l2 - 1) then (if (l2 - 1) ≤ l6 then if 0 ≤ (F 14 0 12) ∧ (F 14 0 12) < 3001 then zbind (f_M_mod K (l3 - 99) 7 F (zup4 B 14 0 7 (F 14 0 12) 2)) (fun r16 F16 B16 => if 0 ≤ (F16 14 0 12) ∧ (F16 14 0 12) < 3001 then some (0, F16, (zup4 (zup4 B16 14 0 9 (F 14 0 12) ((7 * l4) + r16)) 14 0 10 (F16 14 0 12) l5)) else none) else none else zbind (f_M_byteAt K l6 F B) (fun r20 F20 B20 => if r32 r20 then (if r20 = 35 then f_M_cutPitch_88 (f_M_cutPitch_58 K n) K r20 l6 l5 l4 l3 l1 l2 F20 B20 else (if r20 = 98 then f_M_cutPitch_88 (f_M_cutPitch_58 K n) K r20 l6 l5 l4 l3 l1 l2 F20 B20 else f_M_cutPitch_100 K F20 B20)) else none)) else none else none) = some (r, F9, B9) := hf
    refine lv_iload hx hb (D_21 W_prog_15_method_27_code_32 26 rfl rfl) (lv_at hl 0 rfl) ?_
    refine lv_iload_n hx hb (D_28 W_prog_15_method_27_code_32 28 rfl rfl) rfl (lv_at hl 6 rfl) ?_
    refine lv_iconst (v := iI 1) hx hb (D_4 W_prog_15_method_27_code_32 29 rfl rfl) rfl ?_
    refine zsub hx hb (D_100 W_prog_15_method_27_code_32 30 rfl rfl) ?_
    obtain ⟨g11, hf⟩ := gif hf
    obtain ⟨g12, hf⟩ := gif hf
    refine zge (tgt := 124) hx hb g11 g12 (D_162 W_prog_15_method_27_code_32 31 rfl rfl rfl) (by decide) (fun h13 => ?_) (fun h13 => ?_)
    · replace hf := gpos hf h13
      refine lv_aload_n hx hb (D_42 W_prog_15_method_27_code_96 28 rfl rfl) rfl (lv_at hl 4 rfl) ?_
      refine zget (ci := 14) (C := RX14) (T := TX14) (v := .ref (ad 14 0 (7 + 1))) (k := 7) hx hb hts inW_14 hown hK hZ (by decide) (by decide) rfl (by decide) k_11_5 rfl (D_180 W_prog_15_method_27_code_96 29 rfl rfl rfl) ?_
      refine lv_aload_n hx hb (D_42 W_prog_15_method_27_code_128 0 rfl rfl) rfl (lv_at hl 4 rfl) ?_
      refine zget (ci := 14) (C := RX14) (T := TX14) (v := .int (iI (F 14 0 12))) (k := 12) hx hb hts inW_14 hown hK hZ (by decide) (by decide) rfl (by decide) k_11_10 rfl (D_180 W_prog_15_method_27_code_128 1 rfl rfl rfl) ?_
      refine lv_iconst (v := iI 2) hx hb (D_5 W_prog_15_method_27_code_128 4 rfl rfl) rfl ?_
      obtain ⟨g14, hf⟩ := gif hf
      refine zast (ci := 14) (k := 7) hx hb hK rfl hZ hS (by decide) (by decide) rfl (Nat.le_of_ble_eq_true rfl) g14.1 g14.2 (D_79 W_prog_15_method_27_code_128 5 rfl rfl) (fun H15 locs15 hZ15 hS15 => ?_)
      refine lv_aload_n hx hb (D_42 W_prog_15_method_27_code_128 6 rfl rfl) rfl (lv_at hl 4 rfl) ?_
      refine zget (ci := 14) (C := RX14) (T := TX14) (v := .ref (ad 14 0 (9 + 1))) (k := 9) hx hb hts inW_14 hown hK hZ15 (by decide) (by decide) rfl (by decide) k_11_7 rfl (D_180 W_prog_15_method_27_code_128 7 rfl rfl rfl) ?_
      refine lv_aload_n hx hb (D_42 W_prog_15_method_27_code_128 10 rfl rfl) rfl (lv_at hl 4 rfl) ?_
      refine zget (ci := 14) (C := RX14) (T := TX14) (v := .int (iI (F 14 0 12))) (k := 12) hx hb hts inW_14 hown hK hZ15 (by decide) (by decide) rfl (by decide) k_11_10 rfl (D_180 W_prog_15_method_27_code_128 11 rfl rfl rfl) ?_
      refine lv_bipush (v := iI 7) hx hb (D_16 W_prog_15_method_27_code_128 14 rfl rfl rfl) (by decide) ?_
      refine lv_iload hx hb (D_21 W_prog_15_method_27_code_128 16 rfl rfl) (lv_at hl 2 rfl) ?_
      refine zmul hx hb (D_104 W_prog_15_method_27_code_128 18 rfl rfl) ?_
      refine lv_iload_n hx hb (D_29 W_prog_15_method_27_code_128 19 rfl rfl) rfl (lv_at hl 3 rfl) ?_
      refine lv_bipush (v := iI 99) hx hb (D_16 W_prog_15_method_27_code_128 20 rfl rfl rfl) (by decide) ?_
      refine zsub hx hb (D_100 W_prog_15_method_27_code_128 22 rfl rfl) ?_
      refine lv_bipush (v := iI 7) hx hb (D_16 W_prog_15_method_27_code_128 23 rfl rfl rfl) (by decide) ?_
      obtain ⟨r16, F16, B16, hc16, hf⟩ := gbind hf
      refine va_calli (va_runS (As := [.int (iI (l3 - 99)), .int (iI 7)]) (rest := [.int (iI (7 * l4)), .int (iI (F 14 0 12)), .ref (ad 14 0 (9 + 1))]) ⟨hx, hb, hml, hown, hts⟩ (c_M_mod (l := l) hc16) (va_cwS 2 hts (gdS k_12_164 k_12_165 k_1_9 k_12_166) rfl rfl rfl (by decide +kernel) ⟨Nat.le_of_ble_eq_true rfl, Nat.le_of_ble_eq_true rfl⟩) (zPS X hZ15 hS15 [.int (iI (l3 - 99)), .int (iI 7)]) rfl rfl hl.1 rfl (lv_room (Nat.le_of_ble_eq_true rfl)) (D_184 W_prog_15_method_27_code_128 25 rfl rfl rfl) ⟨Nat.le_of_ble_eq_true rfl, Nat.le_of_ble_eq_true rfl⟩) hS15 (fun q _ h => zAin X hS15 q h) (zAin X hS15) (fun p16 u16 t16 H16 locs16 ht16 hv16 hw16 hB16 hz16 hk16 hS16 => ?_)
      have hZ16 := zBack X ht16 hB16
      subst hw16
      refine zadd hx hb (D_96 W_prog_15_method_27_code_128 28 rfl rfl) ?_
      refine zast (ci := 14) (k := 9) hx hb hK rfl hZ16 hS16 (by decide) (by decide) rfl (Nat.le_of_ble_eq_true rfl) g14.1 g14.2 (D_79 W_prog_15_method_27_code_128 29 rfl rfl) (fun H17 locs17 hZ17 hS17 => ?_)
      refine lv_aload_n hx hb (D_42 W_prog_15_method_27_code_128 30 rfl rfl) rfl (lv_at hl 4 rfl) ?_
      refine zget (ci := 14) (C := RX14) (T := TX14) (v := .ref (ad 14 0 (10 + 1))) (k := 10) hx hb hts inW_14 hown hK hZ17 (by decide) (by decide) rfl (by decide) k_11_8 rfl (D_180 W_prog_15_method_27_code_128 31 rfl rfl rfl) ?_
      refine lv_aload_n hx hb (D_42 W_prog_15_method_27_code_160 2 rfl rfl) rfl (lv_at hl 4 rfl) ?_
      refine zget (ci := 14) (C := RX14) (T := TX14) (v := .int (iI (F16 14 0 12))) (k := 12) hx hb hts inW_14 hown hK hZ17 (by decide) (by decide) rfl (by decide) k_11_10 rfl (D_180 W_prog_15_method_27_code_160 3 rfl rfl rfl) ?_
      refine lv_iload hx hb (D_21 W_prog_15_method_27_code_160 6 rfl rfl) (lv_at hl 1 rfl) ?_
      obtain ⟨g18, hf⟩ := gif hf
      refine zast (ci := 14) (k := 10) hx hb hK rfl hZ17 hS17 (by decide) (by decide) rfl (Nat.le_of_ble_eq_true rfl) g18.1 g18.2 (D_79 W_prog_15_method_27_code_160 8 rfl rfl) (fun H19 locs19 hZ19 hS19 => ?_)
      cases hf
      exact W.vret hx hb hr (fun t ht hW => ⟨⟨(), rfl, trivial, by rw [ht]; exact hZ19, va_K.moved hW.alike hK⟩, hS19.F ht⟩) hS19.2.2 (D_177 W_prog_15_method_27_code_160 9 rfl rfl) hlk
    · replace hf := gneg hf h13
      refine lv_aload_n hx hb (D_42 W_prog_15_method_27_code_64 2 rfl rfl) rfl (lv_at hl 4 rfl) ?_
      refine lv_iload hx hb (D_21 W_prog_15_method_27_code_64 3 rfl rfl) (lv_at hl 0 rfl) ?_
      obtain ⟨r20, F20, B20, hc20, hf⟩ := gbind hf
      refine va_calli (va_runV (As := [.int (iI l6)]) (rest := []) ⟨hx, hb, hml, hown, hts⟩ (c_M_byteAt (l := l) hc20) (cwV 1 hts (gdV k_13_23 k_13_25 ks_154 k_1_9 k_13_26) rfl rfl rfl (by decide +kernel) ⟨Nat.le_of_ble_eq_true rfl, Nat.le_of_ble_eq_true rfl⟩) (zPV X hZ hS (ci := 14) (by decide) (by decide) (r := (RX14, TX14, 107)) rfl [.int (iI l6)]) rfl rfl hl.1 rfl (lv_room (Nat.le_of_ble_eq_true rfl)) (D_182 W_prog_15_method_27_code_64 5 rfl rfl rfl) ⟨Nat.le_of_ble_eq_true rfl, Nat.le_of_ble_eq_true rfl⟩) hS (fun q _ h => zAin X hS q h) (zAin X hS) (fun p20 u20 t20 H20 locs20 ht20 hv20 hw20 hB20 hz20 hk20 hS20 => ?_)
      have hZ20 := zBack X ht20 hB20
      subst hw20
      refine lv_istore (lv' := [(7, .int (iI r20)), (6, .int (iI l6)), (5, .int (iI l5)), (4, .int (iI l4)), (3, .int (iI l3)), (0, .ref (ad 14 0 0)), (1, .int (iI l1)), (2, .int (iI l2))]) hx hb (D_54 W_prog_15_method_27_code_64 8 rfl rfl) hl (by decide) rfl (fun ls hl => ?_)
      refine lv_iload hx hb (D_21 W_prog_15_method_27_code_64 10 rfl rfl) (lv_at hl 0 rfl) ?_
      refine lv_bipush (v := iI 35) hx hb (D_16 W_prog_15_method_27_code_64 12 rfl rfl rfl) (by decide) ?_
      obtain ⟨g21, hf⟩ := gif hf
      refine zeq (tgt := 88) hx hb g21 (by decide) (D_159 W_prog_15_method_27_code_64 14 rfl rfl rfl) (by decide) (fun h22 => ?_) (fun h22 => ?_)
      · replace hf := gpos hf h22
        exact b_M_cutPitch_88 X ih hf hZ20 hS20 (lv_sub hl [0, 1, 2, 3, 4, 5, 6, 7] rfl)
      · replace hf := gneg hf h22
        refine lv_iload hx hb (D_21 W_prog_15_method_27_code_64 17 rfl rfl) (lv_at hl 0 rfl) ?_
        refine lv_bipush (v := iI 98) hx hb (D_16 W_prog_15_method_27_code_64 19 rfl rfl rfl) (by decide) ?_
        refine zne (tgt := 100) hx hb g21 (by decide) (D_160 W_prog_15_method_27_code_64 21 rfl rfl rfl) (by decide) (fun h23 => ?_) (fun h23 => ?_)
        · replace hf := gneg hf h23
          exact b_M_cutPitch_100 X hf hZ20 hS20 (lv_sub hl [] rfl)
        · replace hf := gpos hf h23
          exact b_M_cutPitch_88 X ih hf hZ20 hS20 (lv_sub hl [0, 1, 2, 3, 4, 5, 6, 7] rfl)

def f_M_cutPitch_49 (K : Nat)  (F : zF) (B : zB) : zO := some (0, F, B)
set_option maxHeartbeats 4000000 in
set_option maxRecDepth 100000 in
theorem b_M_cutPitch_49 {D : va_G} {ca : Nat → ClassId} {ad : Nat → Int → Nat → Nat} {L : List Nat} {aS vS : Nat → Nat} {A : Nat → Prop} {p : Program} {l : Launch} {e : Env} {s : State} {m : MethodId} {args : Array Value} {below : List Frame} {meth : Method} {c : Code} {K : Nat} {r : Int} {F9 : zF} {B9 : zB} (X : zX D ca L aS vS A p s m args meth c prog_15_method_27_code 8 (Option.none : Option Jvm.ClassFile.FieldType) "StaveHouseModel")  {F : zF} {B : zB} {H : Heap} {locs : List Loc} {ls : Array Slot} (hf : f_M_cutPitch_49 K  F B = some (r, F9, B9)) (hZ : zH D ca ad lnM nM L F B A H) (hS : va_S A s.heap H locs) (hl : lv_has ls 8 []) : W p l e ({ frames := 2, cells := 0, slots := 0, locals := 43 } : Room) s m args below meth c H locs 0 0 (MQ below (Q_M_cutPitch D ca ad L r F9 B9 A) args s 0 0 A) (F0 m 49 ls []) := by
  obtain ⟨hx, hb, hr, hml, hown, hts, hlk, hK, hA, hL, hX⟩ := id X
  replace hf : (some (0, F, B)) = some (r, F9, B9) := hf
  cases hf
  exact W.vret hx hb hr (fun t ht hW => ⟨⟨(), rfl, trivial, by rw [ht]; exact hZ, va_K.moved hW.alike hK⟩, hS.F ht⟩) hS.2.2 (D_177 W_prog_15_method_27_code_32 17 rfl rfl) hlk

def f_M_cutPitch (K : Nat) (l1 : Int) (l2 : Int) (F : zF) (B : zB) : zO := zbind (f_M_byteAt K l1 F B) (fun r1 F1 B1 => zbind (f_M_byteAt K (l2 - 1) F1 B1) (fun r2 F2 B2 => if r32 r1 then (if r1 < 97 then f_M_cutPitch_49 K F2 B2 else (if 103 < r1 then f_M_cutPitch_49 K F2 B2 else if r32 (r2 - 48) then (if (r2 - 48) < 0 then f_M_cutPitch_49 K F2 B2 else (if 8 < (r2 - 48) then f_M_cutPitch_49 K F2 B2 else if r32 (l2 - l1) then (if (l2 - l1) ≤ 4 then f_M_cutPitch_58 K K (l1 + 1) 0 (r2 - 48) r1 l1 l2 F2 B2 else f_M_cutPitch_49 K F2 B2) else none)) else none)) else none))
set_option maxHeartbeats 4000000 in
set_option maxRecDepth 100000 in
theorem c_M_cutPitch {l : Launch} {D : va_G} {ca : Nat → ClassId} {ad : Nat → Int → Nat → Nat} {L : List Nat} {aS vS : Nat → Nat} {sz K : Nat}  {l1 : Int} {l2 : Int} {F F9 : zF} {B B9 : zB} {r : Int} (hf : f_M_cutPitch K l1 l2 F B = some (r, F9, B9)) : Met l ({ cls := "StaveHouseModel", name := "cutPitch", desc := "(II)V" } : Jvm.MethodName) (Cond.code ({ cls := "StaveHouseModel", name := "cutPitch", desc := "(II)V" } : Jvm.MethodName) prog_15_method_27_code 8 (Option.none : Option Jvm.ClassFile.FieldType) :: wAll) ({ frames := 2, cells := 0, slots := 0, locals := 43 } : Room) (va_Pc [.ref (ad 14 0 0), .int (iI l1), .int (iI l2)] (zPre D ca ad lnM nM L aS vS F B sz)) (Q_M_cutPitch D ca ad L r F9 B9 (zA L sz)) 0 0 (zA L sz) := by
  refine zMet (Qc := Q_M_cutPitch D ca ad L r F9 B9) (lv := [(0, .ref (ad 14 0 0)), (1, .int (iI l1)), (2, .int (iI l2))]) (by decide) (Nat.le_of_ble_eq_true rfl) rfl (fun A p e s m below meth c ls X hZ hS hl => ?_)
  obtain ⟨hx, hb, hr, hml, hown, hts, hlk, hK, hA, hL, hX⟩ := id X
  replace hf : (zbind (f_M_byteAt K l1 F B) (fun r1 F1 B1 => zbind (f_M_byteAt K (l2 - 1) F1 B1) (fun r2 F2 B2 => if r32 r1 then (if r1 < 97 then f_M_cutPitch_49 K F2 B2 else (if 103 < r1 then f_M_cutPitch_49 K F2 B2 else if r32 (r2 - 48) then (if (r2 - 48) < 0 then f_M_cutPitch_49 K F2 B2 else (if 8 < (r2 - 48) then f_M_cutPitch_49 K F2 B2 else if r32 (l2 - l1) then (if (l2 - l1) ≤ 4 then f_M_cutPitch_58 K K (l1 + 1) 0 (r2 - 48) r1 l1 l2 F2 B2 else f_M_cutPitch_49 K F2 B2) else none)) else none)) else none))) = some (r, F9, B9) := hf
  refine lv_aload_n hx hb (D_42 W_prog_15_method_27_code_0 0 rfl rfl) rfl (lv_at hl 0 rfl) ?_
  refine lv_iload_n hx hb (D_27 W_prog_15_method_27_code_0 1 rfl rfl) rfl (lv_at hl 1 rfl) ?_
  obtain ⟨r1, F1, B1, hc1, hf⟩ := gbind hf
  refine va_calli (va_runV (As := [.int (iI l1)]) (rest := []) ⟨hx, hb, hml, hown, hts⟩ (c_M_byteAt (l := l) hc1) (cwV 1 hts (gdV k_13_23 k_13_25 ks_154 k_1_9 k_13_26) rfl rfl rfl (by decide +kernel) ⟨Nat.le_of_ble_eq_true rfl, Nat.le_of_ble_eq_true rfl⟩) (zPV X hZ hS (ci := 14) (by decide) (by decide) (r := (RX14, TX14, 107)) rfl [.int (iI l1)]) rfl rfl hl.1 rfl (lv_room (Nat.le_of_ble_eq_true rfl)) (D_182 W_prog_15_method_27_code_0 2 rfl rfl rfl) ⟨Nat.le_of_ble_eq_true rfl, Nat.le_of_ble_eq_true rfl⟩) hS (fun q _ h => zAin X hS q h) (zAin X hS) (fun p1 u1 t1 H1 locs1 ht1 hv1 hw1 hB1 hz1 hk1 hS1 => ?_)
  have hZ1 := zBack X ht1 hB1
  subst hw1
  refine lv_istore_n (lv' := [(3, .int (iI r1)), (0, .ref (ad 14 0 0)), (1, .int (iI l1)), (2, .int (iI l2))]) hx hb (D_62 W_prog_15_method_27_code_0 5 rfl rfl) rfl hl (by decide) rfl (fun ls hl => ?_)
  refine lv_aload_n hx hb (D_42 W_prog_15_method_27_code_0 6 rfl rfl) rfl (lv_at hl 1 rfl) ?_
  refine lv_iload_n hx hb (D_28 W_prog_15_method_27_code_0 7 rfl rfl) rfl (lv_at hl 3 rfl) ?_
  refine lv_iconst (v := iI 1) hx hb (D_4 W_prog_15_method_27_code_0 8 rfl rfl) rfl ?_
  refine zsub hx hb (D_100 W_prog_15_method_27_code_0 9 rfl rfl) ?_
  obtain ⟨r2, F2, B2, hc2, hf⟩ := gbind hf
  refine va_calli (va_runV (As := [.int (iI (l2 - 1))]) (rest := []) ⟨hx, hb, hml, hown, hts⟩ (c_M_byteAt (l := l) hc2) (cwV 1 hts (gdV k_13_23 k_13_25 ks_154 k_1_9 k_13_26) rfl rfl rfl (by decide +kernel) ⟨Nat.le_of_ble_eq_true rfl, Nat.le_of_ble_eq_true rfl⟩) (zPV X hZ1 hS1 (ci := 14) (by decide) (by decide) (r := (RX14, TX14, 107)) rfl [.int (iI (l2 - 1))]) rfl rfl hl.1 rfl (lv_room (Nat.le_of_ble_eq_true rfl)) (D_182 W_prog_15_method_27_code_0 10 rfl rfl rfl) ⟨Nat.le_of_ble_eq_true rfl, Nat.le_of_ble_eq_true rfl⟩) hS1 (fun q _ h => zAin X hS1 q h) (zAin X hS1) (fun p2 u2 t2 H2 locs2 ht2 hv2 hw2 hB2 hz2 hk2 hS2 => ?_)
  have hZ2 := zBack X ht2 hB2
  subst hw2
  refine lv_bipush (v := iI 48) hx hb (D_16 W_prog_15_method_27_code_0 13 rfl rfl rfl) (by decide) ?_
  refine zsub hx hb (D_100 W_prog_15_method_27_code_0 15 rfl rfl) ?_
  refine lv_istore (lv' := [(4, .int (iI (r2 - 48))), (3, .int (iI r1)), (0, .ref (ad 14 0 0)), (1, .int (iI l1)), (2, .int (iI l2))]) hx hb (D_54 W_prog_15_method_27_code_0 16 rfl rfl) hl (by decide) rfl (fun ls hl => ?_)
  refine lv_iload_n hx hb (D_29 W_prog_15_method_27_code_0 18 rfl rfl) rfl (lv_at hl 1 rfl) ?_
  refine lv_bipush (v := iI 97) hx hb (D_16 W_prog_15_method_27_code_0 19 rfl rfl rfl) (by decide) ?_
  obtain ⟨g3, hf⟩ := gif hf
  refine zlt (tgt := 49) hx hb g3 (by decide) (D_161 W_prog_15_method_27_code_0 21 rfl rfl rfl) (by decide) (fun h4 => ?_) (fun h4 => ?_)
  · replace hf := gpos hf h4
    exact b_M_cutPitch_49 X hf hZ2 hS2 (lv_sub hl [] rfl)
  · replace hf := gneg hf h4
    refine lv_iload_n hx hb (D_29 W_prog_15_method_27_code_0 24 rfl rfl) rfl (lv_at hl 1 rfl) ?_
    refine lv_bipush (v := iI 103) hx hb (D_16 W_prog_15_method_27_code_0 25 rfl rfl rfl) (by decide) ?_
    refine zgt (tgt := 49) hx hb g3 (by decide) (D_163 W_prog_15_method_27_code_0 27 rfl rfl rfl) (by decide) (fun h5 => ?_) (fun h5 => ?_)
    · replace hf := gpos hf h5
      exact b_M_cutPitch_49 X hf hZ2 hS2 (lv_sub hl [] rfl)
    · replace hf := gneg hf h5
      refine lv_iload hx hb (D_21 W_prog_15_method_27_code_0 30 rfl rfl) (lv_at hl 0 rfl) ?_
      obtain ⟨g6, hf⟩ := gif hf
      refine z0lt (tgt := 49) hx hb g6 (D_155 W_prog_15_method_27_code_32 0 rfl rfl rfl) (by decide) (fun h7 => ?_) (fun h7 => ?_)
      · replace hf := gpos hf h7
        exact b_M_cutPitch_49 X hf hZ2 hS2 (lv_sub hl [] rfl)
      · replace hf := gneg hf h7
        refine lv_iload hx hb (D_21 W_prog_15_method_27_code_32 3 rfl rfl) (lv_at hl 0 rfl) ?_
        refine lv_bipush (v := iI 8) hx hb (D_16 W_prog_15_method_27_code_32 5 rfl rfl rfl) (by decide) ?_
        refine zgt (tgt := 49) hx hb g6 (by decide) (D_163 W_prog_15_method_27_code_32 7 rfl rfl rfl) (by decide) (fun h8 => ?_) (fun h8 => ?_)
        · replace hf := gpos hf h8
          exact b_M_cutPitch_49 X hf hZ2 hS2 (lv_sub hl [] rfl)
        · replace hf := gneg hf h8
          refine lv_iload_n hx hb (D_28 W_prog_15_method_27_code_32 10 rfl rfl) rfl (lv_at hl 4 rfl) ?_
          refine lv_iload_n hx hb (D_27 W_prog_15_method_27_code_32 11 rfl rfl) rfl (lv_at hl 3 rfl) ?_
          refine zsub hx hb (D_100 W_prog_15_method_27_code_32 12 rfl rfl) ?_
          refine lv_iconst (v := iI 4) hx hb (D_7 W_prog_15_method_27_code_32 13 rfl rfl) rfl ?_
          obtain ⟨g9, hf⟩ := gif hf
          refine zle (tgt := 50) hx hb g9 (by decide) (D_164 W_prog_15_method_27_code_32 14 rfl rfl rfl) (by decide) (fun h10 => ?_) (fun h10 => ?_)
          · replace hf := gpos hf h10
            refine lv_iconst (v := iI 0) hx hb (D_3 W_prog_15_method_27_code_32 18 rfl rfl) rfl ?_
            refine lv_istore (lv' := [(5, .int (iI 0)), (4, .int (iI (r2 - 48))), (3, .int (iI r1)), (0, .ref (ad 14 0 0)), (1, .int (iI l1)), (2, .int (iI l2))]) hx hb (D_54 W_prog_15_method_27_code_32 19 rfl rfl) hl (by decide) rfl (fun ls hl => ?_)
            refine lv_iload_n hx hb (D_27 W_prog_15_method_27_code_32 21 rfl rfl) rfl (lv_at hl 4 rfl) ?_
            refine lv_iconst (v := iI 1) hx hb (D_4 W_prog_15_method_27_code_32 22 rfl rfl) rfl ?_
            refine zadd hx hb (D_96 W_prog_15_method_27_code_32 23 rfl rfl) ?_
            refine lv_istore (lv' := [(6, .int (iI (l1 + 1))), (5, .int (iI 0)), (4, .int (iI (r2 - 48))), (3, .int (iI r1)), (0, .ref (ad 14 0 0)), (1, .int (iI l1)), (2, .int (iI l2))]) hx hb (D_54 W_prog_15_method_27_code_32 24 rfl rfl) hl (by decide) rfl (fun ls hl => ?_)
            exact b_M_cutPitch_58 X hf hZ2 hS2 (lv_sub hl [0, 1, 2, 3, 4, 5, 6] rfl)
          · replace hf := gneg hf h10
            exact b_M_cutPitch_49 X hf hZ2 hS2 (lv_sub hl [] rfl)

