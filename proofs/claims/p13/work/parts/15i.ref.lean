theorem k_14_71 : (Jvm.Cond.methodLink "StaveHouseModel" (1291 : Nat) ({ cls := "StaveHouseModel", name := "isShape", desc := "(LStaveHouseModel$Piece;IILStaveHouseModel$Piece;II)Z" } : Jvm.MethodName)) ∈ wAll := wA_14 (j := 71) rfl rfl
theorem k_14_73 : (Jvm.Cond.instanceMethod ({ cls := "StaveHouseModel", name := "isShape", desc := "(LStaveHouseModel$Piece;IILStaveHouseModel$Piece;II)Z" } : Jvm.MethodName)) ∈ wAll := wA_14 (j := 73) rfl rfl
theorem ks_194 : (Jvm.Cond.selects "StaveHouseModel" ({ cls := "StaveHouseModel", name := "isShape", desc := "(LStaveHouseModel$Piece;IILStaveHouseModel$Piece;II)Z" } : Jvm.MethodName) ({ cls := "StaveHouseModel", name := "isShape", desc := "(LStaveHouseModel$Piece;IILStaveHouseModel$Piece;II)Z" } : Jvm.MethodName)) ∈ wAll := wA_s (j := 194) rfl rfl
theorem k_14_74 : (Jvm.Cond.code ({ cls := "StaveHouseModel", name := "isShape", desc := "(LStaveHouseModel$Piece;IILStaveHouseModel$Piece;II)Z" } : Jvm.MethodName) prog_15_method_200_code (17 : Nat) (Option.some Jvm.ClassFile.FieldType.boolean)) ∈ wAll := wA_14 (j := 74) rfl rfl
theorem k_14_87 : (Jvm.Cond.methodLink "StaveHouseModel" (340 : Nat) ({ cls := "StaveHouseModel", name := "isRun", desc := "(I)Z" } : Jvm.MethodName)) ∈ wAll := wA_14 (j := 87) rfl rfl
theorem k_14_88 : (Jvm.Cond.static ({ cls := "StaveHouseModel", name := "isRun", desc := "(I)Z" } : Jvm.MethodName)) ∈ wAll := wA_14 (j := 88) rfl rfl
theorem k_14_89 : (Jvm.Cond.code ({ cls := "StaveHouseModel", name := "isRun", desc := "(I)Z" } : Jvm.MethodName) prog_15_method_22_code (1 : Nat) (Option.some Jvm.ClassFile.FieldType.boolean)) ∈ wAll := wA_14 (j := 89) rfl rfl
theorem k_14_100 : (Jvm.Cond.methodLink "StaveHouseModel" (352 : Nat) ({ cls := "StaveHouseModel", name := "cutPitch", desc := "(II)V" } : Jvm.MethodName)) ∈ wAll := wA_14 (j := 100) rfl rfl
theorem k_14_102 : (Jvm.Cond.instanceMethod ({ cls := "StaveHouseModel", name := "cutPitch", desc := "(II)V" } : Jvm.MethodName)) ∈ wAll := wA_14 (j := 102) rfl rfl
theorem ks_198 : (Jvm.Cond.selects "StaveHouseModel" ({ cls := "StaveHouseModel", name := "cutPitch", desc := "(II)V" } : Jvm.MethodName) ({ cls := "StaveHouseModel", name := "cutPitch", desc := "(II)V" } : Jvm.MethodName)) ∈ wAll := wA_s (j := 198) rfl rfl
theorem k_14_103 : (Jvm.Cond.code ({ cls := "StaveHouseModel", name := "cutPitch", desc := "(II)V" } : Jvm.MethodName) prog_15_method_27_code (8 : Nat) (Option.none : Option Jvm.ClassFile.FieldType)) ∈ wAll := wA_14 (j := 103) rfl rfl
theorem k_14_128 : (Jvm.Cond.methodLink "StaveHouseModel" (368 : Nat) ({ cls := "StaveHouseModel", name := "fail", desc := "(I)V" } : Jvm.MethodName)) ∈ wAll := wA_14 (j := 128) rfl rfl
theorem k_14_130 : (Jvm.Cond.instanceMethod ({ cls := "StaveHouseModel", name := "fail", desc := "(I)V" } : Jvm.MethodName)) ∈ wAll := wA_14 (j := 130) rfl rfl
theorem ks_204 : (Jvm.Cond.selects "StaveHouseModel" ({ cls := "StaveHouseModel", name := "fail", desc := "(I)V" } : Jvm.MethodName) ({ cls := "StaveHouseModel", name := "fail", desc := "(I)V" } : Jvm.MethodName)) ∈ wAll := wA_s (j := 204) rfl rfl
theorem k_14_131 : (Jvm.Cond.code ({ cls := "StaveHouseModel", name := "fail", desc := "(I)V" } : Jvm.MethodName) prog_15_method_30_code (2 : Nat) (Option.none : Option Jvm.ClassFile.FieldType)) ∈ wAll := wA_14 (j := 131) rfl rfl
theorem k_14_124 : (Jvm.Cond.methodLink "StaveHouseModel" (383 : Nat) ({ cls := "StaveHouseModel", name := "wrong", desc := "()V" } : Jvm.MethodName)) ∈ wAll := wA_14 (j := 124) rfl rfl
theorem k_14_126 : (Jvm.Cond.instanceMethod ({ cls := "StaveHouseModel", name := "wrong", desc := "()V" } : Jvm.MethodName)) ∈ wAll := wA_14 (j := 126) rfl rfl
theorem ks_203 : (Jvm.Cond.selects "StaveHouseModel" ({ cls := "StaveHouseModel", name := "wrong", desc := "()V" } : Jvm.MethodName) ({ cls := "StaveHouseModel", name := "wrong", desc := "()V" } : Jvm.MethodName)) ∈ wAll := wA_s (j := 203) rfl rfl
theorem k_14_127 : (Jvm.Cond.code ({ cls := "StaveHouseModel", name := "wrong", desc := "()V" } : Jvm.MethodName) prog_15_method_31_code (1 : Nat) (Option.none : Option Jvm.ClassFile.FieldType)) ∈ wAll := wA_14 (j := 127) rfl rfl
theorem k_11_17 : (Jvm.Cond.fieldLink "StaveHouseModel" (386 : Nat) "StaveHouseModel" "openMany" "I") ∈ wAll := wA_11 (j := 17) rfl rfl
theorem k_14_140 : (Jvm.Cond.methodLink "StaveHouseModel" (426 : Nat) ({ cls := "StaveHouseModel", name := "number", desc := "(IIZ)I" } : Jvm.MethodName)) ∈ wAll := wA_14 (j := 140) rfl rfl
theorem k_14_142 : (Jvm.Cond.instanceMethod ({ cls := "StaveHouseModel", name := "number", desc := "(IIZ)I" } : Jvm.MethodName)) ∈ wAll := wA_14 (j := 142) rfl rfl
theorem ks_207 : (Jvm.Cond.selects "StaveHouseModel" ({ cls := "StaveHouseModel", name := "number", desc := "(IIZ)I" } : Jvm.MethodName) ({ cls := "StaveHouseModel", name := "number", desc := "(IIZ)I" } : Jvm.MethodName)) ∈ wAll := wA_s (j := 207) rfl rfl
theorem k_14_143 : (Jvm.Cond.code ({ cls := "StaveHouseModel", name := "number", desc := "(IIZ)I" } : Jvm.MethodName) prog_15_method_37_code (5 : Nat) (Option.some Jvm.ClassFile.FieldType.int)) ∈ wAll := wA_14 (j := 143) rfl rfl
theorem k_11_18 : (Jvm.Cond.fieldLink "StaveHouseModel" (436 : Nat) "StaveHouseModel" "nearNumber" "I") ∈ wAll := wA_11 (j := 18) rfl rfl
theorem k_11_19 : (Jvm.Cond.fieldLink "StaveHouseModel" (439 : Nat) "StaveHouseModel" "nearPoints" "I") ∈ wAll := wA_11 (j := 19) rfl rfl
theorem k_14_179 : (Jvm.Cond.methodLink "StaveHouseModel" (479 : Nat) ({ cls := "StaveHouseModel", name := "markHere", desc := "()I" } : Jvm.MethodName)) ∈ wAll := wA_14 (j := 179) rfl rfl
theorem k_14_181 : (Jvm.Cond.instanceMethod ({ cls := "StaveHouseModel", name := "markHere", desc := "()I" } : Jvm.MethodName)) ∈ wAll := wA_14 (j := 181) rfl rfl
theorem ks_216 : (Jvm.Cond.selects "StaveHouseModel" ({ cls := "StaveHouseModel", name := "markHere", desc := "()I" } : Jvm.MethodName) ({ cls := "StaveHouseModel", name := "markHere", desc := "()I" } : Jvm.MethodName)) ∈ wAll := wA_s (j := 216) rfl rfl
theorem k_14_182 : (Jvm.Cond.code ({ cls := "StaveHouseModel", name := "markHere", desc := "()I" } : Jvm.MethodName) prog_15_method_51_code (1 : Nat) (Option.some Jvm.ClassFile.FieldType.int)) ∈ wAll := wA_14 (j := 182) rfl rfl
theorem k_14_144 : (Jvm.Cond.methodLink "StaveHouseModel" (389 : Nat) ({ cls := "StaveHouseModel", name := "need", desc := "(I)V" } : Jvm.MethodName)) ∈ wAll := wA_14 (j := 144) rfl rfl
theorem k_14_146 : (Jvm.Cond.instanceMethod ({ cls := "StaveHouseModel", name := "need", desc := "(I)V" } : Jvm.MethodName)) ∈ wAll := wA_14 (j := 146) rfl rfl
theorem ks_208 : (Jvm.Cond.selects "StaveHouseModel" ({ cls := "StaveHouseModel", name := "need", desc := "(I)V" } : Jvm.MethodName) ({ cls := "StaveHouseModel", name := "need", desc := "(I)V" } : Jvm.MethodName)) ∈ wAll := wA_s (j := 208) rfl rfl
theorem k_14_147 : (Jvm.Cond.code ({ cls := "StaveHouseModel", name := "need", desc := "(I)V" } : Jvm.MethodName) prog_15_method_36_code (2 : Nat) (Option.none : Option Jvm.ClassFile.FieldType)) ∈ wAll := wA_14 (j := 147) rfl rfl
theorem k_11_28 : (Jvm.Cond.fieldLink "StaveHouseModel" (159 : Nat) "StaveHouseModel" "closeOf" "[I") ∈ wAll := wA_11 (j := 28) rfl rfl
theorem k_11_56 : (Jvm.Cond.fieldLink "StaveHouseModel" (193 : Nat) "StaveHouseModel" "knows" "[I") ∈ wAll := wA_11 (j := 56) rfl rfl
theorem k_15_60 : (Jvm.Cond.methodLink "StaveHouseModel" (789 : Nat) ({ cls := "StaveHouseModel", name := "comesOn", desc := "(LStaveHouseModel$Piece;IIII)Z" } : Jvm.MethodName)) ∈ wAll := wA_15 (j := 60) rfl rfl
theorem k_15_62 : (Jvm.Cond.instanceMethod ({ cls := "StaveHouseModel", name := "comesOn", desc := "(LStaveHouseModel$Piece;IIII)Z" } : Jvm.MethodName)) ∈ wAll := wA_15 (j := 62) rfl rfl
theorem ks_243 : (Jvm.Cond.selects "StaveHouseModel" ({ cls := "StaveHouseModel", name := "comesOn", desc := "(LStaveHouseModel$Piece;IIII)Z" } : Jvm.MethodName) ({ cls := "StaveHouseModel", name := "comesOn", desc := "(LStaveHouseModel$Piece;IIII)Z" } : Jvm.MethodName)) ∈ wAll := wA_s (j := 243) rfl rfl
theorem k_15_63 : (Jvm.Cond.code ({ cls := "StaveHouseModel", name := "comesOn", desc := "(LStaveHouseModel$Piece;IIII)Z" } : Jvm.MethodName) prog_15_method_93_code (8 : Nat) (Option.some Jvm.ClassFile.FieldType.boolean)) ∈ wAll := wA_15 (j := 63) rfl rfl
theorem k_15_68 : (Jvm.Cond.methodLink "StaveHouseModel" (796 : Nat) ({ cls := "StaveHouseModel", name := "highest", desc := "(LStaveHouseModel$Piece;II)I" } : Jvm.MethodName)) ∈ wAll := wA_15 (j := 68) rfl rfl
theorem k_15_69 : (Jvm.Cond.static ({ cls := "StaveHouseModel", name := "highest", desc := "(LStaveHouseModel$Piece;II)I" } : Jvm.MethodName)) ∈ wAll := wA_15 (j := 69) rfl rfl
theorem k_15_70 : (Jvm.Cond.code ({ cls := "StaveHouseModel", name := "highest", desc := "(LStaveHouseModel$Piece;II)I" } : Jvm.MethodName) prog_15_method_97_code (3 : Nat) (Option.some Jvm.ClassFile.FieldType.int)) ∈ wAll := wA_15 (j := 70) rfl rfl
theorem k_15_74 : (Jvm.Cond.methodLink "StaveHouseModel" (799 : Nat) ({ cls := "StaveHouseModel", name := "lowest", desc := "(LStaveHouseModel$Piece;II)I" } : Jvm.MethodName)) ∈ wAll := wA_15 (j := 74) rfl rfl
theorem k_15_75 : (Jvm.Cond.static ({ cls := "StaveHouseModel", name := "lowest", desc := "(LStaveHouseModel$Piece;II)I" } : Jvm.MethodName)) ∈ wAll := wA_15 (j := 75) rfl rfl
theorem k_15_76 : (Jvm.Cond.code ({ cls := "StaveHouseModel", name := "lowest", desc := "(LStaveHouseModel$Piece;II)I" } : Jvm.MethodName) prog_15_method_96_code (3 : Nat) (Option.some Jvm.ClassFile.FieldType.int)) ∈ wAll := wA_15 (j := 76) rfl rfl
theorem k_15_81 : (Jvm.Cond.methodLink "StaveHouseModel" (805 : Nat) ({ cls := "StaveHouseModel", name := "isTogether", desc := "(LStaveHouseModel$Piece;III)Z" } : Jvm.MethodName)) ∈ wAll := wA_15 (j := 81) rfl rfl
theorem k_15_83 : (Jvm.Cond.instanceMethod ({ cls := "StaveHouseModel", name := "isTogether", desc := "(LStaveHouseModel$Piece;III)Z" } : Jvm.MethodName)) ∈ wAll := wA_15 (j := 83) rfl rfl
theorem ks_246 : (Jvm.Cond.selects "StaveHouseModel" ({ cls := "StaveHouseModel", name := "isTogether", desc := "(LStaveHouseModel$Piece;III)Z" } : Jvm.MethodName) ({ cls := "StaveHouseModel", name := "isTogether", desc := "(LStaveHouseModel$Piece;III)Z" } : Jvm.MethodName)) ∈ wAll := wA_s (j := 246) rfl rfl
theorem k_15_84 : (Jvm.Cond.code ({ cls := "StaveHouseModel", name := "isTogether", desc := "(LStaveHouseModel$Piece;III)Z" } : Jvm.MethodName) prog_15_method_100_code (7 : Nat) (Option.some Jvm.ClassFile.FieldType.boolean)) ∈ wAll := wA_15 (j := 84) rfl rfl
theorem W_prog_15_method_199_code_0 : chW prog_15_method_199_code 0 [42, 27, 182, 3, 83, 58, 9, 42, 21, 5, 182, 3, 83, 58, 10, 25, 9, 28, 184, 3, 111, 153, 0, 43, 25, 10, 21, 6, 184, 3, 111, 153, 0, 33, 21, 4] := chW_of (by decide +kernel)
theorem W_prog_15_method_199_code_32 : chW prog_15_method_199_code 32 [0, 33, 21, 4, 5, 161, 0, 27, 21, 4, 16, 20, 163, 0, 20, 21, 7, 155, 0, 15, 21, 7, 16, 7, 163, 0, 8, 21, 8, 156, 0, 5, 2, 172, 29, 155] := chW_of (by decide +kernel)
theorem W_prog_15_method_199_code_64 : chW prog_15_method_199_code 64 [2, 172, 29, 155, 0, 17, 29, 25, 9, 180, 2, 3, 28, 46, 21, 4, 100, 164, 0, 5, 2, 172, 3, 54, 11, 3, 54, 12, 21, 12, 21, 4, 96, 25, 10, 180] := chW_of (by decide +kernel)
theorem W_prog_15_method_199_code_96 : chW prog_15_method_199_code 96 [96, 25, 10, 180, 2, 3, 21, 6, 46, 163, 0, 56, 42, 25, 9, 17, 3, 232, 28, 104, 29, 96, 21, 4, 25, 10, 17, 3, 232, 21, 6, 104, 21, 12, 96, 21] := chW_of (by decide +kernel)
theorem W_prog_15_method_199_code_160 : chW prog_15_method_199_code 160 [190, 2, 172] := chW_of (by decide +kernel)
theorem W_prog_15_method_199_code_128 : chW prog_15_method_199_code 128 [21, 12, 96, 21, 7, 182, 5, 11, 154, 0, 6, 167, 0, 16, 21, 11, 21, 8, 160, 0, 6, 21, 12, 172, 132, 11, 1, 132, 12, 1, 167, 255, 190, 2, 172] := chW_of (by decide +kernel)
theorem d_15_199_152 : decode prog_15_method_199_code 152 = .ok (.iinc 11 1, 3) := D_132 W_prog_15_method_199_code_128 24 rfl rfl rfl
theorem d_15_199_155 : decode prog_15_method_199_code 155 = .ok (.iinc 12 1, 3) := D_132 W_prog_15_method_199_code_128 27 rfl rfl rfl
theorem W_prog_15_method_26_code_0 : chW prog_15_method_26_code 0 [27, 61, 3, 62, 3, 54, 4, 9, 55, 5, 28, 42, 180, 1, 40, 162, 0, 62, 42, 28, 182, 1, 80, 184, 1, 84, 153, 0, 51, 42, 28, 182, 1, 80, 184, 1] := chW_of (by decide +kernel)
theorem W_prog_15_method_26_code_32 : chW prog_15_method_26_code 32 [1, 80, 184, 1, 60, 153, 0, 6, 132, 3, 1, 42, 28, 182, 1, 80, 184, 1, 64, 153, 0, 6, 132, 4, 1, 22, 5, 16, 8, 121, 42, 28, 182, 1, 80, 133] := chW_of (by decide +kernel)
theorem d_15_26_40 : decode prog_15_method_26_code 40 = .ok (.iinc 3 1, 3) := D_132 W_prog_15_method_26_code_32 8 rfl rfl rfl
theorem d_15_26_54 : decode prog_15_method_26_code 54 = .ok (.iinc 4 1, 3) := D_132 W_prog_15_method_26_code_32 22 rfl rfl rfl
theorem W_prog_15_method_26_code_64 : chW prog_15_method_26_code 64 [182, 1, 80, 133, 129, 55, 5, 132, 2, 1, 167, 255, 192, 42, 180, 0, 48, 42, 180, 1, 77, 4, 79, 21, 4, 28, 27, 100, 160, 0, 78, 21, 4, 7, 163, 0] := chW_of (by decide +kernel)
theorem d_15_26_71 : decode prog_15_method_26_code 71 = .ok (.iinc 2 1, 3) := D_132 W_prog_15_method_26_code_64 7 rfl rfl rfl
theorem W_prog_15_method_26_code_96 : chW prog_15_method_26_code 96 [4, 7, 163, 0, 72, 42, 180, 0, 48, 42, 180, 1, 77, 6, 79, 42, 180, 0, 55, 42, 180, 1, 77, 3, 79, 27, 54, 7, 21, 7, 28, 162, 0, 40, 42, 180] := chW_of (by decide +kernel)
theorem W_prog_15_method_26_code_160 : chW prog_15_method_26_code 160 [79, 132, 7, 1, 167, 255, 216, 167, 0, 46, 29, 28, 27, 100, 160, 0, 33, 29, 16, 8, 163, 0, 27, 42, 180, 0, 48, 42, 180, 1, 77, 7, 79, 42, 180, 0] := chW_of (by decide +kernel)
theorem W_prog_15_method_26_code_128 : chW prog_15_method_26_code 128 [0, 40, 42, 180, 0, 55, 42, 180, 1, 77, 16, 10, 42, 180, 0, 55, 42, 180, 1, 77, 46, 104, 42, 21, 7, 182, 1, 80, 96, 16, 48, 100, 79, 132, 7, 1] := chW_of (by decide +kernel)
theorem d_15_26_161 : decode prog_15_method_26_code 161 = .ok (.iinc 7 1, 3) := D_132 W_prog_15_method_26_code_160 1 rfl rfl rfl
theorem W_prog_15_method_26_code_192 : chW prog_15_method_26_code 192 [79, 42, 180, 0, 61, 42, 180, 1, 77, 22, 5, 80, 167, 0, 9, 42, 27, 28, 182, 1, 96, 28, 172] := chW_of (by decide +kernel)
theorem W_prog_15_method_31_code_0 : chW prog_15_method_31_code 0 [42, 42, 180, 0, 48, 42, 180, 1, 106, 46, 4, 160, 0, 7, 4, 167, 0, 4, 5, 182, 1, 112, 177] := chW_of (by decide +kernel)
theorem W_prog_15_method_37_code_0 : chW prog_15_method_37_code 0 [42, 182, 1, 120, 154, 0, 5, 3, 172, 42, 180, 0, 48, 42, 180, 1, 106, 46, 6, 159, 0, 9, 42, 182, 1, 127, 3, 172, 42, 180, 0, 55, 42, 180, 1, 106] := chW_of (by decide +kernel)
theorem W_prog_15_method_37_code_32 : chW prog_15_method_37_code 32 [42, 180, 1, 106, 46, 54, 4, 21, 4, 27, 161, 0, 23, 21, 4, 28, 163, 0, 17, 29, 153, 0, 21, 21, 4, 21, 4, 4, 100, 126, 153, 0, 11, 42, 8, 182] := chW_of (by decide +kernel)
theorem W_prog_15_method_37_code_64 : chW prog_15_method_37_code 64 [11, 42, 8, 182, 1, 112, 167, 0, 13, 42, 89, 180, 1, 106, 4, 96, 181, 1, 106, 21, 4, 172] := chW_of (by decide +kernel)
theorem W_prog_15_method_36_code_0 : chW prog_15_method_36_code 0 [42, 182, 1, 120, 154, 0, 4, 177, 42, 27, 182, 1, 124, 153, 0, 16, 42, 89, 180, 1, 106, 4, 96, 181, 1, 106, 167, 0, 7, 42, 182, 1, 127, 177] := chW_of (by decide +kernel)
theorem W_prog_15_method_36_code_32 : chW prog_15_method_36_code 32 [127, 177] := chW_of (by decide +kernel)
theorem W_prog_15_method_38_code_0 : chW prog_15_method_38_code 0 [42, 182, 1, 120, 154, 0, 4, 177, 42, 27, 182, 1, 124, 154, 0, 10, 42, 182, 1, 127, 167, 0, 40, 42, 180, 1, 130, 16, 8, 160, 0, 11, 42, 6, 182, 1] := chW_of (by decide +kernel)
theorem W_prog_15_method_38_code_32 : chW prog_15_method_38_code 32 [42, 6, 182, 1, 112, 167, 0, 23, 42, 89, 180, 1, 130, 4, 96, 181, 1, 130, 42, 89, 180, 1, 106, 4, 96, 181, 1, 106, 177] := chW_of (by decide +kernel)
theorem W_prog_15_method_50_code_0 : chW prog_15_method_50_code 0 [42, 182, 1, 120, 153, 0, 80, 42, 16, 58, 182, 1, 124, 153, 0, 71, 42, 89, 180, 1, 106, 4, 96, 181, 1, 106, 42, 4, 16, 32, 4, 182, 1, 170, 61, 3] := chW_of (by decide +kernel)
theorem W_prog_15_method_50_code_32 : chW prog_15_method_50_code 32 [1, 170, 61, 3, 62, 42, 182, 1, 120, 153, 0, 33, 29, 5, 162, 0, 28, 42, 16, 46, 182, 1, 124, 153, 0, 19, 132, 3, 1, 42, 89, 180, 1, 106, 4, 96] := chW_of (by decide +kernel)
theorem d_15_50_58 : decode prog_15_method_50_code 58 = .ok (.iinc 3 1, 3) := D_132 W_prog_15_method_50_code_32 26 rfl rfl rfl
theorem W_prog_15_method_50_code_64 : chW prog_15_method_50_code 64 [1, 106, 4, 96, 181, 1, 106, 167, 255, 222, 42, 28, 181, 1, 180, 42, 29, 181, 1, 183, 42, 180, 0, 165, 27, 42, 180, 1, 180, 79, 42, 180, 0, 168, 27, 42] := chW_of (by decide +kernel)
theorem W_prog_15_method_50_code_96 : chW prog_15_method_50_code 96 [0, 168, 27, 42, 180, 1, 183, 79, 177] := chW_of (by decide +kernel)
theorem W_prog_15_method_52_code_0 : chW prog_15_method_52_code 0 [42, 180, 0, 171, 27, 3, 79, 42, 182, 1, 120, 153, 0, 57, 42, 182, 1, 223, 158, 0, 50, 42, 180, 0, 171, 27, 46, 42, 182, 1, 223, 126, 158, 0, 10, 42] := chW_of (by decide +kernel)
theorem W_prog_15_method_52_code_32 : chW prog_15_method_52_code 32 [158, 0, 10, 42, 182, 1, 127, 167, 255, 224, 42, 180, 0, 171, 27, 92, 46, 42, 182, 1, 223, 128, 79, 42, 89, 180, 1, 106, 4, 96, 181, 1, 106, 167, 255, 198] := chW_of (by decide +kernel)
theorem W_prog_15_method_52_code_64 : chW prog_15_method_52_code 64 [106, 167, 255, 198, 177] := chW_of (by decide +kernel)
theorem W_prog_15_method_47_code_0 : chW prog_15_method_47_code 0 [42, 89, 180, 1, 106, 4, 96, 181, 1, 106, 3, 60, 42, 182, 1, 120, 153, 0, 45, 42, 180, 0, 48, 42, 180, 1, 106, 46, 5, 160, 0, 32, 27, 16, 6, 160] := chW_of (by decide +kernel)
theorem W_prog_15_method_47_code_32 : chW prog_15_method_47_code 32 [27, 16, 6, 160, 0, 10, 42, 182, 1, 127, 167, 255, 226, 132, 1, 1, 42, 89, 180, 1, 106, 4, 96, 181, 1, 106, 167, 255, 210, 42, 182, 1, 120, 153, 0, 12] := chW_of (by decide +kernel)
theorem d_15_47_45 : decode prog_15_method_47_code 45 = .ok (.iinc 1 1, 3) := D_132 W_prog_15_method_47_code_32 13 rfl rfl rfl
theorem W_prog_15_method_47_code_64 : chW prog_15_method_47_code 64 [120, 153, 0, 12, 27, 5, 162, 0, 7, 42, 182, 1, 127, 42, 16, 62, 182, 1, 133, 177] := chW_of (by decide +kernel)
theorem W_prog_15_method_39_code_0 : chW prog_15_method_39_code 0 [42, 182, 1, 120, 154, 0, 4, 177, 42, 180, 0, 159, 27, 42, 180, 1, 106, 79, 42, 28, 182, 1, 133, 42, 89, 180, 1, 130, 4, 100, 181, 1, 130, 177] := chW_of (by decide +kernel)
theorem W_prog_15_method_39_code_32 : chW prog_15_method_39_code 32 [130, 177] := chW_of (by decide +kernel)
theorem W_prog_15_method_94_code_0 : chW prog_15_method_94_code 0 [2, 62, 3, 54, 4, 21, 4, 43, 180, 2, 211, 28, 46, 162, 0, 199, 17, 3, 32, 28, 104, 21, 4, 96, 54, 5, 43, 180, 2, 237, 21, 5, 46, 29, 159, 0] := chW_of (by decide +kernel)
theorem W_prog_15_method_94_code_192 : chW prog_15_method_94_code 192 [180, 0, 193, 21, 8, 21, 9, 79, 132, 7, 1, 167, 255, 153, 132, 4, 1, 167, 255, 52, 177] := chW_of (by decide +kernel)
theorem W_prog_15_method_94_code_32 : chW prog_15_method_94_code 32 [46, 29, 159, 0, 46, 3, 54, 6, 21, 6, 16, 63, 162, 0, 28, 42, 180, 0, 193, 21, 6, 43, 180, 1, 54, 21, 6, 16, 7, 112, 184, 3, 16, 79, 132, 6] := chW_of (by decide +kernel)
theorem W_prog_15_method_94_code_64 : chW prog_15_method_94_code 64 [16, 79, 132, 6, 1, 167, 255, 227, 43, 180, 2, 237, 21, 5, 46, 62, 43, 180, 3, 19, 21, 5, 3, 79, 43, 28, 21, 4, 184, 3, 10, 54, 6, 3, 54, 7] := chW_of (by decide +kernel)
theorem d_15_94_66 : decode prog_15_method_94_code 66 = .ok (.iinc 6 1, 3) := D_132 W_prog_15_method_94_code_64 2 rfl rfl rfl
theorem W_prog_15_method_94_code_96 : chW prog_15_method_94_code 96 [6, 3, 54, 7, 21, 6, 155, 0, 104, 21, 7, 43, 180, 2, 86, 21, 6, 46, 162, 0, 92, 43, 180, 2, 103, 16, 6, 21, 6, 104, 21, 7, 96, 46, 54, 8] := chW_of (by decide +kernel)
theorem W_prog_15_method_94_code_128 : chW prog_15_method_94_code 128 [96, 46, 54, 8, 43, 180, 2, 106, 16, 6, 21, 6, 104, 21, 7, 96, 46, 54, 9, 42, 43, 28, 21, 4, 21, 8, 21, 9, 182, 3, 21, 154, 0, 41, 42, 180] := chW_of (by decide +kernel)
theorem W_prog_15_method_94_code_160 : chW prog_15_method_94_code 160 [0, 41, 42, 180, 0, 193, 21, 8, 46, 21, 9, 160, 0, 6, 167, 0, 26, 43, 180, 3, 19, 21, 5, 92, 46, 4, 21, 7, 120, 128, 79, 42, 180, 0, 193, 21] := chW_of (by decide +kernel)
theorem d_15_94_200 : decode prog_15_method_94_code 200 = .ok (.iinc 7 1, 3) := D_132 W_prog_15_method_94_code_192 8 rfl rfl rfl
theorem d_15_94_206 : decode prog_15_method_94_code 206 = .ok (.iinc 4 1, 3) := D_132 W_prog_15_method_94_code_192 14 rfl rfl rfl
theorem W_prog_15_method_98_code_0 : chW prog_15_method_98_code 0 [43, 28, 29, 184, 3, 10, 54, 4, 21, 4, 156, 0, 5, 3, 172, 43, 28, 21, 4, 184, 3, 28, 54, 5, 43, 28, 21, 4, 184, 3, 31, 54, 6, 21, 5, 16] := chW_of (by decide +kernel)
theorem W_prog_15_method_98_code_32 : chW prog_15_method_98_code 32 [6, 21, 5, 16, 8, 164, 0, 13, 21, 5, 16, 8, 100, 5, 108, 167, 0, 4, 3, 21, 6, 156, 0, 11, 21, 6, 116, 5, 108, 167, 0, 4, 3, 96, 172] := chW_of (by decide +kernel)
theorem W_prog_15_method_98_code_64 : chW prog_15_method_98_code 64 [3, 96, 172] := chW_of (by decide +kernel)
theorem W_prog_15_method_101_code_0 : chW prog_15_method_101_code 0 [3, 62, 3, 54, 4, 21, 4, 43, 180, 2, 211, 28, 46, 162, 1, 30, 21, 4, 4, 96, 54, 5, 21, 5, 43, 180, 2, 211, 28, 46, 162, 0, 24, 42, 43, 28] := chW_of (by decide +kernel)
theorem W_prog_15_method_101_code_288 : chW prog_15_method_101_code 288 [6, 132, 3, 1, 21, 5, 54, 4, 167, 254, 221, 177] := chW_of (by decide +kernel)
theorem W_prog_15_method_101_code_32 : chW prog_15_method_101_code 32 [24, 42, 43, 28, 21, 5, 4, 100, 21, 5, 182, 3, 37, 153, 0, 9, 132, 5, 1, 167, 255, 227, 3, 54, 6, 21, 4, 54, 7, 21, 7, 21, 5, 162, 0, 46] := chW_of (by decide +kernel)
theorem d_15_101_48 : decode prog_15_method_101_code 48 = .ok (.iinc 5 1, 3) := D_132 W_prog_15_method_101_code_32 16 rfl rfl rfl
theorem W_prog_15_method_101_code_64 : chW prog_15_method_101_code 64 [5, 162, 0, 46, 43, 28, 21, 7, 184, 3, 10, 54, 8, 21, 8, 155, 0, 26, 21, 6, 43, 28, 21, 8, 184, 3, 31, 43, 28, 21, 8, 184, 3, 28, 96, 16] := chW_of (by decide +kernel)
theorem W_prog_15_method_101_code_96 : chW prog_15_method_101_code 96 [3, 28, 96, 16, 8, 100, 96, 54, 6, 132, 7, 1, 167, 255, 209, 21, 5, 21, 4, 100, 4, 164, 0, 7, 4, 167, 0, 4, 3, 54, 7, 21, 4, 54, 8, 21] := chW_of (by decide +kernel)
theorem d_15_101_105 : decode prog_15_method_101_code 105 = .ok (.iinc 7 1, 3) := D_132 W_prog_15_method_101_code_96 9 rfl rfl rfl
theorem W_prog_15_method_101_code_128 : chW prog_15_method_101_code 128 [4, 54, 8, 21, 8, 21, 5, 162, 0, 149, 17, 3, 32, 28, 104, 21, 8, 96, 54, 9, 43, 180, 3, 41, 21, 9, 21, 7, 153, 0, 7, 29, 167, 0, 4, 2] := chW_of (by decide +kernel)
theorem W_prog_15_method_101_code_256 : chW prog_15_method_101_code 256 [21, 9, 21, 10, 154, 0, 7, 3, 167, 0, 13, 21, 6, 156, 0, 7, 4, 167, 0, 4, 5, 79, 132, 8, 1, 167, 255, 106, 21, 7, 153, 0, 6, 132, 3, 1] := chW_of (by decide +kernel)
theorem d_15_101_289 : decode prog_15_method_101_code 289 = .ok (.iinc 3 1, 3) := D_132 W_prog_15_method_101_code_288 1 rfl rfl rfl
theorem W_prog_15_method_101_code_160 : chW prog_15_method_101_code 160 [167, 0, 4, 2, 79, 43, 180, 3, 44, 21, 9, 21, 8, 4, 96, 21, 5, 162, 0, 46, 43, 180, 2, 246, 21, 9, 46, 43, 180, 2, 246, 21, 9, 4, 96, 46] := chW_of (by decide +kernel)
theorem W_prog_15_method_101_code_192 : chW prog_15_method_101_code 192 [9, 4, 96, 46, 162, 0, 13, 43, 180, 2, 246, 21, 9, 46, 167, 0, 12, 43, 180, 2, 246, 21, 9, 4, 96, 46, 5, 100, 167, 0, 4, 3, 79, 43, 28, 21] := chW_of (by decide +kernel)
theorem W_prog_15_method_101_code_224 : chW prog_15_method_101_code 224 [79, 43, 28, 21, 8, 184, 3, 10, 155, 0, 17, 43, 180, 2, 246, 21, 9, 46, 158, 0, 7, 4, 167, 0, 4, 3, 54, 10, 43, 180, 3, 47, 21, 9, 21, 10] := chW_of (by decide +kernel)
theorem d_15_101_278 : decode prog_15_method_101_code 278 = .ok (.iinc 8 1, 3) := D_132 W_prog_15_method_101_code_256 22 rfl rfl rfl
abbrev Q_M_shape (D : va_G) (ca : Nat → ClassId) (ad : Nat → Int → Nat → Nat) (L : List Nat) (r : Int) (F : zF) (B : zB) (A : Nat → Prop) : Array Value → State → Outcome → State → Prop := va_Qi (S := Unit) (fun p _ => p = iI r) (fun _ => zPo D ca ad lnM nM L F B A) A
def f_M_shape_155 (rec92 : Int → Int → Int → Int → Int → Int → Int → Int → Int → Int → zF → zB → zO) (K : Nat) (l11 : Int) (l12 : Int) (l10 : Int) (l9 : Int) (l2 : Int) (l3 : Int) (l4 : Int) (l6 : Int) (l7 : Int) (l8 : Int) (F : zF) (B : zB) : zO := rec92 (l12 + 1) l11 l10 l9 l2 l3 l4 l6 l7 l8 F B
set_option maxHeartbeats 4000000 in
set_option maxRecDepth 100000 in
theorem b_M_shape_155 {D : va_G} {ca : Nat → ClassId} {ad : Nat → Int → Nat → Nat} {L : List Nat} {aS vS : Nat → Nat} {A : Nat → Prop} {p : Program} {l : Launch} {e : Env} {s : State} {m : MethodId} {args : Array Value} {below : List Frame} {meth : Method} {c : Code} {K : Nat} {r : Int} {F9 : zF} {B9 : zB} (X : zX D ca L aS vS A p s m args meth c prog_15_method_199_code 13 (Option.some Jvm.ClassFile.FieldType.int) "StaveHouseModel") {rec92 : Int → Int → Int → Int → Int → Int → Int → Int → Int → Int → zF → zB → zO} (hrec92 : ∀ {l12 : Int} {l11 : Int} {l10 : Int} {l9 : Int} {l2 : Int} {l3 : Int} {l4 : Int} {l6 : Int} {l7 : Int} {l8 : Int} {F : zF} {B : zB} {H : Heap} {locs : List Loc} {ls : Array Slot}, rec92 l12 l11 l10 l9 l2 l3 l4 l6 l7 l8 F B = some (r, F9, B9) → zH D ca ad lnM nM L F B A H → va_S A s.heap H locs → lv_has ls 13 [(12, .int (iI l12)), (11, .int (iI l11)), (10, va_rf (zrf ad 13 l10)), (9, va_rf (zrf ad 13 l9)), (0, .ref (ad 14 0 0)), (2, .int (iI l2)), (3, .int (iI l3)), (4, .int (iI l4)), (6, .int (iI l6)), (7, .int (iI l7)), (8, .int (iI l8))] → W p l e ({ frames := 5, cells := 0, slots := 0, locals := 154 } : Room) s m args below meth c H locs 0 0 (MQ below (Q_M_shape D ca ad L r F9 B9 A) args s 0 0 A) (F0 m 92 ls [])) {l11 : Int} {l12 : Int} {l10 : Int} {l9 : Int} {l2 : Int} {l3 : Int} {l4 : Int} {l6 : Int} {l7 : Int} {l8 : Int} {F : zF} {B : zB} {H : Heap} {locs : List Loc} {ls : Array Slot} (hf : f_M_shape_155 rec92 K l11 l12 l10 l9 l2 l3 l4 l6 l7 l8 F B = some (r, F9, B9)) (hZ : zH D ca ad lnM nM L F B A H) (hS : va_S A s.heap H locs) (hl : lv_has ls 13 [(11, .int (iI l11)), (12, .int (iI l12)), (10, va_rf (zrf ad 13 l10)), (9, va_rf (zrf ad 13 l9)), (0, .ref (ad 14 0 0)), (2, .int (iI l2)), (3, .int (iI l3)), (4, .int (iI l4)), (6, .int (iI l6)), (7, .int (iI l7)), (8, .int (iI l8))]) : W p l e ({ frames := 5, cells := 0, slots := 0, locals := 154 } : Room) s m args below meth c H locs 0 0 (MQ below (Q_M_shape D ca ad L r F9 B9 A) args s 0 0 A) (F0 m 155 ls []) := by
  obtain ⟨hx, hb, hr, hml, hown, hts, hlk, hK, hA, hL, hX⟩ := id X
  replace hf : (rec92 (l12 + 1) l11 l10 l9 l2 l3 l4 l6 l7 l8 F B) = some (r, F9, B9) := hf
  refine lv_iinc (v := iI (l12 + 1)) (lv' := [(12, .int (iI (l12 + 1))), (11, .int (iI l11)), (10, va_rf (zrf ad 13 l10)), (9, va_rf (zrf ad 13 l9)), (0, .ref (ad 14 0 0)), (2, .int (iI l2)), (3, .int (iI l3)), (4, .int (iI l4)), (6, .int (iI l6)), (7, .int (iI l7)), (8, .int (iI l8))]) hx hb d_15_199_155 hl (k := 1) rfl (iI_add _ 1) (by decide) rfl (fun ls hl => ?_)
  refine lv_goto (tgt := 92) hx hb (D_167 W_prog_15_method_199_code_128 30 rfl rfl rfl) (by decide) ?_
  exact hrec92 hf hZ hS (lv_sub hl [0, 1, 2, 3, 4, 5, 6, 7, 8, 9, 10] rfl)

def f_M_shape_92 (K : Nat) : Nat → Int → Int → Int → Int → Int → Int → Int → Int → Int → Int → zF → zB → zO
  | 0, _, _, _, _, _, _, _, _, _, _, _, _ => none
  | n + 1, l12, l11, l10, l9, l2, l3, l4, l6, l7, l8, F, B => if 0 ≤ l10 ∧ l10 < 3 then if 0 ≤ l6 ∧ l6 < 4 then if r32 (l12 + l4) then if r32 (B 13 l10 12 l6) then (if (B 13 l10 12 l6) < (l12 + l4) then some ((-1), F, B) else if 0 ≤ l9 ∧ l9 < 3 then zbind (f_M_isShape K l9 ((1000 * l2) + l3) l4 l10 ((1000 * l6) + l12) l7 F B) (fun r29 F29 B29 => if r32 r29 then (if r29 = 0 then f_M_shape_155 (f_M_shape_92 K n) K l11 l12 l10 l9 l2 l3 l4 l6 l7 l8 F29 B29 else if r32 l11 then if r32 l8 then (if l11 = l8 then some (l12, F29, B29) else f_M_shape_155 (f_M_shape_92 K n) K (l11 + 1) l12 l10 l9 l2 l3 l4 l6 l7 l8 F29 B29) else none else none) else none) else none) else none else none else none else none
set_option maxHeartbeats 4000000 in
set_option maxRecDepth 100000 in
theorem b_M_shape_92 {D : va_G} {ca : Nat → ClassId} {ad : Nat → Int → Nat → Nat} {L : List Nat} {aS vS : Nat → Nat} {A : Nat → Prop} {p : Program} {l : Launch} {e : Env} {s : State} {m : MethodId} {args : Array Value} {below : List Frame} {meth : Method} {c : Code} {K : Nat} {r : Int} {F9 : zF} {B9 : zB} (X : zX D ca L aS vS A p s m args meth c prog_15_method_199_code 13 (Option.some Jvm.ClassFile.FieldType.int) "StaveHouseModel") : ∀ {n : Nat} {l12 : Int} {l11 : Int} {l10 : Int} {l9 : Int} {l2 : Int} {l3 : Int} {l4 : Int} {l6 : Int} {l7 : Int} {l8 : Int} {F : zF} {B : zB} {H : Heap} {locs : List Loc} {ls : Array Slot}, f_M_shape_92 K n l12 l11 l10 l9 l2 l3 l4 l6 l7 l8 F B = some (r, F9, B9) → zH D ca ad lnM nM L F B A H → va_S A s.heap H locs → lv_has ls 13 [(12, .int (iI l12)), (11, .int (iI l11)), (10, va_rf (zrf ad 13 l10)), (9, va_rf (zrf ad 13 l9)), (0, .ref (ad 14 0 0)), (2, .int (iI l2)), (3, .int (iI l3)), (4, .int (iI l4)), (6, .int (iI l6)), (7, .int (iI l7)), (8, .int (iI l8))] → W p l e ({ frames := 5, cells := 0, slots := 0, locals := 154 } : Room) s m args below meth c H locs 0 0 (MQ below (Q_M_shape D ca ad L r F9 B9 A) args s 0 0 A) (F0 m 92 ls []) := by
  obtain ⟨hx, hb, hr, hml, hown, hts, hlk, hK, hA, hL, hX⟩ := id X
  intro n
  induction n with
  | zero =>
    intros
    rename_i hf _ _ _
    cases hf
  | succ n ih =>
    intro l12 l11 l10 l9 l2 l3 l4 l6 l7 l8 F B H locs ls hf hZ hS hl
    replace hf : (if 0 ≤ l10 ∧ l10 < 3 then if 0 ≤ l6 ∧ l6 < 4 then if r32 (l12 + l4) then if r32 (B 13 l10 12 l6) then (if (B 13 l10 12 l6) < (l12 + l4) then some ((-1), F, B) else if 0 ≤ l9 ∧ l9 < 3 then zbind (f_M_isShape K l9 ((1000 * l2) + l3) l4 l10 ((1000 * l6) + l12) l7 F B) (fun r29 F29 B29 => if r32 r29 then (if r29 = 0 then f_M_shape_155 (f_M_shape_92 K n) K l11 l12 l10 l9 l2 l3 l4 l6 l7 l8 F29 B29 else if r32 l11 then if r32 l8 then (if l11 = l8 then some (l12, F29, B29) else f_M_shape_155 (f_M_shape_92 K n) K (l11 + 1) l12 l10 l9 l2 l3 l4 l6 l7 l8 F29 B29) else none else none) else none) else none) else none else none else none else none) = some (r, F9, B9) := hf
    refine lv_iload hx hb (D_21 W_prog_15_method_199_code_64 28 rfl rfl) (lv_at hl 0 rfl) ?_
    refine lv_iload hx hb (D_21 W_prog_15_method_199_code_64 30 rfl rfl) (lv_at hl 7 rfl) ?_
    refine zadd hx hb (D_96 W_prog_15_method_199_code_96 0 rfl rfl) ?_
    refine zaload hx hb (D_25 W_prog_15_method_199_code_96 1 rfl rfl) (lv_at hl 2 rfl) ?_
    obtain ⟨g23, hf⟩ := gif hf
    refine zunrf g23.1 ?_
    refine zget (ci := 13) (C := RX13) (T := TX13) (v := .ref (ad 13 l10 (12 + 1))) (k := 12) hx hb hts inW_13 hown hK hZ g23.1 g23.2 rfl (by decide) k_9_142 rfl (D_180 W_prog_15_method_199_code_96 3 rfl rfl rfl) ?_
    refine lv_iload hx hb (D_21 W_prog_15_method_199_code_96 6 rfl rfl) (lv_at hl 8 rfl) ?_
    obtain ⟨g24, hf⟩ := gif hf
    refine zald (ci := 13) (k := 12) hx hb hK rfl hZ g23.1 g23.2 rfl (Nat.le_of_ble_eq_true rfl) g24.1 g24.2 (D_46 W_prog_15_method_199_code_96 8 rfl rfl) ?_
    obtain ⟨g25, hf⟩ := gif hf
    obtain ⟨g26, hf⟩ := gif hf
    refine zgt (tgt := 161) hx hb g25 g26 (D_163 W_prog_15_method_199_code_96 9 rfl rfl rfl) (by decide) (fun h27 => ?_) (fun h27 => ?_)
    · replace hf := gpos hf h27
      refine lv_iconst (v := iI (-1)) hx hb (D_2 W_prog_15_method_199_code_160 1 rfl rfl) rfl ?_
      cases hf
      exact W.iret hx hb hr (fun t ht hW => ⟨⟨_, (), rfl, rfl, by rw [ht]; exact hZ, va_K.moved hW.alike hK⟩, hS.F ht⟩) hS.2.2 (D_172 W_prog_15_method_199_code_160 2 rfl rfl) hlk
    · replace hf := gneg hf h27
      refine lv_aload_n hx hb (D_42 W_prog_15_method_199_code_96 12 rfl rfl) rfl (lv_at hl 4 rfl) ?_
      refine zaload hx hb (D_25 W_prog_15_method_199_code_96 13 rfl rfl) (lv_at hl 3 rfl) ?_
      refine lv_sipush (v := iI 1000) hx hb (D_17 W_prog_15_method_199_code_96 15 rfl rfl rfl) (by decide) ?_
      refine lv_iload_n hx hb (D_28 W_prog_15_method_199_code_96 18 rfl rfl) rfl (lv_at hl 5 rfl) ?_
      refine zmul hx hb (D_104 W_prog_15_method_199_code_96 19 rfl rfl) ?_
      refine lv_iload_n hx hb (D_29 W_prog_15_method_199_code_96 20 rfl rfl) rfl (lv_at hl 6 rfl) ?_
      refine zadd hx hb (D_96 W_prog_15_method_199_code_96 21 rfl rfl) ?_
      refine lv_iload hx hb (D_21 W_prog_15_method_199_code_96 22 rfl rfl) (lv_at hl 7 rfl) ?_
      refine zaload hx hb (D_25 W_prog_15_method_199_code_96 24 rfl rfl) (lv_at hl 2 rfl) ?_
      refine lv_sipush (v := iI 1000) hx hb (D_17 W_prog_15_method_199_code_96 26 rfl rfl rfl) (by decide) ?_
      refine lv_iload hx hb (D_21 W_prog_15_method_199_code_96 29 rfl rfl) (lv_at hl 8 rfl) ?_
      refine zmul hx hb (D_104 W_prog_15_method_199_code_96 31 rfl rfl) ?_
      refine lv_iload hx hb (D_21 W_prog_15_method_199_code_128 0 rfl rfl) (lv_at hl 0 rfl) ?_
      refine zadd hx hb (D_96 W_prog_15_method_199_code_128 2 rfl rfl) ?_
      refine lv_iload hx hb (D_21 W_prog_15_method_199_code_128 3 rfl rfl) (lv_at hl 9 rfl) ?_
      obtain ⟨g28, hf⟩ := gif hf
      refine W.eq (g2 := F0 m 133 ls [.int (iI l7), .int (iI ((1000 * l6) + l12)), va_rf (zrf ad 13 l10), .int (iI l4), .int (iI ((1000 * l2) + l3)), .ref (ad 13 l9 0), .ref (ad 14 0 0)]) (by rw [zrf_pos (ad := ad) (t := 13) g28.1]; try rfl) ?_
      refine W.eq (g2 := F0 m 133 ls [.int (iI l7), .int (iI ((1000 * l6) + l12)), .ref (ad 13 l10 0), .int (iI l4), .int (iI ((1000 * l2) + l3)), .ref (ad 13 l9 0), .ref (ad 14 0 0)]) (by rw [zrf_pos (ad := ad) (t := 13) g23.1]; try rfl) ?_
      obtain ⟨r29, F29, B29, hc29, hf⟩ := gbind hf
      refine va_calli (va_runV (As := [.ref (ad 13 l9 0), .int (iI ((1000 * l2) + l3)), .int (iI l4), .ref (ad 13 l10 0), .int (iI ((1000 * l6) + l12)), .int (iI l7)]) (rest := []) ⟨hx, hb, hml, hown, hts⟩ (c_M_isShape (l := l) hc29) (cwV 6 hts (gdV k_14_71 k_14_73 ks_194 k_1_9 k_14_74) rfl rfl rfl (by decide +kernel) ⟨Nat.le_of_ble_eq_true rfl, Nat.le_of_ble_eq_true rfl⟩) (zPV X hZ hS (ci := 14) (by decide) (by decide) (r := (RX14, TX14, 107)) rfl [.ref (ad 13 l9 0), .int (iI ((1000 * l2) + l3)), .int (iI l4), .ref (ad 13 l10 0), .int (iI ((1000 * l6) + l12)), .int (iI l7)]) rfl rfl hl.1 rfl (lv_room (Nat.le_of_ble_eq_true rfl)) (D_182 W_prog_15_method_199_code_128 5 rfl rfl rfl) ⟨Nat.le_of_ble_eq_true rfl, Nat.le_of_ble_eq_true rfl⟩) hS (fun q _ h => zAin X hS q h) (zAin X hS) (fun p29 u29 t29 H29 locs29 ht29 hv29 hw29 hB29 hz29 hk29 hS29 => ?_)
      have hZ29 := zBack X ht29 hB29
      subst hw29
      obtain ⟨g30, hf⟩ := gif hf
      refine z0ne (tgt := 142) hx hb g30 (D_154 W_prog_15_method_199_code_128 8 rfl rfl rfl) (by decide) (fun h31 => ?_) (fun h31 => ?_)
      · replace hf := gneg hf h31
        refine lv_iload hx hb (D_21 W_prog_15_method_199_code_128 14 rfl rfl) (lv_at hl 1 rfl) ?_
        refine lv_iload hx hb (D_21 W_prog_15_method_199_code_128 16 rfl rfl) (lv_at hl 10 rfl) ?_
        obtain ⟨g33, hf⟩ := gif hf
        obtain ⟨g34, hf⟩ := gif hf
        refine zne (tgt := 152) hx hb g33 g34 (D_160 W_prog_15_method_199_code_128 18 rfl rfl rfl) (by decide) (fun h35 => ?_) (fun h35 => ?_)
        · replace hf := gneg hf h35
          refine lv_iinc (v := iI (l11 + 1)) (lv' := [(11, .int (iI (l11 + 1))), (12, .int (iI l12)), (10, va_rf (zrf ad 13 l10)), (9, va_rf (zrf ad 13 l9)), (0, .ref (ad 14 0 0)), (2, .int (iI l2)), (3, .int (iI l3)), (4, .int (iI l4)), (6, .int (iI l6)), (7, .int (iI l7)), (8, .int (iI l8))]) hx hb d_15_199_152 hl (k := 1) rfl (iI_add _ 1) (by decide) (by cases zrf ad 13 l10 <;> rfl) (fun ls hl => ?_)
          exact b_M_shape_155 X ih hf hZ29 hS29 (lv_sub hl [0, 1, 2, 3, 4, 5, 6, 7, 8, 9, 10] rfl)
        · replace hf := gpos hf h35
          refine lv_iload hx hb (D_21 W_prog_15_method_199_code_128 21 rfl rfl) (lv_at hl 0 rfl) ?_
          cases hf
          exact W.iret hx hb hr (fun t ht hW => ⟨⟨_, (), rfl, rfl, by rw [ht]; exact hZ29, va_K.moved hW.alike hK⟩, hS29.F ht⟩) hS29.2.2 (D_172 W_prog_15_method_199_code_128 23 rfl rfl) hlk
      · replace hf := gpos hf h31
        refine lv_goto (tgt := 155) hx hb (D_167 W_prog_15_method_199_code_128 11 rfl rfl rfl) (by decide) ?_
        exact b_M_shape_155 X ih hf hZ29 hS29 (lv_sub hl [1, 0, 2, 3, 4, 5, 6, 7, 8, 9, 10] rfl)

def f_M_shape_84 (K : Nat)  (F : zF) (B : zB) : zO := some ((-1), F, B)
set_option maxHeartbeats 4000000 in
set_option maxRecDepth 100000 in
theorem b_M_shape_84 {D : va_G} {ca : Nat → ClassId} {ad : Nat → Int → Nat → Nat} {L : List Nat} {aS vS : Nat → Nat} {A : Nat → Prop} {p : Program} {l : Launch} {e : Env} {s : State} {m : MethodId} {args : Array Value} {below : List Frame} {meth : Method} {c : Code} {K : Nat} {r : Int} {F9 : zF} {B9 : zB} (X : zX D ca L aS vS A p s m args meth c prog_15_method_199_code 13 (Option.some Jvm.ClassFile.FieldType.int) "StaveHouseModel")  {F : zF} {B : zB} {H : Heap} {locs : List Loc} {ls : Array Slot} (hf : f_M_shape_84 K  F B = some (r, F9, B9)) (hZ : zH D ca ad lnM nM L F B A H) (hS : va_S A s.heap H locs) (hl : lv_has ls 13 []) : W p l e ({ frames := 5, cells := 0, slots := 0, locals := 154 } : Room) s m args below meth c H locs 0 0 (MQ below (Q_M_shape D ca ad L r F9 B9 A) args s 0 0 A) (F0 m 84 ls []) := by
  obtain ⟨hx, hb, hr, hml, hown, hts, hlk, hK, hA, hL, hX⟩ := id X
  replace hf : (some ((-1), F, B)) = some (r, F9, B9) := hf
  refine lv_iconst (v := iI (-1)) hx hb (D_2 W_prog_15_method_199_code_64 20 rfl rfl) rfl ?_
  cases hf
  exact W.iret hx hb hr (fun t ht hW => ⟨⟨_, (), rfl, rfl, by rw [ht]; exact hZ, va_K.moved hW.alike hK⟩, hS.F ht⟩) hS.2.2 (D_172 W_prog_15_method_199_code_64 21 rfl rfl) hlk

def f_M_shape_64 (K : Nat)  (F : zF) (B : zB) : zO := some ((-1), F, B)
set_option maxHeartbeats 4000000 in
set_option maxRecDepth 100000 in
theorem b_M_shape_64 {D : va_G} {ca : Nat → ClassId} {ad : Nat → Int → Nat → Nat} {L : List Nat} {aS vS : Nat → Nat} {A : Nat → Prop} {p : Program} {l : Launch} {e : Env} {s : State} {m : MethodId} {args : Array Value} {below : List Frame} {meth : Method} {c : Code} {K : Nat} {r : Int} {F9 : zF} {B9 : zB} (X : zX D ca L aS vS A p s m args meth c prog_15_method_199_code 13 (Option.some Jvm.ClassFile.FieldType.int) "StaveHouseModel")  {F : zF} {B : zB} {H : Heap} {locs : List Loc} {ls : Array Slot} (hf : f_M_shape_64 K  F B = some (r, F9, B9)) (hZ : zH D ca ad lnM nM L F B A H) (hS : va_S A s.heap H locs) (hl : lv_has ls 13 []) : W p l e ({ frames := 5, cells := 0, slots := 0, locals := 154 } : Room) s m args below meth c H locs 0 0 (MQ below (Q_M_shape D ca ad L r F9 B9 A) args s 0 0 A) (F0 m 64 ls []) := by
  obtain ⟨hx, hb, hr, hml, hown, hts, hlk, hK, hA, hL, hX⟩ := id X
  replace hf : (some ((-1), F, B)) = some (r, F9, B9) := hf
  refine lv_iconst (v := iI (-1)) hx hb (D_2 W_prog_15_method_199_code_64 0 rfl rfl) rfl ?_
  cases hf
  exact W.iret hx hb hr (fun t ht hW => ⟨⟨_, (), rfl, rfl, by rw [ht]; exact hZ, va_K.moved hW.alike hK⟩, hS.F ht⟩) hS.2.2 (D_172 W_prog_15_method_199_code_64 1 rfl rfl) hlk

def f_M_shape (K : Nat) (l1 : Int) (l2 : Int) (l3 : Int) (l4 : Int) (l5 : Int) (l6 : Int) (l7 : Int) (l8 : Int) (F : zF) (B : zB) : zO := zbind (f_M_piece K l1 F B) (fun r1 F1 B1 => zbind (f_M_piece K l5 F1 B1) (fun r2 F2 B2 => zbind (f_M_isVoice K r1 l2 F2 B2) (fun r3 F3 B3 => if r32 r3 then (if r3 = 0 then f_M_shape_64 K F3 B3 else zbind (f_M_isVoice K r2 l6 F3 B3) (fun r6 F6 B6 => if r32 r6 then (if r6 = 0 then f_M_shape_64 K F6 B6 else if r32 l4 then (if l4 < 2 then f_M_shape_64 K F6 B6 else (if 20 < l4 then f_M_shape_64 K F6 B6 else if r32 l7 then (if l7 < 0 then f_M_shape_64 K F6 B6 else (if 7 < l7 then f_M_shape_64 K F6 B6 else if r32 l8 then (if 0 ≤ l8 then if r32 l3 then (if l3 < 0 then f_M_shape_84 K F6 B6 else if 0 ≤ r1 ∧ r1 < 3 then if 0 ≤ l2 ∧ l2 < 4 then if r32 ((B6 13 r1 12 l2) - l4) then (if l3 ≤ ((B6 13 r1 12 l2) - l4) then f_M_shape_92 K K 0 0 r2 r1 l2 l3 l4 l6 l7 l8 F6 B6 else f_M_shape_84 K F6 B6) else none else none else none) else none else f_M_shape_64 K F6 B6) else none)) else none)) else none) else none)) else none)))
set_option maxHeartbeats 4000000 in
set_option maxRecDepth 100000 in
theorem c_M_shape {l : Launch} {D : va_G} {ca : Nat → ClassId} {ad : Nat → Int → Nat → Nat} {L : List Nat} {aS vS : Nat → Nat} {sz K : Nat}  {l1 : Int} {l2 : Int} {l3 : Int} {l4 : Int} {l5 : Int} {l6 : Int} {l7 : Int} {l8 : Int} {F F9 : zF} {B B9 : zB} {r : Int} (hf : f_M_shape K l1 l2 l3 l4 l5 l6 l7 l8 F B = some (r, F9, B9)) : Met l ({ cls := "StaveHouseModel", name := "shape", desc := "(IIIIIIII)I" } : Jvm.MethodName) (Cond.code ({ cls := "StaveHouseModel", name := "shape", desc := "(IIIIIIII)I" } : Jvm.MethodName) prog_15_method_199_code 13 (Option.some Jvm.ClassFile.FieldType.int) :: wAll) ({ frames := 5, cells := 0, slots := 0, locals := 154 } : Room) (va_Pc [.ref (ad 14 0 0), .int (iI l1), .int (iI l2), .int (iI l3), .int (iI l4), .int (iI l5), .int (iI l6), .int (iI l7), .int (iI l8)] (zPre D ca ad lnM nM L aS vS F B sz)) (Q_M_shape D ca ad L r F9 B9 (zA L sz)) 0 0 (zA L sz) := by
  refine zMet (Qc := Q_M_shape D ca ad L r F9 B9) (lv := [(0, .ref (ad 14 0 0)), (1, .int (iI l1)), (2, .int (iI l2)), (3, .int (iI l3)), (4, .int (iI l4)), (5, .int (iI l5)), (6, .int (iI l6)), (7, .int (iI l7)), (8, .int (iI l8))]) (by decide) (Nat.le_of_ble_eq_true rfl) rfl (fun A p e s m below meth c ls X hZ hS hl => ?_)
  obtain ⟨hx, hb, hr, hml, hown, hts, hlk, hK, hA, hL, hX⟩ := id X
  replace hf : (zbind (f_M_piece K l1 F B) (fun r1 F1 B1 => zbind (f_M_piece K l5 F1 B1) (fun r2 F2 B2 => zbind (f_M_isVoice K r1 l2 F2 B2) (fun r3 F3 B3 => if r32 r3 then (if r3 = 0 then f_M_shape_64 K F3 B3 else zbind (f_M_isVoice K r2 l6 F3 B3) (fun r6 F6 B6 => if r32 r6 then (if r6 = 0 then f_M_shape_64 K F6 B6 else if r32 l4 then (if l4 < 2 then f_M_shape_64 K F6 B6 else (if 20 < l4 then f_M_shape_64 K F6 B6 else if r32 l7 then (if l7 < 0 then f_M_shape_64 K F6 B6 else (if 7 < l7 then f_M_shape_64 K F6 B6 else if r32 l8 then (if 0 ≤ l8 then if r32 l3 then (if l3 < 0 then f_M_shape_84 K F6 B6 else if 0 ≤ r1 ∧ r1 < 3 then if 0 ≤ l2 ∧ l2 < 4 then if r32 ((B6 13 r1 12 l2) - l4) then (if l3 ≤ ((B6 13 r1 12 l2) - l4) then f_M_shape_92 K K 0 0 r2 r1 l2 l3 l4 l6 l7 l8 F6 B6 else f_M_shape_84 K F6 B6) else none else none else none) else none else f_M_shape_64 K F6 B6) else none)) else none)) else none) else none)) else none)))) = some (r, F9, B9) := hf
  refine lv_aload_n hx hb (D_42 W_prog_15_method_199_code_0 0 rfl rfl) rfl (lv_at hl 0 rfl) ?_
  refine lv_iload_n hx hb (D_27 W_prog_15_method_199_code_0 1 rfl rfl) rfl (lv_at hl 1 rfl) ?_
  obtain ⟨r1, F1, B1, hc1, hf⟩ := gbind hf
  refine va_callq (va_runV (As := [.int (iI l1)]) (rest := []) ⟨hx, hb, hml, hown, hts⟩ (c_M_piece (l := l) hc1) (cwV 1 hts (gdV k_12_92 k_12_94 ks_131 k_1_9 k_12_95) rfl rfl rfl (by decide +kernel) ⟨Nat.le_of_ble_eq_true rfl, Nat.le_of_ble_eq_true rfl⟩) (zPV X hZ hS (ci := 14) (by decide) (by decide) (r := (RX14, TX14, 107)) rfl [.int (iI l1)]) rfl rfl hl.1 rfl (lv_room (Nat.le_of_ble_eq_true rfl)) (D_182 W_prog_15_method_199_code_0 2 rfl rfl rfl) ⟨Nat.le_of_ble_eq_true rfl, Nat.le_of_ble_eq_true rfl⟩) hS (fun q _ h => zAin X hS q h) (zAin X hS) (fun p1 u1 t1 H1 locs1 ht1 hv1 hw1 hB1 hz1 hk1 hS1 => ?_)
  have hZ1 := zBack X ht1 hB1
  subst hw1
  refine zastore (lv' := [(0, .ref (ad 14 0 0)), (1, .int (iI l1)), (2, .int (iI l2)), (3, .int (iI l3)), (4, .int (iI l4)), (5, .int (iI l5)), (6, .int (iI l6)), (7, .int (iI l7)), (8, .int (iI l8))]) hx hb (D_58 W_prog_15_method_199_code_0 5 rfl rfl) hl (by decide) (fun _ _ => rfl) (fun ls hl => ?_)
  refine lv_aload_n hx hb (D_42 W_prog_15_method_199_code_0 7 rfl rfl) rfl (lv_at hl 1 rfl) ?_
  refine lv_iload hx hb (D_21 W_prog_15_method_199_code_0 8 rfl rfl) (lv_at hl 6 rfl) ?_
  obtain ⟨r2, F2, B2, hc2, hf⟩ := gbind hf
  refine va_callq (va_runV (As := [.int (iI l5)]) (rest := []) ⟨hx, hb, hml, hown, hts⟩ (c_M_piece (l := l) hc2) (cwV 1 hts (gdV k_12_92 k_12_94 ks_131 k_1_9 k_12_95) rfl rfl rfl (by decide +kernel) ⟨Nat.le_of_ble_eq_true rfl, Nat.le_of_ble_eq_true rfl⟩) (zPV X hZ1 hS1 (ci := 14) (by decide) (by decide) (r := (RX14, TX14, 107)) rfl [.int (iI l5)]) rfl rfl hl.1 rfl (lv_room (Nat.le_of_ble_eq_true rfl)) (D_182 W_prog_15_method_199_code_0 10 rfl rfl rfl) ⟨Nat.le_of_ble_eq_true rfl, Nat.le_of_ble_eq_true rfl⟩) hS1 (fun q _ h => zAin X hS1 q h) (zAin X hS1) (fun p2 u2 t2 H2 locs2 ht2 hv2 hw2 hB2 hz2 hk2 hS2 => ?_)
  have hZ2 := zBack X ht2 hB2
  subst hw2
  refine zastore (lv' := [(9, va_rf (zrf ad 13 r1)), (0, .ref (ad 14 0 0)), (1, .int (iI l1)), (2, .int (iI l2)), (3, .int (iI l3)), (4, .int (iI l4)), (5, .int (iI l5)), (6, .int (iI l6)), (7, .int (iI l7)), (8, .int (iI l8))]) hx hb (D_58 W_prog_15_method_199_code_0 13 rfl rfl) hl (by decide) (fun v hv => by cases zrf ad 13 r1 <;> rfl) (fun ls hl => ?_)
  refine zaload hx hb (D_25 W_prog_15_method_199_code_0 15 rfl rfl) (lv_at hl 1 rfl) ?_
  refine lv_iload_n hx hb (D_28 W_prog_15_method_199_code_0 17 rfl rfl) rfl (lv_at hl 4 rfl) ?_
  obtain ⟨r3, F3, B3, hc3, hf⟩ := gbind hf
  refine va_calli (va_runS (As := [va_rf (zrf ad 13 r1), .int (iI l2)]) (rest := []) ⟨hx, hb, hml, hown, hts⟩ (c_M_isVoice (l := l) hc3) (va_cwS 2 hts (gdS k_12_118 k_12_119 k_1_9 k_12_120) rfl rfl rfl (by decide +kernel) ⟨Nat.le_of_ble_eq_true rfl, Nat.le_of_ble_eq_true rfl⟩) (zPS X hZ2 hS2 [va_rf (zrf ad 13 r1), .int (iI l2)]) rfl rfl hl.1 rfl (lv_room (Nat.le_of_ble_eq_true rfl)) (D_184 W_prog_15_method_199_code_0 18 rfl rfl rfl) ⟨Nat.le_of_ble_eq_true rfl, Nat.le_of_ble_eq_true rfl⟩) hS2 (fun q _ h => zAin X hS2 q h) (zAin X hS2) (fun p3 u3 t3 H3 locs3 ht3 hv3 hw3 hB3 hz3 hk3 hS3 => ?_)
  have hZ3 := zBack X ht3 hB3
  subst hw3
  obtain ⟨g4, hf⟩ := gif hf
  refine z0eq (tgt := 64) hx hb g4 (D_153 W_prog_15_method_199_code_0 21 rfl rfl rfl) (by decide) (fun h5 => ?_) (fun h5 => ?_)
  · replace hf := gpos hf h5
    exact b_M_shape_64 X hf hZ3 hS3 (lv_sub hl [] rfl)
  · replace hf := gneg hf h5
    refine zaload hx hb (D_25 W_prog_15_method_199_code_0 24 rfl rfl) (lv_at hl 0 rfl) ?_
    refine lv_iload hx hb (D_21 W_prog_15_method_199_code_0 26 rfl rfl) (lv_at hl 8 rfl) ?_
    obtain ⟨r6, F6, B6, hc6, hf⟩ := gbind hf
    refine va_calli (va_runS (As := [va_rf (zrf ad 13 r2), .int (iI l6)]) (rest := []) ⟨hx, hb, hml, hown, hts⟩ (c_M_isVoice (l := l) hc6) (va_cwS 2 hts (gdS k_12_118 k_12_119 k_1_9 k_12_120) rfl rfl rfl (by decide +kernel) ⟨Nat.le_of_ble_eq_true rfl, Nat.le_of_ble_eq_true rfl⟩) (zPS X hZ3 hS3 [va_rf (zrf ad 13 r2), .int (iI l6)]) rfl rfl hl.1 rfl (lv_room (Nat.le_of_ble_eq_true rfl)) (D_184 W_prog_15_method_199_code_0 28 rfl rfl rfl) ⟨Nat.le_of_ble_eq_true rfl, Nat.le_of_ble_eq_true rfl⟩) hS3 (fun q _ h => zAin X hS3 q h) (zAin X hS3) (fun p6 u6 t6 H6 locs6 ht6 hv6 hw6 hB6 hz6 hk6 hS6 => ?_)
    have hZ6 := zBack X ht6 hB6
    subst hw6
    obtain ⟨g7, hf⟩ := gif hf
    refine z0eq (tgt := 64) hx hb g7 (D_153 W_prog_15_method_199_code_0 31 rfl rfl rfl) (by decide) (fun h8 => ?_) (fun h8 => ?_)
    · replace hf := gpos hf h8
      exact b_M_shape_64 X hf hZ6 hS6 (lv_sub hl [] rfl)
    · replace hf := gneg hf h8
      refine lv_iload hx hb (D_21 W_prog_15_method_199_code_32 2 rfl rfl) (lv_at hl 6 rfl) ?_
      refine lv_iconst (v := iI 2) hx hb (D_5 W_prog_15_method_199_code_32 4 rfl rfl) rfl ?_
      obtain ⟨g9, hf⟩ := gif hf
      refine zlt (tgt := 64) hx hb g9 (by decide) (D_161 W_prog_15_method_199_code_32 5 rfl rfl rfl) (by decide) (fun h10 => ?_) (fun h10 => ?_)
      · replace hf := gpos hf h10
        exact b_M_shape_64 X hf hZ6 hS6 (lv_sub hl [] rfl)
      · replace hf := gneg hf h10
        refine lv_iload hx hb (D_21 W_prog_15_method_199_code_32 8 rfl rfl) (lv_at hl 6 rfl) ?_
        refine lv_bipush (v := iI 20) hx hb (D_16 W_prog_15_method_199_code_32 10 rfl rfl rfl) (by decide) ?_
        refine zgt (tgt := 64) hx hb g9 (by decide) (D_163 W_prog_15_method_199_code_32 12 rfl rfl rfl) (by decide) (fun h11 => ?_) (fun h11 => ?_)
        · replace hf := gpos hf h11
          exact b_M_shape_64 X hf hZ6 hS6 (lv_sub hl [] rfl)
        · replace hf := gneg hf h11
          refine lv_iload hx hb (D_21 W_prog_15_method_199_code_32 15 rfl rfl) (lv_at hl 9 rfl) ?_
          obtain ⟨g12, hf⟩ := gif hf
          refine z0lt (tgt := 64) hx hb g12 (D_155 W_prog_15_method_199_code_32 17 rfl rfl rfl) (by decide) (fun h13 => ?_) (fun h13 => ?_)
          · replace hf := gpos hf h13
            exact b_M_shape_64 X hf hZ6 hS6 (lv_sub hl [] rfl)
          · replace hf := gneg hf h13
            refine lv_iload hx hb (D_21 W_prog_15_method_199_code_32 20 rfl rfl) (lv_at hl 9 rfl) ?_
            refine lv_bipush (v := iI 7) hx hb (D_16 W_prog_15_method_199_code_32 22 rfl rfl rfl) (by decide) ?_
            refine zgt (tgt := 64) hx hb g12 (by decide) (D_163 W_prog_15_method_199_code_32 24 rfl rfl rfl) (by decide) (fun h14 => ?_) (fun h14 => ?_)
            · replace hf := gpos hf h14
              exact b_M_shape_64 X hf hZ6 hS6 (lv_sub hl [] rfl)
            · replace hf := gneg hf h14
              refine lv_iload hx hb (D_21 W_prog_15_method_199_code_32 27 rfl rfl) (lv_at hl 10 rfl) ?_
              obtain ⟨g15, hf⟩ := gif hf
              refine z0ge (tgt := 66) hx hb g15 (D_156 W_prog_15_method_199_code_32 29 rfl rfl rfl) (by decide) (fun h16 => ?_) (fun h16 => ?_)
              · replace hf := gpos hf h16
                refine lv_iload_n hx hb (D_29 W_prog_15_method_199_code_64 2 rfl rfl) rfl (lv_at hl 5 rfl) ?_
                obtain ⟨g17, hf⟩ := gif hf
                refine z0lt (tgt := 84) hx hb g17 (D_155 W_prog_15_method_199_code_64 3 rfl rfl rfl) (by decide) (fun h18 => ?_) (fun h18 => ?_)
                · replace hf := gpos hf h18
                  exact b_M_shape_84 X hf hZ6 hS6 (lv_sub hl [] rfl)
                · replace hf := gneg hf h18
                  refine lv_iload_n hx hb (D_29 W_prog_15_method_199_code_64 6 rfl rfl) rfl (lv_at hl 5 rfl) ?_
                  refine zaload hx hb (D_25 W_prog_15_method_199_code_64 7 rfl rfl) (lv_at hl 1 rfl) ?_
                  obtain ⟨g19, hf⟩ := gif hf
                  refine zunrf g19.1 ?_
                  refine zget (ci := 13) (C := RX13) (T := TX13) (v := .ref (ad 13 r1 (12 + 1))) (k := 12) hx hb hts inW_13 hown hK hZ6 g19.1 g19.2 rfl (by decide) k_9_142 rfl (D_180 W_prog_15_method_199_code_64 9 rfl rfl rfl) ?_
                  refine lv_iload_n hx hb (D_28 W_prog_15_method_199_code_64 12 rfl rfl) rfl (lv_at hl 4 rfl) ?_
                  obtain ⟨g20, hf⟩ := gif hf
                  refine zald (ci := 13) (k := 12) hx hb hK rfl hZ6 g19.1 g19.2 rfl (Nat.le_of_ble_eq_true rfl) g20.1 g20.2 (D_46 W_prog_15_method_199_code_64 13 rfl rfl) ?_
                  refine lv_iload hx hb (D_21 W_prog_15_method_199_code_64 14 rfl rfl) (lv_at hl 6 rfl) ?_
                  refine zsub hx hb (D_100 W_prog_15_method_199_code_64 16 rfl rfl) ?_
                  obtain ⟨g21, hf⟩ := gif hf
                  refine zle (tgt := 86) hx hb g17 g21 (D_164 W_prog_15_method_199_code_64 17 rfl rfl rfl) (by decide) (fun h22 => ?_) (fun h22 => ?_)
                  · replace hf := gpos hf h22
                    refine lv_iconst (v := iI 0) hx hb (D_3 W_prog_15_method_199_code_64 22 rfl rfl) rfl ?_
                    refine lv_istore (lv' := [(11, .int (iI 0)), (10, va_rf (zrf ad 13 r2)), (9, va_rf (zrf ad 13 r1)), (0, .ref (ad 14 0 0)), (1, .int (iI l1)), (2, .int (iI l2)), (3, .int (iI l3)), (4, .int (iI l4)), (5, .int (iI l5)), (6, .int (iI l6)), (7, .int (iI l7)), (8, .int (iI l8))]) hx hb (D_54 W_prog_15_method_199_code_64 23 rfl rfl) hl (by decide) (by cases zrf ad 13 r2 <;> rfl) (fun ls hl => ?_)
                    refine lv_iconst (v := iI 0) hx hb (D_3 W_prog_15_method_199_code_64 25 rfl rfl) rfl ?_
                    refine lv_istore (lv' := [(12, .int (iI 0)), (11, .int (iI 0)), (10, va_rf (zrf ad 13 r2)), (9, va_rf (zrf ad 13 r1)), (0, .ref (ad 14 0 0)), (1, .int (iI l1)), (2, .int (iI l2)), (3, .int (iI l3)), (4, .int (iI l4)), (5, .int (iI l5)), (6, .int (iI l6)), (7, .int (iI l7)), (8, .int (iI l8))]) hx hb (D_54 W_prog_15_method_199_code_64 26 rfl rfl) hl (by decide) rfl (fun ls hl => ?_)
                    exact b_M_shape_92 X hf hZ6 hS6 (lv_sub hl [0, 1, 2, 3, 4, 6, 7, 8, 10, 11, 12] rfl)
                  · replace hf := gneg hf h22
                    exact b_M_shape_84 X hf hZ6 hS6 (lv_sub hl [] rfl)
              · replace hf := gneg hf h16
                exact b_M_shape_64 X hf hZ6 hS6 (lv_sub hl [] rfl)

abbrev Q_M_cutRun (D : va_G) (ca : Nat → ClassId) (ad : Nat → Int → Nat → Nat) (L : List Nat) (r : Int) (F : zF) (B : zB) (A : Nat → Prop) : Array Value → State → Outcome → State → Prop := va_Qi (S := Unit) (fun p _ => p = iI r) (fun _ => zPo D ca ad lnM nM L F B A) A
def f_M_cutRun_213 (K : Nat) (l2 : Int) (F : zF) (B : zB) : zO := some (l2, F, B)
set_option maxHeartbeats 4000000 in
set_option maxRecDepth 100000 in
theorem b_M_cutRun_213 {D : va_G} {ca : Nat → ClassId} {ad : Nat → Int → Nat → Nat} {L : List Nat} {aS vS : Nat → Nat} {A : Nat → Prop} {p : Program} {l : Launch} {e : Env} {s : State} {m : MethodId} {args : Array Value} {below : List Frame} {meth : Method} {c : Code} {K : Nat} {r : Int} {F9 : zF} {B9 : zB} (X : zX D ca L aS vS A p s m args meth c prog_15_method_26_code 8 (Option.some Jvm.ClassFile.FieldType.int) "StaveHouseModel") {l2 : Int} {F : zF} {B : zB} {H : Heap} {locs : List Loc} {ls : Array Slot} (hf : f_M_cutRun_213 K l2 F B = some (r, F9, B9)) (hZ : zH D ca ad lnM nM L F B A H) (hS : va_S A s.heap H locs) (hl : lv_has ls 8 [(2, .int (iI l2))]) : W p l e ({ frames := 3, cells := 0, slots := 0, locals := 70 } : Room) s m args below meth c H locs 0 0 (MQ below (Q_M_cutRun D ca ad L r F9 B9 A) args s 0 0 A) (F0 m 213 ls []) := by
  obtain ⟨hx, hb, hr, hml, hown, hts, hlk, hK, hA, hL, hX⟩ := id X
  replace hf : (some (l2, F, B)) = some (r, F9, B9) := hf
  refine lv_iload_n hx hb (D_28 W_prog_15_method_26_code_192 21 rfl rfl) rfl (lv_at hl 0 rfl) ?_
  cases hf
  exact W.iret hx hb hr (fun t ht hW => ⟨⟨_, (), rfl, rfl, by rw [ht]; exact hZ, va_K.moved hW.alike hK⟩, hS.F ht⟩) hS.2.2 (D_172 W_prog_15_method_26_code_192 22 rfl rfl) hlk

def f_M_cutRun_207 (K : Nat) (l2 : Int) (l1 : Int) (F : zF) (B : zB) : zO := zbind (f_M_cutPitch K l1 l2 F B) (fun r40 F40 B40 => f_M_cutRun_213 K l2 F40 B40)
set_option maxHeartbeats 4000000 in
set_option maxRecDepth 100000 in
theorem b_M_cutRun_207 {D : va_G} {ca : Nat → ClassId} {ad : Nat → Int → Nat → Nat} {L : List Nat} {aS vS : Nat → Nat} {A : Nat → Prop} {p : Program} {l : Launch} {e : Env} {s : State} {m : MethodId} {args : Array Value} {below : List Frame} {meth : Method} {c : Code} {K : Nat} {r : Int} {F9 : zF} {B9 : zB} (X : zX D ca L aS vS A p s m args meth c prog_15_method_26_code 8 (Option.some Jvm.ClassFile.FieldType.int) "StaveHouseModel") {l2 : Int} {l1 : Int} {F : zF} {B : zB} {H : Heap} {locs : List Loc} {ls : Array Slot} (hf : f_M_cutRun_207 K l2 l1 F B = some (r, F9, B9)) (hZ : zH D ca ad lnM nM L F B A H) (hS : va_S A s.heap H locs) (hl : lv_has ls 8 [(2, .int (iI l2)), (0, .ref (ad 14 0 0)), (1, .int (iI l1))]) : W p l e ({ frames := 3, cells := 0, slots := 0, locals := 70 } : Room) s m args below meth c H locs 0 0 (MQ below (Q_M_cutRun D ca ad L r F9 B9 A) args s 0 0 A) (F0 m 207 ls []) := by
  obtain ⟨hx, hb, hr, hml, hown, hts, hlk, hK, hA, hL, hX⟩ := id X
  replace hf : (zbind (f_M_cutPitch K l1 l2 F B) (fun r40 F40 B40 => f_M_cutRun_213 K l2 F40 B40)) = some (r, F9, B9) := hf
  refine lv_aload_n hx hb (D_42 W_prog_15_method_26_code_192 15 rfl rfl) rfl (lv_at hl 1 rfl) ?_
  refine lv_iload_n hx hb (D_27 W_prog_15_method_26_code_192 16 rfl rfl) rfl (lv_at hl 2 rfl) ?_
  refine lv_iload_n hx hb (D_28 W_prog_15_method_26_code_192 17 rfl rfl) rfl (lv_at hl 0 rfl) ?_
  obtain ⟨r40, F40, B40, hc40, hf⟩ := gbind hf
  refine va_callv (va_runV (As := [.int (iI l1), .int (iI l2)]) (rest := []) ⟨hx, hb, hml, hown, hts⟩ (c_M_cutPitch (l := l) hc40) (cwV 2 hts (gdV k_14_100 k_14_102 ks_198 k_1_9 k_14_103) rfl rfl rfl (by decide +kernel) ⟨Nat.le_of_ble_eq_true rfl, Nat.le_of_ble_eq_true rfl⟩) (zPV X hZ hS (ci := 14) (by decide) (by decide) (r := (RX14, TX14, 107)) rfl [.int (iI l1), .int (iI l2)]) rfl rfl hl.1 rfl (lv_room (Nat.le_of_ble_eq_true rfl)) (D_182 W_prog_15_method_26_code_192 18 rfl rfl rfl) ⟨Nat.le_of_ble_eq_true rfl, Nat.le_of_ble_eq_true rfl⟩) hS (fun q _ h => zAin X hS q h) (zAin X hS) (fun u40 t40 H40 locs40 ht40 hv40 hw40 hB40 hz40 hk40 hS40 => ?_)
  have hZ40 := zBack X ht40 hB40
  exact b_M_cutRun_213 X hf hZ40 hS40 (lv_sub hl [0] rfl)

def f_M_cutRun_170 (K : Nat) (l5 : Int) (l3 : Int) (l2 : Int) (l1 : Int) (F : zF) (B : zB) : zO := if r32 l3 then if r32 (l2 - l1) then (if l3 = (l2 - l1) then (if 8 < l3 then f_M_cutRun_207 K l2 l1 F B else if 0 ≤ (F 14 0 12) ∧ (F 14 0 12) < 3001 then f_M_cutRun_213 K l2 F (zup4 (zup4 B 14 0 7 (F 14 0 12) 4) 14 0 11 (F 14 0 12) l5) else none) else f_M_cutRun_207 K l2 l1 F B) else none else none
set_option maxHeartbeats 4000000 in
set_option maxRecDepth 100000 in
theorem b_M_cutRun_170 {D : va_G} {ca : Nat → ClassId} {ad : Nat → Int → Nat → Nat} {L : List Nat} {aS vS : Nat → Nat} {A : Nat → Prop} {p : Program} {l : Launch} {e : Env} {s : State} {m : MethodId} {args : Array Value} {below : List Frame} {meth : Method} {c : Code} {K : Nat} {r : Int} {F9 : zF} {B9 : zB} (X : zX D ca L aS vS A p s m args meth c prog_15_method_26_code 8 (Option.some Jvm.ClassFile.FieldType.int) "StaveHouseModel") {l5 : Int} {l3 : Int} {l2 : Int} {l1 : Int} {F : zF} {B : zB} {H : Heap} {locs : List Loc} {ls : Array Slot} (hf : f_M_cutRun_170 K l5 l3 l2 l1 F B = some (r, F9, B9)) (hZ : zH D ca ad lnM nM L F B A H) (hS : va_S A s.heap H locs) (hl : lv_has ls 8 [(5, .long (lI l5)), (3, .int (iI l3)), (2, .int (iI l2)), (0, .ref (ad 14 0 0)), (1, .int (iI l1))]) : W p l e ({ frames := 3, cells := 0, slots := 0, locals := 70 } : Room) s m args below meth c H locs 0 0 (MQ below (Q_M_cutRun D ca ad L r F9 B9 A) args s 0 0 A) (F0 m 170 ls []) := by
  obtain ⟨hx, hb, hr, hml, hown, hts, hlk, hK, hA, hL, hX⟩ := id X
  replace hf : (if r32 l3 then if r32 (l2 - l1) then (if l3 = (l2 - l1) then (if 8 < l3 then f_M_cutRun_207 K l2 l1 F B else if 0 ≤ (F 14 0 12) ∧ (F 14 0 12) < 3001 then f_M_cutRun_213 K l2 F (zup4 (zup4 B 14 0 7 (F 14 0 12) 4) 14 0 11 (F 14 0 12) l5) else none) else f_M_cutRun_207 K l2 l1 F B) else none else none) = some (r, F9, B9) := hf
  refine lv_iload_n hx hb (D_29 W_prog_15_method_26_code_160 10 rfl rfl) rfl (lv_at hl 1 rfl) ?_
  refine lv_iload_n hx hb (D_28 W_prog_15_method_26_code_160 11 rfl rfl) rfl (lv_at hl 2 rfl) ?_
  refine lv_iload_n hx hb (D_27 W_prog_15_method_26_code_160 12 rfl rfl) rfl (lv_at hl 4 rfl) ?_
  refine zsub hx hb (D_100 W_prog_15_method_26_code_160 13 rfl rfl) ?_
  obtain ⟨g33, hf⟩ := gif hf
  obtain ⟨g34, hf⟩ := gif hf
  refine zne (tgt := 207) hx hb g33 g34 (D_160 W_prog_15_method_26_code_160 14 rfl rfl rfl) (by decide) (fun h35 => ?_) (fun h35 => ?_)
  · replace hf := gneg hf h35
    exact b_M_cutRun_207 X hf hZ hS (lv_sub hl [2, 3, 4] rfl)
  · replace hf := gpos hf h35
    refine lv_iload_n hx hb (D_29 W_prog_15_method_26_code_160 17 rfl rfl) rfl (lv_at hl 1 rfl) ?_
    refine lv_bipush (v := iI 8) hx hb (D_16 W_prog_15_method_26_code_160 18 rfl rfl rfl) (by decide) ?_
    refine zgt (tgt := 207) hx hb g33 (by decide) (D_163 W_prog_15_method_26_code_160 20 rfl rfl rfl) (by decide) (fun h36 => ?_) (fun h36 => ?_)
    · replace hf := gpos hf h36
      exact b_M_cutRun_207 X hf hZ hS (lv_sub hl [2, 3, 4] rfl)
    · replace hf := gneg hf h36
      refine lv_aload_n hx hb (D_42 W_prog_15_method_26_code_160 23 rfl rfl) rfl (lv_at hl 3 rfl) ?_
      refine zget (ci := 14) (C := RX14) (T := TX14) (v := .ref (ad 14 0 (7 + 1))) (k := 7) hx hb hts inW_14 hown hK hZ (by decide) (by decide) rfl (by decide) k_11_5 rfl (D_180 W_prog_15_method_26_code_160 24 rfl rfl rfl) ?_
      refine lv_aload_n hx hb (D_42 W_prog_15_method_26_code_160 27 rfl rfl) rfl (lv_at hl 3 rfl) ?_
      refine zget (ci := 14) (C := RX14) (T := TX14) (v := .int (iI (F 14 0 12))) (k := 12) hx hb hts inW_14 hown hK hZ (by decide) (by decide) rfl (by decide) k_11_10 rfl (D_180 W_prog_15_method_26_code_160 28 rfl rfl rfl) ?_
      refine lv_iconst (v := iI 4) hx hb (D_7 W_prog_15_method_26_code_160 31 rfl rfl) rfl ?_
      obtain ⟨g37, hf⟩ := gif hf
      refine zast (ci := 14) (k := 7) hx hb hK rfl hZ hS (by decide) (by decide) rfl (Nat.le_of_ble_eq_true rfl) g37.1 g37.2 (D_79 W_prog_15_method_26_code_192 0 rfl rfl) (fun H38 locs38 hZ38 hS38 => ?_)
      refine lv_aload_n hx hb (D_42 W_prog_15_method_26_code_192 1 rfl rfl) rfl (lv_at hl 3 rfl) ?_
      refine zget (ci := 14) (C := RX14) (T := TX14) (v := .ref (ad 14 0 (11 + 1))) (k := 11) hx hb hts inW_14 hown hK hZ38 (by decide) (by decide) rfl (by decide) k_11_9 rfl (D_180 W_prog_15_method_26_code_192 2 rfl rfl rfl) ?_
      refine lv_aload_n hx hb (D_42 W_prog_15_method_26_code_192 5 rfl rfl) rfl (lv_at hl 3 rfl) ?_
      refine zget (ci := 14) (C := RX14) (T := TX14) (v := .int (iI (F 14 0 12))) (k := 12) hx hb hts inW_14 hown hK hZ38 (by decide) (by decide) rfl (by decide) k_11_10 rfl (D_180 W_prog_15_method_26_code_192 6 rfl rfl rfl) ?_
      refine lv_lload hx hb (D_22 W_prog_15_method_26_code_192 9 rfl rfl) (lv_at hl 0 rfl) ?_
      refine zlast (ci := 14) (k := 11) hx hb hK rfl hZ38 hS38 (by decide) (by decide) rfl (Nat.le_of_ble_eq_true rfl) g37.1 g37.2 (D_80 W_prog_15_method_26_code_192 11 rfl rfl) (fun H39 locs39 hZ39 hS39 => ?_)
      refine lv_goto (tgt := 213) hx hb (D_167 W_prog_15_method_26_code_192 12 rfl rfl rfl) (by decide) ?_
      exact b_M_cutRun_213 X hf hZ39 hS39 (lv_sub hl [2] rfl)

def f_M_cutRun_124 (K : Nat) : Nat → Int → Int → zF → zB → zO
  | 0, _, _, _, _ => none
  | n + 1, l7, l2, F, B => if r32 l7 then if r32 l2 then (if l2 ≤ l7 then f_M_cutRun_213 K l2 F B else if 0 ≤ (F 14 0 12) ∧ (F 14 0 12) < 3001 then zbind (f_M_byteAt K l7 F B) (fun r30 F30 B30 => f_M_cutRun_124 K n (l7 + 1) l2 F30 (zup4 B30 14 0 9 (F 14 0 12) (((10 * (B 14 0 9 (F 14 0 12))) + r30) - 48))) else none) else none else none
set_option maxHeartbeats 4000000 in
set_option maxRecDepth 100000 in
theorem b_M_cutRun_124 {D : va_G} {ca : Nat → ClassId} {ad : Nat → Int → Nat → Nat} {L : List Nat} {aS vS : Nat → Nat} {A : Nat → Prop} {p : Program} {l : Launch} {e : Env} {s : State} {m : MethodId} {args : Array Value} {below : List Frame} {meth : Method} {c : Code} {K : Nat} {r : Int} {F9 : zF} {B9 : zB} (X : zX D ca L aS vS A p s m args meth c prog_15_method_26_code 8 (Option.some Jvm.ClassFile.FieldType.int) "StaveHouseModel") : ∀ {n : Nat} {l7 : Int} {l2 : Int} {F : zF} {B : zB} {H : Heap} {locs : List Loc} {ls : Array Slot}, f_M_cutRun_124 K n l7 l2 F B = some (r, F9, B9) → zH D ca ad lnM nM L F B A H → va_S A s.heap H locs → lv_has ls 8 [(7, .int (iI l7)), (2, .int (iI l2)), (0, .ref (ad 14 0 0))] → W p l e ({ frames := 3, cells := 0, slots := 0, locals := 70 } : Room) s m args below meth c H locs 0 0 (MQ below (Q_M_cutRun D ca ad L r F9 B9 A) args s 0 0 A) (F0 m 124 ls []) := by
  obtain ⟨hx, hb, hr, hml, hown, hts, hlk, hK, hA, hL, hX⟩ := id X
  intro n
  induction n with
  | zero =>
    intros
    rename_i hf _ _ _
    cases hf
  | succ n ih =>
    intro l7 l2 F B H locs ls hf hZ hS hl
    replace hf : (if r32 l7 then if r32 l2 then (if l2 ≤ l7 then f_M_cutRun_213 K l2 F B else if 0 ≤ (F 14 0 12) ∧ (F 14 0 12) < 3001 then zbind (f_M_byteAt K l7 F B) (fun r30 F30 B30 => f_M_cutRun_124 K n (l7 + 1) l2 F30 (zup4 B30 14 0 9 (F 14 0 12) (((10 * (B 14 0 9 (F 14 0 12))) + r30) - 48))) else none) else none else none) = some (r, F9, B9) := hf
    refine lv_iload hx hb (D_21 W_prog_15_method_26_code_96 28 rfl rfl) (lv_at hl 0 rfl) ?_
    refine lv_iload_n hx hb (D_28 W_prog_15_method_26_code_96 30 rfl rfl) rfl (lv_at hl 1 rfl) ?_
    obtain ⟨g26, hf⟩ := gif hf
    obtain ⟨g27, hf⟩ := gif hf
    refine zge (tgt := 167) hx hb g26 g27 (D_162 W_prog_15_method_26_code_96 31 rfl rfl rfl) (by decide) (fun h28 => ?_) (fun h28 => ?_)
    · replace hf := gpos hf h28
      refine lv_goto (tgt := 213) hx hb (D_167 W_prog_15_method_26_code_160 7 rfl rfl rfl) (by decide) ?_
      exact b_M_cutRun_213 X hf hZ hS (lv_sub hl [1] rfl)
    · replace hf := gneg hf h28
      refine lv_aload_n hx hb (D_42 W_prog_15_method_26_code_128 2 rfl rfl) rfl (lv_at hl 2 rfl) ?_
      refine zget (ci := 14) (C := RX14) (T := TX14) (v := .ref (ad 14 0 (9 + 1))) (k := 9) hx hb hts inW_14 hown hK hZ (by decide) (by decide) rfl (by decide) k_11_7 rfl (D_180 W_prog_15_method_26_code_128 3 rfl rfl rfl) ?_
      refine lv_aload_n hx hb (D_42 W_prog_15_method_26_code_128 6 rfl rfl) rfl (lv_at hl 2 rfl) ?_
      refine zget (ci := 14) (C := RX14) (T := TX14) (v := .int (iI (F 14 0 12))) (k := 12) hx hb hts inW_14 hown hK hZ (by decide) (by decide) rfl (by decide) k_11_10 rfl (D_180 W_prog_15_method_26_code_128 7 rfl rfl rfl) ?_
      refine lv_bipush (v := iI 10) hx hb (D_16 W_prog_15_method_26_code_128 10 rfl rfl rfl) (by decide) ?_
      refine lv_aload_n hx hb (D_42 W_prog_15_method_26_code_128 12 rfl rfl) rfl (lv_at hl 2 rfl) ?_
      refine zget (ci := 14) (C := RX14) (T := TX14) (v := .ref (ad 14 0 (9 + 1))) (k := 9) hx hb hts inW_14 hown hK hZ (by decide) (by decide) rfl (by decide) k_11_7 rfl (D_180 W_prog_15_method_26_code_128 13 rfl rfl rfl) ?_
      refine lv_aload_n hx hb (D_42 W_prog_15_method_26_code_128 16 rfl rfl) rfl (lv_at hl 2 rfl) ?_
      refine zget (ci := 14) (C := RX14) (T := TX14) (v := .int (iI (F 14 0 12))) (k := 12) hx hb hts inW_14 hown hK hZ (by decide) (by decide) rfl (by decide) k_11_10 rfl (D_180 W_prog_15_method_26_code_128 17 rfl rfl rfl) ?_
      obtain ⟨g29, hf⟩ := gif hf
      refine zald (ci := 14) (k := 9) hx hb hK rfl hZ (by decide) (by decide) rfl (Nat.le_of_ble_eq_true rfl) g29.1 g29.2 (D_46 W_prog_15_method_26_code_128 20 rfl rfl) ?_
      refine zmul hx hb (D_104 W_prog_15_method_26_code_128 21 rfl rfl) ?_
      refine lv_aload_n hx hb (D_42 W_prog_15_method_26_code_128 22 rfl rfl) rfl (lv_at hl 2 rfl) ?_
      refine lv_iload hx hb (D_21 W_prog_15_method_26_code_128 23 rfl rfl) (lv_at hl 0 rfl) ?_
      obtain ⟨r30, F30, B30, hc30, hf⟩ := gbind hf
      refine va_calli (va_runV (As := [.int (iI l7)]) (rest := [.int (iI (10 * (B 14 0 9 (F 14 0 12)))), .int (iI (F 14 0 12)), .ref (ad 14 0 (9 + 1))]) ⟨hx, hb, hml, hown, hts⟩ (c_M_byteAt (l := l) hc30) (cwV 1 hts (gdV k_13_23 k_13_25 ks_154 k_1_9 k_13_26) rfl rfl rfl (by decide +kernel) ⟨Nat.le_of_ble_eq_true rfl, Nat.le_of_ble_eq_true rfl⟩) (zPV X hZ hS (ci := 14) (by decide) (by decide) (r := (RX14, TX14, 107)) rfl [.int (iI l7)]) rfl rfl hl.1 rfl (lv_room (Nat.le_of_ble_eq_true rfl)) (D_182 W_prog_15_method_26_code_128 25 rfl rfl rfl) ⟨Nat.le_of_ble_eq_true rfl, Nat.le_of_ble_eq_true rfl⟩) hS (fun q _ h => zAin X hS q h) (zAin X hS) (fun p30 u30 t30 H30 locs30 ht30 hv30 hw30 hB30 hz30 hk30 hS30 => ?_)
      have hZ30 := zBack X ht30 hB30
      subst hw30
      refine zadd hx hb (D_96 W_prog_15_method_26_code_128 28 rfl rfl) ?_
      refine lv_bipush (v := iI 48) hx hb (D_16 W_prog_15_method_26_code_128 29 rfl rfl rfl) (by decide) ?_
      refine zsub hx hb (D_100 W_prog_15_method_26_code_128 31 rfl rfl) ?_
      refine zast (ci := 14) (k := 9) hx hb hK rfl hZ30 hS30 (by decide) (by decide) rfl (Nat.le_of_ble_eq_true rfl) g29.1 g29.2 (D_79 W_prog_15_method_26_code_160 0 rfl rfl) (fun H31 locs31 hZ31 hS31 => ?_)
      refine lv_iinc (v := iI (l7 + 1)) (lv' := [(7, .int (iI (l7 + 1))), (2, .int (iI l2)), (0, .ref (ad 14 0 0))]) hx hb d_15_26_161 hl (k := 0) rfl (iI_add _ 1) (by decide) rfl (fun ls hl => ?_)
      refine lv_goto (tgt := 124) hx hb (D_167 W_prog_15_method_26_code_160 4 rfl rfl rfl) (by decide) ?_
      exact ih hf hZ31 hS31 (lv_sub hl [0, 1, 2] rfl)

def f_M_cutRun_77 (K : Nat) (l5 : Int) (l4 : Int) (l3 : Int) (l2 : Int) (l1 : Int) (F : zF) (B : zB) : zO := if 0 ≤ (F 14 0 12) ∧ (F 14 0 12) < 3001 then if r32 l4 then if r32 (l2 - l1) then (if l4 = (l2 - l1) then (if 4 < l4 then f_M_cutRun_170 K l5 l3 l2 l1 F (zup4 B 14 0 7 (F 14 0 12) 1) else f_M_cutRun_124 K K l1 l2 F (zup4 (zup4 (zup4 B 14 0 7 (F 14 0 12) 1) 14 0 7 (F 14 0 12) 3) 14 0 9 (F 14 0 12) 0)) else f_M_cutRun_170 K l5 l3 l2 l1 F (zup4 B 14 0 7 (F 14 0 12) 1)) else none else none else none
set_option maxHeartbeats 4000000 in
set_option maxRecDepth 100000 in
theorem b_M_cutRun_77 {D : va_G} {ca : Nat → ClassId} {ad : Nat → Int → Nat → Nat} {L : List Nat} {aS vS : Nat → Nat} {A : Nat → Prop} {p : Program} {l : Launch} {e : Env} {s : State} {m : MethodId} {args : Array Value} {below : List Frame} {meth : Method} {c : Code} {K : Nat} {r : Int} {F9 : zF} {B9 : zB} (X : zX D ca L aS vS A p s m args meth c prog_15_method_26_code 8 (Option.some Jvm.ClassFile.FieldType.int) "StaveHouseModel") {l5 : Int} {l4 : Int} {l3 : Int} {l2 : Int} {l1 : Int} {F : zF} {B : zB} {H : Heap} {locs : List Loc} {ls : Array Slot} (hf : f_M_cutRun_77 K l5 l4 l3 l2 l1 F B = some (r, F9, B9)) (hZ : zH D ca ad lnM nM L F B A H) (hS : va_S A s.heap H locs) (hl : lv_has ls 8 [(5, .long (lI l5)), (4, .int (iI l4)), (3, .int (iI l3)), (2, .int (iI l2)), (0, .ref (ad 14 0 0)), (1, .int (iI l1))]) : W p l e ({ frames := 3, cells := 0, slots := 0, locals := 70 } : Room) s m args below meth c H locs 0 0 (MQ below (Q_M_cutRun D ca ad L r F9 B9 A) args s 0 0 A) (F0 m 77 ls []) := by
  obtain ⟨hx, hb, hr, hml, hown, hts, hlk, hK, hA, hL, hX⟩ := id X
  replace hf : (if 0 ≤ (F 14 0 12) ∧ (F 14 0 12) < 3001 then if r32 l4 then if r32 (l2 - l1) then (if l4 = (l2 - l1) then (if 4 < l4 then f_M_cutRun_170 K l5 l3 l2 l1 F (zup4 B 14 0 7 (F 14 0 12) 1) else f_M_cutRun_124 K K l1 l2 F (zup4 (zup4 (zup4 B 14 0 7 (F 14 0 12) 1) 14 0 7 (F 14 0 12) 3) 14 0 9 (F 14 0 12) 0)) else f_M_cutRun_170 K l5 l3 l2 l1 F (zup4 B 14 0 7 (F 14 0 12) 1)) else none else none else none) = some (r, F9, B9) := hf
  refine lv_aload_n hx hb (D_42 W_prog_15_method_26_code_64 13 rfl rfl) rfl (lv_at hl 4 rfl) ?_
  refine zget (ci := 14) (C := RX14) (T := TX14) (v := .ref (ad 14 0 (7 + 1))) (k := 7) hx hb hts inW_14 hown hK hZ (by decide) (by decide) rfl (by decide) k_11_5 rfl (D_180 W_prog_15_method_26_code_64 14 rfl rfl rfl) ?_
  refine lv_aload_n hx hb (D_42 W_prog_15_method_26_code_64 17 rfl rfl) rfl (lv_at hl 4 rfl) ?_
  refine zget (ci := 14) (C := RX14) (T := TX14) (v := .int (iI (F 14 0 12))) (k := 12) hx hb hts inW_14 hown hK hZ (by decide) (by decide) rfl (by decide) k_11_10 rfl (D_180 W_prog_15_method_26_code_64 18 rfl rfl rfl) ?_
  refine lv_iconst (v := iI 1) hx hb (D_4 W_prog_15_method_26_code_64 21 rfl rfl) rfl ?_
  obtain ⟨g18, hf⟩ := gif hf
  refine zast (ci := 14) (k := 7) hx hb hK rfl hZ hS (by decide) (by decide) rfl (Nat.le_of_ble_eq_true rfl) g18.1 g18.2 (D_79 W_prog_15_method_26_code_64 22 rfl rfl) (fun H19 locs19 hZ19 hS19 => ?_)
  refine lv_iload hx hb (D_21 W_prog_15_method_26_code_64 23 rfl rfl) (lv_at hl 1 rfl) ?_
  refine lv_iload_n hx hb (D_28 W_prog_15_method_26_code_64 25 rfl rfl) rfl (lv_at hl 3 rfl) ?_
  refine lv_iload_n hx hb (D_27 W_prog_15_method_26_code_64 26 rfl rfl) rfl (lv_at hl 5 rfl) ?_
  refine zsub hx hb (D_100 W_prog_15_method_26_code_64 27 rfl rfl) ?_
  obtain ⟨g20, hf⟩ := gif hf
  obtain ⟨g21, hf⟩ := gif hf
  refine zne (tgt := 170) hx hb g20 g21 (D_160 W_prog_15_method_26_code_64 28 rfl rfl rfl) (by decide) (fun h22 => ?_) (fun h22 => ?_)
  · replace hf := gneg hf h22
    exact b_M_cutRun_170 X hf hZ19 hS19 (lv_sub hl [0, 2, 3, 4, 5] rfl)
  · replace hf := gpos hf h22
    refine lv_iload hx hb (D_21 W_prog_15_method_26_code_64 31 rfl rfl) (lv_at hl 1 rfl) ?_
    refine lv_iconst (v := iI 4) hx hb (D_7 W_prog_15_method_26_code_96 1 rfl rfl) rfl ?_
    refine zgt (tgt := 170) hx hb g20 (by decide) (D_163 W_prog_15_method_26_code_96 2 rfl rfl rfl) (by decide) (fun h23 => ?_) (fun h23 => ?_)
    · replace hf := gpos hf h23
      exact b_M_cutRun_170 X hf hZ19 hS19 (lv_sub hl [0, 2, 3, 4, 5] rfl)
    · replace hf := gneg hf h23
      refine lv_aload_n hx hb (D_42 W_prog_15_method_26_code_96 5 rfl rfl) rfl (lv_at hl 4 rfl) ?_
      refine zget (ci := 14) (C := RX14) (T := TX14) (v := .ref (ad 14 0 (7 + 1))) (k := 7) hx hb hts inW_14 hown hK hZ19 (by decide) (by decide) rfl (by decide) k_11_5 rfl (D_180 W_prog_15_method_26_code_96 6 rfl rfl rfl) ?_
      refine lv_aload_n hx hb (D_42 W_prog_15_method_26_code_96 9 rfl rfl) rfl (lv_at hl 4 rfl) ?_
      refine zget (ci := 14) (C := RX14) (T := TX14) (v := .int (iI (F 14 0 12))) (k := 12) hx hb hts inW_14 hown hK hZ19 (by decide) (by decide) rfl (by decide) k_11_10 rfl (D_180 W_prog_15_method_26_code_96 10 rfl rfl rfl) ?_
      refine lv_iconst (v := iI 3) hx hb (D_6 W_prog_15_method_26_code_96 13 rfl rfl) rfl ?_
      refine zast (ci := 14) (k := 7) hx hb hK rfl hZ19 hS19 (by decide) (by decide) rfl (Nat.le_of_ble_eq_true rfl) g18.1 g18.2 (D_79 W_prog_15_method_26_code_96 14 rfl rfl) (fun H24 locs24 hZ24 hS24 => ?_)
      refine lv_aload_n hx hb (D_42 W_prog_15_method_26_code_96 15 rfl rfl) rfl (lv_at hl 4 rfl) ?_
      refine zget (ci := 14) (C := RX14) (T := TX14) (v := .ref (ad 14 0 (9 + 1))) (k := 9) hx hb hts inW_14 hown hK hZ24 (by decide) (by decide) rfl (by decide) k_11_7 rfl (D_180 W_prog_15_method_26_code_96 16 rfl rfl rfl) ?_
      refine lv_aload_n hx hb (D_42 W_prog_15_method_26_code_96 19 rfl rfl) rfl (lv_at hl 4 rfl) ?_
      refine zget (ci := 14) (C := RX14) (T := TX14) (v := .int (iI (F 14 0 12))) (k := 12) hx hb hts inW_14 hown hK hZ24 (by decide) (by decide) rfl (by decide) k_11_10 rfl (D_180 W_prog_15_method_26_code_96 20 rfl rfl rfl) ?_
      refine lv_iconst (v := iI 0) hx hb (D_3 W_prog_15_method_26_code_96 23 rfl rfl) rfl ?_
      refine zast (ci := 14) (k := 9) hx hb hK rfl hZ24 hS24 (by decide) (by decide) rfl (Nat.le_of_ble_eq_true rfl) g18.1 g18.2 (D_79 W_prog_15_method_26_code_96 24 rfl rfl) (fun H25 locs25 hZ25 hS25 => ?_)
      refine lv_iload_n hx hb (D_27 W_prog_15_method_26_code_96 25 rfl rfl) rfl (lv_at hl 5 rfl) ?_
      refine lv_istore (lv' := [(7, .int (iI l1)), (5, .long (lI l5)), (4, .int (iI l4)), (3, .int (iI l3)), (2, .int (iI l2)), (0, .ref (ad 14 0 0)), (1, .int (iI l1))]) hx hb (D_54 W_prog_15_method_26_code_96 26 rfl rfl) hl (by decide) rfl (fun ls hl => ?_)
      exact b_M_cutRun_124 X hf hZ25 hS25 (lv_sub hl [0, 4, 5] rfl)

def f_M_cutRun_57 (rec10 : Int → Int → Int → Int → Int → zF → zB → zO) (K : Nat) (l5 : Int) (l4 : Int) (l3 : Int) (l2 : Int) (l1 : Int) (F : zF) (B : zB) : zO := zbind (f_M_byteAt K l2 F B) (fun r16 F16 B16 => if r32 r16 then rec10 (zlor (zlshl l5 8) r16) l4 l3 (l2 + 1) l1 F16 B16 else none)
set_option maxHeartbeats 4000000 in
set_option maxRecDepth 100000 in
theorem b_M_cutRun_57 {D : va_G} {ca : Nat → ClassId} {ad : Nat → Int → Nat → Nat} {L : List Nat} {aS vS : Nat → Nat} {A : Nat → Prop} {p : Program} {l : Launch} {e : Env} {s : State} {m : MethodId} {args : Array Value} {below : List Frame} {meth : Method} {c : Code} {K : Nat} {r : Int} {F9 : zF} {B9 : zB} (X : zX D ca L aS vS A p s m args meth c prog_15_method_26_code 8 (Option.some Jvm.ClassFile.FieldType.int) "StaveHouseModel") {rec10 : Int → Int → Int → Int → Int → zF → zB → zO} (hrec10 : ∀ {l5 : Int} {l4 : Int} {l3 : Int} {l2 : Int} {l1 : Int} {F : zF} {B : zB} {H : Heap} {locs : List Loc} {ls : Array Slot}, rec10 l5 l4 l3 l2 l1 F B = some (r, F9, B9) → zH D ca ad lnM nM L F B A H → va_S A s.heap H locs → lv_has ls 8 [(5, .long (lI l5)), (4, .int (iI l4)), (3, .int (iI l3)), (2, .int (iI l2)), (0, .ref (ad 14 0 0)), (1, .int (iI l1))] → W p l e ({ frames := 3, cells := 0, slots := 0, locals := 70 } : Room) s m args below meth c H locs 0 0 (MQ below (Q_M_cutRun D ca ad L r F9 B9 A) args s 0 0 A) (F0 m 10 ls [])) {l5 : Int} {l4 : Int} {l3 : Int} {l2 : Int} {l1 : Int} {F : zF} {B : zB} {H : Heap} {locs : List Loc} {ls : Array Slot} (hf : f_M_cutRun_57 rec10 K l5 l4 l3 l2 l1 F B = some (r, F9, B9)) (hZ : zH D ca ad lnM nM L F B A H) (hS : va_S A s.heap H locs) (hl : lv_has ls 8 [(5, .long (lI l5)), (4, .int (iI l4)), (3, .int (iI l3)), (2, .int (iI l2)), (0, .ref (ad 14 0 0)), (1, .int (iI l1))]) : W p l e ({ frames := 3, cells := 0, slots := 0, locals := 70 } : Room) s m args below meth c H locs 0 0 (MQ below (Q_M_cutRun D ca ad L r F9 B9 A) args s 0 0 A) (F0 m 57 ls []) := by
  obtain ⟨hx, hb, hr, hml, hown, hts, hlk, hK, hA, hL, hX⟩ := id X
  replace hf : (zbind (f_M_byteAt K l2 F B) (fun r16 F16 B16 => if r32 r16 then rec10 (zlor (zlshl l5 8) r16) l4 l3 (l2 + 1) l1 F16 B16 else none)) = some (r, F9, B9) := hf
  refine lv_lload hx hb (D_22 W_prog_15_method_26_code_32 25 rfl rfl) (lv_at hl 0 rfl) ?_
  refine lv_bipush (v := iI 8) hx hb (D_16 W_prog_15_method_26_code_32 27 rfl rfl rfl) (by decide) ?_
  refine zlshl_r hx hb (D_121 W_prog_15_method_26_code_32 29 rfl rfl) ?_
  refine lv_aload_n hx hb (D_42 W_prog_15_method_26_code_32 30 rfl rfl) rfl (lv_at hl 4 rfl) ?_
  refine lv_iload_n hx hb (D_28 W_prog_15_method_26_code_32 31 rfl rfl) rfl (lv_at hl 3 rfl) ?_
  obtain ⟨r16, F16, B16, hc16, hf⟩ := gbind hf
  refine va_calli (va_runV (As := [.int (iI l2)]) (rest := [.long (lI (zlshl l5 8))]) ⟨hx, hb, hml, hown, hts⟩ (c_M_byteAt (l := l) hc16) (cwV 1 hts (gdV k_13_23 k_13_25 ks_154 k_1_9 k_13_26) rfl rfl rfl (by decide +kernel) ⟨Nat.le_of_ble_eq_true rfl, Nat.le_of_ble_eq_true rfl⟩) (zPV X hZ hS (ci := 14) (by decide) (by decide) (r := (RX14, TX14, 107)) rfl [.int (iI l2)]) rfl rfl hl.1 rfl (lv_room (Nat.le_of_ble_eq_true rfl)) (D_182 W_prog_15_method_26_code_64 0 rfl rfl rfl) ⟨Nat.le_of_ble_eq_true rfl, Nat.le_of_ble_eq_true rfl⟩) hS (fun q _ h => zAin X hS q h) (zAin X hS) (fun p16 u16 t16 H16 locs16 ht16 hv16 hw16 hB16 hz16 hk16 hS16 => ?_)
  have hZ16 := zBack X ht16 hB16
  subst hw16
  obtain ⟨g17, hf⟩ := gif hf
  refine zi2l hx hb g17 (D_133 W_prog_15_method_26_code_64 3 rfl rfl) ?_
  refine zlor_r hx hb (D_129 W_prog_15_method_26_code_64 4 rfl rfl) ?_
  refine lv_lstore (lv' := [(5, .long (lI (zlor (zlshl l5 8) r16))), (4, .int (iI l4)), (3, .int (iI l3)), (2, .int (iI l2)), (0, .ref (ad 14 0 0)), (1, .int (iI l1))]) hx hb (D_55 W_prog_15_method_26_code_64 5 rfl rfl) hl (by decide) rfl (fun ls hl => ?_)
  refine lv_iinc (v := iI (l2 + 1)) (lv' := [(2, .int (iI (l2 + 1))), (5, .long (lI (zlor (zlshl l5 8) r16))), (4, .int (iI l4)), (3, .int (iI l3)), (0, .ref (ad 14 0 0)), (1, .int (iI l1))]) hx hb d_15_26_71 hl (k := 3) rfl (iI_add _ 1) (by decide) rfl (fun ls hl => ?_)
  refine lv_goto (tgt := 10) hx hb (D_167 W_prog_15_method_26_code_64 10 rfl rfl rfl) (by decide) ?_
  exact hrec10 hf hZ16 hS16 (lv_sub hl [1, 2, 3, 0, 4, 5] rfl)

def f_M_cutRun_43 (rec10 : Int → Int → Int → Int → Int → zF → zB → zO) (K : Nat) (l5 : Int) (l4 : Int) (l3 : Int) (l2 : Int) (l1 : Int) (F : zF) (B : zB) : zO := zbind (f_M_byteAt K l2 F B) (fun r12 F12 B12 => zbind (f_M_isDigit K r12 F12 B12) (fun r13 F13 B13 => if r32 r13 then (if r13 = 0 then f_M_cutRun_57 rec10 K l5 l4 l3 l2 l1 F13 B13 else f_M_cutRun_57 rec10 K l5 (l4 + 1) l3 l2 l1 F13 B13) else none))
set_option maxHeartbeats 4000000 in
set_option maxRecDepth 100000 in
theorem b_M_cutRun_43 {D : va_G} {ca : Nat → ClassId} {ad : Nat → Int → Nat → Nat} {L : List Nat} {aS vS : Nat → Nat} {A : Nat → Prop} {p : Program} {l : Launch} {e : Env} {s : State} {m : MethodId} {args : Array Value} {below : List Frame} {meth : Method} {c : Code} {K : Nat} {r : Int} {F9 : zF} {B9 : zB} (X : zX D ca L aS vS A p s m args meth c prog_15_method_26_code 8 (Option.some Jvm.ClassFile.FieldType.int) "StaveHouseModel") {rec10 : Int → Int → Int → Int → Int → zF → zB → zO} (hrec10 : ∀ {l5 : Int} {l4 : Int} {l3 : Int} {l2 : Int} {l1 : Int} {F : zF} {B : zB} {H : Heap} {locs : List Loc} {ls : Array Slot}, rec10 l5 l4 l3 l2 l1 F B = some (r, F9, B9) → zH D ca ad lnM nM L F B A H → va_S A s.heap H locs → lv_has ls 8 [(5, .long (lI l5)), (4, .int (iI l4)), (3, .int (iI l3)), (2, .int (iI l2)), (0, .ref (ad 14 0 0)), (1, .int (iI l1))] → W p l e ({ frames := 3, cells := 0, slots := 0, locals := 70 } : Room) s m args below meth c H locs 0 0 (MQ below (Q_M_cutRun D ca ad L r F9 B9 A) args s 0 0 A) (F0 m 10 ls [])) {l5 : Int} {l4 : Int} {l3 : Int} {l2 : Int} {l1 : Int} {F : zF} {B : zB} {H : Heap} {locs : List Loc} {ls : Array Slot} (hf : f_M_cutRun_43 rec10 K l5 l4 l3 l2 l1 F B = some (r, F9, B9)) (hZ : zH D ca ad lnM nM L F B A H) (hS : va_S A s.heap H locs) (hl : lv_has ls 8 [(5, .long (lI l5)), (4, .int (iI l4)), (3, .int (iI l3)), (2, .int (iI l2)), (0, .ref (ad 14 0 0)), (1, .int (iI l1))]) : W p l e ({ frames := 3, cells := 0, slots := 0, locals := 70 } : Room) s m args below meth c H locs 0 0 (MQ below (Q_M_cutRun D ca ad L r F9 B9 A) args s 0 0 A) (F0 m 43 ls []) := by
  obtain ⟨hx, hb, hr, hml, hown, hts, hlk, hK, hA, hL, hX⟩ := id X
  replace hf : (zbind (f_M_byteAt K l2 F B) (fun r12 F12 B12 => zbind (f_M_isDigit K r12 F12 B12) (fun r13 F13 B13 => if r32 r13 then (if r13 = 0 then f_M_cutRun_57 rec10 K l5 l4 l3 l2 l1 F13 B13 else f_M_cutRun_57 rec10 K l5 (l4 + 1) l3 l2 l1 F13 B13) else none))) = some (r, F9, B9) := hf
  refine lv_aload_n hx hb (D_42 W_prog_15_method_26_code_32 11 rfl rfl) rfl (lv_at hl 4 rfl) ?_
  refine lv_iload_n hx hb (D_28 W_prog_15_method_26_code_32 12 rfl rfl) rfl (lv_at hl 3 rfl) ?_
  obtain ⟨r12, F12, B12, hc12, hf⟩ := gbind hf
  refine va_calli (va_runV (As := [.int (iI l2)]) (rest := []) ⟨hx, hb, hml, hown, hts⟩ (c_M_byteAt (l := l) hc12) (cwV 1 hts (gdV k_13_23 k_13_25 ks_154 k_1_9 k_13_26) rfl rfl rfl (by decide +kernel) ⟨Nat.le_of_ble_eq_true rfl, Nat.le_of_ble_eq_true rfl⟩) (zPV X hZ hS (ci := 14) (by decide) (by decide) (r := (RX14, TX14, 107)) rfl [.int (iI l2)]) rfl rfl hl.1 rfl (lv_room (Nat.le_of_ble_eq_true rfl)) (D_182 W_prog_15_method_26_code_32 13 rfl rfl rfl) ⟨Nat.le_of_ble_eq_true rfl, Nat.le_of_ble_eq_true rfl⟩) hS (fun q _ h => zAin X hS q h) (zAin X hS) (fun p12 u12 t12 H12 locs12 ht12 hv12 hw12 hB12 hz12 hk12 hS12 => ?_)
  have hZ12 := zBack X ht12 hB12
  subst hw12
  obtain ⟨r13, F13, B13, hc13, hf⟩ := gbind hf
  refine va_calli (va_runS (As := [.int (iI r12)]) (rest := []) ⟨hx, hb, hml, hown, hts⟩ (c_M_isDigit (l := l) hc13) (va_cwS 1 hts (gdS k_14_93 k_14_94 k_1_9 k_14_95) rfl rfl rfl (by decide +kernel) ⟨Nat.le_of_ble_eq_true rfl, Nat.le_of_ble_eq_true rfl⟩) (zPS X hZ12 hS12 [.int (iI r12)]) rfl rfl hl.1 rfl (lv_room (Nat.le_of_ble_eq_true rfl)) (D_184 W_prog_15_method_26_code_32 16 rfl rfl rfl) ⟨Nat.le_of_ble_eq_true rfl, Nat.le_of_ble_eq_true rfl⟩) hS12 (fun q _ h => zAin X hS12 q h) (zAin X hS12) (fun p13 u13 t13 H13 locs13 ht13 hv13 hw13 hB13 hz13 hk13 hS13 => ?_)
  have hZ13 := zBack X ht13 hB13
  subst hw13
  obtain ⟨g14, hf⟩ := gif hf
  refine z0eq (tgt := 57) hx hb g14 (D_153 W_prog_15_method_26_code_32 19 rfl rfl rfl) (by decide) (fun h15 => ?_) (fun h15 => ?_)
  · replace hf := gpos hf h15
    exact b_M_cutRun_57 X hrec10 hf hZ13 hS13 (lv_sub hl [0, 1, 2, 3, 4, 5] rfl)
  · replace hf := gneg hf h15
    refine lv_iinc (v := iI (l4 + 1)) (lv' := [(4, .int (iI (l4 + 1))), (5, .long (lI l5)), (3, .int (iI l3)), (2, .int (iI l2)), (0, .ref (ad 14 0 0)), (1, .int (iI l1))]) hx hb d_15_26_54 hl (k := 1) rfl (iI_add _ 1) (by decide) rfl (fun ls hl => ?_)
    exact b_M_cutRun_57 X hrec10 hf hZ13 hS13 (lv_sub hl [1, 0, 2, 3, 4, 5] rfl)

def f_M_cutRun_10 (K : Nat) : Nat → Int → Int → Int → Int → Int → zF → zB → zO
  | 0, _, _, _, _, _, _, _ => none
  | n + 1, l5, l4, l3, l2, l1, F, B => if r32 l2 then if r32 (F 14 0 3) then (if (F 14 0 3) ≤ l2 then f_M_cutRun_77 K l5 l4 l3 l2 l1 F B else zbind (f_M_byteAt K l2 F B) (fun r4 F4 B4 => zbind (f_M_isRun K r4 F4 B4) (fun r5 F5 B5 => if r32 r5 then (if r5 = 0 then f_M_cutRun_77 K l5 l4 l3 l2 l1 F5 B5 else zbind (f_M_byteAt K l2 F5 B5) (fun r8 F8 B8 => zbind (f_M_isLetter K r8 F8 B8) (fun r9 F9 B9 => if r32 r9 then (if r9 = 0 then f_M_cutRun_43 (f_M_cutRun_10 K n) K l5 l4 l3 l2 l1 F9 B9 else f_M_cutRun_43 (f_M_cutRun_10 K n) K l5 l4 (l3 + 1) l2 l1 F9 B9) else none))) else none))) else none else none
set_option maxHeartbeats 4000000 in
set_option maxRecDepth 100000 in
theorem b_M_cutRun_10 {D : va_G} {ca : Nat → ClassId} {ad : Nat → Int → Nat → Nat} {L : List Nat} {aS vS : Nat → Nat} {A : Nat → Prop} {p : Program} {l : Launch} {e : Env} {s : State} {m : MethodId} {args : Array Value} {below : List Frame} {meth : Method} {c : Code} {K : Nat} {r : Int} {F9 : zF} {B9 : zB} (X : zX D ca L aS vS A p s m args meth c prog_15_method_26_code 8 (Option.some Jvm.ClassFile.FieldType.int) "StaveHouseModel") : ∀ {n : Nat} {l5 : Int} {l4 : Int} {l3 : Int} {l2 : Int} {l1 : Int} {F : zF} {B : zB} {H : Heap} {locs : List Loc} {ls : Array Slot}, f_M_cutRun_10 K n l5 l4 l3 l2 l1 F B = some (r, F9, B9) → zH D ca ad lnM nM L F B A H → va_S A s.heap H locs → lv_has ls 8 [(5, .long (lI l5)), (4, .int (iI l4)), (3, .int (iI l3)), (2, .int (iI l2)), (0, .ref (ad 14 0 0)), (1, .int (iI l1))] → W p l e ({ frames := 3, cells := 0, slots := 0, locals := 70 } : Room) s m args below meth c H locs 0 0 (MQ below (Q_M_cutRun D ca ad L r F9 B9 A) args s 0 0 A) (F0 m 10 ls []) := by
  obtain ⟨hx, hb, hr, hml, hown, hts, hlk, hK, hA, hL, hX⟩ := id X
  intro n
  induction n with
  | zero =>
    intros
    rename_i hf _ _ _
    cases hf
  | succ n ih =>
    intro l5 l4 l3 l2 l1 F B H locs ls hf hZ hS hl
    replace hf : (if r32 l2 then if r32 (F 14 0 3) then (if (F 14 0 3) ≤ l2 then f_M_cutRun_77 K l5 l4 l3 l2 l1 F B else zbind (f_M_byteAt K l2 F B) (fun r4 F4 B4 => zbind (f_M_isRun K r4 F4 B4) (fun r5 F5 B5 => if r32 r5 then (if r5 = 0 then f_M_cutRun_77 K l5 l4 l3 l2 l1 F5 B5 else zbind (f_M_byteAt K l2 F5 B5) (fun r8 F8 B8 => zbind (f_M_isLetter K r8 F8 B8) (fun r9 F9 B9 => if r32 r9 then (if r9 = 0 then f_M_cutRun_43 (f_M_cutRun_10 K n) K l5 l4 l3 l2 l1 F9 B9 else f_M_cutRun_43 (f_M_cutRun_10 K n) K l5 l4 (l3 + 1) l2 l1 F9 B9) else none))) else none))) else none else none) = some (r, F9, B9) := hf
    refine lv_iload_n hx hb (D_28 W_prog_15_method_26_code_0 10 rfl rfl) rfl (lv_at hl 3 rfl) ?_
    refine lv_aload_n hx hb (D_42 W_prog_15_method_26_code_0 11 rfl rfl) rfl (lv_at hl 4 rfl) ?_
    refine zget (ci := 14) (C := RX14) (T := TX14) (v := .int (iI (F 14 0 3))) (k := 3) hx hb hts inW_14 hown hK hZ (by decide) (by decide) rfl (by decide) k_11_1 rfl (D_180 W_prog_15_method_26_code_0 12 rfl rfl rfl) ?_
    obtain ⟨g1, hf⟩ := gif hf
    obtain ⟨g2, hf⟩ := gif hf
    refine zge (tgt := 77) hx hb g1 g2 (D_162 W_prog_15_method_26_code_0 15 rfl rfl rfl) (by decide) (fun h3 => ?_) (fun h3 => ?_)
    · replace hf := gpos hf h3
      exact b_M_cutRun_77 X hf hZ hS (lv_sub hl [0, 1, 2, 3, 4, 5] rfl)
    · replace hf := gneg hf h3
      refine lv_aload_n hx hb (D_42 W_prog_15_method_26_code_0 18 rfl rfl) rfl (lv_at hl 4 rfl) ?_
      refine lv_iload_n hx hb (D_28 W_prog_15_method_26_code_0 19 rfl rfl) rfl (lv_at hl 3 rfl) ?_
      obtain ⟨r4, F4, B4, hc4, hf⟩ := gbind hf
      refine va_calli (va_runV (As := [.int (iI l2)]) (rest := []) ⟨hx, hb, hml, hown, hts⟩ (c_M_byteAt (l := l) hc4) (cwV 1 hts (gdV k_13_23 k_13_25 ks_154 k_1_9 k_13_26) rfl rfl rfl (by decide +kernel) ⟨Nat.le_of_ble_eq_true rfl, Nat.le_of_ble_eq_true rfl⟩) (zPV X hZ hS (ci := 14) (by decide) (by decide) (r := (RX14, TX14, 107)) rfl [.int (iI l2)]) rfl rfl hl.1 rfl (lv_room (Nat.le_of_ble_eq_true rfl)) (D_182 W_prog_15_method_26_code_0 20 rfl rfl rfl) ⟨Nat.le_of_ble_eq_true rfl, Nat.le_of_ble_eq_true rfl⟩) hS (fun q _ h => zAin X hS q h) (zAin X hS) (fun p4 u4 t4 H4 locs4 ht4 hv4 hw4 hB4 hz4 hk4 hS4 => ?_)
      have hZ4 := zBack X ht4 hB4
      subst hw4
      obtain ⟨r5, F5, B5, hc5, hf⟩ := gbind hf
      refine va_calli (va_runS (As := [.int (iI r4)]) (rest := []) ⟨hx, hb, hml, hown, hts⟩ (c_M_isRun (l := l) hc5) (va_cwS 1 hts (gdS k_14_87 k_14_88 k_1_9 k_14_89) rfl rfl rfl (by decide +kernel) ⟨Nat.le_of_ble_eq_true rfl, Nat.le_of_ble_eq_true rfl⟩) (zPS X hZ4 hS4 [.int (iI r4)]) rfl rfl hl.1 rfl (lv_room (Nat.le_of_ble_eq_true rfl)) (D_184 W_prog_15_method_26_code_0 23 rfl rfl rfl) ⟨Nat.le_of_ble_eq_true rfl, Nat.le_of_ble_eq_true rfl⟩) hS4 (fun q _ h => zAin X hS4 q h) (zAin X hS4) (fun p5 u5 t5 H5 locs5 ht5 hv5 hw5 hB5 hz5 hk5 hS5 => ?_)
      have hZ5 := zBack X ht5 hB5
      subst hw5
      obtain ⟨g6, hf⟩ := gif hf
      refine z0eq (tgt := 77) hx hb g6 (D_153 W_prog_15_method_26_code_0 26 rfl rfl rfl) (by decide) (fun h7 => ?_) (fun h7 => ?_)
      · replace hf := gpos hf h7
        exact b_M_cutRun_77 X hf hZ5 hS5 (lv_sub hl [0, 1, 2, 3, 4, 5] rfl)
      · replace hf := gneg hf h7
        refine lv_aload_n hx hb (D_42 W_prog_15_method_26_code_0 29 rfl rfl) rfl (lv_at hl 4 rfl) ?_
        refine lv_iload_n hx hb (D_28 W_prog_15_method_26_code_0 30 rfl rfl) rfl (lv_at hl 3 rfl) ?_
        obtain ⟨r8, F8, B8, hc8, hf⟩ := gbind hf
        refine va_calli (va_runV (As := [.int (iI l2)]) (rest := []) ⟨hx, hb, hml, hown, hts⟩ (c_M_byteAt (l := l) hc8) (cwV 1 hts (gdV k_13_23 k_13_25 ks_154 k_1_9 k_13_26) rfl rfl rfl (by decide +kernel) ⟨Nat.le_of_ble_eq_true rfl, Nat.le_of_ble_eq_true rfl⟩) (zPV X hZ5 hS5 (ci := 14) (by decide) (by decide) (r := (RX14, TX14, 107)) rfl [.int (iI l2)]) rfl rfl hl.1 rfl (lv_room (Nat.le_of_ble_eq_true rfl)) (D_182 W_prog_15_method_26_code_0 31 rfl rfl rfl) ⟨Nat.le_of_ble_eq_true rfl, Nat.le_of_ble_eq_true rfl⟩) hS5 (fun q _ h => zAin X hS5 q h) (zAin X hS5) (fun p8 u8 t8 H8 locs8 ht8 hv8 hw8 hB8 hz8 hk8 hS8 => ?_)
        have hZ8 := zBack X ht8 hB8
        subst hw8
        obtain ⟨r9, F9, B9, hc9, hf⟩ := gbind hf
        refine va_calli (va_runS (As := [.int (iI r8)]) (rest := []) ⟨hx, hb, hml, hown, hts⟩ (c_M_isLetter (l := l) hc9) (va_cwS 1 hts (gdS k_14_90 k_14_91 k_1_9 k_14_92) rfl rfl rfl (by decide +kernel) ⟨Nat.le_of_ble_eq_true rfl, Nat.le_of_ble_eq_true rfl⟩) (zPS X hZ8 hS8 [.int (iI r8)]) rfl rfl hl.1 rfl (lv_room (Nat.le_of_ble_eq_true rfl)) (D_184 W_prog_15_method_26_code_32 2 rfl rfl rfl) ⟨Nat.le_of_ble_eq_true rfl, Nat.le_of_ble_eq_true rfl⟩) hS8 (fun q _ h => zAin X hS8 q h) (zAin X hS8) (fun p9 u9 t9 H9 locs9 ht9 hv9 hw9 hB9 hz9 hk9 hS9 => ?_)
        have hZ9 := zBack X ht9 hB9
        subst hw9
        obtain ⟨g10, hf⟩ := gif hf
        refine z0eq (tgt := 43) hx hb g10 (D_153 W_prog_15_method_26_code_32 5 rfl rfl rfl) (by decide) (fun h11 => ?_) (fun h11 => ?_)
        · replace hf := gpos hf h11
          exact b_M_cutRun_43 X ih hf hZ9 hS9 (lv_sub hl [0, 1, 2, 3, 4, 5] rfl)
        · replace hf := gneg hf h11
          refine lv_iinc (v := iI (l3 + 1)) (lv' := [(3, .int (iI (l3 + 1))), (5, .long (lI l5)), (4, .int (iI l4)), (2, .int (iI l2)), (0, .ref (ad 14 0 0)), (1, .int (iI l1))]) hx hb d_15_26_40 hl (k := 2) rfl (iI_add _ 1) (by decide) rfl (fun ls hl => ?_)
          exact b_M_cutRun_43 X ih hf hZ9 hS9 (lv_sub hl [1, 2, 0, 3, 4, 5] rfl)

def f_M_cutRun (K : Nat) (l1 : Int) (F : zF) (B : zB) : zO := f_M_cutRun_10 K K 0 0 0 l1 l1 F B
set_option maxHeartbeats 4000000 in
set_option maxRecDepth 100000 in
theorem c_M_cutRun {l : Launch} {D : va_G} {ca : Nat → ClassId} {ad : Nat → Int → Nat → Nat} {L : List Nat} {aS vS : Nat → Nat} {sz K : Nat}  {l1 : Int} {F F9 : zF} {B B9 : zB} {r : Int} (hf : f_M_cutRun K l1 F B = some (r, F9, B9)) : Met l ({ cls := "StaveHouseModel", name := "cutRun", desc := "(I)I" } : Jvm.MethodName) (Cond.code ({ cls := "StaveHouseModel", name := "cutRun", desc := "(I)I" } : Jvm.MethodName) prog_15_method_26_code 8 (Option.some Jvm.ClassFile.FieldType.int) :: wAll) ({ frames := 3, cells := 0, slots := 0, locals := 70 } : Room) (va_Pc [.ref (ad 14 0 0), .int (iI l1)] (zPre D ca ad lnM nM L aS vS F B sz)) (Q_M_cutRun D ca ad L r F9 B9 (zA L sz)) 0 0 (zA L sz) := by
  refine zMet (Qc := Q_M_cutRun D ca ad L r F9 B9) (lv := [(0, .ref (ad 14 0 0)), (1, .int (iI l1))]) (by decide) (Nat.le_of_ble_eq_true rfl) rfl (fun A p e s m below meth c ls X hZ hS hl => ?_)
  obtain ⟨hx, hb, hr, hml, hown, hts, hlk, hK, hA, hL, hX⟩ := id X
  replace hf : (f_M_cutRun_10 K K 0 0 0 l1 l1 F B) = some (r, F9, B9) := hf
  refine lv_iload_n hx hb (D_27 W_prog_15_method_26_code_0 0 rfl rfl) rfl (lv_at hl 1 rfl) ?_
  refine lv_istore_n (lv' := [(2, .int (iI l1)), (0, .ref (ad 14 0 0)), (1, .int (iI l1))]) hx hb (D_61 W_prog_15_method_26_code_0 1 rfl rfl) rfl hl (by decide) rfl (fun ls hl => ?_)
  refine lv_iconst (v := iI 0) hx hb (D_3 W_prog_15_method_26_code_0 2 rfl rfl) rfl ?_
  refine lv_istore_n (lv' := [(3, .int (iI 0)), (2, .int (iI l1)), (0, .ref (ad 14 0 0)), (1, .int (iI l1))]) hx hb (D_62 W_prog_15_method_26_code_0 3 rfl rfl) rfl hl (by decide) rfl (fun ls hl => ?_)
  refine lv_iconst (v := iI 0) hx hb (D_3 W_prog_15_method_26_code_0 4 rfl rfl) rfl ?_
  refine lv_istore (lv' := [(4, .int (iI 0)), (3, .int (iI 0)), (2, .int (iI l1)), (0, .ref (ad 14 0 0)), (1, .int (iI l1))]) hx hb (D_54 W_prog_15_method_26_code_0 5 rfl rfl) hl (by decide) rfl (fun ls hl => ?_)
  refine lv_lconst (v := lI 0) hx hb (D_9 W_prog_15_method_26_code_0 7 rfl rfl) (by decide) ?_
  refine lv_lstore (lv' := [(5, .long (lI 0)), (4, .int (iI 0)), (3, .int (iI 0)), (2, .int (iI l1)), (0, .ref (ad 14 0 0)), (1, .int (iI l1))]) hx hb (D_55 W_prog_15_method_26_code_0 8 rfl rfl) hl (by decide) rfl (fun ls hl => ?_)
  exact b_M_cutRun_10 X hf hZ hS (lv_sub hl [0, 1, 2, 3, 4, 5] rfl)

abbrev Q_M_wrong (D : va_G) (ca : Nat → ClassId) (ad : Nat → Int → Nat → Nat) (L : List Nat) (r : Int) (F : zF) (B : zB) (A : Nat → Prop) : Array Value → State → Outcome → State → Prop := va_Qv (S := Unit) (fun _ => True) (fun _ => zPo D ca ad lnM nM L F B A) A
def f_M_wrong_19 (K : Nat) (s1 : Int) (F : zF) (B : zB) : zO := zbind (f_M_fail K s1 F B) (fun r4 F4 B4 => some (0, F4, B4))
set_option maxHeartbeats 4000000 in
set_option maxRecDepth 100000 in
theorem b_M_wrong_19 {D : va_G} {ca : Nat → ClassId} {ad : Nat → Int → Nat → Nat} {L : List Nat} {aS vS : Nat → Nat} {A : Nat → Prop} {p : Program} {l : Launch} {e : Env} {s : State} {m : MethodId} {args : Array Value} {below : List Frame} {meth : Method} {c : Code} {K : Nat} {r : Int} {F9 : zF} {B9 : zB} (X : zX D ca L aS vS A p s m args meth c prog_15_method_31_code 1 (Option.none : Option Jvm.ClassFile.FieldType) "StaveHouseModel") {s1 : Int} {F : zF} {B : zB} {H : Heap} {locs : List Loc} {ls : Array Slot} (hf : f_M_wrong_19 K s1 F B = some (r, F9, B9)) (hZ : zH D ca ad lnM nM L F B A H) (hS : va_S A s.heap H locs) (hl : lv_has ls 1 []) : W p l e ({ frames := 2, cells := 0, slots := 0, locals := 43 } : Room) s m args below meth c H locs 0 0 (MQ below (Q_M_wrong D ca ad L r F9 B9 A) args s 0 0 A) (F0 m 19 ls [.int (iI s1), .ref (ad 14 0 0)]) := by
  obtain ⟨hx, hb, hr, hml, hown, hts, hlk, hK, hA, hL, hX⟩ := id X
  replace hf : (zbind (f_M_fail K s1 F B) (fun r4 F4 B4 => some (0, F4, B4))) = some (r, F9, B9) := hf
  obtain ⟨r4, F4, B4, hc4, hf⟩ := gbind hf
  refine va_callv (va_runV (As := [.int (iI s1)]) (rest := []) ⟨hx, hb, hml, hown, hts⟩ (c_M_fail (l := l) hc4) (cwV 1 hts (gdV k_14_128 k_14_130 ks_204 k_1_9 k_14_131) rfl rfl rfl (by decide +kernel) ⟨Nat.le_of_ble_eq_true rfl, Nat.le_of_ble_eq_true rfl⟩) (zPV X hZ hS (ci := 14) (by decide) (by decide) (r := (RX14, TX14, 107)) rfl [.int (iI s1)]) rfl rfl hl.1 rfl (lv_room (Nat.le_of_ble_eq_true rfl)) (D_182 W_prog_15_method_31_code_0 19 rfl rfl rfl) ⟨Nat.le_of_ble_eq_true rfl, Nat.le_of_ble_eq_true rfl⟩) hS (fun q _ h => zAin X hS q h) (zAin X hS) (fun u4 t4 H4 locs4 ht4 hv4 hw4 hB4 hz4 hk4 hS4 => ?_)
  have hZ4 := zBack X ht4 hB4
  cases hf
  exact W.vret hx hb hr (fun t ht hW => ⟨⟨(), rfl, trivial, by rw [ht]; exact hZ4, va_K.moved hW.alike hK⟩, hS4.F ht⟩) hS4.2.2 (D_177 W_prog_15_method_31_code_0 22 rfl rfl) hlk

def f_M_wrong (K : Nat)  (F : zF) (B : zB) : zO := if 0 ≤ (F 14 0 16) ∧ (F 14 0 16) < 3001 then if r32 (B 14 0 7 (F 14 0 16)) then (if (B 14 0 7 (F 14 0 16)) = 1 then f_M_wrong_19 K 1 F B else f_M_wrong_19 K 2 F B) else none else none
set_option maxHeartbeats 4000000 in
set_option maxRecDepth 100000 in
theorem c_M_wrong {l : Launch} {D : va_G} {ca : Nat → ClassId} {ad : Nat → Int → Nat → Nat} {L : List Nat} {aS vS : Nat → Nat} {sz K : Nat}   {F F9 : zF} {B B9 : zB} {r : Int} (hf : f_M_wrong K  F B = some (r, F9, B9)) : Met l ({ cls := "StaveHouseModel", name := "wrong", desc := "()V" } : Jvm.MethodName) (Cond.code ({ cls := "StaveHouseModel", name := "wrong", desc := "()V" } : Jvm.MethodName) prog_15_method_31_code 1 (Option.none : Option Jvm.ClassFile.FieldType) :: wAll) ({ frames := 2, cells := 0, slots := 0, locals := 43 } : Room) (va_Pc [.ref (ad 14 0 0)] (zPre D ca ad lnM nM L aS vS F B sz)) (Q_M_wrong D ca ad L r F9 B9 (zA L sz)) 0 0 (zA L sz) := by
  refine zMet (Qc := Q_M_wrong D ca ad L r F9 B9) (lv := [(0, .ref (ad 14 0 0))]) (by decide) (Nat.le_of_ble_eq_true rfl) rfl (fun A p e s m below meth c ls X hZ hS hl => ?_)
  obtain ⟨hx, hb, hr, hml, hown, hts, hlk, hK, hA, hL, hX⟩ := id X
  replace hf : (if 0 ≤ (F 14 0 16) ∧ (F 14 0 16) < 3001 then if r32 (B 14 0 7 (F 14 0 16)) then (if (B 14 0 7 (F 14 0 16)) = 1 then f_M_wrong_19 K 1 F B else f_M_wrong_19 K 2 F B) else none else none) = some (r, F9, B9) := hf
  refine lv_aload_n hx hb (D_42 W_prog_15_method_31_code_0 0 rfl rfl) rfl (lv_at hl 0 rfl) ?_
  refine lv_aload_n hx hb (D_42 W_prog_15_method_31_code_0 1 rfl rfl) rfl (lv_at hl 0 rfl) ?_
  refine zget (ci := 14) (C := RX14) (T := TX14) (v := .ref (ad 14 0 (7 + 1))) (k := 7) hx hb hts inW_14 hown hK hZ (by decide) (by decide) rfl (by decide) k_11_5 rfl (D_180 W_prog_15_method_31_code_0 2 rfl rfl rfl) ?_
  refine lv_aload_n hx hb (D_42 W_prog_15_method_31_code_0 5 rfl rfl) rfl (lv_at hl 0 rfl) ?_
  refine zget (ci := 14) (C := RX14) (T := TX14) (v := .int (iI (F 14 0 16))) (k := 16) hx hb hts inW_14 hown hK hZ (by decide) (by decide) rfl (by decide) k_11_14 rfl (D_180 W_prog_15_method_31_code_0 6 rfl rfl rfl) ?_
  obtain ⟨g1, hf⟩ := gif hf
  refine zald (ci := 14) (k := 7) hx hb hK rfl hZ (by decide) (by decide) rfl (Nat.le_of_ble_eq_true rfl) g1.1 g1.2 (D_46 W_prog_15_method_31_code_0 9 rfl rfl) ?_
  refine lv_iconst (v := iI 1) hx hb (D_4 W_prog_15_method_31_code_0 10 rfl rfl) rfl ?_
  obtain ⟨g2, hf⟩ := gif hf
  refine zne (tgt := 18) hx hb g2 (by decide) (D_160 W_prog_15_method_31_code_0 11 rfl rfl rfl) (by decide) (fun h3 => ?_) (fun h3 => ?_)
  · replace hf := gneg hf h3
    refine lv_iconst (v := iI 2) hx hb (D_5 W_prog_15_method_31_code_0 18 rfl rfl) rfl ?_
    exact b_M_wrong_19 X hf hZ hS (lv_sub hl [] rfl)
  · replace hf := gpos hf h3
    refine lv_iconst (v := iI 1) hx hb (D_4 W_prog_15_method_31_code_0 14 rfl rfl) rfl ?_
    refine lv_goto (tgt := 19) hx hb (D_167 W_prog_15_method_31_code_0 15 rfl rfl rfl) (by decide) ?_
    exact b_M_wrong_19 X hf hZ hS (lv_sub hl [] rfl)

abbrev Q_M_number (D : va_G) (ca : Nat → ClassId) (ad : Nat → Int → Nat → Nat) (L : List Nat) (r : Int) (F : zF) (B : zB) (A : Nat → Prop) : Array Value → State → Outcome → State → Prop := va_Qi (S := Unit) (fun p _ => p = iI r) (fun _ => zPo D ca ad lnM nM L F B A) A
def f_M_number_83 (K : Nat) (l4 : Int) (F : zF) (B : zB) : zO := some (l4, F, B)
set_option maxHeartbeats 4000000 in
set_option maxRecDepth 100000 in
theorem b_M_number_83 {D : va_G} {ca : Nat → ClassId} {ad : Nat → Int → Nat → Nat} {L : List Nat} {aS vS : Nat → Nat} {A : Nat → Prop} {p : Program} {l : Launch} {e : Env} {s : State} {m : MethodId} {args : Array Value} {below : List Frame} {meth : Method} {c : Code} {K : Nat} {r : Int} {F9 : zF} {B9 : zB} (X : zX D ca L aS vS A p s m args meth c prog_15_method_37_code 5 (Option.some Jvm.ClassFile.FieldType.int) "StaveHouseModel") {l4 : Int} {F : zF} {B : zB} {H : Heap} {locs : List Loc} {ls : Array Slot} (hf : f_M_number_83 K l4 F B = some (r, F9, B9)) (hZ : zH D ca ad lnM nM L F B A H) (hS : va_S A s.heap H locs) (hl : lv_has ls 5 [(4, .int (iI l4))]) : W p l e ({ frames := 3, cells := 0, slots := 0, locals := 63 } : Room) s m args below meth c H locs 0 0 (MQ below (Q_M_number D ca ad L r F9 B9 A) args s 0 0 A) (F0 m 83 ls []) := by
  obtain ⟨hx, hb, hr, hml, hown, hts, hlk, hK, hA, hL, hX⟩ := id X
  replace hf : (some (l4, F, B)) = some (r, F9, B9) := hf
  refine lv_iload hx hb (D_21 W_prog_15_method_37_code_64 19 rfl rfl) (lv_at hl 0 rfl) ?_
  cases hf
  exact W.iret hx hb hr (fun t ht hW => ⟨⟨_, (), rfl, rfl, by rw [ht]; exact hZ, va_K.moved hW.alike hK⟩, hS.F ht⟩) hS.2.2 (D_172 W_prog_15_method_37_code_64 21 rfl rfl) hlk

def f_M_number_73 (K : Nat) (l4 : Int) (F : zF) (B : zB) : zO := f_M_number_83 K l4 (zup3 F 14 0 16 ((F 14 0 16) + 1)) B
set_option maxHeartbeats 4000000 in
set_option maxRecDepth 100000 in
theorem b_M_number_73 {D : va_G} {ca : Nat → ClassId} {ad : Nat → Int → Nat → Nat} {L : List Nat} {aS vS : Nat → Nat} {A : Nat → Prop} {p : Program} {l : Launch} {e : Env} {s : State} {m : MethodId} {args : Array Value} {below : List Frame} {meth : Method} {c : Code} {K : Nat} {r : Int} {F9 : zF} {B9 : zB} (X : zX D ca L aS vS A p s m args meth c prog_15_method_37_code 5 (Option.some Jvm.ClassFile.FieldType.int) "StaveHouseModel") {l4 : Int} {F : zF} {B : zB} {H : Heap} {locs : List Loc} {ls : Array Slot} (hf : f_M_number_73 K l4 F B = some (r, F9, B9)) (hZ : zH D ca ad lnM nM L F B A H) (hS : va_S A s.heap H locs) (hl : lv_has ls 5 [(4, .int (iI l4)), (0, .ref (ad 14 0 0))]) : W p l e ({ frames := 3, cells := 0, slots := 0, locals := 63 } : Room) s m args below meth c H locs 0 0 (MQ below (Q_M_number D ca ad L r F9 B9 A) args s 0 0 A) (F0 m 73 ls []) := by
  obtain ⟨hx, hb, hr, hml, hown, hts, hlk, hK, hA, hL, hX⟩ := id X
  replace hf : (f_M_number_83 K l4 (zup3 F 14 0 16 ((F 14 0 16) + 1)) B) = some (r, F9, B9) := hf
  refine lv_aload_n hx hb (D_42 W_prog_15_method_37_code_64 9 rfl rfl) rfl (lv_at hl 1 rfl) ?_
  refine lv_dup hx hb (D_89 W_prog_15_method_37_code_64 10 rfl rfl) rfl ?_
  refine zget (ci := 14) (C := RX14) (T := TX14) (v := .int (iI (F 14 0 16))) (k := 16) hx hb hts inW_14 hown hK hZ (by decide) (by decide) rfl (by decide) k_11_14 rfl (D_180 W_prog_15_method_37_code_64 11 rfl rfl rfl) ?_
  refine lv_iconst (v := iI 1) hx hb (D_4 W_prog_15_method_37_code_64 14 rfl rfl) rfl ?_
  refine zadd hx hb (D_96 W_prog_15_method_37_code_64 15 rfl rfl) ?_
  refine zput (ci := 14) (C := RX14) (T := TX14) (k := 16) (v := ((F 14 0 16) + 1)) (w := .int (iI ((F 14 0 16) + 1))) hx hb hts inW_14 tyX14 tyX14_ok nmX14 hown hK hZ hS (by decide) (by decide) rfl (by decide) k_11_14 rfl (fun G h => congrArg (fun q => Value.int (iI q)) h) rfl rfl (zno (by decide)) (D_181 W_prog_15_method_37_code_64 16 rfl rfl rfl) (fun H18 locs18 hZ18 hS18 => ?_)
  exact b_M_number_83 X hf hZ18 hS18 (lv_sub hl [0] rfl)

def f_M_number_65 (K : Nat) (l4 : Int) (F : zF) (B : zB) : zO := zbind (f_M_fail K 5 F B) (fun r17 F17 B17 => f_M_number_83 K l4 F17 B17)
set_option maxHeartbeats 4000000 in
set_option maxRecDepth 100000 in
theorem b_M_number_65 {D : va_G} {ca : Nat → ClassId} {ad : Nat → Int → Nat → Nat} {L : List Nat} {aS vS : Nat → Nat} {A : Nat → Prop} {p : Program} {l : Launch} {e : Env} {s : State} {m : MethodId} {args : Array Value} {below : List Frame} {meth : Method} {c : Code} {K : Nat} {r : Int} {F9 : zF} {B9 : zB} (X : zX D ca L aS vS A p s m args meth c prog_15_method_37_code 5 (Option.some Jvm.ClassFile.FieldType.int) "StaveHouseModel") {l4 : Int} {F : zF} {B : zB} {H : Heap} {locs : List Loc} {ls : Array Slot} (hf : f_M_number_65 K l4 F B = some (r, F9, B9)) (hZ : zH D ca ad lnM nM L F B A H) (hS : va_S A s.heap H locs) (hl : lv_has ls 5 [(4, .int (iI l4)), (0, .ref (ad 14 0 0))]) : W p l e ({ frames := 3, cells := 0, slots := 0, locals := 63 } : Room) s m args below meth c H locs 0 0 (MQ below (Q_M_number D ca ad L r F9 B9 A) args s 0 0 A) (F0 m 65 ls []) := by
  obtain ⟨hx, hb, hr, hml, hown, hts, hlk, hK, hA, hL, hX⟩ := id X
  replace hf : (zbind (f_M_fail K 5 F B) (fun r17 F17 B17 => f_M_number_83 K l4 F17 B17)) = some (r, F9, B9) := hf
  refine lv_aload_n hx hb (D_42 W_prog_15_method_37_code_64 1 rfl rfl) rfl (lv_at hl 1 rfl) ?_
  refine lv_iconst (v := iI 5) hx hb (D_8 W_prog_15_method_37_code_64 2 rfl rfl) rfl ?_
  obtain ⟨r17, F17, B17, hc17, hf⟩ := gbind hf
  refine va_callv (va_runV (As := [.int (iI 5)]) (rest := []) ⟨hx, hb, hml, hown, hts⟩ (c_M_fail (l := l) hc17) (cwV 1 hts (gdV k_14_128 k_14_130 ks_204 k_1_9 k_14_131) rfl rfl rfl (by decide +kernel) ⟨Nat.le_of_ble_eq_true rfl, Nat.le_of_ble_eq_true rfl⟩) (zPV X hZ hS (ci := 14) (by decide) (by decide) (r := (RX14, TX14, 107)) rfl [.int (iI 5)]) rfl rfl hl.1 rfl (lv_room (Nat.le_of_ble_eq_true rfl)) (D_182 W_prog_15_method_37_code_64 3 rfl rfl rfl) ⟨Nat.le_of_ble_eq_true rfl, Nat.le_of_ble_eq_true rfl⟩) hS (fun q _ h => zAin X hS q h) (zAin X hS) (fun u17 t17 H17 locs17 ht17 hv17 hw17 hB17 hz17 hk17 hS17 => ?_)
  have hZ17 := zBack X ht17 hB17
  refine lv_goto (tgt := 83) hx hb (D_167 W_prog_15_method_37_code_64 6 rfl rfl rfl) (by decide) ?_
  exact b_M_number_83 X hf hZ17 hS17 (lv_sub hl [0] rfl)

def f_M_number (K : Nat) (l1 : Int) (l2 : Int) (l3 : Int) (F : zF) (B : zB) : zO := zbind (f_M_good K F B) (fun r1 F1 B1 => if r32 r1 then (if r1 = 0 then some (0, F1, B1) else if 0 ≤ (F1 14 0 16) ∧ (F1 14 0 16) < 3001 then if r32 (B1 14 0 7 (F1 14 0 16)) then (if (B1 14 0 7 (F1 14 0 16)) = 3 then if r32 (B1 14 0 9 (F1 14 0 16)) then if r32 l1 then (if (B1 14 0 9 (F1 14 0 16)) < l1 then f_M_number_65 K (B1 14 0 9 (F1 14 0 16)) F1 B1 else if r32 l2 then (if l2 < (B1 14 0 9 (F1 14 0 16)) then f_M_number_65 K (B1 14 0 9 (F1 14 0 16)) F1 B1 else if r32 l3 then (if l3 = 0 then f_M_number_73 K (B1 14 0 9 (F1 14 0 16)) F1 B1 else if r32 (zand (B1 14 0 9 (F1 14 0 16)) ((B1 14 0 9 (F1 14 0 16)) - 1)) then (if (zand (B1 14 0 9 (F1 14 0 16)) ((B1 14 0 9 (F1 14 0 16)) - 1)) = 0 then f_M_number_73 K (B1 14 0 9 (F1 14 0 16)) F1 B1 else f_M_number_65 K (B1 14 0 9 (F1 14 0 16)) F1 B1) else none) else none) else none) else none else none else zbind (f_M_wrong K F1 B1) (fun r16 F16 B16 => some (0, F16, B16))) else none else none) else none)
set_option maxHeartbeats 4000000 in
set_option maxRecDepth 100000 in
theorem c_M_number {l : Launch} {D : va_G} {ca : Nat → ClassId} {ad : Nat → Int → Nat → Nat} {L : List Nat} {aS vS : Nat → Nat} {sz K : Nat}  {l1 : Int} {l2 : Int} {l3 : Int} {F F9 : zF} {B B9 : zB} {r : Int} (hf : f_M_number K l1 l2 l3 F B = some (r, F9, B9)) : Met l ({ cls := "StaveHouseModel", name := "number", desc := "(IIZ)I" } : Jvm.MethodName) (Cond.code ({ cls := "StaveHouseModel", name := "number", desc := "(IIZ)I" } : Jvm.MethodName) prog_15_method_37_code 5 (Option.some Jvm.ClassFile.FieldType.int) :: wAll) ({ frames := 3, cells := 0, slots := 0, locals := 63 } : Room) (va_Pc [.ref (ad 14 0 0), .int (iI l1), .int (iI l2), .int (iI l3)] (zPre D ca ad lnM nM L aS vS F B sz)) (Q_M_number D ca ad L r F9 B9 (zA L sz)) 0 0 (zA L sz) := by
  refine zMet (Qc := Q_M_number D ca ad L r F9 B9) (lv := [(0, .ref (ad 14 0 0)), (1, .int (iI l1)), (2, .int (iI l2)), (3, .int (iI l3))]) (by decide) (Nat.le_of_ble_eq_true rfl) rfl (fun A p e s m below meth c ls X hZ hS hl => ?_)
  obtain ⟨hx, hb, hr, hml, hown, hts, hlk, hK, hA, hL, hX⟩ := id X
  replace hf : (zbind (f_M_good K F B) (fun r1 F1 B1 => if r32 r1 then (if r1 = 0 then some (0, F1, B1) else if 0 ≤ (F1 14 0 16) ∧ (F1 14 0 16) < 3001 then if r32 (B1 14 0 7 (F1 14 0 16)) then (if (B1 14 0 7 (F1 14 0 16)) = 3 then if r32 (B1 14 0 9 (F1 14 0 16)) then if r32 l1 then (if (B1 14 0 9 (F1 14 0 16)) < l1 then f_M_number_65 K (B1 14 0 9 (F1 14 0 16)) F1 B1 else if r32 l2 then (if l2 < (B1 14 0 9 (F1 14 0 16)) then f_M_number_65 K (B1 14 0 9 (F1 14 0 16)) F1 B1 else if r32 l3 then (if l3 = 0 then f_M_number_73 K (B1 14 0 9 (F1 14 0 16)) F1 B1 else if r32 (zand (B1 14 0 9 (F1 14 0 16)) ((B1 14 0 9 (F1 14 0 16)) - 1)) then (if (zand (B1 14 0 9 (F1 14 0 16)) ((B1 14 0 9 (F1 14 0 16)) - 1)) = 0 then f_M_number_73 K (B1 14 0 9 (F1 14 0 16)) F1 B1 else f_M_number_65 K (B1 14 0 9 (F1 14 0 16)) F1 B1) else none) else none) else none) else none else none else zbind (f_M_wrong K F1 B1) (fun r16 F16 B16 => some (0, F16, B16))) else none else none) else none)) = some (r, F9, B9) := hf
  refine lv_aload_n hx hb (D_42 W_prog_15_method_37_code_0 0 rfl rfl) rfl (lv_at hl 0 rfl) ?_
  obtain ⟨r1, F1, B1, hc1, hf⟩ := gbind hf
  refine va_calli (va_runV (As := []) (rest := []) ⟨hx, hb, hml, hown, hts⟩ (c_M_good (l := l) hc1) (cwV 0 hts (gdV k_13_15 k_13_17 ks_152 k_1_9 k_13_18) rfl rfl rfl (by decide +kernel) ⟨Nat.le_of_ble_eq_true rfl, Nat.le_of_ble_eq_true rfl⟩) (zPV X hZ hS (ci := 14) (by decide) (by decide) (r := (RX14, TX14, 107)) rfl []) rfl rfl hl.1 rfl (lv_room (Nat.le_of_ble_eq_true rfl)) (D_182 W_prog_15_method_37_code_0 1 rfl rfl rfl) ⟨Nat.le_of_ble_eq_true rfl, Nat.le_of_ble_eq_true rfl⟩) hS (fun q _ h => zAin X hS q h) (zAin X hS) (fun p1 u1 t1 H1 locs1 ht1 hv1 hw1 hB1 hz1 hk1 hS1 => ?_)
  have hZ1 := zBack X ht1 hB1
  subst hw1
  obtain ⟨g2, hf⟩ := gif hf
  refine z0ne (tgt := 9) hx hb g2 (D_154 W_prog_15_method_37_code_0 4 rfl rfl rfl) (by decide) (fun h3 => ?_) (fun h3 => ?_)
  · replace hf := gneg hf h3
    refine lv_aload_n hx hb (D_42 W_prog_15_method_37_code_0 9 rfl rfl) rfl (lv_at hl 0 rfl) ?_
    refine zget (ci := 14) (C := RX14) (T := TX14) (v := .ref (ad 14 0 (7 + 1))) (k := 7) hx hb hts inW_14 hown hK hZ1 (by decide) (by decide) rfl (by decide) k_11_5 rfl (D_180 W_prog_15_method_37_code_0 10 rfl rfl rfl) ?_
    refine lv_aload_n hx hb (D_42 W_prog_15_method_37_code_0 13 rfl rfl) rfl (lv_at hl 0 rfl) ?_
    refine zget (ci := 14) (C := RX14) (T := TX14) (v := .int (iI (F1 14 0 16))) (k := 16) hx hb hts inW_14 hown hK hZ1 (by decide) (by decide) rfl (by decide) k_11_14 rfl (D_180 W_prog_15_method_37_code_0 14 rfl rfl rfl) ?_
    obtain ⟨g4, hf⟩ := gif hf
    refine zald (ci := 14) (k := 7) hx hb hK rfl hZ1 (by decide) (by decide) rfl (Nat.le_of_ble_eq_true rfl) g4.1 g4.2 (D_46 W_prog_15_method_37_code_0 17 rfl rfl) ?_
    refine lv_iconst (v := iI 3) hx hb (D_6 W_prog_15_method_37_code_0 18 rfl rfl) rfl ?_
    obtain ⟨g5, hf⟩ := gif hf
    refine zeq (tgt := 28) hx hb g5 (by decide) (D_159 W_prog_15_method_37_code_0 19 rfl rfl rfl) (by decide) (fun h6 => ?_) (fun h6 => ?_)
    · replace hf := gpos hf h6
      refine lv_aload_n hx hb (D_42 W_prog_15_method_37_code_0 28 rfl rfl) rfl (lv_at hl 0 rfl) ?_
      refine zget (ci := 14) (C := RX14) (T := TX14) (v := .ref (ad 14 0 (9 + 1))) (k := 9) hx hb hts inW_14 hown hK hZ1 (by decide) (by decide) rfl (by decide) k_11_7 rfl (D_180 W_prog_15_method_37_code_0 29 rfl rfl rfl) ?_
      refine lv_aload_n hx hb (D_42 W_prog_15_method_37_code_32 0 rfl rfl) rfl (lv_at hl 0 rfl) ?_
      refine zget (ci := 14) (C := RX14) (T := TX14) (v := .int (iI (F1 14 0 16))) (k := 16) hx hb hts inW_14 hown hK hZ1 (by decide) (by decide) rfl (by decide) k_11_14 rfl (D_180 W_prog_15_method_37_code_32 1 rfl rfl rfl) ?_
      refine zald (ci := 14) (k := 9) hx hb hK rfl hZ1 (by decide) (by decide) rfl (Nat.le_of_ble_eq_true rfl) g4.1 g4.2 (D_46 W_prog_15_method_37_code_32 4 rfl rfl) ?_
      refine lv_istore (lv' := [(4, .int (iI (B1 14 0 9 (F1 14 0 16)))), (0, .ref (ad 14 0 0)), (1, .int (iI l1)), (2, .int (iI l2)), (3, .int (iI l3))]) hx hb (D_54 W_prog_15_method_37_code_32 5 rfl rfl) hl (by decide) rfl (fun ls hl => ?_)
      refine lv_iload hx hb (D_21 W_prog_15_method_37_code_32 7 rfl rfl) (lv_at hl 0 rfl) ?_
      refine lv_iload_n hx hb (D_27 W_prog_15_method_37_code_32 9 rfl rfl) rfl (lv_at hl 2 rfl) ?_
      obtain ⟨g7, hf⟩ := gif hf
      obtain ⟨g8, hf⟩ := gif hf
      refine zlt (tgt := 65) hx hb g7 g8 (D_161 W_prog_15_method_37_code_32 10 rfl rfl rfl) (by decide) (fun h9 => ?_) (fun h9 => ?_)
      · replace hf := gpos hf h9
        exact b_M_number_65 X hf hZ1 hS1 (lv_sub hl [0, 1] rfl)
      · replace hf := gneg hf h9
        refine lv_iload hx hb (D_21 W_prog_15_method_37_code_32 13 rfl rfl) (lv_at hl 0 rfl) ?_
        refine lv_iload_n hx hb (D_28 W_prog_15_method_37_code_32 15 rfl rfl) rfl (lv_at hl 3 rfl) ?_
        obtain ⟨g10, hf⟩ := gif hf
        refine zgt (tgt := 65) hx hb g7 g10 (D_163 W_prog_15_method_37_code_32 16 rfl rfl rfl) (by decide) (fun h11 => ?_) (fun h11 => ?_)
        · replace hf := gpos hf h11
          exact b_M_number_65 X hf hZ1 hS1 (lv_sub hl [0, 1] rfl)
        · replace hf := gneg hf h11
          refine lv_iload_n hx hb (D_29 W_prog_15_method_37_code_32 19 rfl rfl) rfl (lv_at hl 4 rfl) ?_
          obtain ⟨g12, hf⟩ := gif hf
          refine z0eq (tgt := 73) hx hb g12 (D_153 W_prog_15_method_37_code_32 20 rfl rfl rfl) (by decide) (fun h13 => ?_) (fun h13 => ?_)
          · replace hf := gpos hf h13
            exact b_M_number_73 X hf hZ1 hS1 (lv_sub hl [0, 1] rfl)
          · replace hf := gneg hf h13
            refine lv_iload hx hb (D_21 W_prog_15_method_37_code_32 23 rfl rfl) (lv_at hl 0 rfl) ?_
            refine lv_iload hx hb (D_21 W_prog_15_method_37_code_32 25 rfl rfl) (lv_at hl 0 rfl) ?_
            refine lv_iconst (v := iI 1) hx hb (D_4 W_prog_15_method_37_code_32 27 rfl rfl) rfl ?_
            refine zsub hx hb (D_100 W_prog_15_method_37_code_32 28 rfl rfl) ?_
            refine zand_r hx hb (D_126 W_prog_15_method_37_code_32 29 rfl rfl) ?_
            obtain ⟨g14, hf⟩ := gif hf
            refine z0eq (tgt := 73) hx hb g14 (D_153 W_prog_15_method_37_code_32 30 rfl rfl rfl) (by decide) (fun h15 => ?_) (fun h15 => ?_)
            · replace hf := gpos hf h15
              exact b_M_number_73 X hf hZ1 hS1 (lv_sub hl [0, 1] rfl)
            · replace hf := gneg hf h15
              exact b_M_number_65 X hf hZ1 hS1 (lv_sub hl [0, 1] rfl)
    · replace hf := gneg hf h6
      refine lv_aload_n hx hb (D_42 W_prog_15_method_37_code_0 22 rfl rfl) rfl (lv_at hl 0 rfl) ?_
      obtain ⟨r16, F16, B16, hc16, hf⟩ := gbind hf
      refine va_callv (va_runV (As := []) (rest := []) ⟨hx, hb, hml, hown, hts⟩ (c_M_wrong (l := l) hc16) (cwV 0 hts (gdV k_14_124 k_14_126 ks_203 k_1_9 k_14_127) rfl rfl rfl (by decide +kernel) ⟨Nat.le_of_ble_eq_true rfl, Nat.le_of_ble_eq_true rfl⟩) (zPV X hZ1 hS1 (ci := 14) (by decide) (by decide) (r := (RX14, TX14, 107)) rfl []) rfl rfl hl.1 rfl (lv_room (Nat.le_of_ble_eq_true rfl)) (D_182 W_prog_15_method_37_code_0 23 rfl rfl rfl) ⟨Nat.le_of_ble_eq_true rfl, Nat.le_of_ble_eq_true rfl⟩) hS1 (fun q _ h => zAin X hS1 q h) (zAin X hS1) (fun u16 t16 H16 locs16 ht16 hv16 hw16 hB16 hz16 hk16 hS16 => ?_)
      have hZ16 := zBack X ht16 hB16
      refine lv_iconst (v := iI 0) hx hb (D_3 W_prog_15_method_37_code_0 26 rfl rfl) rfl ?_
      cases hf
      exact W.iret hx hb hr (fun t ht hW => ⟨⟨_, (), rfl, rfl, by rw [ht]; exact hZ16, va_K.moved hW.alike hK⟩, hS16.F ht⟩) hS16.2.2 (D_172 W_prog_15_method_37_code_0 27 rfl rfl) hlk
  · replace hf := gpos hf h3
    refine lv_iconst (v := iI 0) hx hb (D_3 W_prog_15_method_37_code_0 7 rfl rfl) rfl ?_
    cases hf
    exact W.iret hx hb hr (fun t ht hW => ⟨⟨_, (), rfl, rfl, by rw [ht]; exact hZ1, va_K.moved hW.alike hK⟩, hS1.F ht⟩) hS1.2.2 (D_172 W_prog_15_method_37_code_0 8 rfl rfl) hlk

abbrev Q_M_need (D : va_G) (ca : Nat → ClassId) (ad : Nat → Int → Nat → Nat) (L : List Nat) (r : Int) (F : zF) (B : zB) (A : Nat → Prop) : Array Value → State → Outcome → State → Prop := va_Qv (S := Unit) (fun _ => True) (fun _ => zPo D ca ad lnM nM L F B A) A
def f_M_need_33 (K : Nat)  (F : zF) (B : zB) : zO := some (0, F, B)
set_option maxHeartbeats 4000000 in
set_option maxRecDepth 100000 in
theorem b_M_need_33 {D : va_G} {ca : Nat → ClassId} {ad : Nat → Int → Nat → Nat} {L : List Nat} {aS vS : Nat → Nat} {A : Nat → Prop} {p : Program} {l : Launch} {e : Env} {s : State} {m : MethodId} {args : Array Value} {below : List Frame} {meth : Method} {c : Code} {K : Nat} {r : Int} {F9 : zF} {B9 : zB} (X : zX D ca L aS vS A p s m args meth c prog_15_method_36_code 2 (Option.none : Option Jvm.ClassFile.FieldType) "StaveHouseModel")  {F : zF} {B : zB} {H : Heap} {locs : List Loc} {ls : Array Slot} (hf : f_M_need_33 K  F B = some (r, F9, B9)) (hZ : zH D ca ad lnM nM L F B A H) (hS : va_S A s.heap H locs) (hl : lv_has ls 2 []) : W p l e ({ frames := 3, cells := 0, slots := 0, locals := 63 } : Room) s m args below meth c H locs 0 0 (MQ below (Q_M_need D ca ad L r F9 B9 A) args s 0 0 A) (F0 m 33 ls []) := by
  obtain ⟨hx, hb, hr, hml, hown, hts, hlk, hK, hA, hL, hX⟩ := id X
  replace hf : (some (0, F, B)) = some (r, F9, B9) := hf
  cases hf
  exact W.vret hx hb hr (fun t ht hW => ⟨⟨(), rfl, trivial, by rw [ht]; exact hZ, va_K.moved hW.alike hK⟩, hS.F ht⟩) hS.2.2 (D_177 W_prog_15_method_36_code_32 1 rfl rfl) hlk

def f_M_need (K : Nat) (l1 : Int) (F : zF) (B : zB) : zO := zbind (f_M_good K F B) (fun r1 F1 B1 => if r32 r1 then (if r1 = 0 then some (0, F1, B1) else zbind (f_M_isSign K l1 F1 B1) (fun r4 F4 B4 => if r32 r4 then (if r4 = 0 then zbind (f_M_wrong K F4 B4) (fun r7 F7 B7 => f_M_need_33 K F7 B7) else f_M_need_33 K (zup3 F4 14 0 16 ((F4 14 0 16) + 1)) B4) else none)) else none)
set_option maxHeartbeats 4000000 in
set_option maxRecDepth 100000 in
theorem c_M_need {l : Launch} {D : va_G} {ca : Nat → ClassId} {ad : Nat → Int → Nat → Nat} {L : List Nat} {aS vS : Nat → Nat} {sz K : Nat}  {l1 : Int} {F F9 : zF} {B B9 : zB} {r : Int} (hf : f_M_need K l1 F B = some (r, F9, B9)) : Met l ({ cls := "StaveHouseModel", name := "need", desc := "(I)V" } : Jvm.MethodName) (Cond.code ({ cls := "StaveHouseModel", name := "need", desc := "(I)V" } : Jvm.MethodName) prog_15_method_36_code 2 (Option.none : Option Jvm.ClassFile.FieldType) :: wAll) ({ frames := 3, cells := 0, slots := 0, locals := 63 } : Room) (va_Pc [.ref (ad 14 0 0), .int (iI l1)] (zPre D ca ad lnM nM L aS vS F B sz)) (Q_M_need D ca ad L r F9 B9 (zA L sz)) 0 0 (zA L sz) := by
  refine zMet (Qc := Q_M_need D ca ad L r F9 B9) (lv := [(0, .ref (ad 14 0 0)), (1, .int (iI l1))]) (by decide) (Nat.le_of_ble_eq_true rfl) rfl (fun A p e s m below meth c ls X hZ hS hl => ?_)
  obtain ⟨hx, hb, hr, hml, hown, hts, hlk, hK, hA, hL, hX⟩ := id X
  replace hf : (zbind (f_M_good K F B) (fun r1 F1 B1 => if r32 r1 then (if r1 = 0 then some (0, F1, B1) else zbind (f_M_isSign K l1 F1 B1) (fun r4 F4 B4 => if r32 r4 then (if r4 = 0 then zbind (f_M_wrong K F4 B4) (fun r7 F7 B7 => f_M_need_33 K F7 B7) else f_M_need_33 K (zup3 F4 14 0 16 ((F4 14 0 16) + 1)) B4) else none)) else none)) = some (r, F9, B9) := hf
  refine lv_aload_n hx hb (D_42 W_prog_15_method_36_code_0 0 rfl rfl) rfl (lv_at hl 0 rfl) ?_
  obtain ⟨r1, F1, B1, hc1, hf⟩ := gbind hf
  refine va_calli (va_runV (As := []) (rest := []) ⟨hx, hb, hml, hown, hts⟩ (c_M_good (l := l) hc1) (cwV 0 hts (gdV k_13_15 k_13_17 ks_152 k_1_9 k_13_18) rfl rfl rfl (by decide +kernel) ⟨Nat.le_of_ble_eq_true rfl, Nat.le_of_ble_eq_true rfl⟩) (zPV X hZ hS (ci := 14) (by decide) (by decide) (r := (RX14, TX14, 107)) rfl []) rfl rfl hl.1 rfl (lv_room (Nat.le_of_ble_eq_true rfl)) (D_182 W_prog_15_method_36_code_0 1 rfl rfl rfl) ⟨Nat.le_of_ble_eq_true rfl, Nat.le_of_ble_eq_true rfl⟩) hS (fun q _ h => zAin X hS q h) (zAin X hS) (fun p1 u1 t1 H1 locs1 ht1 hv1 hw1 hB1 hz1 hk1 hS1 => ?_)
  have hZ1 := zBack X ht1 hB1
  subst hw1
  obtain ⟨g2, hf⟩ := gif hf
  refine z0ne (tgt := 8) hx hb g2 (D_154 W_prog_15_method_36_code_0 4 rfl rfl rfl) (by decide) (fun h3 => ?_) (fun h3 => ?_)
  · replace hf := gneg hf h3
    refine lv_aload_n hx hb (D_42 W_prog_15_method_36_code_0 8 rfl rfl) rfl (lv_at hl 0 rfl) ?_
    refine lv_iload_n hx hb (D_27 W_prog_15_method_36_code_0 9 rfl rfl) rfl (lv_at hl 1 rfl) ?_
    obtain ⟨r4, F4, B4, hc4, hf⟩ := gbind hf
    refine va_calli (va_runV (As := [.int (iI l1)]) (rest := []) ⟨hx, hb, hml, hown, hts⟩ (c_M_isSign (l := l) hc4) (cwV 1 hts (gdV k_14_136 k_14_138 ks_206 k_1_9 k_14_139) rfl rfl rfl (by decide +kernel) ⟨Nat.le_of_ble_eq_true rfl, Nat.le_of_ble_eq_true rfl⟩) (zPV X hZ1 hS1 (ci := 14) (by decide) (by decide) (r := (RX14, TX14, 107)) rfl [.int (iI l1)]) rfl rfl hl.1 rfl (lv_room (Nat.le_of_ble_eq_true rfl)) (D_182 W_prog_15_method_36_code_0 10 rfl rfl rfl) ⟨Nat.le_of_ble_eq_true rfl, Nat.le_of_ble_eq_true rfl⟩) hS1 (fun q _ h => zAin X hS1 q h) (zAin X hS1) (fun p4 u4 t4 H4 locs4 ht4 hv4 hw4 hB4 hz4 hk4 hS4 => ?_)
    have hZ4 := zBack X ht4 hB4
    subst hw4
    obtain ⟨g5, hf⟩ := gif hf
    refine z0eq (tgt := 29) hx hb g5 (D_153 W_prog_15_method_36_code_0 13 rfl rfl rfl) (by decide) (fun h6 => ?_) (fun h6 => ?_)
    · replace hf := gpos hf h6
      refine lv_aload_n hx hb (D_42 W_prog_15_method_36_code_0 29 rfl rfl) rfl (lv_at hl 0 rfl) ?_
      obtain ⟨r7, F7, B7, hc7, hf⟩ := gbind hf
      refine va_callv (va_runV (As := []) (rest := []) ⟨hx, hb, hml, hown, hts⟩ (c_M_wrong (l := l) hc7) (cwV 0 hts (gdV k_14_124 k_14_126 ks_203 k_1_9 k_14_127) rfl rfl rfl (by decide +kernel) ⟨Nat.le_of_ble_eq_true rfl, Nat.le_of_ble_eq_true rfl⟩) (zPV X hZ4 hS4 (ci := 14) (by decide) (by decide) (r := (RX14, TX14, 107)) rfl []) rfl rfl hl.1 rfl (lv_room (Nat.le_of_ble_eq_true rfl)) (D_182 W_prog_15_method_36_code_0 30 rfl rfl rfl) ⟨Nat.le_of_ble_eq_true rfl, Nat.le_of_ble_eq_true rfl⟩) hS4 (fun q _ h => zAin X hS4 q h) (zAin X hS4) (fun u7 t7 H7 locs7 ht7 hv7 hw7 hB7 hz7 hk7 hS7 => ?_)
      have hZ7 := zBack X ht7 hB7
      exact b_M_need_33 X hf hZ7 hS7 (lv_sub hl [] rfl)
    · replace hf := gneg hf h6
      refine lv_aload_n hx hb (D_42 W_prog_15_method_36_code_0 16 rfl rfl) rfl (lv_at hl 0 rfl) ?_
      refine lv_dup hx hb (D_89 W_prog_15_method_36_code_0 17 rfl rfl) rfl ?_
      refine zget (ci := 14) (C := RX14) (T := TX14) (v := .int (iI (F4 14 0 16))) (k := 16) hx hb hts inW_14 hown hK hZ4 (by decide) (by decide) rfl (by decide) k_11_14 rfl (D_180 W_prog_15_method_36_code_0 18 rfl rfl rfl) ?_
      refine lv_iconst (v := iI 1) hx hb (D_4 W_prog_15_method_36_code_0 21 rfl rfl) rfl ?_
      refine zadd hx hb (D_96 W_prog_15_method_36_code_0 22 rfl rfl) ?_
      refine zput (ci := 14) (C := RX14) (T := TX14) (k := 16) (v := ((F4 14 0 16) + 1)) (w := .int (iI ((F4 14 0 16) + 1))) hx hb hts inW_14 tyX14 tyX14_ok nmX14 hown hK hZ4 hS4 (by decide) (by decide) rfl (by decide) k_11_14 rfl (fun G h => congrArg (fun q => Value.int (iI q)) h) rfl rfl (zno (by decide)) (D_181 W_prog_15_method_36_code_0 23 rfl rfl rfl) (fun H8 locs8 hZ8 hS8 => ?_)
      refine lv_goto (tgt := 33) hx hb (D_167 W_prog_15_method_36_code_0 26 rfl rfl rfl) (by decide) ?_
      exact b_M_need_33 X hf hZ8 hS8 (lv_sub hl [] rfl)
  · replace hf := gpos hf h3
    cases hf
    exact W.vret hx hb hr (fun t ht hW => ⟨⟨(), rfl, trivial, by rw [ht]; exact hZ1, va_K.moved hW.alike hK⟩, hS1.F ht⟩) hS1.2.2 (D_177 W_prog_15_method_36_code_0 7 rfl rfl) hlk

abbrev Q_M_opening (D : va_G) (ca : Nat → ClassId) (ad : Nat → Int → Nat → Nat) (L : List Nat) (r : Int) (F : zF) (B : zB) (A : Nat → Prop) : Array Value → State → Outcome → State → Prop := va_Qv (S := Unit) (fun _ => True) (fun _ => zPo D ca ad lnM nM L F B A) A
def f_M_opening_60 (K : Nat)  (F : zF) (B : zB) : zO := some (0, F, B)
set_option maxHeartbeats 4000000 in
set_option maxRecDepth 100000 in
theorem b_M_opening_60 {D : va_G} {ca : Nat → ClassId} {ad : Nat → Int → Nat → Nat} {L : List Nat} {aS vS : Nat → Nat} {A : Nat → Prop} {p : Program} {l : Launch} {e : Env} {s : State} {m : MethodId} {args : Array Value} {below : List Frame} {meth : Method} {c : Code} {K : Nat} {r : Int} {F9 : zF} {B9 : zB} (X : zX D ca L aS vS A p s m args meth c prog_15_method_38_code 2 (Option.none : Option Jvm.ClassFile.FieldType) "StaveHouseModel")  {F : zF} {B : zB} {H : Heap} {locs : List Loc} {ls : Array Slot} (hf : f_M_opening_60 K  F B = some (r, F9, B9)) (hZ : zH D ca ad lnM nM L F B A H) (hS : va_S A s.heap H locs) (hl : lv_has ls 2 []) : W p l e ({ frames := 3, cells := 0, slots := 0, locals := 63 } : Room) s m args below meth c H locs 0 0 (MQ below (Q_M_opening D ca ad L r F9 B9 A) args s 0 0 A) (F0 m 60 ls []) := by
  obtain ⟨hx, hb, hr, hml, hown, hts, hlk, hK, hA, hL, hX⟩ := id X
  replace hf : (some (0, F, B)) = some (r, F9, B9) := hf
  cases hf
  exact W.vret hx hb hr (fun t ht hW => ⟨⟨(), rfl, trivial, by rw [ht]; exact hZ, va_K.moved hW.alike hK⟩, hS.F ht⟩) hS.2.2 (D_177 W_prog_15_method_38_code_32 28 rfl rfl) hlk

def f_M_opening (K : Nat) (l1 : Int) (F : zF) (B : zB) : zO := zbind (f_M_good K F B) (fun r1 F1 B1 => if r32 r1 then (if r1 = 0 then some (0, F1, B1) else zbind (f_M_isSign K l1 F1 B1) (fun r4 F4 B4 => if r32 r4 then (if r4 = 0 then zbind (f_M_wrong K F4 B4) (fun r12 F12 B12 => f_M_opening_60 K F12 B12) else if r32 (F4 14 0 19) then (if (F4 14 0 19) = 8 then zbind (f_M_fail K 3 F4 B4) (fun r11 F11 B11 => f_M_opening_60 K F11 B11) else f_M_opening_60 K (zup3 (zup3 F4 14 0 19 ((F4 14 0 19) + 1)) 14 0 16 ((F4 14 0 16) + 1)) B4) else none) else none)) else none)
set_option maxHeartbeats 4000000 in
set_option maxRecDepth 100000 in
theorem c_M_opening {l : Launch} {D : va_G} {ca : Nat → ClassId} {ad : Nat → Int → Nat → Nat} {L : List Nat} {aS vS : Nat → Nat} {sz K : Nat}  {l1 : Int} {F F9 : zF} {B B9 : zB} {r : Int} (hf : f_M_opening K l1 F B = some (r, F9, B9)) : Met l ({ cls := "StaveHouseModel", name := "opening", desc := "(I)V" } : Jvm.MethodName) (Cond.code ({ cls := "StaveHouseModel", name := "opening", desc := "(I)V" } : Jvm.MethodName) prog_15_method_38_code 2 (Option.none : Option Jvm.ClassFile.FieldType) :: wAll) ({ frames := 3, cells := 0, slots := 0, locals := 63 } : Room) (va_Pc [.ref (ad 14 0 0), .int (iI l1)] (zPre D ca ad lnM nM L aS vS F B sz)) (Q_M_opening D ca ad L r F9 B9 (zA L sz)) 0 0 (zA L sz) := by
  refine zMet (Qc := Q_M_opening D ca ad L r F9 B9) (lv := [(0, .ref (ad 14 0 0)), (1, .int (iI l1))]) (by decide) (Nat.le_of_ble_eq_true rfl) rfl (fun A p e s m below meth c ls X hZ hS hl => ?_)
  obtain ⟨hx, hb, hr, hml, hown, hts, hlk, hK, hA, hL, hX⟩ := id X
  replace hf : (zbind (f_M_good K F B) (fun r1 F1 B1 => if r32 r1 then (if r1 = 0 then some (0, F1, B1) else zbind (f_M_isSign K l1 F1 B1) (fun r4 F4 B4 => if r32 r4 then (if r4 = 0 then zbind (f_M_wrong K F4 B4) (fun r12 F12 B12 => f_M_opening_60 K F12 B12) else if r32 (F4 14 0 19) then (if (F4 14 0 19) = 8 then zbind (f_M_fail K 3 F4 B4) (fun r11 F11 B11 => f_M_opening_60 K F11 B11) else f_M_opening_60 K (zup3 (zup3 F4 14 0 19 ((F4 14 0 19) + 1)) 14 0 16 ((F4 14 0 16) + 1)) B4) else none) else none)) else none)) = some (r, F9, B9) := hf
  refine lv_aload_n hx hb (D_42 W_prog_15_method_38_code_0 0 rfl rfl) rfl (lv_at hl 0 rfl) ?_
  obtain ⟨r1, F1, B1, hc1, hf⟩ := gbind hf
  refine va_calli (va_runV (As := []) (rest := []) ⟨hx, hb, hml, hown, hts⟩ (c_M_good (l := l) hc1) (cwV 0 hts (gdV k_13_15 k_13_17 ks_152 k_1_9 k_13_18) rfl rfl rfl (by decide +kernel) ⟨Nat.le_of_ble_eq_true rfl, Nat.le_of_ble_eq_true rfl⟩) (zPV X hZ hS (ci := 14) (by decide) (by decide) (r := (RX14, TX14, 107)) rfl []) rfl rfl hl.1 rfl (lv_room (Nat.le_of_ble_eq_true rfl)) (D_182 W_prog_15_method_38_code_0 1 rfl rfl rfl) ⟨Nat.le_of_ble_eq_true rfl, Nat.le_of_ble_eq_true rfl⟩) hS (fun q _ h => zAin X hS q h) (zAin X hS) (fun p1 u1 t1 H1 locs1 ht1 hv1 hw1 hB1 hz1 hk1 hS1 => ?_)
  have hZ1 := zBack X ht1 hB1
  subst hw1
  obtain ⟨g2, hf⟩ := gif hf
  refine z0ne (tgt := 8) hx hb g2 (D_154 W_prog_15_method_38_code_0 4 rfl rfl rfl) (by decide) (fun h3 => ?_) (fun h3 => ?_)
  · replace hf := gneg hf h3
    refine lv_aload_n hx hb (D_42 W_prog_15_method_38_code_0 8 rfl rfl) rfl (lv_at hl 0 rfl) ?_
    refine lv_iload_n hx hb (D_27 W_prog_15_method_38_code_0 9 rfl rfl) rfl (lv_at hl 1 rfl) ?_
    obtain ⟨r4, F4, B4, hc4, hf⟩ := gbind hf
    refine va_calli (va_runV (As := [.int (iI l1)]) (rest := []) ⟨hx, hb, hml, hown, hts⟩ (c_M_isSign (l := l) hc4) (cwV 1 hts (gdV k_14_136 k_14_138 ks_206 k_1_9 k_14_139) rfl rfl rfl (by decide +kernel) ⟨Nat.le_of_ble_eq_true rfl, Nat.le_of_ble_eq_true rfl⟩) (zPV X hZ1 hS1 (ci := 14) (by decide) (by decide) (r := (RX14, TX14, 107)) rfl [.int (iI l1)]) rfl rfl hl.1 rfl (lv_room (Nat.le_of_ble_eq_true rfl)) (D_182 W_prog_15_method_38_code_0 10 rfl rfl rfl) ⟨Nat.le_of_ble_eq_true rfl, Nat.le_of_ble_eq_true rfl⟩) hS1 (fun q _ h => zAin X hS1 q h) (zAin X hS1) (fun p4 u4 t4 H4 locs4 ht4 hv4 hw4 hB4 hz4 hk4 hS4 => ?_)
    have hZ4 := zBack X ht4 hB4
    subst hw4
    obtain ⟨g5, hf⟩ := gif hf
    refine z0ne (tgt := 23) hx hb g5 (D_154 W_prog_15_method_38_code_0 13 rfl rfl rfl) (by decide) (fun h6 => ?_) (fun h6 => ?_)
    · replace hf := gneg hf h6
      refine lv_aload_n hx hb (D_42 W_prog_15_method_38_code_0 23 rfl rfl) rfl (lv_at hl 0 rfl) ?_
      refine zget (ci := 14) (C := RX14) (T := TX14) (v := .int (iI (F4 14 0 19))) (k := 19) hx hb hts inW_14 hown hK hZ4 (by decide) (by decide) rfl (by decide) k_11_17 rfl (D_180 W_prog_15_method_38_code_0 24 rfl rfl rfl) ?_
      refine lv_bipush (v := iI 8) hx hb (D_16 W_prog_15_method_38_code_0 27 rfl rfl rfl) (by decide) ?_
      obtain ⟨g7, hf⟩ := gif hf
      refine zne (tgt := 40) hx hb g7 (by decide) (D_160 W_prog_15_method_38_code_0 29 rfl rfl rfl) (by decide) (fun h8 => ?_) (fun h8 => ?_)
      · replace hf := gneg hf h8
        refine lv_aload_n hx hb (D_42 W_prog_15_method_38_code_32 8 rfl rfl) rfl (lv_at hl 0 rfl) ?_
        refine lv_dup hx hb (D_89 W_prog_15_method_38_code_32 9 rfl rfl) rfl ?_
        refine zget (ci := 14) (C := RX14) (T := TX14) (v := .int (iI (F4 14 0 19))) (k := 19) hx hb hts inW_14 hown hK hZ4 (by decide) (by decide) rfl (by decide) k_11_17 rfl (D_180 W_prog_15_method_38_code_32 10 rfl rfl rfl) ?_
        refine lv_iconst (v := iI 1) hx hb (D_4 W_prog_15_method_38_code_32 13 rfl rfl) rfl ?_
        refine zadd hx hb (D_96 W_prog_15_method_38_code_32 14 rfl rfl) ?_
        refine zput (ci := 14) (C := RX14) (T := TX14) (k := 19) (v := ((F4 14 0 19) + 1)) (w := .int (iI ((F4 14 0 19) + 1))) hx hb hts inW_14 tyX14 tyX14_ok nmX14 hown hK hZ4 hS4 (by decide) (by decide) rfl (by decide) k_11_17 rfl (fun G h => congrArg (fun q => Value.int (iI q)) h) rfl rfl (zno (by decide)) (D_181 W_prog_15_method_38_code_32 15 rfl rfl rfl) (fun H9 locs9 hZ9 hS9 => ?_)
        refine lv_aload_n hx hb (D_42 W_prog_15_method_38_code_32 18 rfl rfl) rfl (lv_at hl 0 rfl) ?_
        refine lv_dup hx hb (D_89 W_prog_15_method_38_code_32 19 rfl rfl) rfl ?_
        refine zget (ci := 14) (C := RX14) (T := TX14) (v := .int (iI (F4 14 0 16))) (k := 16) hx hb hts inW_14 hown hK hZ9 (by decide) (by decide) rfl (by decide) k_11_14 rfl (D_180 W_prog_15_method_38_code_32 20 rfl rfl rfl) ?_
        refine lv_iconst (v := iI 1) hx hb (D_4 W_prog_15_method_38_code_32 23 rfl rfl) rfl ?_
        refine zadd hx hb (D_96 W_prog_15_method_38_code_32 24 rfl rfl) ?_
        refine zput (ci := 14) (C := RX14) (T := TX14) (k := 16) (v := ((F4 14 0 16) + 1)) (w := .int (iI ((F4 14 0 16) + 1))) hx hb hts inW_14 tyX14 tyX14_ok nmX14 hown hK hZ9 hS9 (by decide) (by decide) rfl (by decide) k_11_14 rfl (fun G h => congrArg (fun q => Value.int (iI q)) h) rfl rfl (zno (by decide)) (D_181 W_prog_15_method_38_code_32 25 rfl rfl rfl) (fun H10 locs10 hZ10 hS10 => ?_)
        exact b_M_opening_60 X hf hZ10 hS10 (lv_sub hl [] rfl)
      · replace hf := gpos hf h8
        refine lv_aload_n hx hb (D_42 W_prog_15_method_38_code_32 0 rfl rfl) rfl (lv_at hl 0 rfl) ?_
        refine lv_iconst (v := iI 3) hx hb (D_6 W_prog_15_method_38_code_32 1 rfl rfl) rfl ?_
        obtain ⟨r11, F11, B11, hc11, hf⟩ := gbind hf
        refine va_callv (va_runV (As := [.int (iI 3)]) (rest := []) ⟨hx, hb, hml, hown, hts⟩ (c_M_fail (l := l) hc11) (cwV 1 hts (gdV k_14_128 k_14_130 ks_204 k_1_9 k_14_131) rfl rfl rfl (by decide +kernel) ⟨Nat.le_of_ble_eq_true rfl, Nat.le_of_ble_eq_true rfl⟩) (zPV X hZ4 hS4 (ci := 14) (by decide) (by decide) (r := (RX14, TX14, 107)) rfl [.int (iI 3)]) rfl rfl hl.1 rfl (lv_room (Nat.le_of_ble_eq_true rfl)) (D_182 W_prog_15_method_38_code_32 2 rfl rfl rfl) ⟨Nat.le_of_ble_eq_true rfl, Nat.le_of_ble_eq_true rfl⟩) hS4 (fun q _ h => zAin X hS4 q h) (zAin X hS4) (fun u11 t11 H11 locs11 ht11 hv11 hw11 hB11 hz11 hk11 hS11 => ?_)
        have hZ11 := zBack X ht11 hB11
        refine lv_goto (tgt := 60) hx hb (D_167 W_prog_15_method_38_code_32 5 rfl rfl rfl) (by decide) ?_
        exact b_M_opening_60 X hf hZ11 hS11 (lv_sub hl [] rfl)
    · replace hf := gpos hf h6
      refine lv_aload_n hx hb (D_42 W_prog_15_method_38_code_0 16 rfl rfl) rfl (lv_at hl 0 rfl) ?_
      obtain ⟨r12, F12, B12, hc12, hf⟩ := gbind hf
      refine va_callv (va_runV (As := []) (rest := []) ⟨hx, hb, hml, hown, hts⟩ (c_M_wrong (l := l) hc12) (cwV 0 hts (gdV k_14_124 k_14_126 ks_203 k_1_9 k_14_127) rfl rfl rfl (by decide +kernel) ⟨Nat.le_of_ble_eq_true rfl, Nat.le_of_ble_eq_true rfl⟩) (zPV X hZ4 hS4 (ci := 14) (by decide) (by decide) (r := (RX14, TX14, 107)) rfl []) rfl rfl hl.1 rfl (lv_room (Nat.le_of_ble_eq_true rfl)) (D_182 W_prog_15_method_38_code_0 17 rfl rfl rfl) ⟨Nat.le_of_ble_eq_true rfl, Nat.le_of_ble_eq_true rfl⟩) hS4 (fun q _ h => zAin X hS4 q h) (zAin X hS4) (fun u12 t12 H12 locs12 ht12 hv12 hw12 hB12 hz12 hk12 hS12 => ?_)
      have hZ12 := zBack X ht12 hB12
      refine lv_goto (tgt := 60) hx hb (D_167 W_prog_15_method_38_code_0 20 rfl rfl rfl) (by decide) ?_
      exact b_M_opening_60 X hf hZ12 hS12 (lv_sub hl [] rfl)
  · replace hf := gpos hf h3
    cases hf
    exact W.vret hx hb hr (fun t ht hW => ⟨⟨(), rfl, trivial, by rw [ht]; exact hZ1, va_K.moved hW.alike hK⟩, hS1.F ht⟩) hS1.2.2 (D_177 W_prog_15_method_38_code_0 7 rfl rfl) hlk

abbrev Q_M_length (D : va_G) (ca : Nat → ClassId) (ad : Nat → Int → Nat → Nat) (L : List Nat) (r : Int) (F : zF) (B : zB) (A : Nat → Prop) : Array Value → State → Outcome → State → Prop := va_Qv (S := Unit) (fun _ => True) (fun _ => zPo D ca ad lnM nM L F B A) A
def f_M_length_84 (K : Nat) (l1 : Int) (F : zF) (B : zB) : zO := if 0 ≤ l1 ∧ l1 < 3001 then some (0, F, (zup4 (zup4 B 14 0 32 l1 (F 14 0 20)) 14 0 33 l1 (F 14 0 21))) else none
set_option maxHeartbeats 4000000 in
set_option maxRecDepth 100000 in
theorem b_M_length_84 {D : va_G} {ca : Nat → ClassId} {ad : Nat → Int → Nat → Nat} {L : List Nat} {aS vS : Nat → Nat} {A : Nat → Prop} {p : Program} {l : Launch} {e : Env} {s : State} {m : MethodId} {args : Array Value} {below : List Frame} {meth : Method} {c : Code} {K : Nat} {r : Int} {F9 : zF} {B9 : zB} (X : zX D ca L aS vS A p s m args meth c prog_15_method_50_code 4 (Option.none : Option Jvm.ClassFile.FieldType) "StaveHouseModel") {l1 : Int} {F : zF} {B : zB} {H : Heap} {locs : List Loc} {ls : Array Slot} (hf : f_M_length_84 K l1 F B = some (r, F9, B9)) (hZ : zH D ca ad lnM nM L F B A H) (hS : va_S A s.heap H locs) (hl : lv_has ls 4 [(0, .ref (ad 14 0 0)), (1, .int (iI l1))]) : W p l e ({ frames := 4, cells := 0, slots := 0, locals := 87 } : Room) s m args below meth c H locs 0 0 (MQ below (Q_M_length D ca ad L r F9 B9 A) args s 0 0 A) (F0 m 84 ls []) := by
  obtain ⟨hx, hb, hr, hml, hown, hts, hlk, hK, hA, hL, hX⟩ := id X
  replace hf : (if 0 ≤ l1 ∧ l1 < 3001 then some (0, F, (zup4 (zup4 B 14 0 32 l1 (F 14 0 20)) 14 0 33 l1 (F 14 0 21))) else none) = some (r, F9, B9) := hf
  refine lv_aload_n hx hb (D_42 W_prog_15_method_50_code_64 20 rfl rfl) rfl (lv_at hl 0 rfl) ?_
  refine zget (ci := 14) (C := RX14) (T := TX14) (v := .ref (ad 14 0 (32 + 1))) (k := 32) hx hb hts inW_14 hown hK hZ (by decide) (by decide) rfl (by decide) k_11_30 rfl (D_180 W_prog_15_method_50_code_64 21 rfl rfl rfl) ?_
  refine lv_iload_n hx hb (D_27 W_prog_15_method_50_code_64 24 rfl rfl) rfl (lv_at hl 1 rfl) ?_
  refine lv_aload_n hx hb (D_42 W_prog_15_method_50_code_64 25 rfl rfl) rfl (lv_at hl 0 rfl) ?_
  refine zget (ci := 14) (C := RX14) (T := TX14) (v := .int (iI (F 14 0 20))) (k := 20) hx hb hts inW_14 hown hK hZ (by decide) (by decide) rfl (by decide) k_11_18 rfl (D_180 W_prog_15_method_50_code_64 26 rfl rfl rfl) ?_
  obtain ⟨g20, hf⟩ := gif hf
  refine zast (ci := 14) (k := 32) hx hb hK rfl hZ hS (by decide) (by decide) rfl (Nat.le_of_ble_eq_true rfl) g20.1 g20.2 (D_79 W_prog_15_method_50_code_64 29 rfl rfl) (fun H21 locs21 hZ21 hS21 => ?_)
  refine lv_aload_n hx hb (D_42 W_prog_15_method_50_code_64 30 rfl rfl) rfl (lv_at hl 0 rfl) ?_
  refine zget (ci := 14) (C := RX14) (T := TX14) (v := .ref (ad 14 0 (33 + 1))) (k := 33) hx hb hts inW_14 hown hK hZ21 (by decide) (by decide) rfl (by decide) k_11_31 rfl (D_180 W_prog_15_method_50_code_64 31 rfl rfl rfl) ?_
  refine lv_iload_n hx hb (D_27 W_prog_15_method_50_code_96 2 rfl rfl) rfl (lv_at hl 1 rfl) ?_
  refine lv_aload_n hx hb (D_42 W_prog_15_method_50_code_96 3 rfl rfl) rfl (lv_at hl 0 rfl) ?_
  refine zget (ci := 14) (C := RX14) (T := TX14) (v := .int (iI (F 14 0 21))) (k := 21) hx hb hts inW_14 hown hK hZ21 (by decide) (by decide) rfl (by decide) k_11_19 rfl (D_180 W_prog_15_method_50_code_96 4 rfl rfl rfl) ?_
  refine zast (ci := 14) (k := 33) hx hb hK rfl hZ21 hS21 (by decide) (by decide) rfl (Nat.le_of_ble_eq_true rfl) g20.1 g20.2 (D_79 W_prog_15_method_50_code_96 7 rfl rfl) (fun H22 locs22 hZ22 hS22 => ?_)
  cases hf
  exact W.vret hx hb hr (fun t ht hW => ⟨⟨(), rfl, trivial, by rw [ht]; exact hZ22, va_K.moved hW.alike hK⟩, hS22.F ht⟩) hS22.2.2 (D_177 W_prog_15_method_50_code_96 8 rfl rfl) hlk

def f_M_length_74 (K : Nat) (l3 : Int) (l2 : Int) (l1 : Int) (F : zF) (B : zB) : zO := f_M_length_84 K l1 (zup3 (zup3 F 14 0 20 l2) 14 0 21 l3) B
set_option maxHeartbeats 4000000 in
set_option maxRecDepth 100000 in
theorem b_M_length_74 {D : va_G} {ca : Nat → ClassId} {ad : Nat → Int → Nat → Nat} {L : List Nat} {aS vS : Nat → Nat} {A : Nat → Prop} {p : Program} {l : Launch} {e : Env} {s : State} {m : MethodId} {args : Array Value} {below : List Frame} {meth : Method} {c : Code} {K : Nat} {r : Int} {F9 : zF} {B9 : zB} (X : zX D ca L aS vS A p s m args meth c prog_15_method_50_code 4 (Option.none : Option Jvm.ClassFile.FieldType) "StaveHouseModel") {l3 : Int} {l2 : Int} {l1 : Int} {F : zF} {B : zB} {H : Heap} {locs : List Loc} {ls : Array Slot} (hf : f_M_length_74 K l3 l2 l1 F B = some (r, F9, B9)) (hZ : zH D ca ad lnM nM L F B A H) (hS : va_S A s.heap H locs) (hl : lv_has ls 4 [(3, .int (iI l3)), (2, .int (iI l2)), (0, .ref (ad 14 0 0)), (1, .int (iI l1))]) : W p l e ({ frames := 4, cells := 0, slots := 0, locals := 87 } : Room) s m args below meth c H locs 0 0 (MQ below (Q_M_length D ca ad L r F9 B9 A) args s 0 0 A) (F0 m 74 ls []) := by
  obtain ⟨hx, hb, hr, hml, hown, hts, hlk, hK, hA, hL, hX⟩ := id X
  replace hf : (f_M_length_84 K l1 (zup3 (zup3 F 14 0 20 l2) 14 0 21 l3) B) = some (r, F9, B9) := hf
  refine lv_aload_n hx hb (D_42 W_prog_15_method_50_code_64 10 rfl rfl) rfl (lv_at hl 2 rfl) ?_
  refine lv_iload_n hx hb (D_28 W_prog_15_method_50_code_64 11 rfl rfl) rfl (lv_at hl 1 rfl) ?_
  refine zput (ci := 14) (C := RX14) (T := TX14) (k := 20) (v := l2) (w := .int (iI l2)) hx hb hts inW_14 tyX14 tyX14_ok nmX14 hown hK hZ hS (by decide) (by decide) rfl (by decide) k_11_18 rfl (fun G h => congrArg (fun q => Value.int (iI q)) h) rfl rfl (zno (by decide)) (D_181 W_prog_15_method_50_code_64 12 rfl rfl rfl) (fun H18 locs18 hZ18 hS18 => ?_)
  refine lv_aload_n hx hb (D_42 W_prog_15_method_50_code_64 15 rfl rfl) rfl (lv_at hl 2 rfl) ?_
  refine lv_iload_n hx hb (D_29 W_prog_15_method_50_code_64 16 rfl rfl) rfl (lv_at hl 0 rfl) ?_
  refine zput (ci := 14) (C := RX14) (T := TX14) (k := 21) (v := l3) (w := .int (iI l3)) hx hb hts inW_14 tyX14 tyX14_ok nmX14 hown hK hZ18 hS18 (by decide) (by decide) rfl (by decide) k_11_19 rfl (fun G h => congrArg (fun q => Value.int (iI q)) h) rfl rfl (zno (by decide)) (D_181 W_prog_15_method_50_code_64 17 rfl rfl rfl) (fun H19 locs19 hZ19 hS19 => ?_)
  exact b_M_length_84 X hf hZ19 hS19 (lv_sub hl [2, 3] rfl)

def f_M_length_37 (K : Nat) : Nat → Int → Int → Int → zF → zB → zO
  | 0, _, _, _, _, _ => none
  | n + 1, l3, l2, l1, F, B => zbind (f_M_good K F B) (fun r9 F9 B9 => if r32 r9 then (if r9 = 0 then f_M_length_74 K l3 l2 l1 F9 B9 else if r32 l3 then (if 2 ≤ l3 then f_M_length_74 K l3 l2 l1 F9 B9 else zbind (f_M_isSign K 46 F9 B9) (fun r14 F14 B14 => if r32 r14 then (if r14 = 0 then f_M_length_74 K l3 l2 l1 F14 B14 else f_M_length_37 K n (l3 + 1) l2 l1 (zup3 F14 14 0 16 ((F14 14 0 16) + 1)) B14) else none)) else none) else none)
set_option maxHeartbeats 4000000 in
set_option maxRecDepth 100000 in
theorem b_M_length_37 {D : va_G} {ca : Nat → ClassId} {ad : Nat → Int → Nat → Nat} {L : List Nat} {aS vS : Nat → Nat} {A : Nat → Prop} {p : Program} {l : Launch} {e : Env} {s : State} {m : MethodId} {args : Array Value} {below : List Frame} {meth : Method} {c : Code} {K : Nat} {r : Int} {F9 : zF} {B9 : zB} (X : zX D ca L aS vS A p s m args meth c prog_15_method_50_code 4 (Option.none : Option Jvm.ClassFile.FieldType) "StaveHouseModel") : ∀ {n : Nat} {l3 : Int} {l2 : Int} {l1 : Int} {F : zF} {B : zB} {H : Heap} {locs : List Loc} {ls : Array Slot}, f_M_length_37 K n l3 l2 l1 F B = some (r, F9, B9) → zH D ca ad lnM nM L F B A H → va_S A s.heap H locs → lv_has ls 4 [(3, .int (iI l3)), (2, .int (iI l2)), (0, .ref (ad 14 0 0)), (1, .int (iI l1))] → W p l e ({ frames := 4, cells := 0, slots := 0, locals := 87 } : Room) s m args below meth c H locs 0 0 (MQ below (Q_M_length D ca ad L r F9 B9 A) args s 0 0 A) (F0 m 37 ls []) := by
  obtain ⟨hx, hb, hr, hml, hown, hts, hlk, hK, hA, hL, hX⟩ := id X
  intro n
  induction n with
  | zero =>
    intros
    rename_i hf _ _ _
    cases hf
  | succ n ih =>
    intro l3 l2 l1 F B H locs ls hf hZ hS hl
    replace hf : (zbind (f_M_good K F B) (fun r9 F9 B9 => if r32 r9 then (if r9 = 0 then f_M_length_74 K l3 l2 l1 F9 B9 else if r32 l3 then (if 2 ≤ l3 then f_M_length_74 K l3 l2 l1 F9 B9 else zbind (f_M_isSign K 46 F9 B9) (fun r14 F14 B14 => if r32 r14 then (if r14 = 0 then f_M_length_74 K l3 l2 l1 F14 B14 else f_M_length_37 K n (l3 + 1) l2 l1 (zup3 F14 14 0 16 ((F14 14 0 16) + 1)) B14) else none)) else none) else none)) = some (r, F9, B9) := hf
    refine lv_aload_n hx hb (D_42 W_prog_15_method_50_code_32 5 rfl rfl) rfl (lv_at hl 2 rfl) ?_
    obtain ⟨r9, F9, B9, hc9, hf⟩ := gbind hf
    refine va_calli (va_runV (As := []) (rest := []) ⟨hx, hb, hml, hown, hts⟩ (c_M_good (l := l) hc9) (cwV 0 hts (gdV k_13_15 k_13_17 ks_152 k_1_9 k_13_18) rfl rfl rfl (by decide +kernel) ⟨Nat.le_of_ble_eq_true rfl, Nat.le_of_ble_eq_true rfl⟩) (zPV X hZ hS (ci := 14) (by decide) (by decide) (r := (RX14, TX14, 107)) rfl []) rfl rfl hl.1 rfl (lv_room (Nat.le_of_ble_eq_true rfl)) (D_182 W_prog_15_method_50_code_32 6 rfl rfl rfl) ⟨Nat.le_of_ble_eq_true rfl, Nat.le_of_ble_eq_true rfl⟩) hS (fun q _ h => zAin X hS q h) (zAin X hS) (fun p9 u9 t9 H9 locs9 ht9 hv9 hw9 hB9 hz9 hk9 hS9 => ?_)
    have hZ9 := zBack X ht9 hB9
    subst hw9
    obtain ⟨g10, hf⟩ := gif hf
    refine z0eq (tgt := 74) hx hb g10 (D_153 W_prog_15_method_50_code_32 9 rfl rfl rfl) (by decide) (fun h11 => ?_) (fun h11 => ?_)
    · replace hf := gpos hf h11
      exact b_M_length_74 X hf hZ9 hS9 (lv_sub hl [0, 1, 2, 3] rfl)
    · replace hf := gneg hf h11
      refine lv_iload_n hx hb (D_29 W_prog_15_method_50_code_32 12 rfl rfl) rfl (lv_at hl 0 rfl) ?_
      refine lv_iconst (v := iI 2) hx hb (D_5 W_prog_15_method_50_code_32 13 rfl rfl) rfl ?_
      obtain ⟨g12, hf⟩ := gif hf
      refine zge (tgt := 74) hx hb g12 (by decide) (D_162 W_prog_15_method_50_code_32 14 rfl rfl rfl) (by decide) (fun h13 => ?_) (fun h13 => ?_)
      · replace hf := gpos hf h13
        exact b_M_length_74 X hf hZ9 hS9 (lv_sub hl [0, 1, 2, 3] rfl)
      · replace hf := gneg hf h13
        refine lv_aload_n hx hb (D_42 W_prog_15_method_50_code_32 17 rfl rfl) rfl (lv_at hl 2 rfl) ?_
        refine lv_bipush (v := iI 46) hx hb (D_16 W_prog_15_method_50_code_32 18 rfl rfl rfl) (by decide) ?_
        obtain ⟨r14, F14, B14, hc14, hf⟩ := gbind hf
        refine va_calli (va_runV (As := [.int (iI 46)]) (rest := []) ⟨hx, hb, hml, hown, hts⟩ (c_M_isSign (l := l) hc14) (cwV 1 hts (gdV k_14_136 k_14_138 ks_206 k_1_9 k_14_139) rfl rfl rfl (by decide +kernel) ⟨Nat.le_of_ble_eq_true rfl, Nat.le_of_ble_eq_true rfl⟩) (zPV X hZ9 hS9 (ci := 14) (by decide) (by decide) (r := (RX14, TX14, 107)) rfl [.int (iI 46)]) rfl rfl hl.1 rfl (lv_room (Nat.le_of_ble_eq_true rfl)) (D_182 W_prog_15_method_50_code_32 20 rfl rfl rfl) ⟨Nat.le_of_ble_eq_true rfl, Nat.le_of_ble_eq_true rfl⟩) hS9 (fun q _ h => zAin X hS9 q h) (zAin X hS9) (fun p14 u14 t14 H14 locs14 ht14 hv14 hw14 hB14 hz14 hk14 hS14 => ?_)
        have hZ14 := zBack X ht14 hB14
        subst hw14
        obtain ⟨g15, hf⟩ := gif hf
        refine z0eq (tgt := 74) hx hb g15 (D_153 W_prog_15_method_50_code_32 23 rfl rfl rfl) (by decide) (fun h16 => ?_) (fun h16 => ?_)
        · replace hf := gpos hf h16
          exact b_M_length_74 X hf hZ14 hS14 (lv_sub hl [0, 1, 2, 3] rfl)
        · replace hf := gneg hf h16
          refine lv_iinc (v := iI (l3 + 1)) (lv' := [(3, .int (iI (l3 + 1))), (2, .int (iI l2)), (0, .ref (ad 14 0 0)), (1, .int (iI l1))]) hx hb d_15_50_58 hl (k := 0) rfl (iI_add _ 1) (by decide) rfl (fun ls hl => ?_)
          refine lv_aload_n hx hb (D_42 W_prog_15_method_50_code_32 29 rfl rfl) rfl (lv_at hl 2 rfl) ?_
          refine lv_dup hx hb (D_89 W_prog_15_method_50_code_32 30 rfl rfl) rfl ?_
          refine zget (ci := 14) (C := RX14) (T := TX14) (v := .int (iI (F14 14 0 16))) (k := 16) hx hb hts inW_14 hown hK hZ14 (by decide) (by decide) rfl (by decide) k_11_14 rfl (D_180 W_prog_15_method_50_code_32 31 rfl rfl rfl) ?_
          refine lv_iconst (v := iI 1) hx hb (D_4 W_prog_15_method_50_code_64 2 rfl rfl) rfl ?_
          refine zadd hx hb (D_96 W_prog_15_method_50_code_64 3 rfl rfl) ?_
          refine zput (ci := 14) (C := RX14) (T := TX14) (k := 16) (v := ((F14 14 0 16) + 1)) (w := .int (iI ((F14 14 0 16) + 1))) hx hb hts inW_14 tyX14 tyX14_ok nmX14 hown hK hZ14 hS14 (by decide) (by decide) rfl (by decide) k_11_14 rfl (fun G h => congrArg (fun q => Value.int (iI q)) h) rfl rfl (zno (by decide)) (D_181 W_prog_15_method_50_code_64 4 rfl rfl rfl) (fun H17 locs17 hZ17 hS17 => ?_)
          refine lv_goto (tgt := 37) hx hb (D_167 W_prog_15_method_50_code_64 7 rfl rfl rfl) (by decide) ?_
          exact ih hf hZ17 hS17 (lv_sub hl [0, 1, 2, 3] rfl)

def f_M_length (K : Nat) (l1 : Int) (F : zF) (B : zB) : zO := zbind (f_M_good K F B) (fun r1 F1 B1 => if r32 r1 then (if r1 = 0 then f_M_length_84 K l1 F1 B1 else zbind (f_M_isSign K 58 F1 B1) (fun r4 F4 B4 => if r32 r4 then (if r4 = 0 then f_M_length_84 K l1 F4 B4 else zbind (f_M_number K 1 32 1 (zup3 F4 14 0 16 ((F4 14 0 16) + 1)) B4) (fun r8 F8 B8 => f_M_length_37 K K 0 r8 l1 F8 B8)) else none)) else none)
set_option maxHeartbeats 4000000 in
set_option maxRecDepth 100000 in
theorem c_M_length {l : Launch} {D : va_G} {ca : Nat → ClassId} {ad : Nat → Int → Nat → Nat} {L : List Nat} {aS vS : Nat → Nat} {sz K : Nat}  {l1 : Int} {F F9 : zF} {B B9 : zB} {r : Int} (hf : f_M_length K l1 F B = some (r, F9, B9)) : Met l ({ cls := "StaveHouseModel", name := "length", desc := "(I)V" } : Jvm.MethodName) (Cond.code ({ cls := "StaveHouseModel", name := "length", desc := "(I)V" } : Jvm.MethodName) prog_15_method_50_code 4 (Option.none : Option Jvm.ClassFile.FieldType) :: wAll) ({ frames := 4, cells := 0, slots := 0, locals := 87 } : Room) (va_Pc [.ref (ad 14 0 0), .int (iI l1)] (zPre D ca ad lnM nM L aS vS F B sz)) (Q_M_length D ca ad L r F9 B9 (zA L sz)) 0 0 (zA L sz) := by
  refine zMet (Qc := Q_M_length D ca ad L r F9 B9) (lv := [(0, .ref (ad 14 0 0)), (1, .int (iI l1))]) (by decide) (Nat.le_of_ble_eq_true rfl) rfl (fun A p e s m below meth c ls X hZ hS hl => ?_)
  obtain ⟨hx, hb, hr, hml, hown, hts, hlk, hK, hA, hL, hX⟩ := id X
  replace hf : (zbind (f_M_good K F B) (fun r1 F1 B1 => if r32 r1 then (if r1 = 0 then f_M_length_84 K l1 F1 B1 else zbind (f_M_isSign K 58 F1 B1) (fun r4 F4 B4 => if r32 r4 then (if r4 = 0 then f_M_length_84 K l1 F4 B4 else zbind (f_M_number K 1 32 1 (zup3 F4 14 0 16 ((F4 14 0 16) + 1)) B4) (fun r8 F8 B8 => f_M_length_37 K K 0 r8 l1 F8 B8)) else none)) else none)) = some (r, F9, B9) := hf
  refine lv_aload_n hx hb (D_42 W_prog_15_method_50_code_0 0 rfl rfl) rfl (lv_at hl 0 rfl) ?_
  obtain ⟨r1, F1, B1, hc1, hf⟩ := gbind hf
  refine va_calli (va_runV (As := []) (rest := []) ⟨hx, hb, hml, hown, hts⟩ (c_M_good (l := l) hc1) (cwV 0 hts (gdV k_13_15 k_13_17 ks_152 k_1_9 k_13_18) rfl rfl rfl (by decide +kernel) ⟨Nat.le_of_ble_eq_true rfl, Nat.le_of_ble_eq_true rfl⟩) (zPV X hZ hS (ci := 14) (by decide) (by decide) (r := (RX14, TX14, 107)) rfl []) rfl rfl hl.1 rfl (lv_room (Nat.le_of_ble_eq_true rfl)) (D_182 W_prog_15_method_50_code_0 1 rfl rfl rfl) ⟨Nat.le_of_ble_eq_true rfl, Nat.le_of_ble_eq_true rfl⟩) hS (fun q _ h => zAin X hS q h) (zAin X hS) (fun p1 u1 t1 H1 locs1 ht1 hv1 hw1 hB1 hz1 hk1 hS1 => ?_)
  have hZ1 := zBack X ht1 hB1
  subst hw1
  obtain ⟨g2, hf⟩ := gif hf
  refine z0eq (tgt := 84) hx hb g2 (D_153 W_prog_15_method_50_code_0 4 rfl rfl rfl) (by decide) (fun h3 => ?_) (fun h3 => ?_)
  · replace hf := gpos hf h3
    exact b_M_length_84 X hf hZ1 hS1 (lv_sub hl [0, 1] rfl)
  · replace hf := gneg hf h3
    refine lv_aload_n hx hb (D_42 W_prog_15_method_50_code_0 7 rfl rfl) rfl (lv_at hl 0 rfl) ?_
    refine lv_bipush (v := iI 58) hx hb (D_16 W_prog_15_method_50_code_0 8 rfl rfl rfl) (by decide) ?_
    obtain ⟨r4, F4, B4, hc4, hf⟩ := gbind hf
    refine va_calli (va_runV (As := [.int (iI 58)]) (rest := []) ⟨hx, hb, hml, hown, hts⟩ (c_M_isSign (l := l) hc4) (cwV 1 hts (gdV k_14_136 k_14_138 ks_206 k_1_9 k_14_139) rfl rfl rfl (by decide +kernel) ⟨Nat.le_of_ble_eq_true rfl, Nat.le_of_ble_eq_true rfl⟩) (zPV X hZ1 hS1 (ci := 14) (by decide) (by decide) (r := (RX14, TX14, 107)) rfl [.int (iI 58)]) rfl rfl hl.1 rfl (lv_room (Nat.le_of_ble_eq_true rfl)) (D_182 W_prog_15_method_50_code_0 10 rfl rfl rfl) ⟨Nat.le_of_ble_eq_true rfl, Nat.le_of_ble_eq_true rfl⟩) hS1 (fun q _ h => zAin X hS1 q h) (zAin X hS1) (fun p4 u4 t4 H4 locs4 ht4 hv4 hw4 hB4 hz4 hk4 hS4 => ?_)
    have hZ4 := zBack X ht4 hB4
    subst hw4
    obtain ⟨g5, hf⟩ := gif hf
    refine z0eq (tgt := 84) hx hb g5 (D_153 W_prog_15_method_50_code_0 13 rfl rfl rfl) (by decide) (fun h6 => ?_) (fun h6 => ?_)
    · replace hf := gpos hf h6
      exact b_M_length_84 X hf hZ4 hS4 (lv_sub hl [0, 1] rfl)
    · replace hf := gneg hf h6
      refine lv_aload_n hx hb (D_42 W_prog_15_method_50_code_0 16 rfl rfl) rfl (lv_at hl 0 rfl) ?_
      refine lv_dup hx hb (D_89 W_prog_15_method_50_code_0 17 rfl rfl) rfl ?_
      refine zget (ci := 14) (C := RX14) (T := TX14) (v := .int (iI (F4 14 0 16))) (k := 16) hx hb hts inW_14 hown hK hZ4 (by decide) (by decide) rfl (by decide) k_11_14 rfl (D_180 W_prog_15_method_50_code_0 18 rfl rfl rfl) ?_
      refine lv_iconst (v := iI 1) hx hb (D_4 W_prog_15_method_50_code_0 21 rfl rfl) rfl ?_
      refine zadd hx hb (D_96 W_prog_15_method_50_code_0 22 rfl rfl) ?_
      refine zput (ci := 14) (C := RX14) (T := TX14) (k := 16) (v := ((F4 14 0 16) + 1)) (w := .int (iI ((F4 14 0 16) + 1))) hx hb hts inW_14 tyX14 tyX14_ok nmX14 hown hK hZ4 hS4 (by decide) (by decide) rfl (by decide) k_11_14 rfl (fun G h => congrArg (fun q => Value.int (iI q)) h) rfl rfl (zno (by decide)) (D_181 W_prog_15_method_50_code_0 23 rfl rfl rfl) (fun H7 locs7 hZ7 hS7 => ?_)
      refine lv_aload_n hx hb (D_42 W_prog_15_method_50_code_0 26 rfl rfl) rfl (lv_at hl 0 rfl) ?_
      refine lv_iconst (v := iI 1) hx hb (D_4 W_prog_15_method_50_code_0 27 rfl rfl) rfl ?_
      refine lv_bipush (v := iI 32) hx hb (D_16 W_prog_15_method_50_code_0 28 rfl rfl rfl) (by decide) ?_
      refine lv_iconst (v := iI 1) hx hb (D_4 W_prog_15_method_50_code_0 30 rfl rfl) rfl ?_
      obtain ⟨r8, F8, B8, hc8, hf⟩ := gbind hf
      refine va_calli (va_runV (As := [.int (iI 1), .int (iI 32), .int (iI 1)]) (rest := []) ⟨hx, hb, hml, hown, hts⟩ (c_M_number (l := l) hc8) (cwV 3 hts (gdV k_14_140 k_14_142 ks_207 k_1_9 k_14_143) rfl rfl rfl (by decide +kernel) ⟨Nat.le_of_ble_eq_true rfl, Nat.le_of_ble_eq_true rfl⟩) (zPV X hZ7 hS7 (ci := 14) (by decide) (by decide) (r := (RX14, TX14, 107)) rfl [.int (iI 1), .int (iI 32), .int (iI 1)]) rfl rfl hl.1 rfl (lv_room (Nat.le_of_ble_eq_true rfl)) (D_182 W_prog_15_method_50_code_0 31 rfl rfl rfl) ⟨Nat.le_of_ble_eq_true rfl, Nat.le_of_ble_eq_true rfl⟩) hS7 (fun q _ h => zAin X hS7 q h) (zAin X hS7) (fun p8 u8 t8 H8 locs8 ht8 hv8 hw8 hB8 hz8 hk8 hS8 => ?_)
      have hZ8 := zBack X ht8 hB8
      subst hw8
      refine lv_istore_n (lv' := [(2, .int (iI r8)), (0, .ref (ad 14 0 0)), (1, .int (iI l1))]) hx hb (D_61 W_prog_15_method_50_code_32 2 rfl rfl) rfl hl (by decide) rfl (fun ls hl => ?_)
      refine lv_iconst (v := iI 0) hx hb (D_3 W_prog_15_method_50_code_32 3 rfl rfl) rfl ?_
      refine lv_istore_n (lv' := [(3, .int (iI 0)), (2, .int (iI r8)), (0, .ref (ad 14 0 0)), (1, .int (iI l1))]) hx hb (D_62 W_prog_15_method_50_code_32 4 rfl rfl) rfl hl (by decide) rfl (fun ls hl => ?_)
      exact b_M_length_37 X hf hZ8 hS8 (lv_sub hl [0, 1, 2, 3] rfl)

abbrev Q_M_marks (D : va_G) (ca : Nat → ClassId) (ad : Nat → Int → Nat → Nat) (L : List Nat) (r : Int) (F : zF) (B : zB) (A : Nat → Prop) : Array Value → State → Outcome → State → Prop := va_Qv (S := Unit) (fun _ => True) (fun _ => zPo D ca ad lnM nM L F B A) A
def f_M_marks_68 (K : Nat)  (F : zF) (B : zB) : zO := some (0, F, B)
set_option maxHeartbeats 4000000 in
set_option maxRecDepth 100000 in
theorem b_M_marks_68 {D : va_G} {ca : Nat → ClassId} {ad : Nat → Int → Nat → Nat} {L : List Nat} {aS vS : Nat → Nat} {A : Nat → Prop} {p : Program} {l : Launch} {e : Env} {s : State} {m : MethodId} {args : Array Value} {below : List Frame} {meth : Method} {c : Code} {K : Nat} {r : Int} {F9 : zF} {B9 : zB} (X : zX D ca L aS vS A p s m args meth c prog_15_method_52_code 2 (Option.none : Option Jvm.ClassFile.FieldType) "StaveHouseModel")  {F : zF} {B : zB} {H : Heap} {locs : List Loc} {ls : Array Slot} (hf : f_M_marks_68 K  F B = some (r, F9, B9)) (hZ : zH D ca ad lnM nM L F B A H) (hS : va_S A s.heap H locs) (hl : lv_has ls 2 []) : W p l e ({ frames := 3, cells := 0, slots := 0, locals := 63 } : Room) s m args below meth c H locs 0 0 (MQ below (Q_M_marks D ca ad L r F9 B9 A) args s 0 0 A) (F0 m 68 ls []) := by
  obtain ⟨hx, hb, hr, hml, hown, hts, hlk, hK, hA, hL, hX⟩ := id X
  replace hf : (some (0, F, B)) = some (r, F9, B9) := hf
  cases hf
  exact W.vret hx hb hr (fun t ht hW => ⟨⟨(), rfl, trivial, by rw [ht]; exact hZ, va_K.moved hW.alike hK⟩, hS.F ht⟩) hS.2.2 (D_177 W_prog_15_method_52_code_64 4 rfl rfl) hlk

def f_M_marks_7 (K : Nat) : Nat → Int → zF → zB → zO
  | 0, _, _, _ => none
  | n + 1, l1, F, B => zbind (f_M_good K F B) (fun r3 F3 B3 => if r32 r3 then (if r3 = 0 then f_M_marks_68 K F3 B3 else zbind (f_M_markHere K F3 B3) (fun r6 F6 B6 => if r32 r6 then (if r6 ≤ 0 then f_M_marks_68 K F6 B6 else if 0 ≤ l1 ∧ l1 < 3001 then zbind (f_M_markHere K F6 B6) (fun r10 F10 B10 => if r32 (zand (B6 14 0 34 l1) r10) then (if (zand (B6 14 0 34 l1) r10) ≤ 0 then zbind (f_M_markHere K F10 B10) (fun r13 F13 B13 => f_M_marks_7 K n l1 (zup3 F13 14 0 16 ((F13 14 0 16) + 1)) (zup4 B13 14 0 34 l1 (zor (B10 14 0 34 l1) r13))) else zbind (f_M_wrong K F10 B10) (fun r16 F16 B16 => f_M_marks_7 K n l1 F16 B16)) else none) else none) else none)) else none)
set_option maxHeartbeats 4000000 in
set_option maxRecDepth 100000 in
theorem b_M_marks_7 {D : va_G} {ca : Nat → ClassId} {ad : Nat → Int → Nat → Nat} {L : List Nat} {aS vS : Nat → Nat} {A : Nat → Prop} {p : Program} {l : Launch} {e : Env} {s : State} {m : MethodId} {args : Array Value} {below : List Frame} {meth : Method} {c : Code} {K : Nat} {r : Int} {F9 : zF} {B9 : zB} (X : zX D ca L aS vS A p s m args meth c prog_15_method_52_code 2 (Option.none : Option Jvm.ClassFile.FieldType) "StaveHouseModel") : ∀ {n : Nat} {l1 : Int} {F : zF} {B : zB} {H : Heap} {locs : List Loc} {ls : Array Slot}, f_M_marks_7 K n l1 F B = some (r, F9, B9) → zH D ca ad lnM nM L F B A H → va_S A s.heap H locs → lv_has ls 2 [(0, .ref (ad 14 0 0)), (1, .int (iI l1))] → W p l e ({ frames := 3, cells := 0, slots := 0, locals := 63 } : Room) s m args below meth c H locs 0 0 (MQ below (Q_M_marks D ca ad L r F9 B9 A) args s 0 0 A) (F0 m 7 ls []) := by
  obtain ⟨hx, hb, hr, hml, hown, hts, hlk, hK, hA, hL, hX⟩ := id X
  intro n
  induction n with
  | zero =>
    intros
    rename_i hf _ _ _
    cases hf
  | succ n ih =>
    intro l1 F B H locs ls hf hZ hS hl
    replace hf : (zbind (f_M_good K F B) (fun r3 F3 B3 => if r32 r3 then (if r3 = 0 then f_M_marks_68 K F3 B3 else zbind (f_M_markHere K F3 B3) (fun r6 F6 B6 => if r32 r6 then (if r6 ≤ 0 then f_M_marks_68 K F6 B6 else if 0 ≤ l1 ∧ l1 < 3001 then zbind (f_M_markHere K F6 B6) (fun r10 F10 B10 => if r32 (zand (B6 14 0 34 l1) r10) then (if (zand (B6 14 0 34 l1) r10) ≤ 0 then zbind (f_M_markHere K F10 B10) (fun r13 F13 B13 => f_M_marks_7 K n l1 (zup3 F13 14 0 16 ((F13 14 0 16) + 1)) (zup4 B13 14 0 34 l1 (zor (B10 14 0 34 l1) r13))) else zbind (f_M_wrong K F10 B10) (fun r16 F16 B16 => f_M_marks_7 K n l1 F16 B16)) else none) else none) else none)) else none)) = some (r, F9, B9) := hf
    refine lv_aload_n hx hb (D_42 W_prog_15_method_52_code_0 7 rfl rfl) rfl (lv_at hl 0 rfl) ?_
    obtain ⟨r3, F3, B3, hc3, hf⟩ := gbind hf
    refine va_calli (va_runV (As := []) (rest := []) ⟨hx, hb, hml, hown, hts⟩ (c_M_good (l := l) hc3) (cwV 0 hts (gdV k_13_15 k_13_17 ks_152 k_1_9 k_13_18) rfl rfl rfl (by decide +kernel) ⟨Nat.le_of_ble_eq_true rfl, Nat.le_of_ble_eq_true rfl⟩) (zPV X hZ hS (ci := 14) (by decide) (by decide) (r := (RX14, TX14, 107)) rfl []) rfl rfl hl.1 rfl (lv_room (Nat.le_of_ble_eq_true rfl)) (D_182 W_prog_15_method_52_code_0 8 rfl rfl rfl) ⟨Nat.le_of_ble_eq_true rfl, Nat.le_of_ble_eq_true rfl⟩) hS (fun q _ h => zAin X hS q h) (zAin X hS) (fun p3 u3 t3 H3 locs3 ht3 hv3 hw3 hB3 hz3 hk3 hS3 => ?_)
    have hZ3 := zBack X ht3 hB3
    subst hw3
    obtain ⟨g4, hf⟩ := gif hf
    refine z0eq (tgt := 68) hx hb g4 (D_153 W_prog_15_method_52_code_0 11 rfl rfl rfl) (by decide) (fun h5 => ?_) (fun h5 => ?_)
    · replace hf := gpos hf h5
      exact b_M_marks_68 X hf hZ3 hS3 (lv_sub hl [] rfl)
    · replace hf := gneg hf h5
      refine lv_aload_n hx hb (D_42 W_prog_15_method_52_code_0 14 rfl rfl) rfl (lv_at hl 0 rfl) ?_
      obtain ⟨r6, F6, B6, hc6, hf⟩ := gbind hf
      refine va_calli (va_runV (As := []) (rest := []) ⟨hx, hb, hml, hown, hts⟩ (c_M_markHere (l := l) hc6) (cwV 0 hts (gdV k_14_179 k_14_181 ks_216 k_1_9 k_14_182) rfl rfl rfl (by decide +kernel) ⟨Nat.le_of_ble_eq_true rfl, Nat.le_of_ble_eq_true rfl⟩) (zPV X hZ3 hS3 (ci := 14) (by decide) (by decide) (r := (RX14, TX14, 107)) rfl []) rfl rfl hl.1 rfl (lv_room (Nat.le_of_ble_eq_true rfl)) (D_182 W_prog_15_method_52_code_0 15 rfl rfl rfl) ⟨Nat.le_of_ble_eq_true rfl, Nat.le_of_ble_eq_true rfl⟩) hS3 (fun q _ h => zAin X hS3 q h) (zAin X hS3) (fun p6 u6 t6 H6 locs6 ht6 hv6 hw6 hB6 hz6 hk6 hS6 => ?_)
      have hZ6 := zBack X ht6 hB6
      subst hw6
      obtain ⟨g7, hf⟩ := gif hf
      refine z0le (tgt := 68) hx hb g7 (D_158 W_prog_15_method_52_code_0 18 rfl rfl rfl) (by decide) (fun h8 => ?_) (fun h8 => ?_)
      · replace hf := gpos hf h8
        exact b_M_marks_68 X hf hZ6 hS6 (lv_sub hl [] rfl)
      · replace hf := gneg hf h8
        refine lv_aload_n hx hb (D_42 W_prog_15_method_52_code_0 21 rfl rfl) rfl (lv_at hl 0 rfl) ?_
        refine zget (ci := 14) (C := RX14) (T := TX14) (v := .ref (ad 14 0 (34 + 1))) (k := 34) hx hb hts inW_14 hown hK hZ6 (by decide) (by decide) rfl (by decide) k_11_32 rfl (D_180 W_prog_15_method_52_code_0 22 rfl rfl rfl) ?_
        refine lv_iload_n hx hb (D_27 W_prog_15_method_52_code_0 25 rfl rfl) rfl (lv_at hl 1 rfl) ?_
        obtain ⟨g9, hf⟩ := gif hf
        refine zald (ci := 14) (k := 34) hx hb hK rfl hZ6 (by decide) (by decide) rfl (Nat.le_of_ble_eq_true rfl) g9.1 g9.2 (D_46 W_prog_15_method_52_code_0 26 rfl rfl) ?_
        refine lv_aload_n hx hb (D_42 W_prog_15_method_52_code_0 27 rfl rfl) rfl (lv_at hl 0 rfl) ?_
        obtain ⟨r10, F10, B10, hc10, hf⟩ := gbind hf
        refine va_calli (va_runV (As := []) (rest := [.int (iI (B6 14 0 34 l1))]) ⟨hx, hb, hml, hown, hts⟩ (c_M_markHere (l := l) hc10) (cwV 0 hts (gdV k_14_179 k_14_181 ks_216 k_1_9 k_14_182) rfl rfl rfl (by decide +kernel) ⟨Nat.le_of_ble_eq_true rfl, Nat.le_of_ble_eq_true rfl⟩) (zPV X hZ6 hS6 (ci := 14) (by decide) (by decide) (r := (RX14, TX14, 107)) rfl []) rfl rfl hl.1 rfl (lv_room (Nat.le_of_ble_eq_true rfl)) (D_182 W_prog_15_method_52_code_0 28 rfl rfl rfl) ⟨Nat.le_of_ble_eq_true rfl, Nat.le_of_ble_eq_true rfl⟩) hS6 (fun q _ h => zAin X hS6 q h) (zAin X hS6) (fun p10 u10 t10 H10 locs10 ht10 hv10 hw10 hB10 hz10 hk10 hS10 => ?_)
        have hZ10 := zBack X ht10 hB10
        subst hw10
        refine zand_r hx hb (D_126 W_prog_15_method_52_code_0 31 rfl rfl) ?_
        obtain ⟨g11, hf⟩ := gif hf
        refine z0le (tgt := 42) hx hb g11 (D_158 W_prog_15_method_52_code_32 0 rfl rfl rfl) (by decide) (fun h12 => ?_) (fun h12 => ?_)
        · replace hf := gpos hf h12
          refine lv_aload_n hx hb (D_42 W_prog_15_method_52_code_32 10 rfl rfl) rfl (lv_at hl 0 rfl) ?_
          refine zget (ci := 14) (C := RX14) (T := TX14) (v := .ref (ad 14 0 (34 + 1))) (k := 34) hx hb hts inW_14 hown hK hZ10 (by decide) (by decide) rfl (by decide) k_11_32 rfl (D_180 W_prog_15_method_52_code_32 11 rfl rfl rfl) ?_
          refine lv_iload_n hx hb (D_27 W_prog_15_method_52_code_32 14 rfl rfl) rfl (lv_at hl 1 rfl) ?_
          refine lv_dup2_11 hx hb (D_92 W_prog_15_method_52_code_32 15 rfl rfl) rfl rfl ?_
          refine zald (ci := 14) (k := 34) hx hb hK rfl hZ10 (by decide) (by decide) rfl (Nat.le_of_ble_eq_true rfl) g9.1 g9.2 (D_46 W_prog_15_method_52_code_32 16 rfl rfl) ?_
          refine lv_aload_n hx hb (D_42 W_prog_15_method_52_code_32 17 rfl rfl) rfl (lv_at hl 0 rfl) ?_
          obtain ⟨r13, F13, B13, hc13, hf⟩ := gbind hf
          refine va_calli (va_runV (As := []) (rest := [.int (iI (B10 14 0 34 l1)), .int (iI l1), .ref (ad 14 0 (34 + 1))]) ⟨hx, hb, hml, hown, hts⟩ (c_M_markHere (l := l) hc13) (cwV 0 hts (gdV k_14_179 k_14_181 ks_216 k_1_9 k_14_182) rfl rfl rfl (by decide +kernel) ⟨Nat.le_of_ble_eq_true rfl, Nat.le_of_ble_eq_true rfl⟩) (zPV X hZ10 hS10 (ci := 14) (by decide) (by decide) (r := (RX14, TX14, 107)) rfl []) rfl rfl hl.1 rfl (lv_room (Nat.le_of_ble_eq_true rfl)) (D_182 W_prog_15_method_52_code_32 18 rfl rfl rfl) ⟨Nat.le_of_ble_eq_true rfl, Nat.le_of_ble_eq_true rfl⟩) hS10 (fun q _ h => zAin X hS10 q h) (zAin X hS10) (fun p13 u13 t13 H13 locs13 ht13 hv13 hw13 hB13 hz13 hk13 hS13 => ?_)
          have hZ13 := zBack X ht13 hB13
          subst hw13
          refine zor_r hx hb (D_128 W_prog_15_method_52_code_32 21 rfl rfl) ?_
          refine zast (ci := 14) (k := 34) hx hb hK rfl hZ13 hS13 (by decide) (by decide) rfl (Nat.le_of_ble_eq_true rfl) g9.1 g9.2 (D_79 W_prog_15_method_52_code_32 22 rfl rfl) (fun H14 locs14 hZ14 hS14 => ?_)
          refine lv_aload_n hx hb (D_42 W_prog_15_method_52_code_32 23 rfl rfl) rfl (lv_at hl 0 rfl) ?_
          refine lv_dup hx hb (D_89 W_prog_15_method_52_code_32 24 rfl rfl) rfl ?_
          refine zget (ci := 14) (C := RX14) (T := TX14) (v := .int (iI (F13 14 0 16))) (k := 16) hx hb hts inW_14 hown hK hZ14 (by decide) (by decide) rfl (by decide) k_11_14 rfl (D_180 W_prog_15_method_52_code_32 25 rfl rfl rfl) ?_
          refine lv_iconst (v := iI 1) hx hb (D_4 W_prog_15_method_52_code_32 28 rfl rfl) rfl ?_
          refine zadd hx hb (D_96 W_prog_15_method_52_code_32 29 rfl rfl) ?_
          refine zput (ci := 14) (C := RX14) (T := TX14) (k := 16) (v := ((F13 14 0 16) + 1)) (w := .int (iI ((F13 14 0 16) + 1))) hx hb hts inW_14 tyX14 tyX14_ok nmX14 hown hK hZ14 hS14 (by decide) (by decide) rfl (by decide) k_11_14 rfl (fun G h => congrArg (fun q => Value.int (iI q)) h) rfl rfl (zno (by decide)) (D_181 W_prog_15_method_52_code_32 30 rfl rfl rfl) (fun H15 locs15 hZ15 hS15 => ?_)
          refine lv_goto (tgt := 7) hx hb (D_167 W_prog_15_method_52_code_64 1 rfl rfl rfl) (by decide) ?_
          exact ih hf hZ15 hS15 (lv_sub hl [0, 1] rfl)
        · replace hf := gneg hf h12
          refine lv_aload_n hx hb (D_42 W_prog_15_method_52_code_32 3 rfl rfl) rfl (lv_at hl 0 rfl) ?_
          obtain ⟨r16, F16, B16, hc16, hf⟩ := gbind hf
          refine va_callv (va_runV (As := []) (rest := []) ⟨hx, hb, hml, hown, hts⟩ (c_M_wrong (l := l) hc16) (cwV 0 hts (gdV k_14_124 k_14_126 ks_203 k_1_9 k_14_127) rfl rfl rfl (by decide +kernel) ⟨Nat.le_of_ble_eq_true rfl, Nat.le_of_ble_eq_true rfl⟩) (zPV X hZ10 hS10 (ci := 14) (by decide) (by decide) (r := (RX14, TX14, 107)) rfl []) rfl rfl hl.1 rfl (lv_room (Nat.le_of_ble_eq_true rfl)) (D_182 W_prog_15_method_52_code_32 4 rfl rfl rfl) ⟨Nat.le_of_ble_eq_true rfl, Nat.le_of_ble_eq_true rfl⟩) hS10 (fun q _ h => zAin X hS10 q h) (zAin X hS10) (fun u16 t16 H16 locs16 ht16 hv16 hw16 hB16 hz16 hk16 hS16 => ?_)
          have hZ16 := zBack X ht16 hB16
          refine lv_goto (tgt := 7) hx hb (D_167 W_prog_15_method_52_code_32 7 rfl rfl rfl) (by decide) ?_
          exact ih hf hZ16 hS16 (lv_sub hl [0, 1] rfl)

def f_M_marks (K : Nat) (l1 : Int) (F : zF) (B : zB) : zO := if 0 ≤ l1 ∧ l1 < 3001 then f_M_marks_7 K K l1 F (zup4 B 14 0 34 l1 0) else none
set_option maxHeartbeats 4000000 in
set_option maxRecDepth 100000 in
theorem c_M_marks {l : Launch} {D : va_G} {ca : Nat → ClassId} {ad : Nat → Int → Nat → Nat} {L : List Nat} {aS vS : Nat → Nat} {sz K : Nat}  {l1 : Int} {F F9 : zF} {B B9 : zB} {r : Int} (hf : f_M_marks K l1 F B = some (r, F9, B9)) : Met l ({ cls := "StaveHouseModel", name := "marks", desc := "(I)V" } : Jvm.MethodName) (Cond.code ({ cls := "StaveHouseModel", name := "marks", desc := "(I)V" } : Jvm.MethodName) prog_15_method_52_code 2 (Option.none : Option Jvm.ClassFile.FieldType) :: wAll) ({ frames := 3, cells := 0, slots := 0, locals := 63 } : Room) (va_Pc [.ref (ad 14 0 0), .int (iI l1)] (zPre D ca ad lnM nM L aS vS F B sz)) (Q_M_marks D ca ad L r F9 B9 (zA L sz)) 0 0 (zA L sz) := by
  refine zMet (Qc := Q_M_marks D ca ad L r F9 B9) (lv := [(0, .ref (ad 14 0 0)), (1, .int (iI l1))]) (by decide) (Nat.le_of_ble_eq_true rfl) rfl (fun A p e s m below meth c ls X hZ hS hl => ?_)
  obtain ⟨hx, hb, hr, hml, hown, hts, hlk, hK, hA, hL, hX⟩ := id X
  replace hf : (if 0 ≤ l1 ∧ l1 < 3001 then f_M_marks_7 K K l1 F (zup4 B 14 0 34 l1 0) else none) = some (r, F9, B9) := hf
  refine lv_aload_n hx hb (D_42 W_prog_15_method_52_code_0 0 rfl rfl) rfl (lv_at hl 0 rfl) ?_
  refine zget (ci := 14) (C := RX14) (T := TX14) (v := .ref (ad 14 0 (34 + 1))) (k := 34) hx hb hts inW_14 hown hK hZ (by decide) (by decide) rfl (by decide) k_11_32 rfl (D_180 W_prog_15_method_52_code_0 1 rfl rfl rfl) ?_
  refine lv_iload_n hx hb (D_27 W_prog_15_method_52_code_0 4 rfl rfl) rfl (lv_at hl 1 rfl) ?_
  refine lv_iconst (v := iI 0) hx hb (D_3 W_prog_15_method_52_code_0 5 rfl rfl) rfl ?_
  obtain ⟨g1, hf⟩ := gif hf
  refine zast (ci := 14) (k := 34) hx hb hK rfl hZ hS (by decide) (by decide) rfl (Nat.le_of_ble_eq_true rfl) g1.1 g1.2 (D_79 W_prog_15_method_52_code_0 6 rfl rfl) (fun H2 locs2 hZ2 hS2 => ?_)
  exact b_M_marks_7 X hf hZ2 hS2 (lv_sub hl [0, 1] rfl)

abbrev Q_M_chord (D : va_G) (ca : Nat → ClassId) (ad : Nat → Int → Nat → Nat) (L : List Nat) (r : Int) (F : zF) (B : zB) (A : Nat → Prop) : Array Value → State → Outcome → State → Prop := va_Qv (S := Unit) (fun _ => True) (fun _ => zPo D ca ad lnM nM L F B A) A
def f_M_chord_77 (K : Nat)  (F : zF) (B : zB) : zO := zbind (f_M_need K 62 F B) (fun r18 F18 B18 => some (0, F18, B18))
set_option maxHeartbeats 4000000 in
set_option maxRecDepth 100000 in
theorem b_M_chord_77 {D : va_G} {ca : Nat → ClassId} {ad : Nat → Int → Nat → Nat} {L : List Nat} {aS vS : Nat → Nat} {A : Nat → Prop} {p : Program} {l : Launch} {e : Env} {s : State} {m : MethodId} {args : Array Value} {below : List Frame} {meth : Method} {c : Code} {K : Nat} {r : Int} {F9 : zF} {B9 : zB} (X : zX D ca L aS vS A p s m args meth c prog_15_method_47_code 2 (Option.none : Option Jvm.ClassFile.FieldType) "StaveHouseModel")  {F : zF} {B : zB} {H : Heap} {locs : List Loc} {ls : Array Slot} (hf : f_M_chord_77 K  F B = some (r, F9, B9)) (hZ : zH D ca ad lnM nM L F B A H) (hS : va_S A s.heap H locs) (hl : lv_has ls 2 [(0, .ref (ad 14 0 0))]) : W p l e ({ frames := 4, cells := 0, slots := 0, locals := 84 } : Room) s m args below meth c H locs 0 0 (MQ below (Q_M_chord D ca ad L r F9 B9 A) args s 0 0 A) (F0 m 77 ls []) := by
  obtain ⟨hx, hb, hr, hml, hown, hts, hlk, hK, hA, hL, hX⟩ := id X
  replace hf : (zbind (f_M_need K 62 F B) (fun r18 F18 B18 => some (0, F18, B18))) = some (r, F9, B9) := hf
  refine lv_aload_n hx hb (D_42 W_prog_15_method_47_code_64 13 rfl rfl) rfl (lv_at hl 0 rfl) ?_
  refine lv_bipush (v := iI 62) hx hb (D_16 W_prog_15_method_47_code_64 14 rfl rfl rfl) (by decide) ?_
  obtain ⟨r18, F18, B18, hc18, hf⟩ := gbind hf
  refine va_callv (va_runV (As := [.int (iI 62)]) (rest := []) ⟨hx, hb, hml, hown, hts⟩ (c_M_need (l := l) hc18) (cwV 1 hts (gdV k_14_144 k_14_146 ks_208 k_1_9 k_14_147) rfl rfl rfl (by decide +kernel) ⟨Nat.le_of_ble_eq_true rfl, Nat.le_of_ble_eq_true rfl⟩) (zPV X hZ hS (ci := 14) (by decide) (by decide) (r := (RX14, TX14, 107)) rfl [.int (iI 62)]) rfl rfl hl.1 rfl (lv_room (Nat.le_of_ble_eq_true rfl)) (D_182 W_prog_15_method_47_code_64 16 rfl rfl rfl) ⟨Nat.le_of_ble_eq_true rfl, Nat.le_of_ble_eq_true rfl⟩) hS (fun q _ h => zAin X hS q h) (zAin X hS) (fun u18 t18 H18 locs18 ht18 hv18 hw18 hB18 hz18 hk18 hS18 => ?_)
  have hZ18 := zBack X ht18 hB18
  cases hf
  exact W.vret hx hb hr (fun t ht hW => ⟨⟨(), rfl, trivial, by rw [ht]; exact hZ18, va_K.moved hW.alike hK⟩, hS18.F ht⟩) hS18.2.2 (D_177 W_prog_15_method_47_code_64 19 rfl rfl) hlk

def f_M_chord_61 (K : Nat) (l1 : Int) (F : zF) (B : zB) : zO := zbind (f_M_good K F B) (fun r12 F12 B12 => if r32 r12 then (if r12 = 0 then f_M_chord_77 K F12 B12 else if r32 l1 then (if 2 ≤ l1 then f_M_chord_77 K F12 B12 else zbind (f_M_wrong K F12 B12) (fun r17 F17 B17 => f_M_chord_77 K F17 B17)) else none) else none)
set_option maxHeartbeats 4000000 in
set_option maxRecDepth 100000 in
theorem b_M_chord_61 {D : va_G} {ca : Nat → ClassId} {ad : Nat → Int → Nat → Nat} {L : List Nat} {aS vS : Nat → Nat} {A : Nat → Prop} {p : Program} {l : Launch} {e : Env} {s : State} {m : MethodId} {args : Array Value} {below : List Frame} {meth : Method} {c : Code} {K : Nat} {r : Int} {F9 : zF} {B9 : zB} (X : zX D ca L aS vS A p s m args meth c prog_15_method_47_code 2 (Option.none : Option Jvm.ClassFile.FieldType) "StaveHouseModel") {l1 : Int} {F : zF} {B : zB} {H : Heap} {locs : List Loc} {ls : Array Slot} (hf : f_M_chord_61 K l1 F B = some (r, F9, B9)) (hZ : zH D ca ad lnM nM L F B A H) (hS : va_S A s.heap H locs) (hl : lv_has ls 2 [(1, .int (iI l1)), (0, .ref (ad 14 0 0))]) : W p l e ({ frames := 4, cells := 0, slots := 0, locals := 84 } : Room) s m args below meth c H locs 0 0 (MQ below (Q_M_chord D ca ad L r F9 B9 A) args s 0 0 A) (F0 m 61 ls []) := by
  obtain ⟨hx, hb, hr, hml, hown, hts, hlk, hK, hA, hL, hX⟩ := id X
  replace hf : (zbind (f_M_good K F B) (fun r12 F12 B12 => if r32 r12 then (if r12 = 0 then f_M_chord_77 K F12 B12 else if r32 l1 then (if 2 ≤ l1 then f_M_chord_77 K F12 B12 else zbind (f_M_wrong K F12 B12) (fun r17 F17 B17 => f_M_chord_77 K F17 B17)) else none) else none)) = some (r, F9, B9) := hf
  refine lv_aload_n hx hb (D_42 W_prog_15_method_47_code_32 29 rfl rfl) rfl (lv_at hl 1 rfl) ?_
  obtain ⟨r12, F12, B12, hc12, hf⟩ := gbind hf
  refine va_calli (va_runV (As := []) (rest := []) ⟨hx, hb, hml, hown, hts⟩ (c_M_good (l := l) hc12) (cwV 0 hts (gdV k_13_15 k_13_17 ks_152 k_1_9 k_13_18) rfl rfl rfl (by decide +kernel) ⟨Nat.le_of_ble_eq_true rfl, Nat.le_of_ble_eq_true rfl⟩) (zPV X hZ hS (ci := 14) (by decide) (by decide) (r := (RX14, TX14, 107)) rfl []) rfl rfl hl.1 rfl (lv_room (Nat.le_of_ble_eq_true rfl)) (D_182 W_prog_15_method_47_code_32 30 rfl rfl rfl) ⟨Nat.le_of_ble_eq_true rfl, Nat.le_of_ble_eq_true rfl⟩) hS (fun q _ h => zAin X hS q h) (zAin X hS) (fun p12 u12 t12 H12 locs12 ht12 hv12 hw12 hB12 hz12 hk12 hS12 => ?_)
  have hZ12 := zBack X ht12 hB12
  subst hw12
  obtain ⟨g13, hf⟩ := gif hf
  refine z0eq (tgt := 77) hx hb g13 (D_153 W_prog_15_method_47_code_64 1 rfl rfl rfl) (by decide) (fun h14 => ?_) (fun h14 => ?_)
  · replace hf := gpos hf h14
    exact b_M_chord_77 X hf hZ12 hS12 (lv_sub hl [1] rfl)
  · replace hf := gneg hf h14
    refine lv_iload_n hx hb (D_27 W_prog_15_method_47_code_64 4 rfl rfl) rfl (lv_at hl 0 rfl) ?_
    refine lv_iconst (v := iI 2) hx hb (D_5 W_prog_15_method_47_code_64 5 rfl rfl) rfl ?_
    obtain ⟨g15, hf⟩ := gif hf
    refine zge (tgt := 77) hx hb g15 (by decide) (D_162 W_prog_15_method_47_code_64 6 rfl rfl rfl) (by decide) (fun h16 => ?_) (fun h16 => ?_)
    · replace hf := gpos hf h16
      exact b_M_chord_77 X hf hZ12 hS12 (lv_sub hl [1] rfl)
    · replace hf := gneg hf h16
      refine lv_aload_n hx hb (D_42 W_prog_15_method_47_code_64 9 rfl rfl) rfl (lv_at hl 1 rfl) ?_
      obtain ⟨r17, F17, B17, hc17, hf⟩ := gbind hf
      refine va_callv (va_runV (As := []) (rest := []) ⟨hx, hb, hml, hown, hts⟩ (c_M_wrong (l := l) hc17) (cwV 0 hts (gdV k_14_124 k_14_126 ks_203 k_1_9 k_14_127) rfl rfl rfl (by decide +kernel) ⟨Nat.le_of_ble_eq_true rfl, Nat.le_of_ble_eq_true rfl⟩) (zPV X hZ12 hS12 (ci := 14) (by decide) (by decide) (r := (RX14, TX14, 107)) rfl []) rfl rfl hl.1 rfl (lv_room (Nat.le_of_ble_eq_true rfl)) (D_182 W_prog_15_method_47_code_64 10 rfl rfl rfl) ⟨Nat.le_of_ble_eq_true rfl, Nat.le_of_ble_eq_true rfl⟩) hS12 (fun q _ h => zAin X hS12 q h) (zAin X hS12) (fun u17 t17 H17 locs17 ht17 hv17 hw17 hB17 hz17 hk17 hS17 => ?_)
      have hZ17 := zBack X ht17 hB17
      exact b_M_chord_77 X hf hZ17 hS17 (lv_sub hl [1] rfl)

def f_M_chord_12 (K : Nat) : Nat → Int → zF → zB → zO
  | 0, _, _, _ => none
  | n + 1, l1, F, B => zbind (f_M_good K F B) (fun r2 F2 B2 => if r32 r2 then (if r2 = 0 then f_M_chord_61 K l1 F2 B2 else if 0 ≤ (F2 14 0 16) ∧ (F2 14 0 16) < 3001 then if r32 (B2 14 0 7 (F2 14 0 16)) then (if (B2 14 0 7 (F2 14 0 16)) = 2 then if r32 l1 then (if l1 = 6 then zbind (f_M_wrong K F2 B2) (fun r11 F11 B11 => f_M_chord_12 K n l1 F11 B11) else f_M_chord_12 K n (l1 + 1) (zup3 F2 14 0 16 ((F2 14 0 16) + 1)) B2) else none else f_M_chord_61 K l1 F2 B2) else none else none) else none)
set_option maxHeartbeats 4000000 in
set_option maxRecDepth 100000 in
theorem b_M_chord_12 {D : va_G} {ca : Nat → ClassId} {ad : Nat → Int → Nat → Nat} {L : List Nat} {aS vS : Nat → Nat} {A : Nat → Prop} {p : Program} {l : Launch} {e : Env} {s : State} {m : MethodId} {args : Array Value} {below : List Frame} {meth : Method} {c : Code} {K : Nat} {r : Int} {F9 : zF} {B9 : zB} (X : zX D ca L aS vS A p s m args meth c prog_15_method_47_code 2 (Option.none : Option Jvm.ClassFile.FieldType) "StaveHouseModel") : ∀ {n : Nat} {l1 : Int} {F : zF} {B : zB} {H : Heap} {locs : List Loc} {ls : Array Slot}, f_M_chord_12 K n l1 F B = some (r, F9, B9) → zH D ca ad lnM nM L F B A H → va_S A s.heap H locs → lv_has ls 2 [(1, .int (iI l1)), (0, .ref (ad 14 0 0))] → W p l e ({ frames := 4, cells := 0, slots := 0, locals := 84 } : Room) s m args below meth c H locs 0 0 (MQ below (Q_M_chord D ca ad L r F9 B9 A) args s 0 0 A) (F0 m 12 ls []) := by
  obtain ⟨hx, hb, hr, hml, hown, hts, hlk, hK, hA, hL, hX⟩ := id X
  intro n
  induction n with
  | zero =>
    intros
    rename_i hf _ _ _
    cases hf
  | succ n ih =>
    intro l1 F B H locs ls hf hZ hS hl
    replace hf : (zbind (f_M_good K F B) (fun r2 F2 B2 => if r32 r2 then (if r2 = 0 then f_M_chord_61 K l1 F2 B2 else if 0 ≤ (F2 14 0 16) ∧ (F2 14 0 16) < 3001 then if r32 (B2 14 0 7 (F2 14 0 16)) then (if (B2 14 0 7 (F2 14 0 16)) = 2 then if r32 l1 then (if l1 = 6 then zbind (f_M_wrong K F2 B2) (fun r11 F11 B11 => f_M_chord_12 K n l1 F11 B11) else f_M_chord_12 K n (l1 + 1) (zup3 F2 14 0 16 ((F2 14 0 16) + 1)) B2) else none else f_M_chord_61 K l1 F2 B2) else none else none) else none)) = some (r, F9, B9) := hf
    refine lv_aload_n hx hb (D_42 W_prog_15_method_47_code_0 12 rfl rfl) rfl (lv_at hl 1 rfl) ?_
    obtain ⟨r2, F2, B2, hc2, hf⟩ := gbind hf
    refine va_calli (va_runV (As := []) (rest := []) ⟨hx, hb, hml, hown, hts⟩ (c_M_good (l := l) hc2) (cwV 0 hts (gdV k_13_15 k_13_17 ks_152 k_1_9 k_13_18) rfl rfl rfl (by decide +kernel) ⟨Nat.le_of_ble_eq_true rfl, Nat.le_of_ble_eq_true rfl⟩) (zPV X hZ hS (ci := 14) (by decide) (by decide) (r := (RX14, TX14, 107)) rfl []) rfl rfl hl.1 rfl (lv_room (Nat.le_of_ble_eq_true rfl)) (D_182 W_prog_15_method_47_code_0 13 rfl rfl rfl) ⟨Nat.le_of_ble_eq_true rfl, Nat.le_of_ble_eq_true rfl⟩) hS (fun q _ h => zAin X hS q h) (zAin X hS) (fun p2 u2 t2 H2 locs2 ht2 hv2 hw2 hB2 hz2 hk2 hS2 => ?_)
    have hZ2 := zBack X ht2 hB2
    subst hw2
    obtain ⟨g3, hf⟩ := gif hf
    refine z0eq (tgt := 61) hx hb g3 (D_153 W_prog_15_method_47_code_0 16 rfl rfl rfl) (by decide) (fun h4 => ?_) (fun h4 => ?_)
    · replace hf := gpos hf h4
      exact b_M_chord_61 X hf hZ2 hS2 (lv_sub hl [0, 1] rfl)
    · replace hf := gneg hf h4
      refine lv_aload_n hx hb (D_42 W_prog_15_method_47_code_0 19 rfl rfl) rfl (lv_at hl 1 rfl) ?_
      refine zget (ci := 14) (C := RX14) (T := TX14) (v := .ref (ad 14 0 (7 + 1))) (k := 7) hx hb hts inW_14 hown hK hZ2 (by decide) (by decide) rfl (by decide) k_11_5 rfl (D_180 W_prog_15_method_47_code_0 20 rfl rfl rfl) ?_
      refine lv_aload_n hx hb (D_42 W_prog_15_method_47_code_0 23 rfl rfl) rfl (lv_at hl 1 rfl) ?_
      refine zget (ci := 14) (C := RX14) (T := TX14) (v := .int (iI (F2 14 0 16))) (k := 16) hx hb hts inW_14 hown hK hZ2 (by decide) (by decide) rfl (by decide) k_11_14 rfl (D_180 W_prog_15_method_47_code_0 24 rfl rfl rfl) ?_
      obtain ⟨g5, hf⟩ := gif hf
      refine zald (ci := 14) (k := 7) hx hb hK rfl hZ2 (by decide) (by decide) rfl (Nat.le_of_ble_eq_true rfl) g5.1 g5.2 (D_46 W_prog_15_method_47_code_0 27 rfl rfl) ?_
      refine lv_iconst (v := iI 2) hx hb (D_5 W_prog_15_method_47_code_0 28 rfl rfl) rfl ?_
      obtain ⟨g6, hf⟩ := gif hf
      refine zne (tgt := 61) hx hb g6 (by decide) (D_160 W_prog_15_method_47_code_0 29 rfl rfl rfl) (by decide) (fun h7 => ?_) (fun h7 => ?_)
      · replace hf := gneg hf h7
        exact b_M_chord_61 X hf hZ2 hS2 (lv_sub hl [0, 1] rfl)
      · replace hf := gpos hf h7
        refine lv_iload_n hx hb (D_27 W_prog_15_method_47_code_32 0 rfl rfl) rfl (lv_at hl 0 rfl) ?_
        refine lv_bipush (v := iI 6) hx hb (D_16 W_prog_15_method_47_code_32 1 rfl rfl rfl) (by decide) ?_
        obtain ⟨g8, hf⟩ := gif hf
        refine zne (tgt := 45) hx hb g8 (by decide) (D_160 W_prog_15_method_47_code_32 3 rfl rfl rfl) (by decide) (fun h9 => ?_) (fun h9 => ?_)
        · replace hf := gneg hf h9
          refine lv_iinc (v := iI (l1 + 1)) (lv' := [(1, .int (iI (l1 + 1))), (0, .ref (ad 14 0 0))]) hx hb d_15_47_45 hl (k := 0) rfl (iI_add _ 1) (by decide) rfl (fun ls hl => ?_)
          refine lv_aload_n hx hb (D_42 W_prog_15_method_47_code_32 16 rfl rfl) rfl (lv_at hl 1 rfl) ?_
          refine lv_dup hx hb (D_89 W_prog_15_method_47_code_32 17 rfl rfl) rfl ?_
          refine zget (ci := 14) (C := RX14) (T := TX14) (v := .int (iI (F2 14 0 16))) (k := 16) hx hb hts inW_14 hown hK hZ2 (by decide) (by decide) rfl (by decide) k_11_14 rfl (D_180 W_prog_15_method_47_code_32 18 rfl rfl rfl) ?_
          refine lv_iconst (v := iI 1) hx hb (D_4 W_prog_15_method_47_code_32 21 rfl rfl) rfl ?_
          refine zadd hx hb (D_96 W_prog_15_method_47_code_32 22 rfl rfl) ?_
          refine zput (ci := 14) (C := RX14) (T := TX14) (k := 16) (v := ((F2 14 0 16) + 1)) (w := .int (iI ((F2 14 0 16) + 1))) hx hb hts inW_14 tyX14 tyX14_ok nmX14 hown hK hZ2 hS2 (by decide) (by decide) rfl (by decide) k_11_14 rfl (fun G h => congrArg (fun q => Value.int (iI q)) h) rfl rfl (zno (by decide)) (D_181 W_prog_15_method_47_code_32 23 rfl rfl rfl) (fun H10 locs10 hZ10 hS10 => ?_)
          refine lv_goto (tgt := 12) hx hb (D_167 W_prog_15_method_47_code_32 26 rfl rfl rfl) (by decide) ?_
          exact ih hf hZ10 hS10 (lv_sub hl [0, 1] rfl)
        · replace hf := gpos hf h9
          refine lv_aload_n hx hb (D_42 W_prog_15_method_47_code_32 6 rfl rfl) rfl (lv_at hl 1 rfl) ?_
          obtain ⟨r11, F11, B11, hc11, hf⟩ := gbind hf
          refine va_callv (va_runV (As := []) (rest := []) ⟨hx, hb, hml, hown, hts⟩ (c_M_wrong (l := l) hc11) (cwV 0 hts (gdV k_14_124 k_14_126 ks_203 k_1_9 k_14_127) rfl rfl rfl (by decide +kernel) ⟨Nat.le_of_ble_eq_true rfl, Nat.le_of_ble_eq_true rfl⟩) (zPV X hZ2 hS2 (ci := 14) (by decide) (by decide) (r := (RX14, TX14, 107)) rfl []) rfl rfl hl.1 rfl (lv_room (Nat.le_of_ble_eq_true rfl)) (D_182 W_prog_15_method_47_code_32 7 rfl rfl rfl) ⟨Nat.le_of_ble_eq_true rfl, Nat.le_of_ble_eq_true rfl⟩) hS2 (fun q _ h => zAin X hS2 q h) (zAin X hS2) (fun u11 t11 H11 locs11 ht11 hv11 hw11 hB11 hz11 hk11 hS11 => ?_)
          have hZ11 := zBack X ht11 hB11
          refine lv_goto (tgt := 12) hx hb (D_167 W_prog_15_method_47_code_32 10 rfl rfl rfl) (by decide) ?_
          exact ih hf hZ11 hS11 (lv_sub hl [0, 1] rfl)

def f_M_chord (K : Nat)  (F : zF) (B : zB) : zO := f_M_chord_12 K K 0 (zup3 F 14 0 16 ((F 14 0 16) + 1)) B
set_option maxHeartbeats 4000000 in
set_option maxRecDepth 100000 in
theorem c_M_chord {l : Launch} {D : va_G} {ca : Nat → ClassId} {ad : Nat → Int → Nat → Nat} {L : List Nat} {aS vS : Nat → Nat} {sz K : Nat}   {F F9 : zF} {B B9 : zB} {r : Int} (hf : f_M_chord K  F B = some (r, F9, B9)) : Met l ({ cls := "StaveHouseModel", name := "chord", desc := "()V" } : Jvm.MethodName) (Cond.code ({ cls := "StaveHouseModel", name := "chord", desc := "()V" } : Jvm.MethodName) prog_15_method_47_code 2 (Option.none : Option Jvm.ClassFile.FieldType) :: wAll) ({ frames := 4, cells := 0, slots := 0, locals := 84 } : Room) (va_Pc [.ref (ad 14 0 0)] (zPre D ca ad lnM nM L aS vS F B sz)) (Q_M_chord D ca ad L r F9 B9 (zA L sz)) 0 0 (zA L sz) := by
  refine zMet (Qc := Q_M_chord D ca ad L r F9 B9) (lv := [(0, .ref (ad 14 0 0))]) (by decide) (Nat.le_of_ble_eq_true rfl) rfl (fun A p e s m below meth c ls X hZ hS hl => ?_)
  obtain ⟨hx, hb, hr, hml, hown, hts, hlk, hK, hA, hL, hX⟩ := id X
  replace hf : (f_M_chord_12 K K 0 (zup3 F 14 0 16 ((F 14 0 16) + 1)) B) = some (r, F9, B9) := hf
  refine lv_aload_n hx hb (D_42 W_prog_15_method_47_code_0 0 rfl rfl) rfl (lv_at hl 0 rfl) ?_
  refine lv_dup hx hb (D_89 W_prog_15_method_47_code_0 1 rfl rfl) rfl ?_
  refine zget (ci := 14) (C := RX14) (T := TX14) (v := .int (iI (F 14 0 16))) (k := 16) hx hb hts inW_14 hown hK hZ (by decide) (by decide) rfl (by decide) k_11_14 rfl (D_180 W_prog_15_method_47_code_0 2 rfl rfl rfl) ?_
  refine lv_iconst (v := iI 1) hx hb (D_4 W_prog_15_method_47_code_0 5 rfl rfl) rfl ?_
  refine zadd hx hb (D_96 W_prog_15_method_47_code_0 6 rfl rfl) ?_
  refine zput (ci := 14) (C := RX14) (T := TX14) (k := 16) (v := ((F 14 0 16) + 1)) (w := .int (iI ((F 14 0 16) + 1))) hx hb hts inW_14 tyX14 tyX14_ok nmX14 hown hK hZ hS (by decide) (by decide) rfl (by decide) k_11_14 rfl (fun G h => congrArg (fun q => Value.int (iI q)) h) rfl rfl (zno (by decide)) (D_181 W_prog_15_method_47_code_0 7 rfl rfl rfl) (fun H1 locs1 hZ1 hS1 => ?_)
  refine lv_iconst (v := iI 0) hx hb (D_3 W_prog_15_method_47_code_0 10 rfl rfl) rfl ?_
  refine lv_istore_n (lv' := [(1, .int (iI 0)), (0, .ref (ad 14 0 0))]) hx hb (D_60 W_prog_15_method_47_code_0 11 rfl rfl) rfl hl (by decide) rfl (fun ls hl => ?_)
  exact b_M_chord_12 X hf hZ1 hS1 (lv_sub hl [0, 1] rfl)

abbrev Q_M_closing (D : va_G) (ca : Nat → ClassId) (ad : Nat → Int → Nat → Nat) (L : List Nat) (r : Int) (F : zF) (B : zB) (A : Nat → Prop) : Array Value → State → Outcome → State → Prop := va_Qv (S := Unit) (fun _ => True) (fun _ => zPo D ca ad lnM nM L F B A) A
def f_M_closing (K : Nat) (l1 : Int) (l2 : Int) (F : zF) (B : zB) : zO := zbind (f_M_good K F B) (fun r1 F1 B1 => if r32 r1 then (if r1 = 0 then some (0, F1, B1) else if 0 ≤ l1 ∧ l1 < 3001 then zbind (f_M_need K l2 F1 (zup4 B1 14 0 30 l1 (F1 14 0 16))) (fun r6 F6 B6 => some (0, (zup3 F6 14 0 19 ((F6 14 0 19) - 1)), B6)) else none) else none)
set_option maxHeartbeats 4000000 in
set_option maxRecDepth 100000 in
theorem c_M_closing {l : Launch} {D : va_G} {ca : Nat → ClassId} {ad : Nat → Int → Nat → Nat} {L : List Nat} {aS vS : Nat → Nat} {sz K : Nat}  {l1 : Int} {l2 : Int} {F F9 : zF} {B B9 : zB} {r : Int} (hf : f_M_closing K l1 l2 F B = some (r, F9, B9)) : Met l ({ cls := "StaveHouseModel", name := "closing", desc := "(II)V" } : Jvm.MethodName) (Cond.code ({ cls := "StaveHouseModel", name := "closing", desc := "(II)V" } : Jvm.MethodName) prog_15_method_39_code 3 (Option.none : Option Jvm.ClassFile.FieldType) :: wAll) ({ frames := 4, cells := 0, slots := 0, locals := 84 } : Room) (va_Pc [.ref (ad 14 0 0), .int (iI l1), .int (iI l2)] (zPre D ca ad lnM nM L aS vS F B sz)) (Q_M_closing D ca ad L r F9 B9 (zA L sz)) 0 0 (zA L sz) := by
  refine zMet (Qc := Q_M_closing D ca ad L r F9 B9) (lv := [(0, .ref (ad 14 0 0)), (1, .int (iI l1)), (2, .int (iI l2))]) (by decide) (Nat.le_of_ble_eq_true rfl) rfl (fun A p e s m below meth c ls X hZ hS hl => ?_)
  obtain ⟨hx, hb, hr, hml, hown, hts, hlk, hK, hA, hL, hX⟩ := id X
  replace hf : (zbind (f_M_good K F B) (fun r1 F1 B1 => if r32 r1 then (if r1 = 0 then some (0, F1, B1) else if 0 ≤ l1 ∧ l1 < 3001 then zbind (f_M_need K l2 F1 (zup4 B1 14 0 30 l1 (F1 14 0 16))) (fun r6 F6 B6 => some (0, (zup3 F6 14 0 19 ((F6 14 0 19) - 1)), B6)) else none) else none)) = some (r, F9, B9) := hf
  refine lv_aload_n hx hb (D_42 W_prog_15_method_39_code_0 0 rfl rfl) rfl (lv_at hl 0 rfl) ?_
  obtain ⟨r1, F1, B1, hc1, hf⟩ := gbind hf
  refine va_calli (va_runV (As := []) (rest := []) ⟨hx, hb, hml, hown, hts⟩ (c_M_good (l := l) hc1) (cwV 0 hts (gdV k_13_15 k_13_17 ks_152 k_1_9 k_13_18) rfl rfl rfl (by decide +kernel) ⟨Nat.le_of_ble_eq_true rfl, Nat.le_of_ble_eq_true rfl⟩) (zPV X hZ hS (ci := 14) (by decide) (by decide) (r := (RX14, TX14, 107)) rfl []) rfl rfl hl.1 rfl (lv_room (Nat.le_of_ble_eq_true rfl)) (D_182 W_prog_15_method_39_code_0 1 rfl rfl rfl) ⟨Nat.le_of_ble_eq_true rfl, Nat.le_of_ble_eq_true rfl⟩) hS (fun q _ h => zAin X hS q h) (zAin X hS) (fun p1 u1 t1 H1 locs1 ht1 hv1 hw1 hB1 hz1 hk1 hS1 => ?_)
  have hZ1 := zBack X ht1 hB1
  subst hw1
  obtain ⟨g2, hf⟩ := gif hf
  refine z0ne (tgt := 8) hx hb g2 (D_154 W_prog_15_method_39_code_0 4 rfl rfl rfl) (by decide) (fun h3 => ?_) (fun h3 => ?_)
  · replace hf := gneg hf h3
    refine lv_aload_n hx hb (D_42 W_prog_15_method_39_code_0 8 rfl rfl) rfl (lv_at hl 0 rfl) ?_
    refine zget (ci := 14) (C := RX14) (T := TX14) (v := .ref (ad 14 0 (30 + 1))) (k := 30) hx hb hts inW_14 hown hK hZ1 (by decide) (by decide) rfl (by decide) k_11_28 rfl (D_180 W_prog_15_method_39_code_0 9 rfl rfl rfl) ?_
    refine lv_iload_n hx hb (D_27 W_prog_15_method_39_code_0 12 rfl rfl) rfl (lv_at hl 1 rfl) ?_
    refine lv_aload_n hx hb (D_42 W_prog_15_method_39_code_0 13 rfl rfl) rfl (lv_at hl 0 rfl) ?_
    refine zget (ci := 14) (C := RX14) (T := TX14) (v := .int (iI (F1 14 0 16))) (k := 16) hx hb hts inW_14 hown hK hZ1 (by decide) (by decide) rfl (by decide) k_11_14 rfl (D_180 W_prog_15_method_39_code_0 14 rfl rfl rfl) ?_
    obtain ⟨g4, hf⟩ := gif hf
    refine zast (ci := 14) (k := 30) hx hb hK rfl hZ1 hS1 (by decide) (by decide) rfl (Nat.le_of_ble_eq_true rfl) g4.1 g4.2 (D_79 W_prog_15_method_39_code_0 17 rfl rfl) (fun H5 locs5 hZ5 hS5 => ?_)
    refine lv_aload_n hx hb (D_42 W_prog_15_method_39_code_0 18 rfl rfl) rfl (lv_at hl 0 rfl) ?_
    refine lv_iload_n hx hb (D_28 W_prog_15_method_39_code_0 19 rfl rfl) rfl (lv_at hl 2 rfl) ?_
    obtain ⟨r6, F6, B6, hc6, hf⟩ := gbind hf
    refine va_callv (va_runV (As := [.int (iI l2)]) (rest := []) ⟨hx, hb, hml, hown, hts⟩ (c_M_need (l := l) hc6) (cwV 1 hts (gdV k_14_144 k_14_146 ks_208 k_1_9 k_14_147) rfl rfl rfl (by decide +kernel) ⟨Nat.le_of_ble_eq_true rfl, Nat.le_of_ble_eq_true rfl⟩) (zPV X hZ5 hS5 (ci := 14) (by decide) (by decide) (r := (RX14, TX14, 107)) rfl [.int (iI l2)]) rfl rfl hl.1 rfl (lv_room (Nat.le_of_ble_eq_true rfl)) (D_182 W_prog_15_method_39_code_0 20 rfl rfl rfl) ⟨Nat.le_of_ble_eq_true rfl, Nat.le_of_ble_eq_true rfl⟩) hS5 (fun q _ h => zAin X hS5 q h) (zAin X hS5) (fun u6 t6 H6 locs6 ht6 hv6 hw6 hB6 hz6 hk6 hS6 => ?_)
    have hZ6 := zBack X ht6 hB6
    refine lv_aload_n hx hb (D_42 W_prog_15_method_39_code_0 23 rfl rfl) rfl (lv_at hl 0 rfl) ?_
    refine lv_dup hx hb (D_89 W_prog_15_method_39_code_0 24 rfl rfl) rfl ?_
    refine zget (ci := 14) (C := RX14) (T := TX14) (v := .int (iI (F6 14 0 19))) (k := 19) hx hb hts inW_14 hown hK hZ6 (by decide) (by decide) rfl (by decide) k_11_17 rfl (D_180 W_prog_15_method_39_code_0 25 rfl rfl rfl) ?_
    refine lv_iconst (v := iI 1) hx hb (D_4 W_prog_15_method_39_code_0 28 rfl rfl) rfl ?_
    refine zsub hx hb (D_100 W_prog_15_method_39_code_0 29 rfl rfl) ?_
    refine zput (ci := 14) (C := RX14) (T := TX14) (k := 19) (v := ((F6 14 0 19) - 1)) (w := .int (iI ((F6 14 0 19) - 1))) hx hb hts inW_14 tyX14 tyX14_ok nmX14 hown hK hZ6 hS6 (by decide) (by decide) rfl (by decide) k_11_17 rfl (fun G h => congrArg (fun q => Value.int (iI q)) h) rfl rfl (zno (by decide)) (D_181 W_prog_15_method_39_code_0 30 rfl rfl rfl) (fun H7 locs7 hZ7 hS7 => ?_)
    cases hf
    exact W.vret hx hb hr (fun t ht hW => ⟨⟨(), rfl, trivial, by rw [ht]; exact hZ7, va_K.moved hW.alike hK⟩, hS7.F ht⟩) hS7.2.2 (D_177 W_prog_15_method_39_code_32 1 rfl rfl) hlk
  · replace hf := gpos hf h3
    cases hf
    exact W.vret hx hb hr (fun t ht hW => ⟨⟨(), rfl, trivial, by rw [ht]; exact hZ1, va_K.moved hW.alike hK⟩, hS1.F ht⟩) hS1.2.2 (D_177 W_prog_15_method_39_code_0 7 rfl rfl) hlk

abbrev Q_M_accidentals (D : va_G) (ca : Nat → ClassId) (ad : Nat → Int → Nat → Nat) (L : List Nat) (r : Int) (F : zF) (B : zB) (A : Nat → Prop) : Array Value → State → Outcome → State → Prop := va_Qv (S := Unit) (fun _ => True) (fun _ => zPo D ca ad lnM nM L F B A) A
def f_M_accidentals_206 (rec5 : Int → Int → Int → Int → zF → zB → zO) (K : Nat) (l4 : Int) (l3 : Int) (l1 : Int) (l2 : Int) (F : zF) (B : zB) : zO := rec5 (l4 + 1) l3 l1 l2 F B
set_option maxHeartbeats 4000000 in
set_option maxRecDepth 100000 in
theorem b_M_accidentals_206 {D : va_G} {ca : Nat → ClassId} {ad : Nat → Int → Nat → Nat} {L : List Nat} {aS vS : Nat → Nat} {A : Nat → Prop} {p : Program} {l : Launch} {e : Env} {s : State} {m : MethodId} {args : Array Value} {below : List Frame} {meth : Method} {c : Code} {K : Nat} {r : Int} {F9 : zF} {B9 : zB} (X : zX D ca L aS vS A p s m args meth c prog_15_method_94_code 10 (Option.none : Option Jvm.ClassFile.FieldType) "StaveHouseModel") {rec5 : Int → Int → Int → Int → zF → zB → zO} (hrec5 : ∀ {l4 : Int} {l3 : Int} {l1 : Int} {l2 : Int} {F : zF} {B : zB} {H : Heap} {locs : List Loc} {ls : Array Slot}, rec5 l4 l3 l1 l2 F B = some (r, F9, B9) → zH D ca ad lnM nM L F B A H → va_S A s.heap H locs → lv_has ls 10 [(4, .int (iI l4)), (3, .int (iI l3)), (0, .ref (ad 14 0 0)), (1, .ref (ad 13 l1 0)), (2, .int (iI l2))] → W p l e ({ frames := 3, cells := 0, slots := 0, locals := 66 } : Room) s m args below meth c H locs 0 0 (MQ below (Q_M_accidentals D ca ad L r F9 B9 A) args s 0 0 A) (F0 m 5 ls [])) {l4 : Int} {l3 : Int} {l1 : Int} {l2 : Int} {F : zF} {B : zB} {H : Heap} {locs : List Loc} {ls : Array Slot} (hf : f_M_accidentals_206 rec5 K l4 l3 l1 l2 F B = some (r, F9, B9)) (hZ : zH D ca ad lnM nM L F B A H) (hS : va_S A s.heap H locs) (hl : lv_has ls 10 [(4, .int (iI l4)), (3, .int (iI l3)), (0, .ref (ad 14 0 0)), (1, .ref (ad 13 l1 0)), (2, .int (iI l2))]) : W p l e ({ frames := 3, cells := 0, slots := 0, locals := 66 } : Room) s m args below meth c H locs 0 0 (MQ below (Q_M_accidentals D ca ad L r F9 B9 A) args s 0 0 A) (F0 m 206 ls []) := by
  obtain ⟨hx, hb, hr, hml, hown, hts, hlk, hK, hA, hL, hX⟩ := id X
  replace hf : (rec5 (l4 + 1) l3 l1 l2 F B) = some (r, F9, B9) := hf
  refine lv_iinc (v := iI (l4 + 1)) (lv' := [(4, .int (iI (l4 + 1))), (3, .int (iI l3)), (0, .ref (ad 14 0 0)), (1, .ref (ad 13 l1 0)), (2, .int (iI l2))]) hx hb d_15_94_206 hl (k := 0) rfl (iI_add _ 1) (by decide) rfl (fun ls hl => ?_)
  refine lv_goto (tgt := 5) hx hb (D_167 W_prog_15_method_94_code_192 17 rfl rfl rfl) (by decide) ?_
  exact hrec5 hf hZ hS (lv_sub hl [0, 1, 2, 3, 4] rfl)

def f_M_accidentals_200 (rec5 : Int → Int → Int → Int → zF → zB → zO) (rec100 : Int → Int → Int → Int → Int → Int → Int → zF → zB → zO) (K : Nat) (l7 : Int) (l6 : Int) (l5 : Int) (l4 : Int) (l3 : Int) (l1 : Int) (l2 : Int) (F : zF) (B : zB) : zO := rec100 (l7 + 1) l6 l5 l4 l3 l1 l2 F B
set_option maxHeartbeats 4000000 in
set_option maxRecDepth 100000 in
theorem b_M_accidentals_200 {D : va_G} {ca : Nat → ClassId} {ad : Nat → Int → Nat → Nat} {L : List Nat} {aS vS : Nat → Nat} {A : Nat → Prop} {p : Program} {l : Launch} {e : Env} {s : State} {m : MethodId} {args : Array Value} {below : List Frame} {meth : Method} {c : Code} {K : Nat} {r : Int} {F9 : zF} {B9 : zB} (X : zX D ca L aS vS A p s m args meth c prog_15_method_94_code 10 (Option.none : Option Jvm.ClassFile.FieldType) "StaveHouseModel") {rec5 : Int → Int → Int → Int → zF → zB → zO} {rec100 : Int → Int → Int → Int → Int → Int → Int → zF → zB → zO} (hrec5 : ∀ {l4 : Int} {l3 : Int} {l1 : Int} {l2 : Int} {F : zF} {B : zB} {H : Heap} {locs : List Loc} {ls : Array Slot}, rec5 l4 l3 l1 l2 F B = some (r, F9, B9) → zH D ca ad lnM nM L F B A H → va_S A s.heap H locs → lv_has ls 10 [(4, .int (iI l4)), (3, .int (iI l3)), (0, .ref (ad 14 0 0)), (1, .ref (ad 13 l1 0)), (2, .int (iI l2))] → W p l e ({ frames := 3, cells := 0, slots := 0, locals := 66 } : Room) s m args below meth c H locs 0 0 (MQ below (Q_M_accidentals D ca ad L r F9 B9 A) args s 0 0 A) (F0 m 5 ls [])) (hrec100 : ∀ {l7 : Int} {l6 : Int} {l5 : Int} {l4 : Int} {l3 : Int} {l1 : Int} {l2 : Int} {F : zF} {B : zB} {H : Heap} {locs : List Loc} {ls : Array Slot}, rec100 l7 l6 l5 l4 l3 l1 l2 F B = some (r, F9, B9) → zH D ca ad lnM nM L F B A H → va_S A s.heap H locs → lv_has ls 10 [(7, .int (iI l7)), (6, .int (iI l6)), (5, .int (iI l5)), (4, .int (iI l4)), (3, .int (iI l3)), (0, .ref (ad 14 0 0)), (1, .ref (ad 13 l1 0)), (2, .int (iI l2))] → W p l e ({ frames := 3, cells := 0, slots := 0, locals := 66 } : Room) s m args below meth c H locs 0 0 (MQ below (Q_M_accidentals D ca ad L r F9 B9 A) args s 0 0 A) (F0 m 100 ls [])) {l7 : Int} {l6 : Int} {l5 : Int} {l4 : Int} {l3 : Int} {l1 : Int} {l2 : Int} {F : zF} {B : zB} {H : Heap} {locs : List Loc} {ls : Array Slot} (hf : f_M_accidentals_200 rec5 rec100 K l7 l6 l5 l4 l3 l1 l2 F B = some (r, F9, B9)) (hZ : zH D ca ad lnM nM L F B A H) (hS : va_S A s.heap H locs) (hl : lv_has ls 10 [(7, .int (iI l7)), (6, .int (iI l6)), (5, .int (iI l5)), (4, .int (iI l4)), (3, .int (iI l3)), (0, .ref (ad 14 0 0)), (1, .ref (ad 13 l1 0)), (2, .int (iI l2))]) : W p l e ({ frames := 3, cells := 0, slots := 0, locals := 66 } : Room) s m args below meth c H locs 0 0 (MQ below (Q_M_accidentals D ca ad L r F9 B9 A) args s 0 0 A) (F0 m 200 ls []) := by
  obtain ⟨hx, hb, hr, hml, hown, hts, hlk, hK, hA, hL, hX⟩ := id X
  replace hf : (rec100 (l7 + 1) l6 l5 l4 l3 l1 l2 F B) = some (r, F9, B9) := hf
  refine lv_iinc (v := iI (l7 + 1)) (lv' := [(7, .int (iI (l7 + 1))), (6, .int (iI l6)), (5, .int (iI l5)), (4, .int (iI l4)), (3, .int (iI l3)), (0, .ref (ad 14 0 0)), (1, .ref (ad 13 l1 0)), (2, .int (iI l2))]) hx hb d_15_94_200 hl (k := 0) rfl (iI_add _ 1) (by decide) rfl (fun ls hl => ?_)
  refine lv_goto (tgt := 100) hx hb (D_167 W_prog_15_method_94_code_192 11 rfl rfl rfl) (by decide) ?_
  exact hrec100 hf hZ hS (lv_sub hl [0, 1, 2, 3, 4, 5, 6, 7] rfl)

def f_M_accidentals_100 (rec5 : Int → Int → Int → Int → zF → zB → zO) (K : Nat) : Nat → Int → Int → Int → Int → Int → Int → Int → zF → zB → zO
  | 0, _, _, _, _, _, _, _, _, _ => none
  | n + 1, l7, l6, l5, l4, l3, l1, l2, F, B => if r32 l6 then (if l6 < 0 then f_M_accidentals_206 rec5 K l4 l3 l1 l2 F B else if 0 ≤ l1 ∧ l1 < 3 then if 0 ≤ l6 ∧ l6 < 4000 then if r32 l7 then if r32 (B 13 l1 21 l6) then (if (B 13 l1 21 l6) ≤ l7 then f_M_accidentals_206 rec5 K l4 l3 l1 l2 F B else if 0 ≤ ((6 * l6) + l7) ∧ ((6 * l6) + l7) < 24000 then zbind (f_M_comesOn K l1 l2 l4 (B 13 l1 28 ((6 * l6) + l7)) (B 13 l1 29 ((6 * l6) + l7)) F B) (fun r30 F30 B30 => if r32 r30 then (if r30 = 0 then if 0 ≤ (B 13 l1 28 ((6 * l6) + l7)) ∧ (B 13 l1 28 ((6 * l6) + l7)) < 63 then if r32 (B30 14 0 58 (B 13 l1 28 ((6 * l6) + l7))) then if r32 (B 13 l1 29 ((6 * l6) + l7)) then (if (B30 14 0 58 (B 13 l1 28 ((6 * l6) + l7))) = (B 13 l1 29 ((6 * l6) + l7)) then f_M_accidentals_200 rec5 (f_M_accidentals_100 rec5 K n) K l7 l6 l5 l4 l3 l1 l2 F30 B30 else if 0 ≤ l5 ∧ l5 < 3200 then f_M_accidentals_200 rec5 (f_M_accidentals_100 rec5 K n) K l7 l6 l5 l4 l3 l1 l2 F30 (zup4 (zup4 B30 13 l1 37 l5 (zor (B30 13 l1 37 l5) (zshl 1 l7))) 14 0 58 (B 13 l1 28 ((6 * l6) + l7)) (B 13 l1 29 ((6 * l6) + l7))) else none) else none else none else none else f_M_accidentals_200 rec5 (f_M_accidentals_100 rec5 K n) K l7 l6 l5 l4 l3 l1 l2 F30 B30) else none) else none) else none else none else none else none) else none
set_option maxHeartbeats 4000000 in
set_option maxRecDepth 100000 in
theorem b_M_accidentals_100 {D : va_G} {ca : Nat → ClassId} {ad : Nat → Int → Nat → Nat} {L : List Nat} {aS vS : Nat → Nat} {A : Nat → Prop} {p : Program} {l : Launch} {e : Env} {s : State} {m : MethodId} {args : Array Value} {below : List Frame} {meth : Method} {c : Code} {K : Nat} {r : Int} {F9 : zF} {B9 : zB} (X : zX D ca L aS vS A p s m args meth c prog_15_method_94_code 10 (Option.none : Option Jvm.ClassFile.FieldType) "StaveHouseModel") {rec5 : Int → Int → Int → Int → zF → zB → zO} (hrec5 : ∀ {l4 : Int} {l3 : Int} {l1 : Int} {l2 : Int} {F : zF} {B : zB} {H : Heap} {locs : List Loc} {ls : Array Slot}, rec5 l4 l3 l1 l2 F B = some (r, F9, B9) → zH D ca ad lnM nM L F B A H → va_S A s.heap H locs → lv_has ls 10 [(4, .int (iI l4)), (3, .int (iI l3)), (0, .ref (ad 14 0 0)), (1, .ref (ad 13 l1 0)), (2, .int (iI l2))] → W p l e ({ frames := 3, cells := 0, slots := 0, locals := 66 } : Room) s m args below meth c H locs 0 0 (MQ below (Q_M_accidentals D ca ad L r F9 B9 A) args s 0 0 A) (F0 m 5 ls [])) : ∀ {n : Nat} {l7 : Int} {l6 : Int} {l5 : Int} {l4 : Int} {l3 : Int} {l1 : Int} {l2 : Int} {F : zF} {B : zB} {H : Heap} {locs : List Loc} {ls : Array Slot}, f_M_accidentals_100 rec5 K n l7 l6 l5 l4 l3 l1 l2 F B = some (r, F9, B9) → zH D ca ad lnM nM L F B A H → va_S A s.heap H locs → lv_has ls 10 [(7, .int (iI l7)), (6, .int (iI l6)), (5, .int (iI l5)), (4, .int (iI l4)), (3, .int (iI l3)), (0, .ref (ad 14 0 0)), (1, .ref (ad 13 l1 0)), (2, .int (iI l2))] → W p l e ({ frames := 3, cells := 0, slots := 0, locals := 66 } : Room) s m args below meth c H locs 0 0 (MQ below (Q_M_accidentals D ca ad L r F9 B9 A) args s 0 0 A) (F0 m 100 ls []) := by
  obtain ⟨hx, hb, hr, hml, hown, hts, hlk, hK, hA, hL, hX⟩ := id X
  intro n
  induction n with
  | zero =>
    intros
    rename_i hf _ _ _
    cases hf
  | succ n ih =>
    intro l7 l6 l5 l4 l3 l1 l2 F B H locs ls hf hZ hS hl
    replace hf : (if r32 l6 then (if l6 < 0 then f_M_accidentals_206 rec5 K l4 l3 l1 l2 F B else if 0 ≤ l1 ∧ l1 < 3 then if 0 ≤ l6 ∧ l6 < 4000 then if r32 l7 then if r32 (B 13 l1 21 l6) then (if (B 13 l1 21 l6) ≤ l7 then f_M_accidentals_206 rec5 K l4 l3 l1 l2 F B else if 0 ≤ ((6 * l6) + l7) ∧ ((6 * l6) + l7) < 24000 then zbind (f_M_comesOn K l1 l2 l4 (B 13 l1 28 ((6 * l6) + l7)) (B 13 l1 29 ((6 * l6) + l7)) F B) (fun r30 F30 B30 => if r32 r30 then (if r30 = 0 then if 0 ≤ (B 13 l1 28 ((6 * l6) + l7)) ∧ (B 13 l1 28 ((6 * l6) + l7)) < 63 then if r32 (B30 14 0 58 (B 13 l1 28 ((6 * l6) + l7))) then if r32 (B 13 l1 29 ((6 * l6) + l7)) then (if (B30 14 0 58 (B 13 l1 28 ((6 * l6) + l7))) = (B 13 l1 29 ((6 * l6) + l7)) then f_M_accidentals_200 rec5 (f_M_accidentals_100 rec5 K n) K l7 l6 l5 l4 l3 l1 l2 F30 B30 else if 0 ≤ l5 ∧ l5 < 3200 then f_M_accidentals_200 rec5 (f_M_accidentals_100 rec5 K n) K l7 l6 l5 l4 l3 l1 l2 F30 (zup4 (zup4 B30 13 l1 37 l5 (zor (B30 13 l1 37 l5) (zshl 1 l7))) 14 0 58 (B 13 l1 28 ((6 * l6) + l7)) (B 13 l1 29 ((6 * l6) + l7))) else none) else none else none else none else f_M_accidentals_200 rec5 (f_M_accidentals_100 rec5 K n) K l7 l6 l5 l4 l3 l1 l2 F30 B30) else none) else none) else none else none else none else none) else none) = some (r, F9, B9) := hf
    refine lv_iload hx hb (D_21 W_prog_15_method_94_code_96 4 rfl rfl) (lv_at hl 1 rfl) ?_
    obtain ⟨g22, hf⟩ := gif hf
    refine z0lt (tgt := 206) hx hb g22 (D_155 W_prog_15_method_94_code_96 6 rfl rfl rfl) (by decide) (fun h23 => ?_) (fun h23 => ?_)
    · replace hf := gpos hf h23
      exact b_M_accidentals_206 X hrec5 hf hZ hS (lv_sub hl [3, 4, 5, 6, 7] rfl)
    · replace hf := gneg hf h23
      refine lv_iload hx hb (D_21 W_prog_15_method_94_code_96 9 rfl rfl) (lv_at hl 0 rfl) ?_
      refine lv_aload_n hx hb (D_43 W_prog_15_method_94_code_96 11 rfl rfl) rfl (lv_at hl 6 rfl) ?_
      obtain ⟨g24, hf⟩ := gif hf
      refine zget (ci := 13) (C := RX13) (T := TX13) (v := .ref (ad 13 l1 (21 + 1))) (k := 21) hx hb hts inW_13 hown hK hZ g24.1 g24.2 rfl (by decide) k_9_160 rfl (D_180 W_prog_15_method_94_code_96 12 rfl rfl rfl) ?_
      refine lv_iload hx hb (D_21 W_prog_15_method_94_code_96 15 rfl rfl) (lv_at hl 1 rfl) ?_
      obtain ⟨g25, hf⟩ := gif hf
      refine zald (ci := 13) (k := 21) hx hb hK rfl hZ g24.1 g24.2 rfl (Nat.le_of_ble_eq_true rfl) g25.1 g25.2 (D_46 W_prog_15_method_94_code_96 17 rfl rfl) ?_
      obtain ⟨g26, hf⟩ := gif hf
      obtain ⟨g27, hf⟩ := gif hf
      refine zge (tgt := 206) hx hb g26 g27 (D_162 W_prog_15_method_94_code_96 18 rfl rfl rfl) (by decide) (fun h28 => ?_) (fun h28 => ?_)
      · replace hf := gpos hf h28
        exact b_M_accidentals_206 X hrec5 hf hZ hS (lv_sub hl [3, 4, 5, 6, 7] rfl)
      · replace hf := gneg hf h28
        refine lv_aload_n hx hb (D_43 W_prog_15_method_94_code_96 21 rfl rfl) rfl (lv_at hl 6 rfl) ?_
        refine zget (ci := 13) (C := RX13) (T := TX13) (v := .ref (ad 13 l1 (28 + 1))) (k := 28) hx hb hts inW_13 hown hK hZ g24.1 g24.2 rfl (by decide) k_9_174 rfl (D_180 W_prog_15_method_94_code_96 22 rfl rfl rfl) ?_
        refine lv_bipush (v := iI 6) hx hb (D_16 W_prog_15_method_94_code_96 25 rfl rfl rfl) (by decide) ?_
        refine lv_iload hx hb (D_21 W_prog_15_method_94_code_96 27 rfl rfl) (lv_at hl 1 rfl) ?_
        refine zmul hx hb (D_104 W_prog_15_method_94_code_96 29 rfl rfl) ?_
        refine lv_iload hx hb (D_21 W_prog_15_method_94_code_96 30 rfl rfl) (lv_at hl 0 rfl) ?_
        refine zadd hx hb (D_96 W_prog_15_method_94_code_128 0 rfl rfl) ?_
        obtain ⟨g29, hf⟩ := gif hf
        refine zald (ci := 13) (k := 28) hx hb hK rfl hZ g24.1 g24.2 rfl (Nat.le_of_ble_eq_true rfl) g29.1 g29.2 (D_46 W_prog_15_method_94_code_128 1 rfl rfl) ?_
        refine lv_istore (lv' := [(8, .int (iI (B 13 l1 28 ((6 * l6) + l7)))), (7, .int (iI l7)), (6, .int (iI l6)), (5, .int (iI l5)), (4, .int (iI l4)), (3, .int (iI l3)), (0, .ref (ad 14 0 0)), (1, .ref (ad 13 l1 0)), (2, .int (iI l2))]) hx hb (D_54 W_prog_15_method_94_code_128 2 rfl rfl) hl (by decide) rfl (fun ls hl => ?_)
        refine lv_aload_n hx hb (D_43 W_prog_15_method_94_code_128 4 rfl rfl) rfl (lv_at hl 7 rfl) ?_
        refine zget (ci := 13) (C := RX13) (T := TX13) (v := .ref (ad 13 l1 (29 + 1))) (k := 29) hx hb hts inW_13 hown hK hZ g24.1 g24.2 rfl (by decide) k_9_176 rfl (D_180 W_prog_15_method_94_code_128 5 rfl rfl rfl) ?_
        refine lv_bipush (v := iI 6) hx hb (D_16 W_prog_15_method_94_code_128 8 rfl rfl rfl) (by decide) ?_
        refine lv_iload hx hb (D_21 W_prog_15_method_94_code_128 10 rfl rfl) (lv_at hl 2 rfl) ?_
        refine zmul hx hb (D_104 W_prog_15_method_94_code_128 12 rfl rfl) ?_
        refine lv_iload hx hb (D_21 W_prog_15_method_94_code_128 13 rfl rfl) (lv_at hl 1 rfl) ?_
        refine zadd hx hb (D_96 W_prog_15_method_94_code_128 15 rfl rfl) ?_
        refine zald (ci := 13) (k := 29) hx hb hK rfl hZ g24.1 g24.2 rfl (Nat.le_of_ble_eq_true rfl) g29.1 g29.2 (D_46 W_prog_15_method_94_code_128 16 rfl rfl) ?_
        refine lv_istore (lv' := [(9, .int (iI (B 13 l1 29 ((6 * l6) + l7)))), (8, .int (iI (B 13 l1 28 ((6 * l6) + l7)))), (7, .int (iI l7)), (6, .int (iI l6)), (5, .int (iI l5)), (4, .int (iI l4)), (3, .int (iI l3)), (0, .ref (ad 14 0 0)), (1, .ref (ad 13 l1 0)), (2, .int (iI l2))]) hx hb (D_54 W_prog_15_method_94_code_128 17 rfl rfl) hl (by decide) rfl (fun ls hl => ?_)
        refine lv_aload_n hx hb (D_42 W_prog_15_method_94_code_128 19 rfl rfl) rfl (lv_at hl 7 rfl) ?_
        refine lv_aload_n hx hb (D_43 W_prog_15_method_94_code_128 20 rfl rfl) rfl (lv_at hl 8 rfl) ?_
        refine lv_iload_n hx hb (D_28 W_prog_15_method_94_code_128 21 rfl rfl) rfl (lv_at hl 9 rfl) ?_
        refine lv_iload hx hb (D_21 W_prog_15_method_94_code_128 22 rfl rfl) (lv_at hl 5 rfl) ?_
        refine lv_iload hx hb (D_21 W_prog_15_method_94_code_128 24 rfl rfl) (lv_at hl 1 rfl) ?_
        refine lv_iload hx hb (D_21 W_prog_15_method_94_code_128 26 rfl rfl) (lv_at hl 0 rfl) ?_
        obtain ⟨r30, F30, B30, hc30, hf⟩ := gbind hf
        refine va_calli (va_runV (As := [.ref (ad 13 l1 0), .int (iI l2), .int (iI l4), .int (iI (B 13 l1 28 ((6 * l6) + l7))), .int (iI (B 13 l1 29 ((6 * l6) + l7)))]) (rest := []) ⟨hx, hb, hml, hown, hts⟩ (c_M_comesOn (l := l) hc30) (cwV 5 hts (gdV k_15_60 k_15_62 ks_243 k_1_9 k_15_63) rfl rfl rfl (by decide +kernel) ⟨Nat.le_of_ble_eq_true rfl, Nat.le_of_ble_eq_true rfl⟩) (zPV X hZ hS (ci := 14) (by decide) (by decide) (r := (RX14, TX14, 107)) rfl [.ref (ad 13 l1 0), .int (iI l2), .int (iI l4), .int (iI (B 13 l1 28 ((6 * l6) + l7))), .int (iI (B 13 l1 29 ((6 * l6) + l7)))]) rfl rfl hl.1 rfl (lv_room (Nat.le_of_ble_eq_true rfl)) (D_182 W_prog_15_method_94_code_128 28 rfl rfl rfl) ⟨Nat.le_of_ble_eq_true rfl, Nat.le_of_ble_eq_true rfl⟩) hS (fun q _ h => zAin X hS q h) (zAin X hS) (fun p30 u30 t30 H30 locs30 ht30 hv30 hw30 hB30 hz30 hk30 hS30 => ?_)
        have hZ30 := zBack X ht30 hB30
        subst hw30
        obtain ⟨g31, hf⟩ := gif hf
        refine z0ne (tgt := 200) hx hb g31 (D_154 W_prog_15_method_94_code_128 31 rfl rfl rfl) (by decide) (fun h33 => ?_) (fun h33 => ?_)
        · replace hf := gneg hf h33
          exact b_M_accidentals_200 X hrec5 ih hf hZ30 hS30 (lv_sub hl [2, 3, 4, 5, 6, 7, 8, 9] rfl)
        · replace hf := gpos hf h33
          refine lv_aload_n hx hb (D_42 W_prog_15_method_94_code_160 2 rfl rfl) rfl (lv_at hl 7 rfl) ?_
          refine zget (ci := 14) (C := RX14) (T := TX14) (v := .ref (ad 14 0 (58 + 1))) (k := 58) hx hb hts inW_14 hown hK hZ30 (by decide) (by decide) rfl (by decide) k_11_56 rfl (D_180 W_prog_15_method_94_code_160 3 rfl rfl rfl) ?_
          refine lv_iload hx hb (D_21 W_prog_15_method_94_code_160 6 rfl rfl) (lv_at hl 1 rfl) ?_
          obtain ⟨g34, hf⟩ := gif hf
          refine zald (ci := 14) (k := 58) hx hb hK rfl hZ30 (by decide) (by decide) rfl (Nat.le_of_ble_eq_true rfl) g34.1 g34.2 (D_46 W_prog_15_method_94_code_160 8 rfl rfl) ?_
          refine lv_iload hx hb (D_21 W_prog_15_method_94_code_160 9 rfl rfl) (lv_at hl 0 rfl) ?_
          obtain ⟨g35, hf⟩ := gif hf
          obtain ⟨g36, hf⟩ := gif hf
          refine zne (tgt := 177) hx hb g35 g36 (D_160 W_prog_15_method_94_code_160 11 rfl rfl rfl) (by decide) (fun h37 => ?_) (fun h37 => ?_)
          · replace hf := gneg hf h37
            refine lv_aload_n hx hb (D_43 W_prog_15_method_94_code_160 17 rfl rfl) rfl (lv_at hl 8 rfl) ?_
            refine zget (ci := 13) (C := RX13) (T := TX13) (v := .ref (ad 13 l1 (37 + 1))) (k := 37) hx hb hts inW_13 hown hK hZ30 g24.1 g24.2 rfl (by decide) k_9_192 rfl (D_180 W_prog_15_method_94_code_160 18 rfl rfl rfl) ?_
            refine lv_iload hx hb (D_21 W_prog_15_method_94_code_160 21 rfl rfl) (lv_at hl 4 rfl) ?_
            refine lv_dup2_11 hx hb (D_92 W_prog_15_method_94_code_160 23 rfl rfl) rfl rfl ?_
            obtain ⟨g38, hf⟩ := gif hf
            refine zald (ci := 13) (k := 37) hx hb hK rfl hZ30 g24.1 g24.2 rfl (Nat.le_of_ble_eq_true rfl) g38.1 g38.2 (D_46 W_prog_15_method_94_code_160 24 rfl rfl) ?_
            refine lv_iconst (v := iI 1) hx hb (D_4 W_prog_15_method_94_code_160 25 rfl rfl) rfl ?_
            refine lv_iload hx hb (D_21 W_prog_15_method_94_code_160 26 rfl rfl) (lv_at hl 2 rfl) ?_
            refine zshl_r hx hb (D_120 W_prog_15_method_94_code_160 28 rfl rfl) ?_
            refine zor_r hx hb (D_128 W_prog_15_method_94_code_160 29 rfl rfl) ?_
            refine zast (ci := 13) (k := 37) hx hb hK rfl hZ30 hS30 g24.1 g24.2 rfl (Nat.le_of_ble_eq_true rfl) g38.1 g38.2 (D_79 W_prog_15_method_94_code_160 30 rfl rfl) (fun H39 locs39 hZ39 hS39 => ?_)
            refine lv_aload_n hx hb (D_42 W_prog_15_method_94_code_160 31 rfl rfl) rfl (lv_at hl 7 rfl) ?_
            refine zget (ci := 14) (C := RX14) (T := TX14) (v := .ref (ad 14 0 (58 + 1))) (k := 58) hx hb hts inW_14 hown hK hZ39 (by decide) (by decide) rfl (by decide) k_11_56 rfl (D_180 W_prog_15_method_94_code_192 0 rfl rfl rfl) ?_
            refine lv_iload hx hb (D_21 W_prog_15_method_94_code_192 3 rfl rfl) (lv_at hl 1 rfl) ?_
            refine lv_iload hx hb (D_21 W_prog_15_method_94_code_192 5 rfl rfl) (lv_at hl 0 rfl) ?_
            refine zast (ci := 14) (k := 58) hx hb hK rfl hZ39 hS39 (by decide) (by decide) rfl (Nat.le_of_ble_eq_true rfl) g34.1 g34.2 (D_79 W_prog_15_method_94_code_192 7 rfl rfl) (fun H40 locs40 hZ40 hS40 => ?_)
            exact b_M_accidentals_200 X hrec5 ih hf hZ40 hS40 (lv_sub hl [2, 3, 4, 5, 6, 7, 8, 9] rfl)
          · replace hf := gpos hf h37
            refine lv_goto (tgt := 200) hx hb (D_167 W_prog_15_method_94_code_160 14 rfl rfl rfl) (by decide) ?_
            exact b_M_accidentals_200 X hrec5 ih hf hZ30 hS30 (lv_sub hl [2, 3, 4, 5, 6, 7, 8, 9] rfl)

def f_M_accidentals_80 (rec5 : Int → Int → Int → Int → zF → zB → zO) (K : Nat) (l5 : Int) (l4 : Int) (l3 : Int) (l1 : Int) (l2 : Int) (F : zF) (B : zB) : zO := if 0 ≤ l1 ∧ l1 < 3 then if 0 ≤ l5 ∧ l5 < 3200 then zbind (f_M_sounding K l1 l2 l4 F (zup4 B 13 l1 37 l5 0)) (fun r21 F21 B21 => f_M_accidentals_100 rec5 K K 0 r21 l5 l4 l3 l1 l2 F21 B21) else none else none
set_option maxHeartbeats 4000000 in
set_option maxRecDepth 100000 in
theorem b_M_accidentals_80 {D : va_G} {ca : Nat → ClassId} {ad : Nat → Int → Nat → Nat} {L : List Nat} {aS vS : Nat → Nat} {A : Nat → Prop} {p : Program} {l : Launch} {e : Env} {s : State} {m : MethodId} {args : Array Value} {below : List Frame} {meth : Method} {c : Code} {K : Nat} {r : Int} {F9 : zF} {B9 : zB} (X : zX D ca L aS vS A p s m args meth c prog_15_method_94_code 10 (Option.none : Option Jvm.ClassFile.FieldType) "StaveHouseModel") {rec5 : Int → Int → Int → Int → zF → zB → zO} (hrec5 : ∀ {l4 : Int} {l3 : Int} {l1 : Int} {l2 : Int} {F : zF} {B : zB} {H : Heap} {locs : List Loc} {ls : Array Slot}, rec5 l4 l3 l1 l2 F B = some (r, F9, B9) → zH D ca ad lnM nM L F B A H → va_S A s.heap H locs → lv_has ls 10 [(4, .int (iI l4)), (3, .int (iI l3)), (0, .ref (ad 14 0 0)), (1, .ref (ad 13 l1 0)), (2, .int (iI l2))] → W p l e ({ frames := 3, cells := 0, slots := 0, locals := 66 } : Room) s m args below meth c H locs 0 0 (MQ below (Q_M_accidentals D ca ad L r F9 B9 A) args s 0 0 A) (F0 m 5 ls [])) {l5 : Int} {l4 : Int} {l3 : Int} {l1 : Int} {l2 : Int} {F : zF} {B : zB} {H : Heap} {locs : List Loc} {ls : Array Slot} (hf : f_M_accidentals_80 rec5 K l5 l4 l3 l1 l2 F B = some (r, F9, B9)) (hZ : zH D ca ad lnM nM L F B A H) (hS : va_S A s.heap H locs) (hl : lv_has ls 10 [(5, .int (iI l5)), (4, .int (iI l4)), (3, .int (iI l3)), (0, .ref (ad 14 0 0)), (1, .ref (ad 13 l1 0)), (2, .int (iI l2))]) : W p l e ({ frames := 3, cells := 0, slots := 0, locals := 66 } : Room) s m args below meth c H locs 0 0 (MQ below (Q_M_accidentals D ca ad L r F9 B9 A) args s 0 0 A) (F0 m 80 ls []) := by
  obtain ⟨hx, hb, hr, hml, hown, hts, hlk, hK, hA, hL, hX⟩ := id X
  replace hf : (if 0 ≤ l1 ∧ l1 < 3 then if 0 ≤ l5 ∧ l5 < 3200 then zbind (f_M_sounding K l1 l2 l4 F (zup4 B 13 l1 37 l5 0)) (fun r21 F21 B21 => f_M_accidentals_100 rec5 K K 0 r21 l5 l4 l3 l1 l2 F21 B21) else none else none) = some (r, F9, B9) := hf
  refine lv_aload_n hx hb (D_43 W_prog_15_method_94_code_64 16 rfl rfl) rfl (lv_at hl 4 rfl) ?_
  obtain ⟨g18, hf⟩ := gif hf
  refine zget (ci := 13) (C := RX13) (T := TX13) (v := .ref (ad 13 l1 (37 + 1))) (k := 37) hx hb hts inW_13 hown hK hZ g18.1 g18.2 rfl (by decide) k_9_192 rfl (D_180 W_prog_15_method_94_code_64 17 rfl rfl rfl) ?_
  refine lv_iload hx hb (D_21 W_prog_15_method_94_code_64 20 rfl rfl) (lv_at hl 0 rfl) ?_
  refine lv_iconst (v := iI 0) hx hb (D_3 W_prog_15_method_94_code_64 22 rfl rfl) rfl ?_
  obtain ⟨g19, hf⟩ := gif hf
  refine zast (ci := 13) (k := 37) hx hb hK rfl hZ hS g18.1 g18.2 rfl (Nat.le_of_ble_eq_true rfl) g19.1 g19.2 (D_79 W_prog_15_method_94_code_64 23 rfl rfl) (fun H20 locs20 hZ20 hS20 => ?_)
  refine lv_aload_n hx hb (D_43 W_prog_15_method_94_code_64 24 rfl rfl) rfl (lv_at hl 4 rfl) ?_
  refine lv_iload_n hx hb (D_28 W_prog_15_method_94_code_64 25 rfl rfl) rfl (lv_at hl 5 rfl) ?_
  refine lv_iload hx hb (D_21 W_prog_15_method_94_code_64 26 rfl rfl) (lv_at hl 1 rfl) ?_
  obtain ⟨r21, F21, B21, hc21, hf⟩ := gbind hf
  refine va_calli (va_runS (As := [.ref (ad 13 l1 0), .int (iI l2), .int (iI l4)]) (rest := []) ⟨hx, hb, hml, hown, hts⟩ (c_M_sounding (l := l) hc21) (va_cwS 3 hts (gdS k_13_199 k_13_200 k_1_9 k_13_201) rfl rfl rfl (by decide +kernel) ⟨Nat.le_of_ble_eq_true rfl, Nat.le_of_ble_eq_true rfl⟩) (zPS X hZ20 hS20 [.ref (ad 13 l1 0), .int (iI l2), .int (iI l4)]) rfl rfl hl.1 rfl (lv_room (Nat.le_of_ble_eq_true rfl)) (D_184 W_prog_15_method_94_code_64 28 rfl rfl rfl) ⟨Nat.le_of_ble_eq_true rfl, Nat.le_of_ble_eq_true rfl⟩) hS20 (fun q _ h => zAin X hS20 q h) (zAin X hS20) (fun p21 u21 t21 H21 locs21 ht21 hv21 hw21 hB21 hz21 hk21 hS21 => ?_)
  have hZ21 := zBack X ht21 hB21
  subst hw21
  refine lv_istore (lv' := [(6, .int (iI r21)), (5, .int (iI l5)), (4, .int (iI l4)), (3, .int (iI l3)), (0, .ref (ad 14 0 0)), (1, .ref (ad 13 l1 0)), (2, .int (iI l2))]) hx hb (D_54 W_prog_15_method_94_code_64 31 rfl rfl) hl (by decide) rfl (fun ls hl => ?_)
  refine lv_iconst (v := iI 0) hx hb (D_3 W_prog_15_method_94_code_96 1 rfl rfl) rfl ?_
  refine lv_istore (lv' := [(7, .int (iI 0)), (6, .int (iI r21)), (5, .int (iI l5)), (4, .int (iI l4)), (3, .int (iI l3)), (0, .ref (ad 14 0 0)), (1, .ref (ad 13 l1 0)), (2, .int (iI l2))]) hx hb (D_54 W_prog_15_method_94_code_96 2 rfl rfl) hl (by decide) rfl (fun ls hl => ?_)
  exact b_M_accidentals_100 X hrec5 hf hZ21 hS21 (lv_sub hl [0, 1, 2, 3, 4, 5, 6, 7] rfl)

def f_M_accidentals_40 (rec5 : Int → Int → Int → Int → zF → zB → zO) (K : Nat) : Nat → Int → Int → Int → Int → Int → zF → zB → zO
  | 0, _, _, _, _, _, _, _ => none
  | n + 1, l6, l5, l4, l1, l2, F, B => if r32 l6 then (if 63 ≤ l6 then if 0 ≤ l1 ∧ l1 < 3 then if 0 ≤ l5 ∧ l5 < 3200 then f_M_accidentals_80 rec5 K l5 l4 (B 13 l1 31 l5) l1 l2 F B else none else none else if 0 ≤ l1 ∧ l1 < 3 then zbind (f_M_inKey K (F 13 l1 2) (zrm l6 7) F B) (fun r15 F15 B15 => if 0 ≤ l6 ∧ l6 < 63 then f_M_accidentals_40 rec5 K n (l6 + 1) l5 l4 l1 l2 F15 (zup4 B15 14 0 58 l6 r15) else none) else none) else none
set_option maxHeartbeats 4000000 in
set_option maxRecDepth 100000 in
theorem b_M_accidentals_40 {D : va_G} {ca : Nat → ClassId} {ad : Nat → Int → Nat → Nat} {L : List Nat} {aS vS : Nat → Nat} {A : Nat → Prop} {p : Program} {l : Launch} {e : Env} {s : State} {m : MethodId} {args : Array Value} {below : List Frame} {meth : Method} {c : Code} {K : Nat} {r : Int} {F9 : zF} {B9 : zB} (X : zX D ca L aS vS A p s m args meth c prog_15_method_94_code 10 (Option.none : Option Jvm.ClassFile.FieldType) "StaveHouseModel") {rec5 : Int → Int → Int → Int → zF → zB → zO} (hrec5 : ∀ {l4 : Int} {l3 : Int} {l1 : Int} {l2 : Int} {F : zF} {B : zB} {H : Heap} {locs : List Loc} {ls : Array Slot}, rec5 l4 l3 l1 l2 F B = some (r, F9, B9) → zH D ca ad lnM nM L F B A H → va_S A s.heap H locs → lv_has ls 10 [(4, .int (iI l4)), (3, .int (iI l3)), (0, .ref (ad 14 0 0)), (1, .ref (ad 13 l1 0)), (2, .int (iI l2))] → W p l e ({ frames := 3, cells := 0, slots := 0, locals := 66 } : Room) s m args below meth c H locs 0 0 (MQ below (Q_M_accidentals D ca ad L r F9 B9 A) args s 0 0 A) (F0 m 5 ls [])) : ∀ {n : Nat} {l6 : Int} {l5 : Int} {l4 : Int} {l1 : Int} {l2 : Int} {F : zF} {B : zB} {H : Heap} {locs : List Loc} {ls : Array Slot}, f_M_accidentals_40 rec5 K n l6 l5 l4 l1 l2 F B = some (r, F9, B9) → zH D ca ad lnM nM L F B A H → va_S A s.heap H locs → lv_has ls 10 [(6, .int (iI l6)), (5, .int (iI l5)), (4, .int (iI l4)), (0, .ref (ad 14 0 0)), (1, .ref (ad 13 l1 0)), (2, .int (iI l2))] → W p l e ({ frames := 3, cells := 0, slots := 0, locals := 66 } : Room) s m args below meth c H locs 0 0 (MQ below (Q_M_accidentals D ca ad L r F9 B9 A) args s 0 0 A) (F0 m 40 ls []) := by
  obtain ⟨hx, hb, hr, hml, hown, hts, hlk, hK, hA, hL, hX⟩ := id X
  intro n
  induction n with
  | zero =>
    intros
    rename_i hf _ _ _
    cases hf
  | succ n ih =>
    intro l6 l5 l4 l1 l2 F B H locs ls hf hZ hS hl
    replace hf : (if r32 l6 then (if 63 ≤ l6 then if 0 ≤ l1 ∧ l1 < 3 then if 0 ≤ l5 ∧ l5 < 3200 then f_M_accidentals_80 rec5 K l5 l4 (B 13 l1 31 l5) l1 l2 F B else none else none else if 0 ≤ l1 ∧ l1 < 3 then zbind (f_M_inKey K (F 13 l1 2) (zrm l6 7) F B) (fun r15 F15 B15 => if 0 ≤ l6 ∧ l6 < 63 then f_M_accidentals_40 rec5 K n (l6 + 1) l5 l4 l1 l2 F15 (zup4 B15 14 0 58 l6 r15) else none) else none) else none) = some (r, F9, B9) := hf
    refine lv_iload hx hb (D_21 W_prog_15_method_94_code_32 8 rfl rfl) (lv_at hl 0 rfl) ?_
    refine lv_bipush (v := iI 63) hx hb (D_16 W_prog_15_method_94_code_32 10 rfl rfl rfl) (by decide) ?_
    obtain ⟨g10, hf⟩ := gif hf
    refine zge (tgt := 72) hx hb g10 (by decide) (D_162 W_prog_15_method_94_code_32 12 rfl rfl rfl) (by decide) (fun h11 => ?_) (fun h11 => ?_)
    · replace hf := gpos hf h11
      refine lv_aload_n hx hb (D_43 W_prog_15_method_94_code_64 8 rfl rfl) rfl (lv_at hl 4 rfl) ?_
      obtain ⟨g12, hf⟩ := gif hf
      refine zget (ci := 13) (C := RX13) (T := TX13) (v := .ref (ad 13 l1 (31 + 1))) (k := 31) hx hb hts inW_13 hown hK hZ g12.1 g12.2 rfl (by decide) k_9_180 rfl (D_180 W_prog_15_method_94_code_64 9 rfl rfl rfl) ?_
      refine lv_iload hx hb (D_21 W_prog_15_method_94_code_64 12 rfl rfl) (lv_at hl 1 rfl) ?_
      obtain ⟨g13, hf⟩ := gif hf
      refine zald (ci := 13) (k := 31) hx hb hK rfl hZ g12.1 g12.2 rfl (Nat.le_of_ble_eq_true rfl) g13.1 g13.2 (D_46 W_prog_15_method_94_code_64 14 rfl rfl) ?_
      refine lv_istore_n (lv' := [(3, .int (iI (B 13 l1 31 l5))), (6, .int (iI l6)), (5, .int (iI l5)), (4, .int (iI l4)), (0, .ref (ad 14 0 0)), (1, .ref (ad 13 l1 0)), (2, .int (iI l2))]) hx hb (D_62 W_prog_15_method_94_code_64 15 rfl rfl) rfl hl (by decide) rfl (fun ls hl => ?_)
      exact b_M_accidentals_80 X hrec5 hf hZ hS (lv_sub hl [2, 3, 0, 4, 5, 6] rfl)
    · replace hf := gneg hf h11
      refine lv_aload_n hx hb (D_42 W_prog_15_method_94_code_32 15 rfl rfl) rfl (lv_at hl 3 rfl) ?_
      refine zget (ci := 14) (C := RX14) (T := TX14) (v := .ref (ad 14 0 (58 + 1))) (k := 58) hx hb hts inW_14 hown hK hZ (by decide) (by decide) rfl (by decide) k_11_56 rfl (D_180 W_prog_15_method_94_code_32 16 rfl rfl rfl) ?_
      refine lv_iload hx hb (D_21 W_prog_15_method_94_code_32 19 rfl rfl) (lv_at hl 0 rfl) ?_
      refine lv_aload_n hx hb (D_43 W_prog_15_method_94_code_32 21 rfl rfl) rfl (lv_at hl 4 rfl) ?_
      obtain ⟨g14, hf⟩ := gif hf
      refine zget (ci := 13) (C := RX13) (T := TX13) (v := .int (iI (F 13 l1 2))) (k := 2) hx hb hts inW_13 hown hK hZ g14.1 g14.2 rfl (by decide) k_9_127 rfl (D_180 W_prog_15_method_94_code_32 22 rfl rfl rfl) ?_
      refine lv_iload hx hb (D_21 W_prog_15_method_94_code_32 25 rfl rfl) (lv_at hl 0 rfl) ?_
      refine lv_bipush (v := iI 7) hx hb (D_16 W_prog_15_method_94_code_32 27 rfl rfl rfl) (by decide) ?_
      refine zrm_r hx hb (by decide) (D_112 W_prog_15_method_94_code_32 29 rfl rfl) ?_
      obtain ⟨r15, F15, B15, hc15, hf⟩ := gbind hf
      refine va_calli (va_runS (As := [.int (iI (F 13 l1 2)), .int (iI (zrm l6 7))]) (rest := [.int (iI l6), .ref (ad 14 0 (58 + 1))]) ⟨hx, hb, hml, hown, hts⟩ (c_M_inKey (l := l) hc15) (va_cwS 2 hts (gdS k_12_161 k_12_162 k_1_9 k_12_163) rfl rfl rfl (by decide +kernel) ⟨Nat.le_of_ble_eq_true rfl, Nat.le_of_ble_eq_true rfl⟩) (zPS X hZ hS [.int (iI (F 13 l1 2)), .int (iI (zrm l6 7))]) rfl rfl hl.1 rfl (lv_room (Nat.le_of_ble_eq_true rfl)) (D_184 W_prog_15_method_94_code_32 30 rfl rfl rfl) ⟨Nat.le_of_ble_eq_true rfl, Nat.le_of_ble_eq_true rfl⟩) hS (fun q _ h => zAin X hS q h) (zAin X hS) (fun p15 u15 t15 H15 locs15 ht15 hv15 hw15 hB15 hz15 hk15 hS15 => ?_)
      have hZ15 := zBack X ht15 hB15
      subst hw15
      obtain ⟨g16, hf⟩ := gif hf
      refine zast (ci := 14) (k := 58) hx hb hK rfl hZ15 hS15 (by decide) (by decide) rfl (Nat.le_of_ble_eq_true rfl) g16.1 g16.2 (D_79 W_prog_15_method_94_code_64 1 rfl rfl) (fun H17 locs17 hZ17 hS17 => ?_)
      refine lv_iinc (v := iI (l6 + 1)) (lv' := [(6, .int (iI (l6 + 1))), (5, .int (iI l5)), (4, .int (iI l4)), (0, .ref (ad 14 0 0)), (1, .ref (ad 13 l1 0)), (2, .int (iI l2))]) hx hb d_15_94_66 hl (k := 0) rfl (iI_add _ 1) (by decide) rfl (fun ls hl => ?_)
      refine lv_goto (tgt := 40) hx hb (D_167 W_prog_15_method_94_code_64 5 rfl rfl rfl) (by decide) ?_
      exact ih hf hZ17 hS17 (lv_sub hl [0, 1, 2, 3, 4, 5] rfl)

def f_M_accidentals_5 (K : Nat) : Nat → Int → Int → Int → Int → zF → zB → zO
  | 0, _, _, _, _, _, _ => none
  | n + 1, l4, l3, l1, l2, F, B => if 0 ≤ l1 ∧ l1 < 3 then if 0 ≤ l2 ∧ l2 < 4 then if r32 l4 then if r32 (B 13 l1 13 l2) then (if (B 13 l1 13 l2) ≤ l4 then some (0, F, B) else if 0 ≤ ((800 * l2) + l4) ∧ ((800 * l2) + l4) < 3200 then if r32 (B 13 l1 31 ((800 * l2) + l4)) then if r32 l3 then (if (B 13 l1 31 ((800 * l2) + l4)) = l3 then f_M_accidentals_80 (f_M_accidentals_5 K n) K ((800 * l2) + l4) l4 l3 l1 l2 F B else f_M_accidentals_40 (f_M_accidentals_5 K n) K K 0 ((800 * l2) + l4) l4 l1 l2 F B) else none else none else none) else none else none else none else none
set_option maxHeartbeats 4000000 in
set_option maxRecDepth 100000 in
theorem b_M_accidentals_5 {D : va_G} {ca : Nat → ClassId} {ad : Nat → Int → Nat → Nat} {L : List Nat} {aS vS : Nat → Nat} {A : Nat → Prop} {p : Program} {l : Launch} {e : Env} {s : State} {m : MethodId} {args : Array Value} {below : List Frame} {meth : Method} {c : Code} {K : Nat} {r : Int} {F9 : zF} {B9 : zB} (X : zX D ca L aS vS A p s m args meth c prog_15_method_94_code 10 (Option.none : Option Jvm.ClassFile.FieldType) "StaveHouseModel") : ∀ {n : Nat} {l4 : Int} {l3 : Int} {l1 : Int} {l2 : Int} {F : zF} {B : zB} {H : Heap} {locs : List Loc} {ls : Array Slot}, f_M_accidentals_5 K n l4 l3 l1 l2 F B = some (r, F9, B9) → zH D ca ad lnM nM L F B A H → va_S A s.heap H locs → lv_has ls 10 [(4, .int (iI l4)), (3, .int (iI l3)), (0, .ref (ad 14 0 0)), (1, .ref (ad 13 l1 0)), (2, .int (iI l2))] → W p l e ({ frames := 3, cells := 0, slots := 0, locals := 66 } : Room) s m args below meth c H locs 0 0 (MQ below (Q_M_accidentals D ca ad L r F9 B9 A) args s 0 0 A) (F0 m 5 ls []) := by
  obtain ⟨hx, hb, hr, hml, hown, hts, hlk, hK, hA, hL, hX⟩ := id X
  intro n
  induction n with
  | zero =>
    intros
    rename_i hf _ _ _
    cases hf
  | succ n ih =>
    intro l4 l3 l1 l2 F B H locs ls hf hZ hS hl
    replace hf : (if 0 ≤ l1 ∧ l1 < 3 then if 0 ≤ l2 ∧ l2 < 4 then if r32 l4 then if r32 (B 13 l1 13 l2) then (if (B 13 l1 13 l2) ≤ l4 then some (0, F, B) else if 0 ≤ ((800 * l2) + l4) ∧ ((800 * l2) + l4) < 3200 then if r32 (B 13 l1 31 ((800 * l2) + l4)) then if r32 l3 then (if (B 13 l1 31 ((800 * l2) + l4)) = l3 then f_M_accidentals_80 (f_M_accidentals_5 K n) K ((800 * l2) + l4) l4 l3 l1 l2 F B else f_M_accidentals_40 (f_M_accidentals_5 K n) K K 0 ((800 * l2) + l4) l4 l1 l2 F B) else none else none else none) else none else none else none else none) = some (r, F9, B9) := hf
    refine lv_iload hx hb (D_21 W_prog_15_method_94_code_0 5 rfl rfl) (lv_at hl 0 rfl) ?_
    refine lv_aload_n hx hb (D_43 W_prog_15_method_94_code_0 7 rfl rfl) rfl (lv_at hl 3 rfl) ?_
    obtain ⟨g1, hf⟩ := gif hf
    refine zget (ci := 13) (C := RX13) (T := TX13) (v := .ref (ad 13 l1 (13 + 1))) (k := 13) hx hb hts inW_13 hown hK hZ g1.1 g1.2 rfl (by decide) k_9_144 rfl (D_180 W_prog_15_method_94_code_0 8 rfl rfl rfl) ?_
    refine lv_iload_n hx hb (D_28 W_prog_15_method_94_code_0 11 rfl rfl) rfl (lv_at hl 4 rfl) ?_
    obtain ⟨g2, hf⟩ := gif hf
    refine zald (ci := 13) (k := 13) hx hb hK rfl hZ g1.1 g1.2 rfl (Nat.le_of_ble_eq_true rfl) g2.1 g2.2 (D_46 W_prog_15_method_94_code_0 12 rfl rfl) ?_
    obtain ⟨g3, hf⟩ := gif hf
    obtain ⟨g4, hf⟩ := gif hf
    refine zge (tgt := 212) hx hb g3 g4 (D_162 W_prog_15_method_94_code_0 13 rfl rfl rfl) (by decide) (fun h5 => ?_) (fun h5 => ?_)
    · replace hf := gpos hf h5
      cases hf
      exact W.vret hx hb hr (fun t ht hW => ⟨⟨(), rfl, trivial, by rw [ht]; exact hZ, va_K.moved hW.alike hK⟩, hS.F ht⟩) hS.2.2 (D_177 W_prog_15_method_94_code_192 20 rfl rfl) hlk
    · replace hf := gneg hf h5
      refine lv_sipush (v := iI 800) hx hb (D_17 W_prog_15_method_94_code_0 16 rfl rfl rfl) (by decide) ?_
      refine lv_iload_n hx hb (D_28 W_prog_15_method_94_code_0 19 rfl rfl) rfl (lv_at hl 4 rfl) ?_
      refine zmul hx hb (D_104 W_prog_15_method_94_code_0 20 rfl rfl) ?_
      refine lv_iload hx hb (D_21 W_prog_15_method_94_code_0 21 rfl rfl) (lv_at hl 0 rfl) ?_
      refine zadd hx hb (D_96 W_prog_15_method_94_code_0 23 rfl rfl) ?_
      refine lv_istore (lv' := [(5, .int (iI ((800 * l2) + l4))), (4, .int (iI l4)), (3, .int (iI l3)), (0, .ref (ad 14 0 0)), (1, .ref (ad 13 l1 0)), (2, .int (iI l2))]) hx hb (D_54 W_prog_15_method_94_code_0 24 rfl rfl) hl (by decide) rfl (fun ls hl => ?_)
      refine lv_aload_n hx hb (D_43 W_prog_15_method_94_code_0 26 rfl rfl) rfl (lv_at hl 4 rfl) ?_
      refine zget (ci := 13) (C := RX13) (T := TX13) (v := .ref (ad 13 l1 (31 + 1))) (k := 31) hx hb hts inW_13 hown hK hZ g1.1 g1.2 rfl (by decide) k_9_180 rfl (D_180 W_prog_15_method_94_code_0 27 rfl rfl rfl) ?_
      refine lv_iload hx hb (D_21 W_prog_15_method_94_code_0 30 rfl rfl) (lv_at hl 0 rfl) ?_
      obtain ⟨g6, hf⟩ := gif hf
      refine zald (ci := 13) (k := 31) hx hb hK rfl hZ g1.1 g1.2 rfl (Nat.le_of_ble_eq_true rfl) g6.1 g6.2 (D_46 W_prog_15_method_94_code_32 0 rfl rfl) ?_
      refine lv_iload_n hx hb (D_29 W_prog_15_method_94_code_32 1 rfl rfl) rfl (lv_at hl 2 rfl) ?_
      obtain ⟨g7, hf⟩ := gif hf
      obtain ⟨g8, hf⟩ := gif hf
      refine zeq (tgt := 80) hx hb g7 g8 (D_159 W_prog_15_method_94_code_32 2 rfl rfl rfl) (by decide) (fun h9 => ?_) (fun h9 => ?_)
      · replace hf := gpos hf h9
        exact b_M_accidentals_80 X ih hf hZ hS (lv_sub hl [0, 1, 2, 3, 4, 5] rfl)
      · replace hf := gneg hf h9
        refine lv_iconst (v := iI 0) hx hb (D_3 W_prog_15_method_94_code_32 5 rfl rfl) rfl ?_
        refine lv_istore (lv' := [(6, .int (iI 0)), (5, .int (iI ((800 * l2) + l4))), (4, .int (iI l4)), (3, .int (iI l3)), (0, .ref (ad 14 0 0)), (1, .ref (ad 13 l1 0)), (2, .int (iI l2))]) hx hb (D_54 W_prog_15_method_94_code_32 6 rfl rfl) hl (by decide) rfl (fun ls hl => ?_)
        exact b_M_accidentals_40 X ih hf hZ hS (lv_sub hl [0, 1, 2, 4, 5, 6] rfl)

def f_M_accidentals (K : Nat) (l1 : Int) (l2 : Int) (F : zF) (B : zB) : zO := f_M_accidentals_5 K K 0 (-1) l1 l2 F B
set_option maxHeartbeats 4000000 in
set_option maxRecDepth 100000 in
theorem c_M_accidentals {l : Launch} {D : va_G} {ca : Nat → ClassId} {ad : Nat → Int → Nat → Nat} {L : List Nat} {aS vS : Nat → Nat} {sz K : Nat}  {l1 : Int} {l2 : Int} {F F9 : zF} {B B9 : zB} {r : Int} (hf : f_M_accidentals K l1 l2 F B = some (r, F9, B9)) : Met l ({ cls := "StaveHouseModel", name := "accidentals", desc := "(LStaveHouseModel$Piece;I)V" } : Jvm.MethodName) (Cond.code ({ cls := "StaveHouseModel", name := "accidentals", desc := "(LStaveHouseModel$Piece;I)V" } : Jvm.MethodName) prog_15_method_94_code 10 (Option.none : Option Jvm.ClassFile.FieldType) :: wAll) ({ frames := 3, cells := 0, slots := 0, locals := 66 } : Room) (va_Pc [.ref (ad 14 0 0), .ref (ad 13 l1 0), .int (iI l2)] (zPre D ca ad lnM nM L aS vS F B sz)) (Q_M_accidentals D ca ad L r F9 B9 (zA L sz)) 0 0 (zA L sz) := by
  refine zMet (Qc := Q_M_accidentals D ca ad L r F9 B9) (lv := [(0, .ref (ad 14 0 0)), (1, .ref (ad 13 l1 0)), (2, .int (iI l2))]) (by decide) (Nat.le_of_ble_eq_true rfl) rfl (fun A p e s m below meth c ls X hZ hS hl => ?_)
  obtain ⟨hx, hb, hr, hml, hown, hts, hlk, hK, hA, hL, hX⟩ := id X
  replace hf : (f_M_accidentals_5 K K 0 (-1) l1 l2 F B) = some (r, F9, B9) := hf
  refine lv_iconst (v := iI (-1)) hx hb (D_2 W_prog_15_method_94_code_0 0 rfl rfl) rfl ?_
  refine lv_istore_n (lv' := [(3, .int (iI (-1))), (0, .ref (ad 14 0 0)), (1, .ref (ad 13 l1 0)), (2, .int (iI l2))]) hx hb (D_62 W_prog_15_method_94_code_0 1 rfl rfl) rfl hl (by decide) rfl (fun ls hl => ?_)
  refine lv_iconst (v := iI 0) hx hb (D_3 W_prog_15_method_94_code_0 2 rfl rfl) rfl ?_
  refine lv_istore (lv' := [(4, .int (iI 0)), (3, .int (iI (-1))), (0, .ref (ad 14 0 0)), (1, .ref (ad 13 l1 0)), (2, .int (iI l2))]) hx hb (D_54 W_prog_15_method_94_code_0 3 rfl rfl) hl (by decide) rfl (fun ls hl => ?_)
  exact b_M_accidentals_5 X hf hZ hS (lv_sub hl [0, 1, 2, 3, 4] rfl)

abbrev Q_M_ledgers (D : va_G) (ca : Nat → ClassId) (ad : Nat → Int → Nat → Nat) (L : List Nat) (r : Int) (F : zF) (B : zB) (A : Nat → Prop) : Array Value → State → Outcome → State → Prop := va_Qi (S := Unit) (fun p _ => p = iI r) (fun _ => zPo D ca ad lnM nM L F B A) A
def f_M_ledgers_65 (K : Nat) (s0 : Int) (s1 : Int) (F : zF) (B : zB) : zO := some (s0 + s1, F, B)
set_option maxHeartbeats 4000000 in
set_option maxRecDepth 100000 in
theorem b_M_ledgers_65 {D : va_G} {ca : Nat → ClassId} {ad : Nat → Int → Nat → Nat} {L : List Nat} {aS vS : Nat → Nat} {A : Nat → Prop} {p : Program} {l : Launch} {e : Env} {s : State} {m : MethodId} {args : Array Value} {below : List Frame} {meth : Method} {c : Code} {K : Nat} {r : Int} {F9 : zF} {B9 : zB} (X : zX D ca L aS vS A p s m args meth c prog_15_method_98_code 7 (Option.some Jvm.ClassFile.FieldType.int) "StaveHouseModel") {s0 : Int} {s1 : Int} {F : zF} {B : zB} {H : Heap} {locs : List Loc} {ls : Array Slot} (hf : f_M_ledgers_65 K s0 s1 F B = some (r, F9, B9)) (hZ : zH D ca ad lnM nM L F B A H) (hS : va_S A s.heap H locs) (hl : lv_has ls 7 []) : W p l e ({ frames := 2, cells := 0, slots := 0, locals := 45 } : Room) s m args below meth c H locs 0 0 (MQ below (Q_M_ledgers D ca ad L r F9 B9 A) args s 0 0 A) (F0 m 65 ls [.int (iI s1), .int (iI s0)]) := by
  obtain ⟨hx, hb, hr, hml, hown, hts, hlk, hK, hA, hL, hX⟩ := id X
  replace hf : (some (s0 + s1, F, B)) = some (r, F9, B9) := hf
  refine zadd hx hb (D_96 W_prog_15_method_98_code_64 1 rfl rfl) ?_
  cases hf
  exact W.iret hx hb hr (fun t ht hW => ⟨⟨_, (), rfl, rfl, by rw [ht]; exact hZ, va_K.moved hW.alike hK⟩, hS.F ht⟩) hS.2.2 (D_172 W_prog_15_method_98_code_64 2 rfl rfl) hlk

def f_M_ledgers_51 (K : Nat) (l6 : Int) (s0 : Int) (F : zF) (B : zB) : zO := if r32 l6 then (if 0 ≤ l6 then f_M_ledgers_65 K s0 0 F B else f_M_ledgers_65 K s0 (zdv (-l6) 2) F B) else none
set_option maxHeartbeats 4000000 in
set_option maxRecDepth 100000 in
theorem b_M_ledgers_51 {D : va_G} {ca : Nat → ClassId} {ad : Nat → Int → Nat → Nat} {L : List Nat} {aS vS : Nat → Nat} {A : Nat → Prop} {p : Program} {l : Launch} {e : Env} {s : State} {m : MethodId} {args : Array Value} {below : List Frame} {meth : Method} {c : Code} {K : Nat} {r : Int} {F9 : zF} {B9 : zB} (X : zX D ca L aS vS A p s m args meth c prog_15_method_98_code 7 (Option.some Jvm.ClassFile.FieldType.int) "StaveHouseModel") {l6 : Int} {s0 : Int} {F : zF} {B : zB} {H : Heap} {locs : List Loc} {ls : Array Slot} (hf : f_M_ledgers_51 K l6 s0 F B = some (r, F9, B9)) (hZ : zH D ca ad lnM nM L F B A H) (hS : va_S A s.heap H locs) (hl : lv_has ls 7 [(6, .int (iI l6))]) : W p l e ({ frames := 2, cells := 0, slots := 0, locals := 45 } : Room) s m args below meth c H locs 0 0 (MQ below (Q_M_ledgers D ca ad L r F9 B9 A) args s 0 0 A) (F0 m 51 ls [.int (iI s0)]) := by
  obtain ⟨hx, hb, hr, hml, hown, hts, hlk, hK, hA, hL, hX⟩ := id X
  replace hf : (if r32 l6 then (if 0 ≤ l6 then f_M_ledgers_65 K s0 0 F B else f_M_ledgers_65 K s0 (zdv (-l6) 2) F B) else none) = some (r, F9, B9) := hf
  refine lv_iload hx hb (D_21 W_prog_15_method_98_code_32 19 rfl rfl) (lv_at hl 0 rfl) ?_
  obtain ⟨g8, hf⟩ := gif hf
  refine z0ge (tgt := 64) hx hb g8 (D_156 W_prog_15_method_98_code_32 21 rfl rfl rfl) (by decide) (fun h9 => ?_) (fun h9 => ?_)
  · replace hf := gpos hf h9
    refine lv_iconst (v := iI 0) hx hb (D_3 W_prog_15_method_98_code_64 0 rfl rfl) rfl ?_
    exact b_M_ledgers_65 X hf hZ hS (lv_sub hl [] rfl)
  · replace hf := gneg hf h9
    refine lv_iload hx hb (D_21 W_prog_15_method_98_code_32 24 rfl rfl) (lv_at hl 0 rfl) ?_
    refine zneg hx hb (D_116 W_prog_15_method_98_code_32 26 rfl rfl) ?_
    refine lv_iconst (v := iI 2) hx hb (D_5 W_prog_15_method_98_code_32 27 rfl rfl) rfl ?_
    refine zdv_r hx hb (by decide) (D_108 W_prog_15_method_98_code_32 28 rfl rfl) ?_
    refine lv_goto (tgt := 65) hx hb (D_167 W_prog_15_method_98_code_32 29 rfl rfl rfl) (by decide) ?_
    exact b_M_ledgers_65 X hf hZ hS (lv_sub hl [] rfl)

def f_M_ledgers (K : Nat) (l1 : Int) (l2 : Int) (l3 : Int) (F : zF) (B : zB) : zO := zbind (f_M_sounding K l1 l2 l3 F B) (fun r1 F1 B1 => if r32 r1 then (if 0 ≤ r1 then zbind (f_M_highest K l1 l2 r1 F1 B1) (fun r4 F4 B4 => zbind (f_M_lowest K l1 l2 r1 F4 B4) (fun r5 F5 B5 => if r32 r4 then (if r4 ≤ 8 then f_M_ledgers_51 K r5 0 F5 B5 else f_M_ledgers_51 K r5 (zdv (r4 - 8) 2) F5 B5) else none)) else some (0, F1, B1)) else none)
set_option maxHeartbeats 4000000 in
set_option maxRecDepth 100000 in
theorem c_M_ledgers {l : Launch} {D : va_G} {ca : Nat → ClassId} {ad : Nat → Int → Nat → Nat} {L : List Nat} {aS vS : Nat → Nat} {sz K : Nat}  {l1 : Int} {l2 : Int} {l3 : Int} {F F9 : zF} {B B9 : zB} {r : Int} (hf : f_M_ledgers K l1 l2 l3 F B = some (r, F9, B9)) : Met l ({ cls := "StaveHouseModel", name := "ledgers", desc := "(LStaveHouseModel$Piece;II)I" } : Jvm.MethodName) (Cond.code ({ cls := "StaveHouseModel", name := "ledgers", desc := "(LStaveHouseModel$Piece;II)I" } : Jvm.MethodName) prog_15_method_98_code 7 (Option.some Jvm.ClassFile.FieldType.int) :: wAll) ({ frames := 2, cells := 0, slots := 0, locals := 45 } : Room) (va_Pc [.ref (ad 14 0 0), .ref (ad 13 l1 0), .int (iI l2), .int (iI l3)] (zPre D ca ad lnM nM L aS vS F B sz)) (Q_M_ledgers D ca ad L r F9 B9 (zA L sz)) 0 0 (zA L sz) := by
  refine zMet (Qc := Q_M_ledgers D ca ad L r F9 B9) (lv := [(0, .ref (ad 14 0 0)), (1, .ref (ad 13 l1 0)), (2, .int (iI l2)), (3, .int (iI l3))]) (by decide) (Nat.le_of_ble_eq_true rfl) rfl (fun A p e s m below meth c ls X hZ hS hl => ?_)
  obtain ⟨hx, hb, hr, hml, hown, hts, hlk, hK, hA, hL, hX⟩ := id X
  replace hf : (zbind (f_M_sounding K l1 l2 l3 F B) (fun r1 F1 B1 => if r32 r1 then (if 0 ≤ r1 then zbind (f_M_highest K l1 l2 r1 F1 B1) (fun r4 F4 B4 => zbind (f_M_lowest K l1 l2 r1 F4 B4) (fun r5 F5 B5 => if r32 r4 then (if r4 ≤ 8 then f_M_ledgers_51 K r5 0 F5 B5 else f_M_ledgers_51 K r5 (zdv (r4 - 8) 2) F5 B5) else none)) else some (0, F1, B1)) else none)) = some (r, F9, B9) := hf
  refine lv_aload_n hx hb (D_43 W_prog_15_method_98_code_0 0 rfl rfl) rfl (lv_at hl 1 rfl) ?_
  refine lv_iload_n hx hb (D_28 W_prog_15_method_98_code_0 1 rfl rfl) rfl (lv_at hl 2 rfl) ?_
  refine lv_iload_n hx hb (D_29 W_prog_15_method_98_code_0 2 rfl rfl) rfl (lv_at hl 3 rfl) ?_
  obtain ⟨r1, F1, B1, hc1, hf⟩ := gbind hf
  refine va_calli (va_runS (As := [.ref (ad 13 l1 0), .int (iI l2), .int (iI l3)]) (rest := []) ⟨hx, hb, hml, hown, hts⟩ (c_M_sounding (l := l) hc1) (va_cwS 3 hts (gdS k_13_199 k_13_200 k_1_9 k_13_201) rfl rfl rfl (by decide +kernel) ⟨Nat.le_of_ble_eq_true rfl, Nat.le_of_ble_eq_true rfl⟩) (zPS X hZ hS [.ref (ad 13 l1 0), .int (iI l2), .int (iI l3)]) rfl rfl hl.1 rfl (lv_room (Nat.le_of_ble_eq_true rfl)) (D_184 W_prog_15_method_98_code_0 3 rfl rfl rfl) ⟨Nat.le_of_ble_eq_true rfl, Nat.le_of_ble_eq_true rfl⟩) hS (fun q _ h => zAin X hS q h) (zAin X hS) (fun p1 u1 t1 H1 locs1 ht1 hv1 hw1 hB1 hz1 hk1 hS1 => ?_)
  have hZ1 := zBack X ht1 hB1
  subst hw1
  refine lv_istore (lv' := [(4, .int (iI r1)), (0, .ref (ad 14 0 0)), (1, .ref (ad 13 l1 0)), (2, .int (iI l2)), (3, .int (iI l3))]) hx hb (D_54 W_prog_15_method_98_code_0 6 rfl rfl) hl (by decide) rfl (fun ls hl => ?_)
  refine lv_iload hx hb (D_21 W_prog_15_method_98_code_0 8 rfl rfl) (lv_at hl 0 rfl) ?_
  obtain ⟨g2, hf⟩ := gif hf
  refine z0ge (tgt := 15) hx hb g2 (D_156 W_prog_15_method_98_code_0 10 rfl rfl rfl) (by decide) (fun h3 => ?_) (fun h3 => ?_)
  · replace hf := gpos hf h3
    refine lv_aload_n hx hb (D_43 W_prog_15_method_98_code_0 15 rfl rfl) rfl (lv_at hl 2 rfl) ?_
    refine lv_iload_n hx hb (D_28 W_prog_15_method_98_code_0 16 rfl rfl) rfl (lv_at hl 3 rfl) ?_
    refine lv_iload hx hb (D_21 W_prog_15_method_98_code_0 17 rfl rfl) (lv_at hl 0 rfl) ?_
    obtain ⟨r4, F4, B4, hc4, hf⟩ := gbind hf
    refine va_calli (va_runS (As := [.ref (ad 13 l1 0), .int (iI l2), .int (iI r1)]) (rest := []) ⟨hx, hb, hml, hown, hts⟩ (c_M_highest (l := l) hc4) (va_cwS 3 hts (gdS k_15_68 k_15_69 k_1_9 k_15_70) rfl rfl rfl (by decide +kernel) ⟨Nat.le_of_ble_eq_true rfl, Nat.le_of_ble_eq_true rfl⟩) (zPS X hZ1 hS1 [.ref (ad 13 l1 0), .int (iI l2), .int (iI r1)]) rfl rfl hl.1 rfl (lv_room (Nat.le_of_ble_eq_true rfl)) (D_184 W_prog_15_method_98_code_0 19 rfl rfl rfl) ⟨Nat.le_of_ble_eq_true rfl, Nat.le_of_ble_eq_true rfl⟩) hS1 (fun q _ h => zAin X hS1 q h) (zAin X hS1) (fun p4 u4 t4 H4 locs4 ht4 hv4 hw4 hB4 hz4 hk4 hS4 => ?_)
    have hZ4 := zBack X ht4 hB4
    subst hw4
    refine lv_istore (lv' := [(5, .int (iI r4)), (4, .int (iI r1)), (0, .ref (ad 14 0 0)), (1, .ref (ad 13 l1 0)), (2, .int (iI l2)), (3, .int (iI l3))]) hx hb (D_54 W_prog_15_method_98_code_0 22 rfl rfl) hl (by decide) rfl (fun ls hl => ?_)
    refine lv_aload_n hx hb (D_43 W_prog_15_method_98_code_0 24 rfl rfl) rfl (lv_at hl 3 rfl) ?_
    refine lv_iload_n hx hb (D_28 W_prog_15_method_98_code_0 25 rfl rfl) rfl (lv_at hl 4 rfl) ?_
    refine lv_iload hx hb (D_21 W_prog_15_method_98_code_0 26 rfl rfl) (lv_at hl 1 rfl) ?_
    obtain ⟨r5, F5, B5, hc5, hf⟩ := gbind hf
    refine va_calli (va_runS (As := [.ref (ad 13 l1 0), .int (iI l2), .int (iI r1)]) (rest := []) ⟨hx, hb, hml, hown, hts⟩ (c_M_lowest (l := l) hc5) (va_cwS 3 hts (gdS k_15_74 k_15_75 k_1_9 k_15_76) rfl rfl rfl (by decide +kernel) ⟨Nat.le_of_ble_eq_true rfl, Nat.le_of_ble_eq_true rfl⟩) (zPS X hZ4 hS4 [.ref (ad 13 l1 0), .int (iI l2), .int (iI r1)]) rfl rfl hl.1 rfl (lv_room (Nat.le_of_ble_eq_true rfl)) (D_184 W_prog_15_method_98_code_0 28 rfl rfl rfl) ⟨Nat.le_of_ble_eq_true rfl, Nat.le_of_ble_eq_true rfl⟩) hS4 (fun q _ h => zAin X hS4 q h) (zAin X hS4) (fun p5 u5 t5 H5 locs5 ht5 hv5 hw5 hB5 hz5 hk5 hS5 => ?_)
    have hZ5 := zBack X ht5 hB5
    subst hw5
    refine lv_istore (lv' := [(6, .int (iI r5)), (5, .int (iI r4)), (4, .int (iI r1)), (0, .ref (ad 14 0 0)), (1, .ref (ad 13 l1 0)), (2, .int (iI l2)), (3, .int (iI l3))]) hx hb (D_54 W_prog_15_method_98_code_0 31 rfl rfl) hl (by decide) rfl (fun ls hl => ?_)
    refine lv_iload hx hb (D_21 W_prog_15_method_98_code_32 1 rfl rfl) (lv_at hl 1 rfl) ?_
    refine lv_bipush (v := iI 8) hx hb (D_16 W_prog_15_method_98_code_32 3 rfl rfl rfl) (by decide) ?_
    obtain ⟨g6, hf⟩ := gif hf
    refine zle (tgt := 50) hx hb g6 (by decide) (D_164 W_prog_15_method_98_code_32 5 rfl rfl rfl) (by decide) (fun h7 => ?_) (fun h7 => ?_)
    · replace hf := gpos hf h7
      refine lv_iconst (v := iI 0) hx hb (D_3 W_prog_15_method_98_code_32 18 rfl rfl) rfl ?_
      exact b_M_ledgers_51 X hf hZ5 hS5 (lv_sub hl [0] rfl)
    · replace hf := gneg hf h7
      refine lv_iload hx hb (D_21 W_prog_15_method_98_code_32 8 rfl rfl) (lv_at hl 1 rfl) ?_
      refine lv_bipush (v := iI 8) hx hb (D_16 W_prog_15_method_98_code_32 10 rfl rfl rfl) (by decide) ?_
      refine zsub hx hb (D_100 W_prog_15_method_98_code_32 12 rfl rfl) ?_
      refine lv_iconst (v := iI 2) hx hb (D_5 W_prog_15_method_98_code_32 13 rfl rfl) rfl ?_
      refine zdv_r hx hb (by decide) (D_108 W_prog_15_method_98_code_32 14 rfl rfl) ?_
      refine lv_goto (tgt := 51) hx hb (D_167 W_prog_15_method_98_code_32 15 rfl rfl rfl) (by decide) ?_
      exact b_M_ledgers_51 X hf hZ5 hS5 (lv_sub hl [0] rfl)
  · replace hf := gneg hf h3
    refine lv_iconst (v := iI 0) hx hb (D_3 W_prog_15_method_98_code_0 13 rfl rfl) rfl ?_
    cases hf
    exact W.iret hx hb hr (fun t ht hW => ⟨⟨_, (), rfl, rfl, by rw [ht]; exact hZ1, va_K.moved hW.alike hK⟩, hS1.F ht⟩) hS1.2.2 (D_172 W_prog_15_method_98_code_0 14 rfl rfl) hlk

abbrev Q_M_groups (D : va_G) (ca : Nat → ClassId) (ad : Nat → Int → Nat → Nat) (L : List Nat) (r : Int) (F : zF) (B : zB) (A : Nat → Prop) : Array Value → State → Outcome → State → Prop := va_Qv (S := Unit) (fun _ => True) (fun _ => zPo D ca ad lnM nM L F B A) A
def f_M_groups_292 (rec5 : Int → Int → Int → Int → zF → zB → zO) (K : Nat) (l5 : Int) (l3 : Int) (l1 : Int) (l2 : Int) (F : zF) (B : zB) : zO := rec5 l5 l3 l1 l2 F B
set_option maxHeartbeats 4000000 in
set_option maxRecDepth 100000 in
theorem b_M_groups_292 {D : va_G} {ca : Nat → ClassId} {ad : Nat → Int → Nat → Nat} {L : List Nat} {aS vS : Nat → Nat} {A : Nat → Prop} {p : Program} {l : Launch} {e : Env} {s : State} {m : MethodId} {args : Array Value} {below : List Frame} {meth : Method} {c : Code} {K : Nat} {r : Int} {F9 : zF} {B9 : zB} (X : zX D ca L aS vS A p s m args meth c prog_15_method_101_code 11 (Option.none : Option Jvm.ClassFile.FieldType) "StaveHouseModel") {rec5 : Int → Int → Int → Int → zF → zB → zO} (hrec5 : ∀ {l4 : Int} {l3 : Int} {l1 : Int} {l2 : Int} {F : zF} {B : zB} {H : Heap} {locs : List Loc} {ls : Array Slot}, rec5 l4 l3 l1 l2 F B = some (r, F9, B9) → zH D ca ad lnM nM L F B A H → va_S A s.heap H locs → lv_has ls 11 [(4, .int (iI l4)), (3, .int (iI l3)), (0, .ref (ad 14 0 0)), (1, .ref (ad 13 l1 0)), (2, .int (iI l2))] → W p l e ({ frames := 3, cells := 0, slots := 0, locals := 72 } : Room) s m args below meth c H locs 0 0 (MQ below (Q_M_groups D ca ad L r F9 B9 A) args s 0 0 A) (F0 m 5 ls [])) {l5 : Int} {l3 : Int} {l1 : Int} {l2 : Int} {F : zF} {B : zB} {H : Heap} {locs : List Loc} {ls : Array Slot} (hf : f_M_groups_292 rec5 K l5 l3 l1 l2 F B = some (r, F9, B9)) (hZ : zH D ca ad lnM nM L F B A H) (hS : va_S A s.heap H locs) (hl : lv_has ls 11 [(5, .int (iI l5)), (3, .int (iI l3)), (0, .ref (ad 14 0 0)), (1, .ref (ad 13 l1 0)), (2, .int (iI l2))]) : W p l e ({ frames := 3, cells := 0, slots := 0, locals := 72 } : Room) s m args below meth c H locs 0 0 (MQ below (Q_M_groups D ca ad L r F9 B9 A) args s 0 0 A) (F0 m 292 ls []) := by
  obtain ⟨hx, hb, hr, hml, hown, hts, hlk, hK, hA, hL, hX⟩ := id X
  replace hf : (rec5 l5 l3 l1 l2 F B) = some (r, F9, B9) := hf
  refine lv_iload hx hb (D_21 W_prog_15_method_101_code_288 4 rfl rfl) (lv_at hl 0 rfl) ?_
  refine lv_istore (lv' := [(4, .int (iI l5)), (5, .int (iI l5)), (3, .int (iI l3)), (0, .ref (ad 14 0 0)), (1, .ref (ad 13 l1 0)), (2, .int (iI l2))]) hx hb (D_54 W_prog_15_method_101_code_288 6 rfl rfl) hl (by decide) rfl (fun ls hl => ?_)
  refine lv_goto (tgt := 5) hx hb (D_167 W_prog_15_method_101_code_288 8 rfl rfl rfl) (by decide) ?_
  exact hrec5 hf hZ hS (lv_sub hl [0, 2, 3, 4, 5] rfl)

def f_M_groups_277 (rec5 : Int → Int → Int → Int → zF → zB → zO) (rec131 : Int → Int → Int → Int → Int → Int → Int → zF → zB → zO) (K : Nat) (l8 : Int) (l7 : Int) (l6 : Int) (l5 : Int) (l3 : Int) (l1 : Int) (l2 : Int) (s0 : Int) (s1 : Int) (s2 : Int) (F : zF) (B : zB) : zO := if 0 ≤ s0 ∧ s0 < 3 then if 0 ≤ s1 ∧ s1 < 3200 then rec131 (l8 + 1) l7 l6 l5 l3 l1 l2 F (zup4 B 13 s0 41 s1 s2) else none else none
set_option maxHeartbeats 4000000 in
set_option maxRecDepth 100000 in
theorem b_M_groups_277 {D : va_G} {ca : Nat → ClassId} {ad : Nat → Int → Nat → Nat} {L : List Nat} {aS vS : Nat → Nat} {A : Nat → Prop} {p : Program} {l : Launch} {e : Env} {s : State} {m : MethodId} {args : Array Value} {below : List Frame} {meth : Method} {c : Code} {K : Nat} {r : Int} {F9 : zF} {B9 : zB} (X : zX D ca L aS vS A p s m args meth c prog_15_method_101_code 11 (Option.none : Option Jvm.ClassFile.FieldType) "StaveHouseModel") {rec5 : Int → Int → Int → Int → zF → zB → zO} {rec131 : Int → Int → Int → Int → Int → Int → Int → zF → zB → zO} (hrec5 : ∀ {l4 : Int} {l3 : Int} {l1 : Int} {l2 : Int} {F : zF} {B : zB} {H : Heap} {locs : List Loc} {ls : Array Slot}, rec5 l4 l3 l1 l2 F B = some (r, F9, B9) → zH D ca ad lnM nM L F B A H → va_S A s.heap H locs → lv_has ls 11 [(4, .int (iI l4)), (3, .int (iI l3)), (0, .ref (ad 14 0 0)), (1, .ref (ad 13 l1 0)), (2, .int (iI l2))] → W p l e ({ frames := 3, cells := 0, slots := 0, locals := 72 } : Room) s m args below meth c H locs 0 0 (MQ below (Q_M_groups D ca ad L r F9 B9 A) args s 0 0 A) (F0 m 5 ls [])) (hrec131 : ∀ {l8 : Int} {l7 : Int} {l6 : Int} {l5 : Int} {l3 : Int} {l1 : Int} {l2 : Int} {F : zF} {B : zB} {H : Heap} {locs : List Loc} {ls : Array Slot}, rec131 l8 l7 l6 l5 l3 l1 l2 F B = some (r, F9, B9) → zH D ca ad lnM nM L F B A H → va_S A s.heap H locs → lv_has ls 11 [(8, .int (iI l8)), (7, .int (iI l7)), (6, .int (iI l6)), (5, .int (iI l5)), (3, .int (iI l3)), (0, .ref (ad 14 0 0)), (1, .ref (ad 13 l1 0)), (2, .int (iI l2))] → W p l e ({ frames := 3, cells := 0, slots := 0, locals := 72 } : Room) s m args below meth c H locs 0 0 (MQ below (Q_M_groups D ca ad L r F9 B9 A) args s 0 0 A) (F0 m 131 ls [])) {l8 : Int} {l7 : Int} {l6 : Int} {l5 : Int} {l3 : Int} {l1 : Int} {l2 : Int} {s0 : Int} {s1 : Int} {s2 : Int} {F : zF} {B : zB} {H : Heap} {locs : List Loc} {ls : Array Slot} (hf : f_M_groups_277 rec5 rec131 K l8 l7 l6 l5 l3 l1 l2 s0 s1 s2 F B = some (r, F9, B9)) (hZ : zH D ca ad lnM nM L F B A H) (hS : va_S A s.heap H locs) (hl : lv_has ls 11 [(8, .int (iI l8)), (7, .int (iI l7)), (6, .int (iI l6)), (5, .int (iI l5)), (3, .int (iI l3)), (0, .ref (ad 14 0 0)), (1, .ref (ad 13 l1 0)), (2, .int (iI l2))]) : W p l e ({ frames := 3, cells := 0, slots := 0, locals := 72 } : Room) s m args below meth c H locs 0 0 (MQ below (Q_M_groups D ca ad L r F9 B9 A) args s 0 0 A) (F0 m 277 ls [.int (iI s2), .int (iI s1), .ref (ad 13 s0 (41 + 1))]) := by
  obtain ⟨hx, hb, hr, hml, hown, hts, hlk, hK, hA, hL, hX⟩ := id X
  replace hf : (if 0 ≤ s0 ∧ s0 < 3 then if 0 ≤ s1 ∧ s1 < 3200 then rec131 (l8 + 1) l7 l6 l5 l3 l1 l2 F (zup4 B 13 s0 41 s1 s2) else none else none) = some (r, F9, B9) := hf
  obtain ⟨g60, hf⟩ := gif hf
  obtain ⟨g61, hf⟩ := gif hf
  refine zast (ci := 13) (k := 41) hx hb hK rfl hZ hS g60.1 g60.2 rfl (Nat.le_of_ble_eq_true rfl) g61.1 g61.2 (D_79 W_prog_15_method_101_code_256 21 rfl rfl) (fun H62 locs62 hZ62 hS62 => ?_)
  refine lv_iinc (v := iI (l8 + 1)) (lv' := [(8, .int (iI (l8 + 1))), (7, .int (iI l7)), (6, .int (iI l6)), (5, .int (iI l5)), (3, .int (iI l3)), (0, .ref (ad 14 0 0)), (1, .ref (ad 13 l1 0)), (2, .int (iI l2))]) hx hb d_15_101_278 hl (k := 0) rfl (iI_add _ 1) (by decide) rfl (fun ls hl => ?_)
  refine lv_goto (tgt := 131) hx hb (D_167 W_prog_15_method_101_code_256 25 rfl rfl rfl) (by decide) ?_
  exact hrec131 hf hZ62 hS62 (lv_sub hl [0, 1, 2, 3, 4, 5, 6, 7] rfl)

def f_M_groups_250 (rec5 : Int → Int → Int → Int → zF → zB → zO) (rec131 : Int → Int → Int → Int → Int → Int → Int → zF → zB → zO) (K : Nat) (l9 : Int) (l8 : Int) (l7 : Int) (l6 : Int) (l5 : Int) (l3 : Int) (l1 : Int) (l2 : Int) (s0 : Int) (F : zF) (B : zB) : zO := if 0 ≤ l1 ∧ l1 < 3 then if r32 s0 then (if s0 = 0 then f_M_groups_277 rec5 rec131 K l8 l7 l6 l5 l3 l1 l2 l1 l9 0 F B else if r32 l6 then (if 0 ≤ l6 then f_M_groups_277 rec5 rec131 K l8 l7 l6 l5 l3 l1 l2 l1 l9 2 F B else f_M_groups_277 rec5 rec131 K l8 l7 l6 l5 l3 l1 l2 l1 l9 1 F B) else none) else none else none
set_option maxHeartbeats 4000000 in
set_option maxRecDepth 100000 in
theorem b_M_groups_250 {D : va_G} {ca : Nat → ClassId} {ad : Nat → Int → Nat → Nat} {L : List Nat} {aS vS : Nat → Nat} {A : Nat → Prop} {p : Program} {l : Launch} {e : Env} {s : State} {m : MethodId} {args : Array Value} {below : List Frame} {meth : Method} {c : Code} {K : Nat} {r : Int} {F9 : zF} {B9 : zB} (X : zX D ca L aS vS A p s m args meth c prog_15_method_101_code 11 (Option.none : Option Jvm.ClassFile.FieldType) "StaveHouseModel") {rec5 : Int → Int → Int → Int → zF → zB → zO} {rec131 : Int → Int → Int → Int → Int → Int → Int → zF → zB → zO} (hrec5 : ∀ {l4 : Int} {l3 : Int} {l1 : Int} {l2 : Int} {F : zF} {B : zB} {H : Heap} {locs : List Loc} {ls : Array Slot}, rec5 l4 l3 l1 l2 F B = some (r, F9, B9) → zH D ca ad lnM nM L F B A H → va_S A s.heap H locs → lv_has ls 11 [(4, .int (iI l4)), (3, .int (iI l3)), (0, .ref (ad 14 0 0)), (1, .ref (ad 13 l1 0)), (2, .int (iI l2))] → W p l e ({ frames := 3, cells := 0, slots := 0, locals := 72 } : Room) s m args below meth c H locs 0 0 (MQ below (Q_M_groups D ca ad L r F9 B9 A) args s 0 0 A) (F0 m 5 ls [])) (hrec131 : ∀ {l8 : Int} {l7 : Int} {l6 : Int} {l5 : Int} {l3 : Int} {l1 : Int} {l2 : Int} {F : zF} {B : zB} {H : Heap} {locs : List Loc} {ls : Array Slot}, rec131 l8 l7 l6 l5 l3 l1 l2 F B = some (r, F9, B9) → zH D ca ad lnM nM L F B A H → va_S A s.heap H locs → lv_has ls 11 [(8, .int (iI l8)), (7, .int (iI l7)), (6, .int (iI l6)), (5, .int (iI l5)), (3, .int (iI l3)), (0, .ref (ad 14 0 0)), (1, .ref (ad 13 l1 0)), (2, .int (iI l2))] → W p l e ({ frames := 3, cells := 0, slots := 0, locals := 72 } : Room) s m args below meth c H locs 0 0 (MQ below (Q_M_groups D ca ad L r F9 B9 A) args s 0 0 A) (F0 m 131 ls [])) {l9 : Int} {l8 : Int} {l7 : Int} {l6 : Int} {l5 : Int} {l3 : Int} {l1 : Int} {l2 : Int} {s0 : Int} {F : zF} {B : zB} {H : Heap} {locs : List Loc} {ls : Array Slot} (hf : f_M_groups_250 rec5 rec131 K l9 l8 l7 l6 l5 l3 l1 l2 s0 F B = some (r, F9, B9)) (hZ : zH D ca ad lnM nM L F B A H) (hS : va_S A s.heap H locs) (hl : lv_has ls 11 [(9, .int (iI l9)), (8, .int (iI l8)), (7, .int (iI l7)), (6, .int (iI l6)), (5, .int (iI l5)), (3, .int (iI l3)), (0, .ref (ad 14 0 0)), (1, .ref (ad 13 l1 0)), (2, .int (iI l2))]) : W p l e ({ frames := 3, cells := 0, slots := 0, locals := 72 } : Room) s m args below meth c H locs 0 0 (MQ below (Q_M_groups D ca ad L r F9 B9 A) args s 0 0 A) (F0 m 250 ls [.int (iI s0)]) := by
  obtain ⟨hx, hb, hr, hml, hown, hts, hlk, hK, hA, hL, hX⟩ := id X
  replace hf : (if 0 ≤ l1 ∧ l1 < 3 then if r32 s0 then (if s0 = 0 then f_M_groups_277 rec5 rec131 K l8 l7 l6 l5 l3 l1 l2 l1 l9 0 F B else if r32 l6 then (if 0 ≤ l6 then f_M_groups_277 rec5 rec131 K l8 l7 l6 l5 l3 l1 l2 l1 l9 2 F B else f_M_groups_277 rec5 rec131 K l8 l7 l6 l5 l3 l1 l2 l1 l9 1 F B) else none) else none else none) = some (r, F9, B9) := hf
  refine lv_istore (lv' := [(10, .int (iI s0)), (9, .int (iI l9)), (8, .int (iI l8)), (7, .int (iI l7)), (6, .int (iI l6)), (5, .int (iI l5)), (3, .int (iI l3)), (0, .ref (ad 14 0 0)), (1, .ref (ad 13 l1 0)), (2, .int (iI l2))]) hx hb (D_54 W_prog_15_method_101_code_224 26 rfl rfl) hl (by decide) rfl (fun ls hl => ?_)
  refine lv_aload_n hx hb (D_43 W_prog_15_method_101_code_224 28 rfl rfl) rfl (lv_at hl 8 rfl) ?_
  obtain ⟨g55, hf⟩ := gif hf
  refine zget (ci := 13) (C := RX13) (T := TX13) (v := .ref (ad 13 l1 (41 + 1))) (k := 41) hx hb hts inW_13 hown hK hZ g55.1 g55.2 rfl (by decide) k_9_200 rfl (D_180 W_prog_15_method_101_code_224 29 rfl rfl rfl) ?_
  refine lv_iload hx hb (D_21 W_prog_15_method_101_code_256 0 rfl rfl) (lv_at hl 1 rfl) ?_
  refine lv_iload hx hb (D_21 W_prog_15_method_101_code_256 2 rfl rfl) (lv_at hl 0 rfl) ?_
  obtain ⟨g56, hf⟩ := gif hf
  refine z0ne (tgt := 267) hx hb g56 (D_154 W_prog_15_method_101_code_256 4 rfl rfl rfl) (by decide) (fun h57 => ?_) (fun h57 => ?_)
  · replace hf := gneg hf h57
    refine lv_iload hx hb (D_21 W_prog_15_method_101_code_256 11 rfl rfl) (lv_at hl 4 rfl) ?_
    obtain ⟨g58, hf⟩ := gif hf
    refine z0ge (tgt := 276) hx hb g58 (D_156 W_prog_15_method_101_code_256 13 rfl rfl rfl) (by decide) (fun h59 => ?_) (fun h59 => ?_)
    · replace hf := gpos hf h59
      refine lv_iconst (v := iI 2) hx hb (D_5 W_prog_15_method_101_code_256 20 rfl rfl) rfl ?_
      exact b_M_groups_277 X hrec5 hrec131 hf hZ hS (lv_sub hl [2, 3, 4, 5, 6, 7, 8, 9] rfl)
    · replace hf := gneg hf h59
      refine lv_iconst (v := iI 1) hx hb (D_4 W_prog_15_method_101_code_256 16 rfl rfl) rfl ?_
      refine lv_goto (tgt := 277) hx hb (D_167 W_prog_15_method_101_code_256 17 rfl rfl rfl) (by decide) ?_
      exact b_M_groups_277 X hrec5 hrec131 hf hZ hS (lv_sub hl [2, 3, 4, 5, 6, 7, 8, 9] rfl)
  · replace hf := gpos hf h57
    refine lv_iconst (v := iI 0) hx hb (D_3 W_prog_15_method_101_code_256 7 rfl rfl) rfl ?_
    refine lv_goto (tgt := 277) hx hb (D_167 W_prog_15_method_101_code_256 8 rfl rfl rfl) (by decide) ?_
    exact b_M_groups_277 X hrec5 hrec131 hf hZ hS (lv_sub hl [2, 3, 4, 5, 6, 7, 8, 9] rfl)

def f_M_groups_249 (rec5 : Int → Int → Int → Int → zF → zB → zO) (rec131 : Int → Int → Int → Int → Int → Int → Int → zF → zB → zO) (K : Nat) (l9 : Int) (l8 : Int) (l7 : Int) (l6 : Int) (l5 : Int) (l3 : Int) (l1 : Int) (l2 : Int) (F : zF) (B : zB) : zO := f_M_groups_250 rec5 rec131 K l9 l8 l7 l6 l5 l3 l1 l2 0 F B
set_option maxHeartbeats 4000000 in
set_option maxRecDepth 100000 in
theorem b_M_groups_249 {D : va_G} {ca : Nat → ClassId} {ad : Nat → Int → Nat → Nat} {L : List Nat} {aS vS : Nat → Nat} {A : Nat → Prop} {p : Program} {l : Launch} {e : Env} {s : State} {m : MethodId} {args : Array Value} {below : List Frame} {meth : Method} {c : Code} {K : Nat} {r : Int} {F9 : zF} {B9 : zB} (X : zX D ca L aS vS A p s m args meth c prog_15_method_101_code 11 (Option.none : Option Jvm.ClassFile.FieldType) "StaveHouseModel") {rec5 : Int → Int → Int → Int → zF → zB → zO} {rec131 : Int → Int → Int → Int → Int → Int → Int → zF → zB → zO} (hrec5 : ∀ {l4 : Int} {l3 : Int} {l1 : Int} {l2 : Int} {F : zF} {B : zB} {H : Heap} {locs : List Loc} {ls : Array Slot}, rec5 l4 l3 l1 l2 F B = some (r, F9, B9) → zH D ca ad lnM nM L F B A H → va_S A s.heap H locs → lv_has ls 11 [(4, .int (iI l4)), (3, .int (iI l3)), (0, .ref (ad 14 0 0)), (1, .ref (ad 13 l1 0)), (2, .int (iI l2))] → W p l e ({ frames := 3, cells := 0, slots := 0, locals := 72 } : Room) s m args below meth c H locs 0 0 (MQ below (Q_M_groups D ca ad L r F9 B9 A) args s 0 0 A) (F0 m 5 ls [])) (hrec131 : ∀ {l8 : Int} {l7 : Int} {l6 : Int} {l5 : Int} {l3 : Int} {l1 : Int} {l2 : Int} {F : zF} {B : zB} {H : Heap} {locs : List Loc} {ls : Array Slot}, rec131 l8 l7 l6 l5 l3 l1 l2 F B = some (r, F9, B9) → zH D ca ad lnM nM L F B A H → va_S A s.heap H locs → lv_has ls 11 [(8, .int (iI l8)), (7, .int (iI l7)), (6, .int (iI l6)), (5, .int (iI l5)), (3, .int (iI l3)), (0, .ref (ad 14 0 0)), (1, .ref (ad 13 l1 0)), (2, .int (iI l2))] → W p l e ({ frames := 3, cells := 0, slots := 0, locals := 72 } : Room) s m args below meth c H locs 0 0 (MQ below (Q_M_groups D ca ad L r F9 B9 A) args s 0 0 A) (F0 m 131 ls [])) {l9 : Int} {l8 : Int} {l7 : Int} {l6 : Int} {l5 : Int} {l3 : Int} {l1 : Int} {l2 : Int} {F : zF} {B : zB} {H : Heap} {locs : List Loc} {ls : Array Slot} (hf : f_M_groups_249 rec5 rec131 K l9 l8 l7 l6 l5 l3 l1 l2 F B = some (r, F9, B9)) (hZ : zH D ca ad lnM nM L F B A H) (hS : va_S A s.heap H locs) (hl : lv_has ls 11 [(9, .int (iI l9)), (8, .int (iI l8)), (7, .int (iI l7)), (6, .int (iI l6)), (5, .int (iI l5)), (3, .int (iI l3)), (0, .ref (ad 14 0 0)), (1, .ref (ad 13 l1 0)), (2, .int (iI l2))]) : W p l e ({ frames := 3, cells := 0, slots := 0, locals := 72 } : Room) s m args below meth c H locs 0 0 (MQ below (Q_M_groups D ca ad L r F9 B9 A) args s 0 0 A) (F0 m 249 ls []) := by
  obtain ⟨hx, hb, hr, hml, hown, hts, hlk, hK, hA, hL, hX⟩ := id X
  replace hf : (f_M_groups_250 rec5 rec131 K l9 l8 l7 l6 l5 l3 l1 l2 0 F B) = some (r, F9, B9) := hf
  refine lv_iconst (v := iI 0) hx hb (D_3 W_prog_15_method_101_code_224 25 rfl rfl) rfl ?_
  exact b_M_groups_250 X hrec5 hrec131 hf hZ hS (lv_sub hl [0, 1, 2, 3, 4, 5, 6, 7, 8] rfl)

def f_M_groups_224 (rec5 : Int → Int → Int → Int → zF → zB → zO) (rec131 : Int → Int → Int → Int → Int → Int → Int → zF → zB → zO) (K : Nat) (l9 : Int) (l8 : Int) (l7 : Int) (l6 : Int) (l5 : Int) (l3 : Int) (l1 : Int) (l2 : Int) (s0 : Int) (s1 : Int) (s2 : Int) (F : zF) (B : zB) : zO := if 0 ≤ s0 ∧ s0 < 3 then if 0 ≤ s1 ∧ s1 < 3200 then zbind (f_M_sounding K l1 l2 l8 F (zup4 B 13 s0 40 s1 s2)) (fun r48 F48 B48 => if r32 r48 then (if r48 < 0 then f_M_groups_249 rec5 rec131 K l9 l8 l7 l6 l5 l3 l1 l2 F48 B48 else if 0 ≤ l1 ∧ l1 < 3 then if 0 ≤ l9 ∧ l9 < 3200 then if r32 (B48 13 l1 34 l9) then (if (B48 13 l1 34 l9) ≤ 0 then f_M_groups_249 rec5 rec131 K l9 l8 l7 l6 l5 l3 l1 l2 F48 B48 else f_M_groups_250 rec5 rec131 K l9 l8 l7 l6 l5 l3 l1 l2 1 F48 B48) else none else none else none) else none) else none else none
set_option maxHeartbeats 4000000 in
set_option maxRecDepth 100000 in
theorem b_M_groups_224 {D : va_G} {ca : Nat → ClassId} {ad : Nat → Int → Nat → Nat} {L : List Nat} {aS vS : Nat → Nat} {A : Nat → Prop} {p : Program} {l : Launch} {e : Env} {s : State} {m : MethodId} {args : Array Value} {below : List Frame} {meth : Method} {c : Code} {K : Nat} {r : Int} {F9 : zF} {B9 : zB} (X : zX D ca L aS vS A p s m args meth c prog_15_method_101_code 11 (Option.none : Option Jvm.ClassFile.FieldType) "StaveHouseModel") {rec5 : Int → Int → Int → Int → zF → zB → zO} {rec131 : Int → Int → Int → Int → Int → Int → Int → zF → zB → zO} (hrec5 : ∀ {l4 : Int} {l3 : Int} {l1 : Int} {l2 : Int} {F : zF} {B : zB} {H : Heap} {locs : List Loc} {ls : Array Slot}, rec5 l4 l3 l1 l2 F B = some (r, F9, B9) → zH D ca ad lnM nM L F B A H → va_S A s.heap H locs → lv_has ls 11 [(4, .int (iI l4)), (3, .int (iI l3)), (0, .ref (ad 14 0 0)), (1, .ref (ad 13 l1 0)), (2, .int (iI l2))] → W p l e ({ frames := 3, cells := 0, slots := 0, locals := 72 } : Room) s m args below meth c H locs 0 0 (MQ below (Q_M_groups D ca ad L r F9 B9 A) args s 0 0 A) (F0 m 5 ls [])) (hrec131 : ∀ {l8 : Int} {l7 : Int} {l6 : Int} {l5 : Int} {l3 : Int} {l1 : Int} {l2 : Int} {F : zF} {B : zB} {H : Heap} {locs : List Loc} {ls : Array Slot}, rec131 l8 l7 l6 l5 l3 l1 l2 F B = some (r, F9, B9) → zH D ca ad lnM nM L F B A H → va_S A s.heap H locs → lv_has ls 11 [(8, .int (iI l8)), (7, .int (iI l7)), (6, .int (iI l6)), (5, .int (iI l5)), (3, .int (iI l3)), (0, .ref (ad 14 0 0)), (1, .ref (ad 13 l1 0)), (2, .int (iI l2))] → W p l e ({ frames := 3, cells := 0, slots := 0, locals := 72 } : Room) s m args below meth c H locs 0 0 (MQ below (Q_M_groups D ca ad L r F9 B9 A) args s 0 0 A) (F0 m 131 ls [])) {l9 : Int} {l8 : Int} {l7 : Int} {l6 : Int} {l5 : Int} {l3 : Int} {l1 : Int} {l2 : Int} {s0 : Int} {s1 : Int} {s2 : Int} {F : zF} {B : zB} {H : Heap} {locs : List Loc} {ls : Array Slot} (hf : f_M_groups_224 rec5 rec131 K l9 l8 l7 l6 l5 l3 l1 l2 s0 s1 s2 F B = some (r, F9, B9)) (hZ : zH D ca ad lnM nM L F B A H) (hS : va_S A s.heap H locs) (hl : lv_has ls 11 [(9, .int (iI l9)), (8, .int (iI l8)), (7, .int (iI l7)), (6, .int (iI l6)), (5, .int (iI l5)), (3, .int (iI l3)), (0, .ref (ad 14 0 0)), (1, .ref (ad 13 l1 0)), (2, .int (iI l2))]) : W p l e ({ frames := 3, cells := 0, slots := 0, locals := 72 } : Room) s m args below meth c H locs 0 0 (MQ below (Q_M_groups D ca ad L r F9 B9 A) args s 0 0 A) (F0 m 224 ls [.int (iI s2), .int (iI s1), .ref (ad 13 s0 (40 + 1))]) := by
  obtain ⟨hx, hb, hr, hml, hown, hts, hlk, hK, hA, hL, hX⟩ := id X
  replace hf : (if 0 ≤ s0 ∧ s0 < 3 then if 0 ≤ s1 ∧ s1 < 3200 then zbind (f_M_sounding K l1 l2 l8 F (zup4 B 13 s0 40 s1 s2)) (fun r48 F48 B48 => if r32 r48 then (if r48 < 0 then f_M_groups_249 rec5 rec131 K l9 l8 l7 l6 l5 l3 l1 l2 F48 B48 else if 0 ≤ l1 ∧ l1 < 3 then if 0 ≤ l9 ∧ l9 < 3200 then if r32 (B48 13 l1 34 l9) then (if (B48 13 l1 34 l9) ≤ 0 then f_M_groups_249 rec5 rec131 K l9 l8 l7 l6 l5 l3 l1 l2 F48 B48 else f_M_groups_250 rec5 rec131 K l9 l8 l7 l6 l5 l3 l1 l2 1 F48 B48) else none else none else none) else none) else none else none) = some (r, F9, B9) := hf
  obtain ⟨g45, hf⟩ := gif hf
  obtain ⟨g46, hf⟩ := gif hf
  refine zast (ci := 13) (k := 40) hx hb hK rfl hZ hS g45.1 g45.2 rfl (Nat.le_of_ble_eq_true rfl) g46.1 g46.2 (D_79 W_prog_15_method_101_code_224 0 rfl rfl) (fun H47 locs47 hZ47 hS47 => ?_)
  refine lv_aload_n hx hb (D_43 W_prog_15_method_101_code_224 1 rfl rfl) rfl (lv_at hl 7 rfl) ?_
  refine lv_iload_n hx hb (D_28 W_prog_15_method_101_code_224 2 rfl rfl) rfl (lv_at hl 8 rfl) ?_
  refine lv_iload hx hb (D_21 W_prog_15_method_101_code_224 3 rfl rfl) (lv_at hl 1 rfl) ?_
  obtain ⟨r48, F48, B48, hc48, hf⟩ := gbind hf
  refine va_calli (va_runS (As := [.ref (ad 13 l1 0), .int (iI l2), .int (iI l8)]) (rest := []) ⟨hx, hb, hml, hown, hts⟩ (c_M_sounding (l := l) hc48) (va_cwS 3 hts (gdS k_13_199 k_13_200 k_1_9 k_13_201) rfl rfl rfl (by decide +kernel) ⟨Nat.le_of_ble_eq_true rfl, Nat.le_of_ble_eq_true rfl⟩) (zPS X hZ47 hS47 [.ref (ad 13 l1 0), .int (iI l2), .int (iI l8)]) rfl rfl hl.1 rfl (lv_room (Nat.le_of_ble_eq_true rfl)) (D_184 W_prog_15_method_101_code_224 5 rfl rfl rfl) ⟨Nat.le_of_ble_eq_true rfl, Nat.le_of_ble_eq_true rfl⟩) hS47 (fun q _ h => zAin X hS47 q h) (zAin X hS47) (fun p48 u48 t48 H48 locs48 ht48 hv48 hw48 hB48 hz48 hk48 hS48 => ?_)
  have hZ48 := zBack X ht48 hB48
  subst hw48
  obtain ⟨g49, hf⟩ := gif hf
  refine z0lt (tgt := 249) hx hb g49 (D_155 W_prog_15_method_101_code_224 8 rfl rfl rfl) (by decide) (fun h50 => ?_) (fun h50 => ?_)
  · replace hf := gpos hf h50
    exact b_M_groups_249 X hrec5 hrec131 hf hZ48 hS48 (lv_sub hl [0, 1, 2, 3, 4, 5, 6, 7, 8] rfl)
  · replace hf := gneg hf h50
    refine lv_aload_n hx hb (D_43 W_prog_15_method_101_code_224 11 rfl rfl) rfl (lv_at hl 7 rfl) ?_
    obtain ⟨g51, hf⟩ := gif hf
    refine zget (ci := 13) (C := RX13) (T := TX13) (v := .ref (ad 13 l1 (34 + 1))) (k := 34) hx hb hts inW_13 hown hK hZ48 g51.1 g51.2 rfl (by decide) k_9_186 rfl (D_180 W_prog_15_method_101_code_224 12 rfl rfl rfl) ?_
    refine lv_iload hx hb (D_21 W_prog_15_method_101_code_224 15 rfl rfl) (lv_at hl 0 rfl) ?_
    obtain ⟨g52, hf⟩ := gif hf
    refine zald (ci := 13) (k := 34) hx hb hK rfl hZ48 g51.1 g51.2 rfl (Nat.le_of_ble_eq_true rfl) g52.1 g52.2 (D_46 W_prog_15_method_101_code_224 17 rfl rfl) ?_
    obtain ⟨g53, hf⟩ := gif hf
    refine z0le (tgt := 249) hx hb g53 (D_158 W_prog_15_method_101_code_224 18 rfl rfl rfl) (by decide) (fun h54 => ?_) (fun h54 => ?_)
    · replace hf := gpos hf h54
      exact b_M_groups_249 X hrec5 hrec131 hf hZ48 hS48 (lv_sub hl [0, 1, 2, 3, 4, 5, 6, 7, 8] rfl)
    · replace hf := gneg hf h54
      refine lv_iconst (v := iI 1) hx hb (D_4 W_prog_15_method_101_code_224 21 rfl rfl) rfl ?_
      refine lv_goto (tgt := 250) hx hb (D_167 W_prog_15_method_101_code_224 22 rfl rfl rfl) (by decide) ?_
      exact b_M_groups_250 X hrec5 hrec131 hf hZ48 hS48 (lv_sub hl [0, 1, 2, 3, 4, 5, 6, 7, 8] rfl)

def f_M_groups_218 (rec5 : Int → Int → Int → Int → zF → zB → zO) (rec131 : Int → Int → Int → Int → Int → Int → Int → zF → zB → zO) (K : Nat) (l9 : Int) (l8 : Int) (l7 : Int) (l6 : Int) (l5 : Int) (l3 : Int) (l1 : Int) (l2 : Int) (s0 : Int) (s1 : Int) (s2 : Int) (F : zF) (B : zB) : zO := f_M_groups_224 rec5 rec131 K l9 l8 l7 l6 l5 l3 l1 l2 s0 s1 (s2 - 2) F B
set_option maxHeartbeats 4000000 in
set_option maxRecDepth 100000 in
theorem b_M_groups_218 {D : va_G} {ca : Nat → ClassId} {ad : Nat → Int → Nat → Nat} {L : List Nat} {aS vS : Nat → Nat} {A : Nat → Prop} {p : Program} {l : Launch} {e : Env} {s : State} {m : MethodId} {args : Array Value} {below : List Frame} {meth : Method} {c : Code} {K : Nat} {r : Int} {F9 : zF} {B9 : zB} (X : zX D ca L aS vS A p s m args meth c prog_15_method_101_code 11 (Option.none : Option Jvm.ClassFile.FieldType) "StaveHouseModel") {rec5 : Int → Int → Int → Int → zF → zB → zO} {rec131 : Int → Int → Int → Int → Int → Int → Int → zF → zB → zO} (hrec5 : ∀ {l4 : Int} {l3 : Int} {l1 : Int} {l2 : Int} {F : zF} {B : zB} {H : Heap} {locs : List Loc} {ls : Array Slot}, rec5 l4 l3 l1 l2 F B = some (r, F9, B9) → zH D ca ad lnM nM L F B A H → va_S A s.heap H locs → lv_has ls 11 [(4, .int (iI l4)), (3, .int (iI l3)), (0, .ref (ad 14 0 0)), (1, .ref (ad 13 l1 0)), (2, .int (iI l2))] → W p l e ({ frames := 3, cells := 0, slots := 0, locals := 72 } : Room) s m args below meth c H locs 0 0 (MQ below (Q_M_groups D ca ad L r F9 B9 A) args s 0 0 A) (F0 m 5 ls [])) (hrec131 : ∀ {l8 : Int} {l7 : Int} {l6 : Int} {l5 : Int} {l3 : Int} {l1 : Int} {l2 : Int} {F : zF} {B : zB} {H : Heap} {locs : List Loc} {ls : Array Slot}, rec131 l8 l7 l6 l5 l3 l1 l2 F B = some (r, F9, B9) → zH D ca ad lnM nM L F B A H → va_S A s.heap H locs → lv_has ls 11 [(8, .int (iI l8)), (7, .int (iI l7)), (6, .int (iI l6)), (5, .int (iI l5)), (3, .int (iI l3)), (0, .ref (ad 14 0 0)), (1, .ref (ad 13 l1 0)), (2, .int (iI l2))] → W p l e ({ frames := 3, cells := 0, slots := 0, locals := 72 } : Room) s m args below meth c H locs 0 0 (MQ below (Q_M_groups D ca ad L r F9 B9 A) args s 0 0 A) (F0 m 131 ls [])) {l9 : Int} {l8 : Int} {l7 : Int} {l6 : Int} {l5 : Int} {l3 : Int} {l1 : Int} {l2 : Int} {s0 : Int} {s1 : Int} {s2 : Int} {F : zF} {B : zB} {H : Heap} {locs : List Loc} {ls : Array Slot} (hf : f_M_groups_218 rec5 rec131 K l9 l8 l7 l6 l5 l3 l1 l2 s0 s1 s2 F B = some (r, F9, B9)) (hZ : zH D ca ad lnM nM L F B A H) (hS : va_S A s.heap H locs) (hl : lv_has ls 11 [(9, .int (iI l9)), (8, .int (iI l8)), (7, .int (iI l7)), (6, .int (iI l6)), (5, .int (iI l5)), (3, .int (iI l3)), (0, .ref (ad 14 0 0)), (1, .ref (ad 13 l1 0)), (2, .int (iI l2))]) : W p l e ({ frames := 3, cells := 0, slots := 0, locals := 72 } : Room) s m args below meth c H locs 0 0 (MQ below (Q_M_groups D ca ad L r F9 B9 A) args s 0 0 A) (F0 m 218 ls [.int (iI s2), .int (iI s1), .ref (ad 13 s0 (40 + 1))]) := by
  obtain ⟨hx, hb, hr, hml, hown, hts, hlk, hK, hA, hL, hX⟩ := id X
  replace hf : (f_M_groups_224 rec5 rec131 K l9 l8 l7 l6 l5 l3 l1 l2 s0 s1 (s2 - 2) F B) = some (r, F9, B9) := hf
  refine lv_iconst (v := iI 2) hx hb (D_5 W_prog_15_method_101_code_192 26 rfl rfl) rfl ?_
  refine zsub hx hb (D_100 W_prog_15_method_101_code_192 27 rfl rfl) ?_
  refine lv_goto (tgt := 224) hx hb (D_167 W_prog_15_method_101_code_192 28 rfl rfl rfl) (by decide) ?_
  exact b_M_groups_224 X hrec5 hrec131 hf hZ hS (lv_sub hl [0, 1, 2, 3, 4, 5, 6, 7, 8] rfl)

def f_M_groups_164 (rec5 : Int → Int → Int → Int → zF → zB → zO) (rec131 : Int → Int → Int → Int → Int → Int → Int → zF → zB → zO) (K : Nat) (l9 : Int) (l8 : Int) (l7 : Int) (l6 : Int) (l5 : Int) (l3 : Int) (l1 : Int) (l2 : Int) (s0 : Int) (s1 : Int) (s2 : Int) (F : zF) (B : zB) : zO := if 0 ≤ s0 ∧ s0 < 3 then if 0 ≤ s1 ∧ s1 < 3200 then if 0 ≤ l1 ∧ l1 < 3 then if r32 (l8 + 1) then if r32 l5 then (if l5 ≤ (l8 + 1) then f_M_groups_224 rec5 rec131 K l9 l8 l7 l6 l5 l3 l1 l2 l1 l9 0 F (zup4 B 13 s0 39 s1 s2) else if 0 ≤ l9 ∧ l9 < 3200 then if 0 ≤ (l9 + 1) ∧ (l9 + 1) < 3200 then if r32 ((zup4 B 13 s0 39 s1 s2) 13 l1 34 l9) then if r32 ((zup4 B 13 s0 39 s1 s2) 13 l1 34 (l9 + 1)) then (if ((zup4 B 13 s0 39 s1 s2) 13 l1 34 (l9 + 1)) ≤ ((zup4 B 13 s0 39 s1 s2) 13 l1 34 l9) then f_M_groups_218 rec5 rec131 K l9 l8 l7 l6 l5 l3 l1 l2 l1 l9 ((zup4 B 13 s0 39 s1 s2) 13 l1 34 (l9 + 1)) F (zup4 B 13 s0 39 s1 s2) else f_M_groups_218 rec5 rec131 K l9 l8 l7 l6 l5 l3 l1 l2 l1 l9 ((zup4 B 13 s0 39 s1 s2) 13 l1 34 l9) F (zup4 B 13 s0 39 s1 s2)) else none else none else none else none) else none else none else none else none else none
set_option maxHeartbeats 4000000 in
set_option maxRecDepth 100000 in
theorem b_M_groups_164 {D : va_G} {ca : Nat → ClassId} {ad : Nat → Int → Nat → Nat} {L : List Nat} {aS vS : Nat → Nat} {A : Nat → Prop} {p : Program} {l : Launch} {e : Env} {s : State} {m : MethodId} {args : Array Value} {below : List Frame} {meth : Method} {c : Code} {K : Nat} {r : Int} {F9 : zF} {B9 : zB} (X : zX D ca L aS vS A p s m args meth c prog_15_method_101_code 11 (Option.none : Option Jvm.ClassFile.FieldType) "StaveHouseModel") {rec5 : Int → Int → Int → Int → zF → zB → zO} {rec131 : Int → Int → Int → Int → Int → Int → Int → zF → zB → zO} (hrec5 : ∀ {l4 : Int} {l3 : Int} {l1 : Int} {l2 : Int} {F : zF} {B : zB} {H : Heap} {locs : List Loc} {ls : Array Slot}, rec5 l4 l3 l1 l2 F B = some (r, F9, B9) → zH D ca ad lnM nM L F B A H → va_S A s.heap H locs → lv_has ls 11 [(4, .int (iI l4)), (3, .int (iI l3)), (0, .ref (ad 14 0 0)), (1, .ref (ad 13 l1 0)), (2, .int (iI l2))] → W p l e ({ frames := 3, cells := 0, slots := 0, locals := 72 } : Room) s m args below meth c H locs 0 0 (MQ below (Q_M_groups D ca ad L r F9 B9 A) args s 0 0 A) (F0 m 5 ls [])) (hrec131 : ∀ {l8 : Int} {l7 : Int} {l6 : Int} {l5 : Int} {l3 : Int} {l1 : Int} {l2 : Int} {F : zF} {B : zB} {H : Heap} {locs : List Loc} {ls : Array Slot}, rec131 l8 l7 l6 l5 l3 l1 l2 F B = some (r, F9, B9) → zH D ca ad lnM nM L F B A H → va_S A s.heap H locs → lv_has ls 11 [(8, .int (iI l8)), (7, .int (iI l7)), (6, .int (iI l6)), (5, .int (iI l5)), (3, .int (iI l3)), (0, .ref (ad 14 0 0)), (1, .ref (ad 13 l1 0)), (2, .int (iI l2))] → W p l e ({ frames := 3, cells := 0, slots := 0, locals := 72 } : Room) s m args below meth c H locs 0 0 (MQ below (Q_M_groups D ca ad L r F9 B9 A) args s 0 0 A) (F0 m 131 ls [])) {l9 : Int} {l8 : Int} {l7 : Int} {l6 : Int} {l5 : Int} {l3 : Int} {l1 : Int} {l2 : Int} {s0 : Int} {s1 : Int} {s2 : Int} {F : zF} {B : zB} {H : Heap} {locs : List Loc} {ls : Array Slot} (hf : f_M_groups_164 rec5 rec131 K l9 l8 l7 l6 l5 l3 l1 l2 s0 s1 s2 F B = some (r, F9, B9)) (hZ : zH D ca ad lnM nM L F B A H) (hS : va_S A s.heap H locs) (hl : lv_has ls 11 [(9, .int (iI l9)), (8, .int (iI l8)), (7, .int (iI l7)), (6, .int (iI l6)), (5, .int (iI l5)), (3, .int (iI l3)), (0, .ref (ad 14 0 0)), (1, .ref (ad 13 l1 0)), (2, .int (iI l2))]) : W p l e ({ frames := 3, cells := 0, slots := 0, locals := 72 } : Room) s m args below meth c H locs 0 0 (MQ below (Q_M_groups D ca ad L r F9 B9 A) args s 0 0 A) (F0 m 164 ls [.int (iI s2), .int (iI s1), .ref (ad 13 s0 (39 + 1))]) := by
  obtain ⟨hx, hb, hr, hml, hown, hts, hlk, hK, hA, hL, hX⟩ := id X
  replace hf : (if 0 ≤ s0 ∧ s0 < 3 then if 0 ≤ s1 ∧ s1 < 3200 then if 0 ≤ l1 ∧ l1 < 3 then if r32 (l8 + 1) then if r32 l5 then (if l5 ≤ (l8 + 1) then f_M_groups_224 rec5 rec131 K l9 l8 l7 l6 l5 l3 l1 l2 l1 l9 0 F (zup4 B 13 s0 39 s1 s2) else if 0 ≤ l9 ∧ l9 < 3200 then if 0 ≤ (l9 + 1) ∧ (l9 + 1) < 3200 then if r32 ((zup4 B 13 s0 39 s1 s2) 13 l1 34 l9) then if r32 ((zup4 B 13 s0 39 s1 s2) 13 l1 34 (l9 + 1)) then (if ((zup4 B 13 s0 39 s1 s2) 13 l1 34 (l9 + 1)) ≤ ((zup4 B 13 s0 39 s1 s2) 13 l1 34 l9) then f_M_groups_218 rec5 rec131 K l9 l8 l7 l6 l5 l3 l1 l2 l1 l9 ((zup4 B 13 s0 39 s1 s2) 13 l1 34 (l9 + 1)) F (zup4 B 13 s0 39 s1 s2) else f_M_groups_218 rec5 rec131 K l9 l8 l7 l6 l5 l3 l1 l2 l1 l9 ((zup4 B 13 s0 39 s1 s2) 13 l1 34 l9) F (zup4 B 13 s0 39 s1 s2)) else none else none else none else none) else none else none else none else none else none) = some (r, F9, B9) := hf
  obtain ⟨g33, hf⟩ := gif hf
  obtain ⟨g34, hf⟩ := gif hf
  refine zast (ci := 13) (k := 39) hx hb hK rfl hZ hS g33.1 g33.2 rfl (Nat.le_of_ble_eq_true rfl) g34.1 g34.2 (D_79 W_prog_15_method_101_code_160 4 rfl rfl) (fun H35 locs35 hZ35 hS35 => ?_)
  refine lv_aload_n hx hb (D_43 W_prog_15_method_101_code_160 5 rfl rfl) rfl (lv_at hl 7 rfl) ?_
  obtain ⟨g36, hf⟩ := gif hf
  refine zget (ci := 13) (C := RX13) (T := TX13) (v := .ref (ad 13 l1 (40 + 1))) (k := 40) hx hb hts inW_13 hown hK hZ35 g36.1 g36.2 rfl (by decide) k_9_198 rfl (D_180 W_prog_15_method_101_code_160 6 rfl rfl rfl) ?_
  refine lv_iload hx hb (D_21 W_prog_15_method_101_code_160 9 rfl rfl) (lv_at hl 0 rfl) ?_
  refine lv_iload hx hb (D_21 W_prog_15_method_101_code_160 11 rfl rfl) (lv_at hl 1 rfl) ?_
  refine lv_iconst (v := iI 1) hx hb (D_4 W_prog_15_method_101_code_160 13 rfl rfl) rfl ?_
  refine zadd hx hb (D_96 W_prog_15_method_101_code_160 14 rfl rfl) ?_
  refine lv_iload hx hb (D_21 W_prog_15_method_101_code_160 15 rfl rfl) (lv_at hl 4 rfl) ?_
  obtain ⟨g37, hf⟩ := gif hf
  obtain ⟨g38, hf⟩ := gif hf
  refine zge (tgt := 223) hx hb g37 g38 (D_162 W_prog_15_method_101_code_160 17 rfl rfl rfl) (by decide) (fun h39 => ?_) (fun h39 => ?_)
  · replace hf := gpos hf h39
    refine lv_iconst (v := iI 0) hx hb (D_3 W_prog_15_method_101_code_192 31 rfl rfl) rfl ?_
    exact b_M_groups_224 X hrec5 hrec131 hf hZ35 hS35 (lv_sub hl [0, 1, 2, 3, 4, 5, 6, 7, 8] rfl)
  · replace hf := gneg hf h39
    refine lv_aload_n hx hb (D_43 W_prog_15_method_101_code_160 20 rfl rfl) rfl (lv_at hl 7 rfl) ?_
    refine zget (ci := 13) (C := RX13) (T := TX13) (v := .ref (ad 13 l1 (34 + 1))) (k := 34) hx hb hts inW_13 hown hK hZ35 g36.1 g36.2 rfl (by decide) k_9_186 rfl (D_180 W_prog_15_method_101_code_160 21 rfl rfl rfl) ?_
    refine lv_iload hx hb (D_21 W_prog_15_method_101_code_160 24 rfl rfl) (lv_at hl 0 rfl) ?_
    obtain ⟨g40, hf⟩ := gif hf
    refine zald (ci := 13) (k := 34) hx hb hK rfl hZ35 g36.1 g36.2 rfl (Nat.le_of_ble_eq_true rfl) g40.1 g40.2 (D_46 W_prog_15_method_101_code_160 26 rfl rfl) ?_
    refine lv_aload_n hx hb (D_43 W_prog_15_method_101_code_160 27 rfl rfl) rfl (lv_at hl 7 rfl) ?_
    refine zget (ci := 13) (C := RX13) (T := TX13) (v := .ref (ad 13 l1 (34 + 1))) (k := 34) hx hb hts inW_13 hown hK hZ35 g36.1 g36.2 rfl (by decide) k_9_186 rfl (D_180 W_prog_15_method_101_code_160 28 rfl rfl rfl) ?_
    refine lv_iload hx hb (D_21 W_prog_15_method_101_code_160 31 rfl rfl) (lv_at hl 0 rfl) ?_
    refine lv_iconst (v := iI 1) hx hb (D_4 W_prog_15_method_101_code_192 1 rfl rfl) rfl ?_
    refine zadd hx hb (D_96 W_prog_15_method_101_code_192 2 rfl rfl) ?_
    obtain ⟨g41, hf⟩ := gif hf
    refine zald (ci := 13) (k := 34) hx hb hK rfl hZ35 g36.1 g36.2 rfl (Nat.le_of_ble_eq_true rfl) g41.1 g41.2 (D_46 W_prog_15_method_101_code_192 3 rfl rfl) ?_
    obtain ⟨g42, hf⟩ := gif hf
    obtain ⟨g43, hf⟩ := gif hf
    refine zge (tgt := 209) hx hb g42 g43 (D_162 W_prog_15_method_101_code_192 4 rfl rfl rfl) (by decide) (fun h44 => ?_) (fun h44 => ?_)
    · replace hf := gpos hf h44
      refine lv_aload_n hx hb (D_43 W_prog_15_method_101_code_192 17 rfl rfl) rfl (lv_at hl 7 rfl) ?_
      refine zget (ci := 13) (C := RX13) (T := TX13) (v := .ref (ad 13 l1 (34 + 1))) (k := 34) hx hb hts inW_13 hown hK hZ35 g36.1 g36.2 rfl (by decide) k_9_186 rfl (D_180 W_prog_15_method_101_code_192 18 rfl rfl rfl) ?_
      refine lv_iload hx hb (D_21 W_prog_15_method_101_code_192 21 rfl rfl) (lv_at hl 0 rfl) ?_
      refine lv_iconst (v := iI 1) hx hb (D_4 W_prog_15_method_101_code_192 23 rfl rfl) rfl ?_
      refine zadd hx hb (D_96 W_prog_15_method_101_code_192 24 rfl rfl) ?_
      refine zald (ci := 13) (k := 34) hx hb hK rfl hZ35 g36.1 g36.2 rfl (Nat.le_of_ble_eq_true rfl) g41.1 g41.2 (D_46 W_prog_15_method_101_code_192 25 rfl rfl) ?_
      exact b_M_groups_218 X hrec5 hrec131 hf hZ35 hS35 (lv_sub hl [0, 1, 2, 3, 4, 5, 6, 7, 8] rfl)
    · replace hf := gneg hf h44
      refine lv_aload_n hx hb (D_43 W_prog_15_method_101_code_192 7 rfl rfl) rfl (lv_at hl 7 rfl) ?_
      refine zget (ci := 13) (C := RX13) (T := TX13) (v := .ref (ad 13 l1 (34 + 1))) (k := 34) hx hb hts inW_13 hown hK hZ35 g36.1 g36.2 rfl (by decide) k_9_186 rfl (D_180 W_prog_15_method_101_code_192 8 rfl rfl rfl) ?_
      refine lv_iload hx hb (D_21 W_prog_15_method_101_code_192 11 rfl rfl) (lv_at hl 0 rfl) ?_
      refine zald (ci := 13) (k := 34) hx hb hK rfl hZ35 g36.1 g36.2 rfl (Nat.le_of_ble_eq_true rfl) g40.1 g40.2 (D_46 W_prog_15_method_101_code_192 13 rfl rfl) ?_
      refine lv_goto (tgt := 218) hx hb (D_167 W_prog_15_method_101_code_192 14 rfl rfl rfl) (by decide) ?_
      exact b_M_groups_218 X hrec5 hrec131 hf hZ35 hS35 (lv_sub hl [0, 1, 2, 3, 4, 5, 6, 7, 8] rfl)

def f_M_groups_131 (rec5 : Int → Int → Int → Int → zF → zB → zO) (K : Nat) : Nat → Int → Int → Int → Int → Int → Int → Int → zF → zB → zO
  | 0, _, _, _, _, _, _, _, _, _ => none
  | n + 1, l8, l7, l6, l5, l3, l1, l2, F, B => if r32 l8 then if r32 l5 then (if l5 ≤ l8 then if r32 l7 then (if l7 = 0 then f_M_groups_292 rec5 K l5 l3 l1 l2 F B else f_M_groups_292 rec5 K l5 (l3 + 1) l1 l2 F B) else none else if 0 ≤ l1 ∧ l1 < 3 then if r32 l7 then (if l7 = 0 then f_M_groups_164 rec5 (f_M_groups_131 rec5 K n) K ((800 * l2) + l8) l8 l7 l6 l5 l3 l1 l2 l1 ((800 * l2) + l8) (-1) F B else f_M_groups_164 rec5 (f_M_groups_131 rec5 K n) K ((800 * l2) + l8) l8 l7 l6 l5 l3 l1 l2 l1 ((800 * l2) + l8) l3 F B) else none else none) else none else none
set_option maxHeartbeats 4000000 in
set_option maxRecDepth 100000 in
theorem b_M_groups_131 {D : va_G} {ca : Nat → ClassId} {ad : Nat → Int → Nat → Nat} {L : List Nat} {aS vS : Nat → Nat} {A : Nat → Prop} {p : Program} {l : Launch} {e : Env} {s : State} {m : MethodId} {args : Array Value} {below : List Frame} {meth : Method} {c : Code} {K : Nat} {r : Int} {F9 : zF} {B9 : zB} (X : zX D ca L aS vS A p s m args meth c prog_15_method_101_code 11 (Option.none : Option Jvm.ClassFile.FieldType) "StaveHouseModel") {rec5 : Int → Int → Int → Int → zF → zB → zO} (hrec5 : ∀ {l4 : Int} {l3 : Int} {l1 : Int} {l2 : Int} {F : zF} {B : zB} {H : Heap} {locs : List Loc} {ls : Array Slot}, rec5 l4 l3 l1 l2 F B = some (r, F9, B9) → zH D ca ad lnM nM L F B A H → va_S A s.heap H locs → lv_has ls 11 [(4, .int (iI l4)), (3, .int (iI l3)), (0, .ref (ad 14 0 0)), (1, .ref (ad 13 l1 0)), (2, .int (iI l2))] → W p l e ({ frames := 3, cells := 0, slots := 0, locals := 72 } : Room) s m args below meth c H locs 0 0 (MQ below (Q_M_groups D ca ad L r F9 B9 A) args s 0 0 A) (F0 m 5 ls [])) : ∀ {n : Nat} {l8 : Int} {l7 : Int} {l6 : Int} {l5 : Int} {l3 : Int} {l1 : Int} {l2 : Int} {F : zF} {B : zB} {H : Heap} {locs : List Loc} {ls : Array Slot}, f_M_groups_131 rec5 K n l8 l7 l6 l5 l3 l1 l2 F B = some (r, F9, B9) → zH D ca ad lnM nM L F B A H → va_S A s.heap H locs → lv_has ls 11 [(8, .int (iI l8)), (7, .int (iI l7)), (6, .int (iI l6)), (5, .int (iI l5)), (3, .int (iI l3)), (0, .ref (ad 14 0 0)), (1, .ref (ad 13 l1 0)), (2, .int (iI l2))] → W p l e ({ frames := 3, cells := 0, slots := 0, locals := 72 } : Room) s m args below meth c H locs 0 0 (MQ below (Q_M_groups D ca ad L r F9 B9 A) args s 0 0 A) (F0 m 131 ls []) := by
  obtain ⟨hx, hb, hr, hml, hown, hts, hlk, hK, hA, hL, hX⟩ := id X
  intro n
  induction n with
  | zero =>
    intros
    rename_i hf _ _ _
    cases hf
  | succ n ih =>
    intro l8 l7 l6 l5 l3 l1 l2 F B H locs ls hf hZ hS hl
    replace hf : (if r32 l8 then if r32 l5 then (if l5 ≤ l8 then if r32 l7 then (if l7 = 0 then f_M_groups_292 rec5 K l5 l3 l1 l2 F B else f_M_groups_292 rec5 K l5 (l3 + 1) l1 l2 F B) else none else if 0 ≤ l1 ∧ l1 < 3 then if r32 l7 then (if l7 = 0 then f_M_groups_164 rec5 (f_M_groups_131 rec5 K n) K ((800 * l2) + l8) l8 l7 l6 l5 l3 l1 l2 l1 ((800 * l2) + l8) (-1) F B else f_M_groups_164 rec5 (f_M_groups_131 rec5 K n) K ((800 * l2) + l8) l8 l7 l6 l5 l3 l1 l2 l1 ((800 * l2) + l8) l3 F B) else none else none) else none else none) = some (r, F9, B9) := hf
    refine lv_iload hx hb (D_21 W_prog_15_method_101_code_128 3 rfl rfl) (lv_at hl 0 rfl) ?_
    refine lv_iload hx hb (D_21 W_prog_15_method_101_code_128 5 rfl rfl) (lv_at hl 3 rfl) ?_
    obtain ⟨g24, hf⟩ := gif hf
    obtain ⟨g25, hf⟩ := gif hf
    refine zge (tgt := 284) hx hb g24 g25 (D_162 W_prog_15_method_101_code_128 7 rfl rfl rfl) (by decide) (fun h26 => ?_) (fun h26 => ?_)
    · replace hf := gpos hf h26
      refine lv_iload hx hb (D_21 W_prog_15_method_101_code_256 28 rfl rfl) (lv_at hl 1 rfl) ?_
      obtain ⟨g27, hf⟩ := gif hf
      refine z0eq (tgt := 292) hx hb g27 (D_153 W_prog_15_method_101_code_256 30 rfl rfl rfl) (by decide) (fun h28 => ?_) (fun h28 => ?_)
      · replace hf := gpos hf h28
        exact b_M_groups_292 X hrec5 hf hZ hS (lv_sub hl [3, 4, 5, 6, 7] rfl)
      · replace hf := gneg hf h28
        refine lv_iinc (v := iI (l3 + 1)) (lv' := [(3, .int (iI (l3 + 1))), (8, .int (iI l8)), (7, .int (iI l7)), (6, .int (iI l6)), (5, .int (iI l5)), (0, .ref (ad 14 0 0)), (1, .ref (ad 13 l1 0)), (2, .int (iI l2))]) hx hb d_15_101_289 hl (k := 4) rfl (iI_add _ 1) (by decide) rfl (fun ls hl => ?_)
        exact b_M_groups_292 X hrec5 hf hZ hS (lv_sub hl [4, 0, 5, 6, 7] rfl)
    · replace hf := gneg hf h26
      refine lv_sipush (v := iI 800) hx hb (D_17 W_prog_15_method_101_code_128 10 rfl rfl rfl) (by decide) ?_
      refine lv_iload_n hx hb (D_28 W_prog_15_method_101_code_128 13 rfl rfl) rfl (lv_at hl 7 rfl) ?_
      refine zmul hx hb (D_104 W_prog_15_method_101_code_128 14 rfl rfl) ?_
      refine lv_iload hx hb (D_21 W_prog_15_method_101_code_128 15 rfl rfl) (lv_at hl 0 rfl) ?_
      refine zadd hx hb (D_96 W_prog_15_method_101_code_128 17 rfl rfl) ?_
      refine lv_istore (lv' := [(9, .int (iI ((800 * l2) + l8))), (8, .int (iI l8)), (7, .int (iI l7)), (6, .int (iI l6)), (5, .int (iI l5)), (3, .int (iI l3)), (0, .ref (ad 14 0 0)), (1, .ref (ad 13 l1 0)), (2, .int (iI l2))]) hx hb (D_54 W_prog_15_method_101_code_128 18 rfl rfl) hl (by decide) rfl (fun ls hl => ?_)
      refine lv_aload_n hx hb (D_43 W_prog_15_method_101_code_128 20 rfl rfl) rfl (lv_at hl 7 rfl) ?_
      obtain ⟨g29, hf⟩ := gif hf
      refine zget (ci := 13) (C := RX13) (T := TX13) (v := .ref (ad 13 l1 (39 + 1))) (k := 39) hx hb hts inW_13 hown hK hZ g29.1 g29.2 rfl (by decide) k_9_196 rfl (D_180 W_prog_15_method_101_code_128 21 rfl rfl rfl) ?_
      refine lv_iload hx hb (D_21 W_prog_15_method_101_code_128 24 rfl rfl) (lv_at hl 0 rfl) ?_
      refine lv_iload hx hb (D_21 W_prog_15_method_101_code_128 26 rfl rfl) (lv_at hl 2 rfl) ?_
      obtain ⟨g30, hf⟩ := gif hf
      refine z0eq (tgt := 163) hx hb g30 (D_153 W_prog_15_method_101_code_128 28 rfl rfl rfl) (by decide) (fun h31 => ?_) (fun h31 => ?_)
      · replace hf := gpos hf h31
        refine lv_iconst (v := iI (-1)) hx hb (D_2 W_prog_15_method_101_code_160 3 rfl rfl) rfl ?_
        exact b_M_groups_164 X hrec5 ih hf hZ hS (lv_sub hl [0, 1, 2, 3, 4, 5, 6, 7, 8] rfl)
      · replace hf := gneg hf h31
        refine lv_iload_n hx hb (D_29 W_prog_15_method_101_code_128 31 rfl rfl) rfl (lv_at hl 5 rfl) ?_
        refine lv_goto (tgt := 164) hx hb (D_167 W_prog_15_method_101_code_160 0 rfl rfl rfl) (by decide) ?_
        exact b_M_groups_164 X hrec5 ih hf hZ hS (lv_sub hl [0, 1, 2, 3, 4, 5, 6, 7, 8] rfl)

def f_M_groups_125 (rec5 : Int → Int → Int → Int → zF → zB → zO) (K : Nat) (l6 : Int) (l5 : Int) (l4 : Int) (l3 : Int) (l1 : Int) (l2 : Int) (s0 : Int) (F : zF) (B : zB) : zO := f_M_groups_131 rec5 K K l4 s0 l6 l5 l3 l1 l2 F B
set_option maxHeartbeats 4000000 in
set_option maxRecDepth 100000 in
theorem b_M_groups_125 {D : va_G} {ca : Nat → ClassId} {ad : Nat → Int → Nat → Nat} {L : List Nat} {aS vS : Nat → Nat} {A : Nat → Prop} {p : Program} {l : Launch} {e : Env} {s : State} {m : MethodId} {args : Array Value} {below : List Frame} {meth : Method} {c : Code} {K : Nat} {r : Int} {F9 : zF} {B9 : zB} (X : zX D ca L aS vS A p s m args meth c prog_15_method_101_code 11 (Option.none : Option Jvm.ClassFile.FieldType) "StaveHouseModel") {rec5 : Int → Int → Int → Int → zF → zB → zO} (hrec5 : ∀ {l4 : Int} {l3 : Int} {l1 : Int} {l2 : Int} {F : zF} {B : zB} {H : Heap} {locs : List Loc} {ls : Array Slot}, rec5 l4 l3 l1 l2 F B = some (r, F9, B9) → zH D ca ad lnM nM L F B A H → va_S A s.heap H locs → lv_has ls 11 [(4, .int (iI l4)), (3, .int (iI l3)), (0, .ref (ad 14 0 0)), (1, .ref (ad 13 l1 0)), (2, .int (iI l2))] → W p l e ({ frames := 3, cells := 0, slots := 0, locals := 72 } : Room) s m args below meth c H locs 0 0 (MQ below (Q_M_groups D ca ad L r F9 B9 A) args s 0 0 A) (F0 m 5 ls [])) {l6 : Int} {l5 : Int} {l4 : Int} {l3 : Int} {l1 : Int} {l2 : Int} {s0 : Int} {F : zF} {B : zB} {H : Heap} {locs : List Loc} {ls : Array Slot} (hf : f_M_groups_125 rec5 K l6 l5 l4 l3 l1 l2 s0 F B = some (r, F9, B9)) (hZ : zH D ca ad lnM nM L F B A H) (hS : va_S A s.heap H locs) (hl : lv_has ls 11 [(6, .int (iI l6)), (5, .int (iI l5)), (4, .int (iI l4)), (3, .int (iI l3)), (0, .ref (ad 14 0 0)), (1, .ref (ad 13 l1 0)), (2, .int (iI l2))]) : W p l e ({ frames := 3, cells := 0, slots := 0, locals := 72 } : Room) s m args below meth c H locs 0 0 (MQ below (Q_M_groups D ca ad L r F9 B9 A) args s 0 0 A) (F0 m 125 ls [.int (iI s0)]) := by
  obtain ⟨hx, hb, hr, hml, hown, hts, hlk, hK, hA, hL, hX⟩ := id X
  replace hf : (f_M_groups_131 rec5 K K l4 s0 l6 l5 l3 l1 l2 F B) = some (r, F9, B9) := hf
  refine lv_istore (lv' := [(7, .int (iI s0)), (6, .int (iI l6)), (5, .int (iI l5)), (4, .int (iI l4)), (3, .int (iI l3)), (0, .ref (ad 14 0 0)), (1, .ref (ad 13 l1 0)), (2, .int (iI l2))]) hx hb (D_54 W_prog_15_method_101_code_96 29 rfl rfl) hl (by decide) rfl (fun ls hl => ?_)
  refine lv_iload hx hb (D_21 W_prog_15_method_101_code_96 31 rfl rfl) (lv_at hl 3 rfl) ?_
  refine lv_istore (lv' := [(8, .int (iI l4)), (7, .int (iI s0)), (6, .int (iI l6)), (5, .int (iI l5)), (4, .int (iI l4)), (3, .int (iI l3)), (0, .ref (ad 14 0 0)), (1, .ref (ad 13 l1 0)), (2, .int (iI l2))]) hx hb (D_54 W_prog_15_method_101_code_128 1 rfl rfl) hl (by decide) rfl (fun ls hl => ?_)
  exact b_M_groups_131 X hrec5 hf hZ hS (lv_sub hl [0, 1, 2, 3, 5, 6, 7, 8] rfl)

def f_M_groups_105 (rec5 : Int → Int → Int → Int → zF → zB → zO) (rec61 : Int → Int → Int → Int → Int → Int → Int → zF → zB → zO) (K : Nat) (l7 : Int) (l6 : Int) (l5 : Int) (l4 : Int) (l3 : Int) (l1 : Int) (l2 : Int) (F : zF) (B : zB) : zO := rec61 (l7 + 1) l6 l5 l4 l3 l1 l2 F B
set_option maxHeartbeats 4000000 in
set_option maxRecDepth 100000 in
theorem b_M_groups_105 {D : va_G} {ca : Nat → ClassId} {ad : Nat → Int → Nat → Nat} {L : List Nat} {aS vS : Nat → Nat} {A : Nat → Prop} {p : Program} {l : Launch} {e : Env} {s : State} {m : MethodId} {args : Array Value} {below : List Frame} {meth : Method} {c : Code} {K : Nat} {r : Int} {F9 : zF} {B9 : zB} (X : zX D ca L aS vS A p s m args meth c prog_15_method_101_code 11 (Option.none : Option Jvm.ClassFile.FieldType) "StaveHouseModel") {rec5 : Int → Int → Int → Int → zF → zB → zO} {rec61 : Int → Int → Int → Int → Int → Int → Int → zF → zB → zO} (hrec5 : ∀ {l4 : Int} {l3 : Int} {l1 : Int} {l2 : Int} {F : zF} {B : zB} {H : Heap} {locs : List Loc} {ls : Array Slot}, rec5 l4 l3 l1 l2 F B = some (r, F9, B9) → zH D ca ad lnM nM L F B A H → va_S A s.heap H locs → lv_has ls 11 [(4, .int (iI l4)), (3, .int (iI l3)), (0, .ref (ad 14 0 0)), (1, .ref (ad 13 l1 0)), (2, .int (iI l2))] → W p l e ({ frames := 3, cells := 0, slots := 0, locals := 72 } : Room) s m args below meth c H locs 0 0 (MQ below (Q_M_groups D ca ad L r F9 B9 A) args s 0 0 A) (F0 m 5 ls [])) (hrec61 : ∀ {l7 : Int} {l6 : Int} {l5 : Int} {l4 : Int} {l3 : Int} {l1 : Int} {l2 : Int} {F : zF} {B : zB} {H : Heap} {locs : List Loc} {ls : Array Slot}, rec61 l7 l6 l5 l4 l3 l1 l2 F B = some (r, F9, B9) → zH D ca ad lnM nM L F B A H → va_S A s.heap H locs → lv_has ls 11 [(7, .int (iI l7)), (6, .int (iI l6)), (5, .int (iI l5)), (4, .int (iI l4)), (3, .int (iI l3)), (0, .ref (ad 14 0 0)), (1, .ref (ad 13 l1 0)), (2, .int (iI l2))] → W p l e ({ frames := 3, cells := 0, slots := 0, locals := 72 } : Room) s m args below meth c H locs 0 0 (MQ below (Q_M_groups D ca ad L r F9 B9 A) args s 0 0 A) (F0 m 61 ls [])) {l7 : Int} {l6 : Int} {l5 : Int} {l4 : Int} {l3 : Int} {l1 : Int} {l2 : Int} {F : zF} {B : zB} {H : Heap} {locs : List Loc} {ls : Array Slot} (hf : f_M_groups_105 rec5 rec61 K l7 l6 l5 l4 l3 l1 l2 F B = some (r, F9, B9)) (hZ : zH D ca ad lnM nM L F B A H) (hS : va_S A s.heap H locs) (hl : lv_has ls 11 [(7, .int (iI l7)), (6, .int (iI l6)), (5, .int (iI l5)), (4, .int (iI l4)), (3, .int (iI l3)), (0, .ref (ad 14 0 0)), (1, .ref (ad 13 l1 0)), (2, .int (iI l2))]) : W p l e ({ frames := 3, cells := 0, slots := 0, locals := 72 } : Room) s m args below meth c H locs 0 0 (MQ below (Q_M_groups D ca ad L r F9 B9 A) args s 0 0 A) (F0 m 105 ls []) := by
  obtain ⟨hx, hb, hr, hml, hown, hts, hlk, hK, hA, hL, hX⟩ := id X
  replace hf : (rec61 (l7 + 1) l6 l5 l4 l3 l1 l2 F B) = some (r, F9, B9) := hf
  refine lv_iinc (v := iI (l7 + 1)) (lv' := [(7, .int (iI (l7 + 1))), (6, .int (iI l6)), (5, .int (iI l5)), (4, .int (iI l4)), (3, .int (iI l3)), (0, .ref (ad 14 0 0)), (1, .ref (ad 13 l1 0)), (2, .int (iI l2))]) hx hb d_15_101_105 hl (k := 0) rfl (iI_add _ 1) (by decide) rfl (fun ls hl => ?_)
  refine lv_goto (tgt := 61) hx hb (D_167 W_prog_15_method_101_code_96 12 rfl rfl rfl) (by decide) ?_
  exact hrec61 hf hZ hS (lv_sub hl [0, 1, 2, 3, 4, 5, 6, 7] rfl)

def f_M_groups_61 (rec5 : Int → Int → Int → Int → zF → zB → zO) (K : Nat) : Nat → Int → Int → Int → Int → Int → Int → Int → zF → zB → zO
  | 0, _, _, _, _, _, _, _, _, _ => none
  | n + 1, l7, l6, l5, l4, l3, l1, l2, F, B => if r32 l7 then if r32 l5 then (if l5 ≤ l7 then if r32 (l5 - l4) then (if (l5 - l4) ≤ 1 then f_M_groups_125 rec5 K l6 l5 l4 l3 l1 l2 0 F B else f_M_groups_125 rec5 K l6 l5 l4 l3 l1 l2 1 F B) else none else zbind (f_M_sounding K l1 l2 l7 F B) (fun r19 F19 B19 => if r32 r19 then (if r19 < 0 then f_M_groups_105 rec5 (f_M_groups_61 rec5 K n) K l7 l6 l5 l4 l3 l1 l2 F19 B19 else zbind (f_M_lowest K l1 l2 r19 F19 B19) (fun r22 F22 B22 => zbind (f_M_highest K l1 l2 r19 F22 B22) (fun r23 F23 B23 => f_M_groups_105 rec5 (f_M_groups_61 rec5 K n) K l7 (l6 + ((r22 + r23) - 8)) l5 l4 l3 l1 l2 F23 B23))) else none)) else none else none
set_option maxHeartbeats 4000000 in
set_option maxRecDepth 100000 in
theorem b_M_groups_61 {D : va_G} {ca : Nat → ClassId} {ad : Nat → Int → Nat → Nat} {L : List Nat} {aS vS : Nat → Nat} {A : Nat → Prop} {p : Program} {l : Launch} {e : Env} {s : State} {m : MethodId} {args : Array Value} {below : List Frame} {meth : Method} {c : Code} {K : Nat} {r : Int} {F9 : zF} {B9 : zB} (X : zX D ca L aS vS A p s m args meth c prog_15_method_101_code 11 (Option.none : Option Jvm.ClassFile.FieldType) "StaveHouseModel") {rec5 : Int → Int → Int → Int → zF → zB → zO} (hrec5 : ∀ {l4 : Int} {l3 : Int} {l1 : Int} {l2 : Int} {F : zF} {B : zB} {H : Heap} {locs : List Loc} {ls : Array Slot}, rec5 l4 l3 l1 l2 F B = some (r, F9, B9) → zH D ca ad lnM nM L F B A H → va_S A s.heap H locs → lv_has ls 11 [(4, .int (iI l4)), (3, .int (iI l3)), (0, .ref (ad 14 0 0)), (1, .ref (ad 13 l1 0)), (2, .int (iI l2))] → W p l e ({ frames := 3, cells := 0, slots := 0, locals := 72 } : Room) s m args below meth c H locs 0 0 (MQ below (Q_M_groups D ca ad L r F9 B9 A) args s 0 0 A) (F0 m 5 ls [])) : ∀ {n : Nat} {l7 : Int} {l6 : Int} {l5 : Int} {l4 : Int} {l3 : Int} {l1 : Int} {l2 : Int} {F : zF} {B : zB} {H : Heap} {locs : List Loc} {ls : Array Slot}, f_M_groups_61 rec5 K n l7 l6 l5 l4 l3 l1 l2 F B = some (r, F9, B9) → zH D ca ad lnM nM L F B A H → va_S A s.heap H locs → lv_has ls 11 [(7, .int (iI l7)), (6, .int (iI l6)), (5, .int (iI l5)), (4, .int (iI l4)), (3, .int (iI l3)), (0, .ref (ad 14 0 0)), (1, .ref (ad 13 l1 0)), (2, .int (iI l2))] → W p l e ({ frames := 3, cells := 0, slots := 0, locals := 72 } : Room) s m args below meth c H locs 0 0 (MQ below (Q_M_groups D ca ad L r F9 B9 A) args s 0 0 A) (F0 m 61 ls []) := by
  obtain ⟨hx, hb, hr, hml, hown, hts, hlk, hK, hA, hL, hX⟩ := id X
  intro n
  induction n with
  | zero =>
    intros
    rename_i hf _ _ _
    cases hf
  | succ n ih =>
    intro l7 l6 l5 l4 l3 l1 l2 F B H locs ls hf hZ hS hl
    replace hf : (if r32 l7 then if r32 l5 then (if l5 ≤ l7 then if r32 (l5 - l4) then (if (l5 - l4) ≤ 1 then f_M_groups_125 rec5 K l6 l5 l4 l3 l1 l2 0 F B else f_M_groups_125 rec5 K l6 l5 l4 l3 l1 l2 1 F B) else none else zbind (f_M_sounding K l1 l2 l7 F B) (fun r19 F19 B19 => if r32 r19 then (if r19 < 0 then f_M_groups_105 rec5 (f_M_groups_61 rec5 K n) K l7 l6 l5 l4 l3 l1 l2 F19 B19 else zbind (f_M_lowest K l1 l2 r19 F19 B19) (fun r22 F22 B22 => zbind (f_M_highest K l1 l2 r19 F22 B22) (fun r23 F23 B23 => f_M_groups_105 rec5 (f_M_groups_61 rec5 K n) K l7 (l6 + ((r22 + r23) - 8)) l5 l4 l3 l1 l2 F23 B23))) else none)) else none else none) = some (r, F9, B9) := hf
    refine lv_iload hx hb (D_21 W_prog_15_method_101_code_32 29 rfl rfl) (lv_at hl 0 rfl) ?_
    refine lv_iload hx hb (D_21 W_prog_15_method_101_code_32 31 rfl rfl) (lv_at hl 2 rfl) ?_
    obtain ⟨g14, hf⟩ := gif hf
    obtain ⟨g15, hf⟩ := gif hf
    refine zge (tgt := 111) hx hb g14 g15 (D_162 W_prog_15_method_101_code_64 1 rfl rfl rfl) (by decide) (fun h16 => ?_) (fun h16 => ?_)
    · replace hf := gpos hf h16
      refine lv_iload hx hb (D_21 W_prog_15_method_101_code_96 15 rfl rfl) (lv_at hl 2 rfl) ?_
      refine lv_iload hx hb (D_21 W_prog_15_method_101_code_96 17 rfl rfl) (lv_at hl 3 rfl) ?_
      refine zsub hx hb (D_100 W_prog_15_method_101_code_96 19 rfl rfl) ?_
      refine lv_iconst (v := iI 1) hx hb (D_4 W_prog_15_method_101_code_96 20 rfl rfl) rfl ?_
      obtain ⟨g17, hf⟩ := gif hf
      refine zle (tgt := 124) hx hb g17 (by decide) (D_164 W_prog_15_method_101_code_96 21 rfl rfl rfl) (by decide) (fun h18 => ?_) (fun h18 => ?_)
      · replace hf := gpos hf h18
        refine lv_iconst (v := iI 0) hx hb (D_3 W_prog_15_method_101_code_96 28 rfl rfl) rfl ?_
        exact b_M_groups_125 X hrec5 hf hZ hS (lv_sub hl [1, 2, 3, 4, 5, 6, 7] rfl)
      · replace hf := gneg hf h18
        refine lv_iconst (v := iI 1) hx hb (D_4 W_prog_15_method_101_code_96 24 rfl rfl) rfl ?_
        refine lv_goto (tgt := 125) hx hb (D_167 W_prog_15_method_101_code_96 25 rfl rfl rfl) (by decide) ?_
        exact b_M_groups_125 X hrec5 hf hZ hS (lv_sub hl [1, 2, 3, 4, 5, 6, 7] rfl)
    · replace hf := gneg hf h16
      refine lv_aload_n hx hb (D_43 W_prog_15_method_101_code_64 4 rfl rfl) rfl (lv_at hl 6 rfl) ?_
      refine lv_iload_n hx hb (D_28 W_prog_15_method_101_code_64 5 rfl rfl) rfl (lv_at hl 7 rfl) ?_
      refine lv_iload hx hb (D_21 W_prog_15_method_101_code_64 6 rfl rfl) (lv_at hl 0 rfl) ?_
      obtain ⟨r19, F19, B19, hc19, hf⟩ := gbind hf
      refine va_calli (va_runS (As := [.ref (ad 13 l1 0), .int (iI l2), .int (iI l7)]) (rest := []) ⟨hx, hb, hml, hown, hts⟩ (c_M_sounding (l := l) hc19) (va_cwS 3 hts (gdS k_13_199 k_13_200 k_1_9 k_13_201) rfl rfl rfl (by decide +kernel) ⟨Nat.le_of_ble_eq_true rfl, Nat.le_of_ble_eq_true rfl⟩) (zPS X hZ hS [.ref (ad 13 l1 0), .int (iI l2), .int (iI l7)]) rfl rfl hl.1 rfl (lv_room (Nat.le_of_ble_eq_true rfl)) (D_184 W_prog_15_method_101_code_64 8 rfl rfl rfl) ⟨Nat.le_of_ble_eq_true rfl, Nat.le_of_ble_eq_true rfl⟩) hS (fun q _ h => zAin X hS q h) (zAin X hS) (fun p19 u19 t19 H19 locs19 ht19 hv19 hw19 hB19 hz19 hk19 hS19 => ?_)
      have hZ19 := zBack X ht19 hB19
      subst hw19
      refine lv_istore (lv' := [(8, .int (iI r19)), (7, .int (iI l7)), (6, .int (iI l6)), (5, .int (iI l5)), (4, .int (iI l4)), (3, .int (iI l3)), (0, .ref (ad 14 0 0)), (1, .ref (ad 13 l1 0)), (2, .int (iI l2))]) hx hb (D_54 W_prog_15_method_101_code_64 11 rfl rfl) hl (by decide) rfl (fun ls hl => ?_)
      refine lv_iload hx hb (D_21 W_prog_15_method_101_code_64 13 rfl rfl) (lv_at hl 0 rfl) ?_
      obtain ⟨g20, hf⟩ := gif hf
      refine z0lt (tgt := 105) hx hb g20 (D_155 W_prog_15_method_101_code_64 15 rfl rfl rfl) (by decide) (fun h21 => ?_) (fun h21 => ?_)
      · replace hf := gpos hf h21
        exact b_M_groups_105 X hrec5 ih hf hZ19 hS19 (lv_sub hl [1, 2, 3, 4, 5, 6, 7, 8] rfl)
      · replace hf := gneg hf h21
        refine lv_iload hx hb (D_21 W_prog_15_method_101_code_64 18 rfl rfl) (lv_at hl 2 rfl) ?_
        refine lv_aload_n hx hb (D_43 W_prog_15_method_101_code_64 20 rfl rfl) rfl (lv_at hl 7 rfl) ?_
        refine lv_iload_n hx hb (D_28 W_prog_15_method_101_code_64 21 rfl rfl) rfl (lv_at hl 8 rfl) ?_
        refine lv_iload hx hb (D_21 W_prog_15_method_101_code_64 22 rfl rfl) (lv_at hl 0 rfl) ?_
        obtain ⟨r22, F22, B22, hc22, hf⟩ := gbind hf
        refine va_calli (va_runS (As := [.ref (ad 13 l1 0), .int (iI l2), .int (iI r19)]) (rest := [.int (iI l6)]) ⟨hx, hb, hml, hown, hts⟩ (c_M_lowest (l := l) hc22) (va_cwS 3 hts (gdS k_15_74 k_15_75 k_1_9 k_15_76) rfl rfl rfl (by decide +kernel) ⟨Nat.le_of_ble_eq_true rfl, Nat.le_of_ble_eq_true rfl⟩) (zPS X hZ19 hS19 [.ref (ad 13 l1 0), .int (iI l2), .int (iI r19)]) rfl rfl hl.1 rfl (lv_room (Nat.le_of_ble_eq_true rfl)) (D_184 W_prog_15_method_101_code_64 24 rfl rfl rfl) ⟨Nat.le_of_ble_eq_true rfl, Nat.le_of_ble_eq_true rfl⟩) hS19 (fun q _ h => zAin X hS19 q h) (zAin X hS19) (fun p22 u22 t22 H22 locs22 ht22 hv22 hw22 hB22 hz22 hk22 hS22 => ?_)
        have hZ22 := zBack X ht22 hB22
        subst hw22
        refine lv_aload_n hx hb (D_43 W_prog_15_method_101_code_64 27 rfl rfl) rfl (lv_at hl 7 rfl) ?_
        refine lv_iload_n hx hb (D_28 W_prog_15_method_101_code_64 28 rfl rfl) rfl (lv_at hl 8 rfl) ?_
        refine lv_iload hx hb (D_21 W_prog_15_method_101_code_64 29 rfl rfl) (lv_at hl 0 rfl) ?_
        obtain ⟨r23, F23, B23, hc23, hf⟩ := gbind hf
        refine va_calli (va_runS (As := [.ref (ad 13 l1 0), .int (iI l2), .int (iI r19)]) (rest := [.int (iI r22), .int (iI l6)]) ⟨hx, hb, hml, hown, hts⟩ (c_M_highest (l := l) hc23) (va_cwS 3 hts (gdS k_15_68 k_15_69 k_1_9 k_15_70) rfl rfl rfl (by decide +kernel) ⟨Nat.le_of_ble_eq_true rfl, Nat.le_of_ble_eq_true rfl⟩) (zPS X hZ22 hS22 [.ref (ad 13 l1 0), .int (iI l2), .int (iI r19)]) rfl rfl hl.1 rfl (lv_room (Nat.le_of_ble_eq_true rfl)) (D_184 W_prog_15_method_101_code_64 31 rfl rfl rfl) ⟨Nat.le_of_ble_eq_true rfl, Nat.le_of_ble_eq_true rfl⟩) hS22 (fun q _ h => zAin X hS22 q h) (zAin X hS22) (fun p23 u23 t23 H23 locs23 ht23 hv23 hw23 hB23 hz23 hk23 hS23 => ?_)
        have hZ23 := zBack X ht23 hB23
        subst hw23
        refine zadd hx hb (D_96 W_prog_15_method_101_code_96 2 rfl rfl) ?_
        refine lv_bipush (v := iI 8) hx hb (D_16 W_prog_15_method_101_code_96 3 rfl rfl rfl) (by decide) ?_
        refine zsub hx hb (D_100 W_prog_15_method_101_code_96 5 rfl rfl) ?_
        refine zadd hx hb (D_96 W_prog_15_method_101_code_96 6 rfl rfl) ?_
        refine lv_istore (lv' := [(6, .int (iI (l6 + ((r22 + r23) - 8)))), (8, .int (iI r19)), (7, .int (iI l7)), (5, .int (iI l5)), (4, .int (iI l4)), (3, .int (iI l3)), (0, .ref (ad 14 0 0)), (1, .ref (ad 13 l1 0)), (2, .int (iI l2))]) hx hb (D_54 W_prog_15_method_101_code_96 7 rfl rfl) hl (by decide) rfl (fun ls hl => ?_)
        exact b_M_groups_105 X hrec5 ih hf hZ23 hS23 (lv_sub hl [2, 0, 3, 4, 5, 6, 7, 8] rfl)

def f_M_groups_54 (rec5 : Int → Int → Int → Int → zF → zB → zO) (K : Nat) (l5 : Int) (l4 : Int) (l3 : Int) (l1 : Int) (l2 : Int) (F : zF) (B : zB) : zO := f_M_groups_61 rec5 K K l4 0 l5 l4 l3 l1 l2 F B
set_option maxHeartbeats 4000000 in
set_option maxRecDepth 100000 in
theorem b_M_groups_54 {D : va_G} {ca : Nat → ClassId} {ad : Nat → Int → Nat → Nat} {L : List Nat} {aS vS : Nat → Nat} {A : Nat → Prop} {p : Program} {l : Launch} {e : Env} {s : State} {m : MethodId} {args : Array Value} {below : List Frame} {meth : Method} {c : Code} {K : Nat} {r : Int} {F9 : zF} {B9 : zB} (X : zX D ca L aS vS A p s m args meth c prog_15_method_101_code 11 (Option.none : Option Jvm.ClassFile.FieldType) "StaveHouseModel") {rec5 : Int → Int → Int → Int → zF → zB → zO} (hrec5 : ∀ {l4 : Int} {l3 : Int} {l1 : Int} {l2 : Int} {F : zF} {B : zB} {H : Heap} {locs : List Loc} {ls : Array Slot}, rec5 l4 l3 l1 l2 F B = some (r, F9, B9) → zH D ca ad lnM nM L F B A H → va_S A s.heap H locs → lv_has ls 11 [(4, .int (iI l4)), (3, .int (iI l3)), (0, .ref (ad 14 0 0)), (1, .ref (ad 13 l1 0)), (2, .int (iI l2))] → W p l e ({ frames := 3, cells := 0, slots := 0, locals := 72 } : Room) s m args below meth c H locs 0 0 (MQ below (Q_M_groups D ca ad L r F9 B9 A) args s 0 0 A) (F0 m 5 ls [])) {l5 : Int} {l4 : Int} {l3 : Int} {l1 : Int} {l2 : Int} {F : zF} {B : zB} {H : Heap} {locs : List Loc} {ls : Array Slot} (hf : f_M_groups_54 rec5 K l5 l4 l3 l1 l2 F B = some (r, F9, B9)) (hZ : zH D ca ad lnM nM L F B A H) (hS : va_S A s.heap H locs) (hl : lv_has ls 11 [(5, .int (iI l5)), (4, .int (iI l4)), (3, .int (iI l3)), (0, .ref (ad 14 0 0)), (1, .ref (ad 13 l1 0)), (2, .int (iI l2))]) : W p l e ({ frames := 3, cells := 0, slots := 0, locals := 72 } : Room) s m args below meth c H locs 0 0 (MQ below (Q_M_groups D ca ad L r F9 B9 A) args s 0 0 A) (F0 m 54 ls []) := by
  obtain ⟨hx, hb, hr, hml, hown, hts, hlk, hK, hA, hL, hX⟩ := id X
  replace hf : (f_M_groups_61 rec5 K K l4 0 l5 l4 l3 l1 l2 F B) = some (r, F9, B9) := hf
  refine lv_iconst (v := iI 0) hx hb (D_3 W_prog_15_method_101_code_32 22 rfl rfl) rfl ?_
  refine lv_istore (lv' := [(6, .int (iI 0)), (5, .int (iI l5)), (4, .int (iI l4)), (3, .int (iI l3)), (0, .ref (ad 14 0 0)), (1, .ref (ad 13 l1 0)), (2, .int (iI l2))]) hx hb (D_54 W_prog_15_method_101_code_32 23 rfl rfl) hl (by decide) rfl (fun ls hl => ?_)
  refine lv_iload hx hb (D_21 W_prog_15_method_101_code_32 25 rfl rfl) (lv_at hl 2 rfl) ?_
  refine lv_istore (lv' := [(7, .int (iI l4)), (6, .int (iI 0)), (5, .int (iI l5)), (4, .int (iI l4)), (3, .int (iI l3)), (0, .ref (ad 14 0 0)), (1, .ref (ad 13 l1 0)), (2, .int (iI l2))]) hx hb (D_54 W_prog_15_method_101_code_32 27 rfl rfl) hl (by decide) rfl (fun ls hl => ?_)
  exact b_M_groups_61 X hrec5 hf hZ hS (lv_sub hl [0, 1, 2, 3, 4, 5, 6, 7] rfl)

def f_M_groups_22 (rec5 : Int → Int → Int → Int → zF → zB → zO) (K : Nat) : Nat → Int → Int → Int → Int → Int → zF → zB → zO
  | 0, _, _, _, _, _, _, _ => none
  | n + 1, l5, l4, l3, l1, l2, F, B => if 0 ≤ l1 ∧ l1 < 3 then if 0 ≤ l2 ∧ l2 < 4 then if r32 l5 then if r32 (B 13 l1 13 l2) then (if (B 13 l1 13 l2) ≤ l5 then f_M_groups_54 rec5 K l5 l4 l3 l1 l2 F B else zbind (f_M_isTogether K l1 l2 (l5 - 1) l5 F B) (fun r11 F11 B11 => if r32 r11 then (if r11 = 0 then f_M_groups_54 rec5 K l5 l4 l3 l1 l2 F11 B11 else f_M_groups_22 rec5 K n (l5 + 1) l4 l3 l1 l2 F11 B11) else none)) else none else none else none else none
set_option maxHeartbeats 4000000 in
set_option maxRecDepth 100000 in
theorem b_M_groups_22 {D : va_G} {ca : Nat → ClassId} {ad : Nat → Int → Nat → Nat} {L : List Nat} {aS vS : Nat → Nat} {A : Nat → Prop} {p : Program} {l : Launch} {e : Env} {s : State} {m : MethodId} {args : Array Value} {below : List Frame} {meth : Method} {c : Code} {K : Nat} {r : Int} {F9 : zF} {B9 : zB} (X : zX D ca L aS vS A p s m args meth c prog_15_method_101_code 11 (Option.none : Option Jvm.ClassFile.FieldType) "StaveHouseModel") {rec5 : Int → Int → Int → Int → zF → zB → zO} (hrec5 : ∀ {l4 : Int} {l3 : Int} {l1 : Int} {l2 : Int} {F : zF} {B : zB} {H : Heap} {locs : List Loc} {ls : Array Slot}, rec5 l4 l3 l1 l2 F B = some (r, F9, B9) → zH D ca ad lnM nM L F B A H → va_S A s.heap H locs → lv_has ls 11 [(4, .int (iI l4)), (3, .int (iI l3)), (0, .ref (ad 14 0 0)), (1, .ref (ad 13 l1 0)), (2, .int (iI l2))] → W p l e ({ frames := 3, cells := 0, slots := 0, locals := 72 } : Room) s m args below meth c H locs 0 0 (MQ below (Q_M_groups D ca ad L r F9 B9 A) args s 0 0 A) (F0 m 5 ls [])) : ∀ {n : Nat} {l5 : Int} {l4 : Int} {l3 : Int} {l1 : Int} {l2 : Int} {F : zF} {B : zB} {H : Heap} {locs : List Loc} {ls : Array Slot}, f_M_groups_22 rec5 K n l5 l4 l3 l1 l2 F B = some (r, F9, B9) → zH D ca ad lnM nM L F B A H → va_S A s.heap H locs → lv_has ls 11 [(5, .int (iI l5)), (4, .int (iI l4)), (3, .int (iI l3)), (0, .ref (ad 14 0 0)), (1, .ref (ad 13 l1 0)), (2, .int (iI l2))] → W p l e ({ frames := 3, cells := 0, slots := 0, locals := 72 } : Room) s m args below meth c H locs 0 0 (MQ below (Q_M_groups D ca ad L r F9 B9 A) args s 0 0 A) (F0 m 22 ls []) := by
  obtain ⟨hx, hb, hr, hml, hown, hts, hlk, hK, hA, hL, hX⟩ := id X
  intro n
  induction n with
  | zero =>
    intros
    rename_i hf _ _ _
    cases hf
  | succ n ih =>
    intro l5 l4 l3 l1 l2 F B H locs ls hf hZ hS hl
    replace hf : (if 0 ≤ l1 ∧ l1 < 3 then if 0 ≤ l2 ∧ l2 < 4 then if r32 l5 then if r32 (B 13 l1 13 l2) then (if (B 13 l1 13 l2) ≤ l5 then f_M_groups_54 rec5 K l5 l4 l3 l1 l2 F B else zbind (f_M_isTogether K l1 l2 (l5 - 1) l5 F B) (fun r11 F11 B11 => if r32 r11 then (if r11 = 0 then f_M_groups_54 rec5 K l5 l4 l3 l1 l2 F11 B11 else f_M_groups_22 rec5 K n (l5 + 1) l4 l3 l1 l2 F11 B11) else none)) else none else none else none else none) = some (r, F9, B9) := hf
    refine lv_iload hx hb (D_21 W_prog_15_method_101_code_0 22 rfl rfl) (lv_at hl 0 rfl) ?_
    refine lv_aload_n hx hb (D_43 W_prog_15_method_101_code_0 24 rfl rfl) rfl (lv_at hl 4 rfl) ?_
    obtain ⟨g6, hf⟩ := gif hf
    refine zget (ci := 13) (C := RX13) (T := TX13) (v := .ref (ad 13 l1 (13 + 1))) (k := 13) hx hb hts inW_13 hown hK hZ g6.1 g6.2 rfl (by decide) k_9_144 rfl (D_180 W_prog_15_method_101_code_0 25 rfl rfl rfl) ?_
    refine lv_iload_n hx hb (D_28 W_prog_15_method_101_code_0 28 rfl rfl) rfl (lv_at hl 5 rfl) ?_
    obtain ⟨g7, hf⟩ := gif hf
    refine zald (ci := 13) (k := 13) hx hb hK rfl hZ g6.1 g6.2 rfl (Nat.le_of_ble_eq_true rfl) g7.1 g7.2 (D_46 W_prog_15_method_101_code_0 29 rfl rfl) ?_
    obtain ⟨g8, hf⟩ := gif hf
    obtain ⟨g9, hf⟩ := gif hf
    refine zge (tgt := 54) hx hb g8 g9 (D_162 W_prog_15_method_101_code_0 30 rfl rfl rfl) (by decide) (fun h10 => ?_) (fun h10 => ?_)
    · replace hf := gpos hf h10
      exact b_M_groups_54 X hrec5 hf hZ hS (lv_sub hl [0, 1, 2, 3, 4, 5] rfl)
    · replace hf := gneg hf h10
      refine lv_aload_n hx hb (D_42 W_prog_15_method_101_code_32 1 rfl rfl) rfl (lv_at hl 3 rfl) ?_
      refine lv_aload_n hx hb (D_43 W_prog_15_method_101_code_32 2 rfl rfl) rfl (lv_at hl 4 rfl) ?_
      refine lv_iload_n hx hb (D_28 W_prog_15_method_101_code_32 3 rfl rfl) rfl (lv_at hl 5 rfl) ?_
      refine lv_iload hx hb (D_21 W_prog_15_method_101_code_32 4 rfl rfl) (lv_at hl 0 rfl) ?_
      refine lv_iconst (v := iI 1) hx hb (D_4 W_prog_15_method_101_code_32 6 rfl rfl) rfl ?_
      refine zsub hx hb (D_100 W_prog_15_method_101_code_32 7 rfl rfl) ?_
      refine lv_iload hx hb (D_21 W_prog_15_method_101_code_32 8 rfl rfl) (lv_at hl 0 rfl) ?_
      obtain ⟨r11, F11, B11, hc11, hf⟩ := gbind hf
      refine va_calli (va_runV (As := [.ref (ad 13 l1 0), .int (iI l2), .int (iI (l5 - 1)), .int (iI l5)]) (rest := []) ⟨hx, hb, hml, hown, hts⟩ (c_M_isTogether (l := l) hc11) (cwV 4 hts (gdV k_15_81 k_15_83 ks_246 k_1_9 k_15_84) rfl rfl rfl (by decide +kernel) ⟨Nat.le_of_ble_eq_true rfl, Nat.le_of_ble_eq_true rfl⟩) (zPV X hZ hS (ci := 14) (by decide) (by decide) (r := (RX14, TX14, 107)) rfl [.ref (ad 13 l1 0), .int (iI l2), .int (iI (l5 - 1)), .int (iI l5)]) rfl rfl hl.1 rfl (lv_room (Nat.le_of_ble_eq_true rfl)) (D_182 W_prog_15_method_101_code_32 10 rfl rfl rfl) ⟨Nat.le_of_ble_eq_true rfl, Nat.le_of_ble_eq_true rfl⟩) hS (fun q _ h => zAin X hS q h) (zAin X hS) (fun p11 u11 t11 H11 locs11 ht11 hv11 hw11 hB11 hz11 hk11 hS11 => ?_)
      have hZ11 := zBack X ht11 hB11
      subst hw11
      obtain ⟨g12, hf⟩ := gif hf
      refine z0eq (tgt := 54) hx hb g12 (D_153 W_prog_15_method_101_code_32 13 rfl rfl rfl) (by decide) (fun h13 => ?_) (fun h13 => ?_)
      · replace hf := gpos hf h13
        exact b_M_groups_54 X hrec5 hf hZ11 hS11 (lv_sub hl [0, 1, 2, 3, 4, 5] rfl)
      · replace hf := gneg hf h13
        refine lv_iinc (v := iI (l5 + 1)) (lv' := [(5, .int (iI (l5 + 1))), (4, .int (iI l4)), (3, .int (iI l3)), (0, .ref (ad 14 0 0)), (1, .ref (ad 13 l1 0)), (2, .int (iI l2))]) hx hb d_15_101_48 hl (k := 0) rfl (iI_add _ 1) (by decide) rfl (fun ls hl => ?_)
        refine lv_goto (tgt := 22) hx hb (D_167 W_prog_15_method_101_code_32 19 rfl rfl rfl) (by decide) ?_
        exact ih hf hZ11 hS11 (lv_sub hl [0, 1, 2, 3, 4, 5] rfl)

def f_M_groups_5 (K : Nat) : Nat → Int → Int → Int → Int → zF → zB → zO
  | 0, _, _, _, _, _, _ => none
  | n + 1, l4, l3, l1, l2, F, B => if 0 ≤ l1 ∧ l1 < 3 then if 0 ≤ l2 ∧ l2 < 4 then if r32 l4 then if r32 (B 13 l1 13 l2) then (if (B 13 l1 13 l2) ≤ l4 then some (0, F, B) else f_M_groups_22 (f_M_groups_5 K n) K K (l4 + 1) l4 l3 l1 l2 F B) else none else none else none else none
set_option maxHeartbeats 4000000 in
set_option maxRecDepth 100000 in
theorem b_M_groups_5 {D : va_G} {ca : Nat → ClassId} {ad : Nat → Int → Nat → Nat} {L : List Nat} {aS vS : Nat → Nat} {A : Nat → Prop} {p : Program} {l : Launch} {e : Env} {s : State} {m : MethodId} {args : Array Value} {below : List Frame} {meth : Method} {c : Code} {K : Nat} {r : Int} {F9 : zF} {B9 : zB} (X : zX D ca L aS vS A p s m args meth c prog_15_method_101_code 11 (Option.none : Option Jvm.ClassFile.FieldType) "StaveHouseModel") : ∀ {n : Nat} {l4 : Int} {l3 : Int} {l1 : Int} {l2 : Int} {F : zF} {B : zB} {H : Heap} {locs : List Loc} {ls : Array Slot}, f_M_groups_5 K n l4 l3 l1 l2 F B = some (r, F9, B9) → zH D ca ad lnM nM L F B A H → va_S A s.heap H locs → lv_has ls 11 [(4, .int (iI l4)), (3, .int (iI l3)), (0, .ref (ad 14 0 0)), (1, .ref (ad 13 l1 0)), (2, .int (iI l2))] → W p l e ({ frames := 3, cells := 0, slots := 0, locals := 72 } : Room) s m args below meth c H locs 0 0 (MQ below (Q_M_groups D ca ad L r F9 B9 A) args s 0 0 A) (F0 m 5 ls []) := by
  obtain ⟨hx, hb, hr, hml, hown, hts, hlk, hK, hA, hL, hX⟩ := id X
  intro n
  induction n with
  | zero =>
    intros
    rename_i hf _ _ _
    cases hf
  | succ n ih =>
    intro l4 l3 l1 l2 F B H locs ls hf hZ hS hl
    replace hf : (if 0 ≤ l1 ∧ l1 < 3 then if 0 ≤ l2 ∧ l2 < 4 then if r32 l4 then if r32 (B 13 l1 13 l2) then (if (B 13 l1 13 l2) ≤ l4 then some (0, F, B) else f_M_groups_22 (f_M_groups_5 K n) K K (l4 + 1) l4 l3 l1 l2 F B) else none else none else none else none) = some (r, F9, B9) := hf
    refine lv_iload hx hb (D_21 W_prog_15_method_101_code_0 5 rfl rfl) (lv_at hl 0 rfl) ?_
    refine lv_aload_n hx hb (D_43 W_prog_15_method_101_code_0 7 rfl rfl) rfl (lv_at hl 3 rfl) ?_
    obtain ⟨g1, hf⟩ := gif hf
    refine zget (ci := 13) (C := RX13) (T := TX13) (v := .ref (ad 13 l1 (13 + 1))) (k := 13) hx hb hts inW_13 hown hK hZ g1.1 g1.2 rfl (by decide) k_9_144 rfl (D_180 W_prog_15_method_101_code_0 8 rfl rfl rfl) ?_
    refine lv_iload_n hx hb (D_28 W_prog_15_method_101_code_0 11 rfl rfl) rfl (lv_at hl 4 rfl) ?_
    obtain ⟨g2, hf⟩ := gif hf
    refine zald (ci := 13) (k := 13) hx hb hK rfl hZ g1.1 g1.2 rfl (Nat.le_of_ble_eq_true rfl) g2.1 g2.2 (D_46 W_prog_15_method_101_code_0 12 rfl rfl) ?_
    obtain ⟨g3, hf⟩ := gif hf
    obtain ⟨g4, hf⟩ := gif hf
    refine zge (tgt := 299) hx hb g3 g4 (D_162 W_prog_15_method_101_code_0 13 rfl rfl rfl) (by decide) (fun h5 => ?_) (fun h5 => ?_)
    · replace hf := gpos hf h5
      cases hf
      exact W.vret hx hb hr (fun t ht hW => ⟨⟨(), rfl, trivial, by rw [ht]; exact hZ, va_K.moved hW.alike hK⟩, hS.F ht⟩) hS.2.2 (D_177 W_prog_15_method_101_code_288 11 rfl rfl) hlk
    · replace hf := gneg hf h5
      refine lv_iload hx hb (D_21 W_prog_15_method_101_code_0 16 rfl rfl) (lv_at hl 0 rfl) ?_
      refine lv_iconst (v := iI 1) hx hb (D_4 W_prog_15_method_101_code_0 18 rfl rfl) rfl ?_
      refine zadd hx hb (D_96 W_prog_15_method_101_code_0 19 rfl rfl) ?_
      refine lv_istore (lv' := [(5, .int (iI (l4 + 1))), (4, .int (iI l4)), (3, .int (iI l3)), (0, .ref (ad 14 0 0)), (1, .ref (ad 13 l1 0)), (2, .int (iI l2))]) hx hb (D_54 W_prog_15_method_101_code_0 20 rfl rfl) hl (by decide) rfl (fun ls hl => ?_)
      exact b_M_groups_22 X ih hf hZ hS (lv_sub hl [0, 1, 2, 3, 4, 5] rfl)

def f_M_groups (K : Nat) (l1 : Int) (l2 : Int) (F : zF) (B : zB) : zO := f_M_groups_5 K K 0 0 l1 l2 F B
set_option maxHeartbeats 4000000 in
set_option maxRecDepth 100000 in
theorem c_M_groups {l : Launch} {D : va_G} {ca : Nat → ClassId} {ad : Nat → Int → Nat → Nat} {L : List Nat} {aS vS : Nat → Nat} {sz K : Nat}  {l1 : Int} {l2 : Int} {F F9 : zF} {B B9 : zB} {r : Int} (hf : f_M_groups K l1 l2 F B = some (r, F9, B9)) : Met l ({ cls := "StaveHouseModel", name := "groups", desc := "(LStaveHouseModel$Piece;I)V" } : Jvm.MethodName) (Cond.code ({ cls := "StaveHouseModel", name := "groups", desc := "(LStaveHouseModel$Piece;I)V" } : Jvm.MethodName) prog_15_method_101_code 11 (Option.none : Option Jvm.ClassFile.FieldType) :: wAll) ({ frames := 3, cells := 0, slots := 0, locals := 72 } : Room) (va_Pc [.ref (ad 14 0 0), .ref (ad 13 l1 0), .int (iI l2)] (zPre D ca ad lnM nM L aS vS F B sz)) (Q_M_groups D ca ad L r F9 B9 (zA L sz)) 0 0 (zA L sz) := by
  refine zMet (Qc := Q_M_groups D ca ad L r F9 B9) (lv := [(0, .ref (ad 14 0 0)), (1, .ref (ad 13 l1 0)), (2, .int (iI l2))]) (by decide) (Nat.le_of_ble_eq_true rfl) rfl (fun A p e s m below meth c ls X hZ hS hl => ?_)
  obtain ⟨hx, hb, hr, hml, hown, hts, hlk, hK, hA, hL, hX⟩ := id X
  replace hf : (f_M_groups_5 K K 0 0 l1 l2 F B) = some (r, F9, B9) := hf
  refine lv_iconst (v := iI 0) hx hb (D_3 W_prog_15_method_101_code_0 0 rfl rfl) rfl ?_
  refine lv_istore_n (lv' := [(3, .int (iI 0)), (0, .ref (ad 14 0 0)), (1, .ref (ad 13 l1 0)), (2, .int (iI l2))]) hx hb (D_62 W_prog_15_method_101_code_0 1 rfl rfl) rfl hl (by decide) rfl (fun ls hl => ?_)
  refine lv_iconst (v := iI 0) hx hb (D_3 W_prog_15_method_101_code_0 2 rfl rfl) rfl ?_
  refine lv_istore (lv' := [(4, .int (iI 0)), (3, .int (iI 0)), (0, .ref (ad 14 0 0)), (1, .ref (ad 13 l1 0)), (2, .int (iI l2))]) hx hb (D_54 W_prog_15_method_101_code_0 3 rfl rfl) hl (by decide) rfl (fun ls hl => ?_)
  exact b_M_groups_5 X hf hZ hS (lv_sub hl [0, 1, 2, 3, 4] rfl)

