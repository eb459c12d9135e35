theorem k_9_150 : (Jvm.Cond.fieldLink "StaveHouseModel" (527 : Nat) "StaveHouseModel$Piece" "lengthUp" "[J") ∈ wAll := wA_9 (j := 150) rfl rfl
theorem k_9_152 : (Jvm.Cond.fieldLink "StaveHouseModel" (530 : Nat) "StaveHouseModel$Piece" "lengthDown" "[J") ∈ wAll := wA_9 (j := 152) rfl rfl
theorem k_13_155 : (Jvm.Cond.methodLink "StaveHouseModel" (739 : Nat) ({ cls := "StaveHouseModel", name := "times", desc := "(JJJJ)V" } : Jvm.MethodName)) ∈ wAll := wA_13 (j := 155) rfl rfl
theorem k_13_157 : (Jvm.Cond.instanceMethod ({ cls := "StaveHouseModel", name := "times", desc := "(JJJJ)V" } : Jvm.MethodName)) ∈ wAll := wA_13 (j := 157) rfl rfl
theorem ks_179 : (Jvm.Cond.selects "StaveHouseModel" ({ cls := "StaveHouseModel", name := "times", desc := "(JJJJ)V" } : Jvm.MethodName) ({ cls := "StaveHouseModel", name := "times", desc := "(JJJJ)V" } : Jvm.MethodName)) ∈ wAll := wA_s (j := 179) rfl rfl
theorem k_13_158 : (Jvm.Cond.code ({ cls := "StaveHouseModel", name := "times", desc := "(JJJJ)V" } : Jvm.MethodName) prog_15_method_5_code (13 : Nat) (Option.none : Option Jvm.ClassFile.FieldType)) ∈ wAll := wA_13 (j := 158) rfl rfl
theorem k_11_5 : (Jvm.Cond.fieldLink "StaveHouseModel" (48 : Nat) "StaveHouseModel" "kind" "[I") ∈ wAll := wA_11 (j := 5) rfl rfl
theorem k_11_14 : (Jvm.Cond.fieldLink "StaveHouseModel" (362 : Nat) "StaveHouseModel" "t" "I") ∈ wAll := wA_11 (j := 14) rfl rfl
theorem k_11_9 : (Jvm.Cond.fieldLink "StaveHouseModel" (61 : Nat) "StaveHouseModel" "word" "[J") ∈ wAll := wA_11 (j := 9) rfl rfl
theorem k_11_6 : (Jvm.Cond.fieldLink "StaveHouseModel" (52 : Nat) "StaveHouseModel" "at" "[I") ∈ wAll := wA_11 (j := 6) rfl rfl
theorem k_11_7 : (Jvm.Cond.fieldLink "StaveHouseModel" (55 : Nat) "StaveHouseModel" "value" "[I") ∈ wAll := wA_11 (j := 7) rfl rfl
theorem k_14_136 : (Jvm.Cond.methodLink "StaveHouseModel" (380 : Nat) ({ cls := "StaveHouseModel", name := "isSign", desc := "(I)Z" } : Jvm.MethodName)) ∈ wAll := wA_14 (j := 136) rfl rfl
theorem k_14_138 : (Jvm.Cond.instanceMethod ({ cls := "StaveHouseModel", name := "isSign", desc := "(I)Z" } : Jvm.MethodName)) ∈ wAll := wA_14 (j := 138) rfl rfl
theorem ks_206 : (Jvm.Cond.selects "StaveHouseModel" ({ cls := "StaveHouseModel", name := "isSign", desc := "(I)Z" } : Jvm.MethodName) ({ cls := "StaveHouseModel", name := "isSign", desc := "(I)Z" } : Jvm.MethodName)) ∈ wAll := wA_s (j := 206) rfl rfl
theorem k_14_139 : (Jvm.Cond.code ({ cls := "StaveHouseModel", name := "isSign", desc := "(I)Z" } : Jvm.MethodName) prog_15_method_32_code (2 : Nat) (Option.some Jvm.ClassFile.FieldType.boolean)) ∈ wAll := wA_14 (j := 139) rfl rfl
theorem k_11_35 : (Jvm.Cond.fieldLink "StaveHouseModel" (488 : Nat) "StaveHouseModel" "items" "I") ∈ wAll := wA_11 (j := 35) rfl rfl
theorem k_14_132 : (Jvm.Cond.methodLink "StaveHouseModel" (365 : Nat) ({ cls := "StaveHouseModel", name := "failAt", desc := "(II)V" } : Jvm.MethodName)) ∈ wAll := wA_14 (j := 132) rfl rfl
theorem k_14_134 : (Jvm.Cond.instanceMethod ({ cls := "StaveHouseModel", name := "failAt", desc := "(II)V" } : Jvm.MethodName)) ∈ wAll := wA_14 (j := 134) rfl rfl
theorem ks_205 : (Jvm.Cond.selects "StaveHouseModel" ({ cls := "StaveHouseModel", name := "failAt", desc := "(II)V" } : Jvm.MethodName) ({ cls := "StaveHouseModel", name := "failAt", desc := "(II)V" } : Jvm.MethodName)) ∈ wAll := wA_s (j := 205) rfl rfl
theorem k_14_135 : (Jvm.Cond.code ({ cls := "StaveHouseModel", name := "failAt", desc := "(II)V" } : Jvm.MethodName) prog_15_method_29_code (3 : Nat) (Option.none : Option Jvm.ClassFile.FieldType)) ∈ wAll := wA_14 (j := 135) rfl rfl
theorem k_11_31 : (Jvm.Cond.fieldLink "StaveHouseModel" (168 : Nat) "StaveHouseModel" "lengthPoints" "[I") ∈ wAll := wA_11 (j := 31) rfl rfl
theorem k_11_49 : (Jvm.Cond.fieldLink "StaveHouseModel" (190 : Nat) "StaveHouseModel" "powers" "[I") ∈ wAll := wA_11 (j := 49) rfl rfl
theorem k_11_30 : (Jvm.Cond.fieldLink "StaveHouseModel" (165 : Nat) "StaveHouseModel" "lengthNumber" "[I") ∈ wAll := wA_11 (j := 30) rfl rfl
theorem k_11_8 : (Jvm.Cond.fieldLink "StaveHouseModel" (58 : Nat) "StaveHouseModel" "altered" "[I") ∈ wAll := wA_11 (j := 8) rfl rfl
theorem k_11_43 : (Jvm.Cond.fieldLink "StaveHouseModel" (503 : Nat) "StaveHouseModel" "changes" "I") ∈ wAll := wA_11 (j := 43) rfl rfl
theorem k_11_4 : (Jvm.Cond.fieldLink "StaveHouseModel" (44 : Nat) "StaveHouseModel" "work" "LStaveHouseModel$Piece;") ∈ wAll := wA_11 (j := 4) rfl rfl
theorem k_11_40 : (Jvm.Cond.fieldLink "StaveHouseModel" (174 : Nat) "StaveHouseModel" "mirrors" "[Z") ∈ wAll := wA_11 (j := 40) rfl rfl
theorem k_11_41 : (Jvm.Cond.fieldLink "StaveHouseModel" (178 : Nat) "StaveHouseModel" "steps" "[I") ∈ wAll := wA_11 (j := 41) rfl rfl
theorem k_11_42 : (Jvm.Cond.fieldLink "StaveHouseModel" (181 : Nat) "StaveHouseModel" "tones" "[I") ∈ wAll := wA_11 (j := 42) rfl rfl
theorem k_13_15 : (Jvm.Cond.methodLink "StaveHouseModel" (376 : Nat) ({ cls := "StaveHouseModel", name := "good", desc := "()Z" } : Jvm.MethodName)) ∈ wAll := wA_13 (j := 15) rfl rfl
theorem k_13_17 : (Jvm.Cond.instanceMethod ({ cls := "StaveHouseModel", name := "good", desc := "()Z" } : Jvm.MethodName)) ∈ wAll := wA_13 (j := 17) rfl rfl
theorem ks_152 : (Jvm.Cond.selects "StaveHouseModel" ({ cls := "StaveHouseModel", name := "good", desc := "()Z" } : Jvm.MethodName) ({ cls := "StaveHouseModel", name := "good", desc := "()Z" } : Jvm.MethodName)) ∈ wAll := wA_s (j := 152) rfl rfl
theorem k_13_18 : (Jvm.Cond.code ({ cls := "StaveHouseModel", name := "good", desc := "()Z" } : Jvm.MethodName) prog_15_method_28_code (1 : Nat) (Option.some Jvm.ClassFile.FieldType.boolean)) ∈ wAll := wA_13 (j := 18) rfl rfl
theorem k_9_168 : (Jvm.Cond.fieldLink "StaveHouseModel" (610 : Nat) "StaveHouseModel$Piece" "outer" "[I") ∈ wAll := wA_9 (j := 168) rfl rfl
theorem k_12_132 : (Jvm.Cond.methodLink "StaveHouseModel" (634 : Nat) ({ cls := "StaveHouseModel", name := "has", desc := "(LStaveHouseModel$Piece;III)I" } : Jvm.MethodName)) ∈ wAll := wA_12 (j := 132) rfl rfl
theorem k_12_133 : (Jvm.Cond.static ({ cls := "StaveHouseModel", name := "has", desc := "(LStaveHouseModel$Piece;III)I" } : Jvm.MethodName)) ∈ wAll := wA_12 (j := 133) rfl rfl
theorem k_12_134 : (Jvm.Cond.code ({ cls := "StaveHouseModel", name := "has", desc := "(LStaveHouseModel$Piece;III)I" } : Jvm.MethodName) prog_15_method_71_code (5 : Nat) (Option.some Jvm.ClassFile.FieldType.int)) ∈ wAll := wA_12 (j := 134) rfl rfl
theorem k_13_199 : (Jvm.Cond.methodLink "StaveHouseModel" (778 : Nat) ({ cls := "StaveHouseModel", name := "sounding", desc := "(LStaveHouseModel$Piece;II)I" } : Jvm.MethodName)) ∈ wAll := wA_13 (j := 199) rfl rfl
theorem k_13_200 : (Jvm.Cond.static ({ cls := "StaveHouseModel", name := "sounding", desc := "(LStaveHouseModel$Piece;II)I" } : Jvm.MethodName)) ∈ wAll := wA_13 (j := 200) rfl rfl
theorem k_13_201 : (Jvm.Cond.code ({ cls := "StaveHouseModel", name := "sounding", desc := "(LStaveHouseModel$Piece;II)I" } : Jvm.MethodName) prog_15_method_90_code (4 : Nat) (Option.some Jvm.ClassFile.FieldType.int)) ∈ wAll := wA_13 (j := 201) rfl rfl
theorem k_9_190 : (Jvm.Cond.fieldLink "StaveHouseModel" (781 : Nat) "StaveHouseModel$Piece" "held" "[I") ∈ wAll := wA_9 (j := 190) rfl rfl
theorem W_prog_15_method_197_code_0 : chW prog_15_method_197_code 0 [42, 180, 2, 86, 27, 46, 154, 0, 7, 4, 167, 0, 4, 3, 44, 180, 2, 86, 29, 46, 154, 0, 7, 4, 167, 0, 4, 3, 160, 0, 7, 4, 167, 0, 4, 3] := chW_of (by decide +kernel)
theorem W_prog_15_method_197_code_32 : chW prog_15_method_197_code 32 [167, 0, 4, 3, 172] := chW_of (by decide +kernel)
theorem W_prog_15_method_201_code_0 : chW prog_15_method_201_code 0 [21, 7, 154, 0, 45, 43, 180, 2, 15, 29, 47, 25, 4, 180, 2, 15, 21, 6, 47, 148, 154, 0, 25, 43, 180, 2, 18, 29, 47, 25, 4, 180, 2, 18, 21, 6] := chW_of (by decide +kernel)
theorem W_prog_15_method_201_code_32 : chW prog_15_method_201_code 32 [2, 18, 21, 6, 47, 148, 154, 0, 7, 4, 167, 0, 4, 3, 172, 42, 25, 4, 180, 2, 15, 21, 5, 47, 25, 4, 180, 2, 18, 21, 5, 47, 43, 180, 2, 18] := chW_of (by decide +kernel)
theorem W_prog_15_method_201_code_64 : chW prog_15_method_201_code 64 [43, 180, 2, 18, 28, 47, 43, 180, 2, 15, 28, 47, 182, 2, 227, 42, 180, 0, 9, 55, 8, 42, 180, 0, 13, 55, 10, 42, 43, 180, 2, 15, 29, 47, 43, 180] := chW_of (by decide +kernel)
theorem W_prog_15_method_201_code_96 : chW prog_15_method_201_code 96 [29, 47, 43, 180, 2, 18, 29, 47, 22, 8, 22, 10, 182, 2, 227, 42, 180, 0, 9, 25, 4, 180, 2, 15, 21, 6, 47, 148, 154, 0, 23, 42, 180, 0, 13, 25] := chW_of (by decide +kernel)
theorem W_prog_15_method_201_code_128 : chW prog_15_method_201_code 128 [180, 0, 13, 25, 4, 180, 2, 18, 21, 6, 47, 148, 154, 0, 7, 4, 167, 0, 4, 3, 172] := chW_of (by decide +kernel)
theorem W_prog_15_method_20_code_0 : chW prog_15_method_20_code 0 [26, 16, 97, 161, 0, 13, 26, 16, 122, 163, 0, 7, 4, 167, 0, 4, 3, 172] := chW_of (by decide +kernel)
theorem W_prog_15_method_21_code_0 : chW prog_15_method_21_code 0 [26, 16, 48, 161, 0, 13, 26, 16, 57, 163, 0, 7, 4, 167, 0, 4, 3, 172] := chW_of (by decide +kernel)
theorem W_prog_15_method_23_code_0 : chW prog_15_method_23_code 0 [3, 61, 3, 62, 29, 42, 182, 1, 67, 162, 0, 28, 28, 154, 0, 12, 42, 29, 182, 1, 73, 27, 160, 0, 7, 4, 167, 0, 4, 3, 61, 132, 3, 1, 167, 255] := chW_of (by decide +kernel)
theorem W_prog_15_method_23_code_32 : chW prog_15_method_23_code 32 [3, 1, 167, 255, 226, 28, 172] := chW_of (by decide +kernel)
theorem d_15_23_31 : decode prog_15_method_23_code 31 = .ok (.iinc 3 1, 3) := D_132 W_prog_15_method_23_code_0 31 rfl rfl rfl
theorem W_prog_15_method_33_code_0 : chW prog_15_method_33_code 0 [42, 180, 0, 48, 42, 180, 1, 106, 46, 7, 160, 0, 21, 42, 180, 0, 61, 42, 180, 1, 106, 47, 31, 148, 154, 0, 7, 4, 167, 0, 4, 3, 172] := chW_of (by decide +kernel)
theorem W_prog_15_method_33_code_32 : chW prog_15_method_33_code 32 [172] := chW_of (by decide +kernel)
theorem W_prog_15_method_29_code_0 : chW prog_15_method_29_code 0 [42, 180, 1, 100, 158, 0, 4, 177, 42, 27, 181, 1, 100, 42, 42, 180, 0, 52, 28, 46, 181, 1, 103, 177] := chW_of (by decide +kernel)
theorem W_prog_15_method_32_code_0 : chW prog_15_method_32_code 0 [42, 180, 0, 48, 42, 180, 1, 106, 46, 8, 160, 0, 20, 42, 180, 0, 55, 42, 180, 1, 106, 46, 27, 160, 0, 7, 4, 167, 0, 4, 3, 172] := chW_of (by decide +kernel)
theorem W_prog_15_method_34_code_0 : chW prog_15_method_34_code 0 [3, 54, 4, 21, 4, 27, 162, 0, 21, 42, 21, 4, 47, 32, 148, 154, 0, 6, 21, 4, 172, 132, 4, 1, 167, 255, 235, 2, 172] := chW_of (by decide +kernel)
theorem d_15_34_21 : decode prog_15_method_34_code 21 = .ok (.iinc 4 1, 3) := D_132 W_prog_15_method_34_code_0 21 rfl rfl rfl
theorem W_prog_15_method_51_code_0 : chW prog_15_method_51_code 0 [42, 16, 126, 182, 1, 124, 153, 0, 5, 4, 172, 42, 16, 40, 182, 1, 124, 153, 0, 5, 5, 172, 42, 16, 41, 182, 1, 124, 153, 0, 5, 7, 172, 42, 16, 39] := chW_of (by decide +kernel)
theorem W_prog_15_method_51_code_32 : chW prog_15_method_51_code 32 [172, 42, 16, 39, 182, 1, 124, 153, 0, 6, 16, 8, 172, 42, 16, 94, 182, 1, 124, 153, 0, 6, 16, 16, 172, 42, 16, 45, 182, 1, 124, 153, 0, 6, 16, 32] := chW_of (by decide +kernel)
theorem W_prog_15_method_51_code_64 : chW prog_15_method_51_code 64 [0, 6, 16, 32, 172, 42, 16, 37, 182, 1, 124, 153, 0, 8, 16, 64, 167, 0, 4, 3, 172] := chW_of (by decide +kernel)
theorem W_prog_15_method_55_code_0 : chW prog_15_method_55_code 0 [42, 180, 1, 232, 17, 19, 136, 160, 0, 13, 42, 16, 8, 27, 182, 1, 109, 167, 0, 13, 42, 89, 180, 1, 232, 4, 96, 181, 1, 232, 177] := chW_of (by decide +kernel)
theorem W_prog_15_method_67_code_0 : chW prog_15_method_67_code 0 [42, 180, 0, 168, 27, 46, 154, 0, 7, 4, 167, 0, 19, 42, 180, 0, 168, 27, 46, 4, 160, 0, 7, 6, 167, 0, 5, 16, 7, 61, 42, 180, 0, 190, 5, 46] := chW_of (by decide +kernel)
theorem W_prog_15_method_67_code_32 : chW prog_15_method_67_code 32 [0, 190, 5, 46, 16, 7, 96, 42, 180, 0, 168, 27, 46, 100, 62, 42, 180, 0, 165, 27, 46, 54, 4, 21, 4, 4, 164, 0, 15, 132, 3, 255, 21, 4, 5, 108] := chW_of (by decide +kernel)
theorem W_prog_15_method_67_code_64 : chW prog_15_method_67_code 64 [21, 4, 5, 108, 54, 4, 167, 255, 241, 42, 180, 0, 190, 6, 46, 28, 6, 160, 0, 7, 4, 167, 0, 4, 3, 96, 54, 4, 42, 180, 0, 190, 16, 7, 46, 28] := chW_of (by decide +kernel)
theorem d_15_67_61 : decode prog_15_method_67_code 61 = .ok (.iinc 3 (-1), 3) := D_132 W_prog_15_method_67_code_32 29 rfl rfl rfl
theorem W_prog_15_method_67_code_96 : chW prog_15_method_67_code 96 [16, 7, 46, 28, 16, 7, 160, 0, 7, 4, 167, 0, 4, 3, 96, 54, 5, 29, 155, 0, 22, 21, 4, 155, 0, 17, 42, 180, 0, 190, 8, 46, 155, 0, 8, 21] := chW_of (by decide +kernel)
theorem W_prog_15_method_67_code_128 : chW prog_15_method_67_code 128 [155, 0, 8, 21, 5, 156, 0, 5, 2, 172, 4, 54, 6, 3, 54, 7, 21, 7, 29, 162, 0, 23, 21, 6, 17, 4, 0, 163, 0, 15, 21, 6, 5, 104, 54, 6] := chW_of (by decide +kernel)
theorem W_prog_15_method_67_code_160 : chW prog_15_method_67_code 160 [5, 104, 54, 6, 132, 7, 1, 167, 255, 233, 3, 54, 7, 21, 7, 21, 4, 162, 0, 23, 21, 6, 17, 4, 0, 163, 0, 15, 21, 6, 6, 104, 54, 6, 132, 7] := chW_of (by decide +kernel)
theorem d_15_67_164 : decode prog_15_method_67_code 164 = .ok (.iinc 7 1, 3) := D_132 W_prog_15_method_67_code_160 4 rfl rfl rfl
theorem W_prog_15_method_67_code_192 : chW prog_15_method_67_code 192 [54, 6, 132, 7, 1, 167, 255, 232, 3, 54, 7, 21, 7, 42, 180, 0, 190, 8, 46, 162, 0, 23, 21, 6, 17, 4, 0, 163, 0, 15, 21, 6, 8, 104, 54, 6] := chW_of (by decide +kernel)
theorem d_15_67_194 : decode prog_15_method_67_code 194 = .ok (.iinc 7 1, 3) := D_132 W_prog_15_method_67_code_192 2 rfl rfl rfl
theorem W_prog_15_method_67_code_224 : chW prog_15_method_67_code 224 [8, 104, 54, 6, 132, 7, 1, 167, 255, 228, 3, 54, 7, 21, 7, 21, 5, 162, 0, 24, 21, 6, 17, 4, 0, 163, 0, 16, 21, 6, 16, 7, 104, 54, 6, 132] := chW_of (by decide +kernel)
theorem d_15_67_228 : decode prog_15_method_67_code 228 = .ok (.iinc 7 1, 3) := D_132 W_prog_15_method_67_code_224 4 rfl rfl rfl
theorem W_prog_15_method_67_code_256 : chW prog_15_method_67_code 256 [104, 54, 6, 132, 7, 1, 167, 255, 231, 21, 6, 17, 4, 0, 164, 0, 7, 2, 167, 0, 5, 21, 6, 172] := chW_of (by decide +kernel)
theorem d_15_67_259 : decode prog_15_method_67_code 259 = .ok (.iinc 7 1, 3) := D_132 W_prog_15_method_67_code_256 3 rfl rfl rfl
theorem W_prog_15_method_69_code_0 : chW prog_15_method_69_code 0 [27, 4, 96, 61, 42, 180, 0, 48, 28, 46, 5, 160, 0, 9, 132, 2, 1, 167, 255, 243, 28, 172] := chW_of (by decide +kernel)
theorem d_15_69_14 : decode prog_15_method_69_code 14 = .ok (.iinc 2 1, 3) := D_132 W_prog_15_method_69_code_0 14 rfl rfl rfl
theorem W_prog_15_method_70_code_0 : chW prog_15_method_70_code 0 [42, 180, 0, 55, 28, 46, 62, 42, 180, 0, 55, 28, 46, 42, 180, 0, 58, 28, 46, 184, 2, 63, 54, 4, 42, 180, 1, 247, 4, 100, 54, 5, 21, 5, 155, 0] := chW_of (by decide +kernel)
theorem W_prog_15_method_70_code_32 : chW prog_15_method_70_code 32 [21, 5, 155, 0, 126, 42, 180, 0, 174, 21, 5, 51, 153, 0, 17, 5, 42, 180, 0, 178, 21, 5, 46, 104, 29, 100, 167, 0, 12, 29, 42, 180, 0, 178, 21, 5] := chW_of (by decide +kernel)
theorem W_prog_15_method_70_code_160 : chW prog_15_method_70_code 160 [16, 6, 27, 104, 54, 5, 21, 5, 42, 180, 0, 44, 180, 2, 86, 27, 46, 96, 54, 6, 21, 5, 54, 7, 21, 7, 21, 6, 162, 0, 30, 42, 180, 0, 44, 180] := chW_of (by decide +kernel)
theorem W_prog_15_method_70_code_64 : chW prog_15_method_70_code 64 [0, 178, 21, 5, 46, 96, 62, 42, 180, 0, 174, 21, 5, 51, 153, 0, 18, 5, 42, 180, 0, 181, 21, 5, 46, 104, 21, 4, 100, 167, 0, 13, 21, 4, 42, 180] := chW_of (by decide +kernel)
theorem W_prog_15_method_70_code_96 : chW prog_15_method_70_code 96 [21, 4, 42, 180, 0, 181, 21, 5, 46, 96, 54, 4, 29, 155, 0, 9, 29, 16, 62, 164, 0, 8, 16, 9, 167, 0, 11, 21, 4, 29, 3, 184, 2, 63, 100, 54] := chW_of (by decide +kernel)
theorem W_prog_15_method_70_code_128 : chW prog_15_method_70_code 128 [2, 63, 100, 54, 6, 21, 6, 16, 254, 161, 0, 9, 21, 6, 5, 164, 0, 11, 42, 16, 9, 28, 182, 1, 109, 177, 132, 5, 255, 167, 255, 131, 16, 6, 27, 104] := chW_of (by decide +kernel)
theorem d_15_70_154 : decode prog_15_method_70_code 154 = .ok (.iinc 5 (-1), 3) := D_132 W_prog_15_method_70_code_128 26 rfl rfl rfl
theorem W_prog_15_method_70_code_192 : chW prog_15_method_70_code 192 [180, 0, 44, 180, 2, 103, 21, 7, 46, 29, 160, 0, 10, 42, 16, 9, 28, 182, 1, 109, 132, 7, 1, 167, 255, 225, 42, 182, 1, 120, 154, 0, 4, 177, 21, 6] := chW_of (by decide +kernel)
theorem W_prog_15_method_70_code_224 : chW prog_15_method_70_code 224 [4, 177, 21, 6, 21, 5, 164, 0, 69, 42, 180, 0, 44, 180, 2, 103, 21, 6, 4, 100, 46, 29, 164, 0, 53, 42, 180, 0, 44, 180, 2, 103, 21, 6, 42, 180] := chW_of (by decide +kernel)
theorem d_15_70_212 : decode prog_15_method_70_code 212 = .ok (.iinc 7 1, 3) := D_132 W_prog_15_method_70_code_192 20 rfl rfl rfl
theorem W_prog_15_method_70_code_256 : chW prog_15_method_70_code 256 [21, 6, 42, 180, 0, 44, 180, 2, 103, 21, 6, 4, 100, 46, 79, 42, 180, 0, 44, 180, 2, 106, 21, 6, 42, 180, 0, 44, 180, 2, 106, 21, 6, 4, 100, 46] := chW_of (by decide +kernel)
theorem W_prog_15_method_70_code_288 : chW prog_15_method_70_code 288 [6, 4, 100, 46, 79, 132, 6, 255, 167, 255, 186, 42, 180, 0, 44, 180, 2, 103, 21, 6, 29, 79, 42, 180, 0, 44, 180, 2, 106, 21, 6, 21, 4, 29, 3, 184] := chW_of (by decide +kernel)
theorem d_15_70_293 : decode prog_15_method_70_code 293 = .ok (.iinc 6 (-1), 3) := D_132 W_prog_15_method_70_code_288 5 rfl rfl rfl
theorem W_prog_15_method_70_code_320 : chW prog_15_method_70_code 320 [4, 29, 3, 184, 2, 63, 100, 79, 42, 180, 0, 44, 180, 2, 86, 27, 92, 46, 4, 96, 79, 177] := chW_of (by decide +kernel)
theorem W_prog_15_method_65_code_0 : chW prog_15_method_65_code 0 [42, 27, 47, 66, 42, 27, 42, 28, 47, 80, 42, 28, 33, 80, 177] := chW_of (by decide +kernel)
theorem W_prog_15_method_64_code_0 : chW prog_15_method_64_code 0 [42, 27, 46, 62, 42, 27, 42, 28, 46, 79, 42, 28, 29, 79, 177] := chW_of (by decide +kernel)
theorem W_prog_15_method_62_code_0 : chW prog_15_method_62_code 0 [27, 62, 5, 54, 4, 21, 4, 16, 8, 162, 0, 35, 29, 21, 4, 112, 154, 0, 22, 42, 180, 0, 190, 21, 4, 92, 46, 28, 96, 79, 29, 21, 4, 108, 62, 167] := chW_of (by decide +kernel)
theorem W_prog_15_method_62_code_32 : chW prog_15_method_62_code 32 [4, 108, 62, 167, 255, 233, 132, 4, 1, 167, 255, 220, 177] := chW_of (by decide +kernel)
theorem d_15_62_38 : decode prog_15_method_62_code 38 = .ok (.iinc 4 1, 3) := D_132 W_prog_15_method_62_code_32 6 rfl rfl rfl
theorem W_prog_15_method_74_code_0 : chW prog_15_method_74_code 0 [27, 62, 29, 4, 96, 28, 162, 0, 26, 42, 180, 2, 98, 29, 4, 96, 46, 42, 180, 2, 98, 27, 46, 160, 0, 9, 132, 3, 1, 167, 255, 229, 29, 172] := chW_of (by decide +kernel)
theorem d_15_74_26 : decode prog_15_method_74_code 26 = .ok (.iinc 3 1, 3) := D_132 W_prog_15_method_74_code_0 26 rfl rfl rfl
theorem W_prog_15_method_74_code_32 : chW prog_15_method_74_code 32 [29, 172] := chW_of (by decide +kernel)
theorem W_prog_15_method_72_code_0 : chW prog_15_method_72_code 0 [3, 62, 3, 54, 4, 21, 4, 42, 180, 2, 86, 27, 46, 162, 0, 51, 29, 154, 0, 35, 42, 28, 42, 180, 2, 103, 16, 6, 27, 104, 21, 4, 96, 46, 42, 180] := chW_of (by decide +kernel)
theorem W_prog_15_method_72_code_64 : chW prog_15_method_72_code 64 [29, 172] := chW_of (by decide +kernel)
theorem W_prog_15_method_72_code_32 : chW prog_15_method_72_code 32 [96, 46, 42, 180, 2, 106, 16, 6, 27, 104, 21, 4, 96, 46, 184, 2, 122, 155, 0, 7, 4, 167, 0, 4, 3, 62, 132, 4, 1, 167, 255, 200, 29, 172] := chW_of (by decide +kernel)
theorem d_15_72_58 : decode prog_15_method_72_code 58 = .ok (.iinc 4 1, 3) := D_132 W_prog_15_method_72_code_32 26 rfl rfl rfl
theorem W_prog_15_method_92_code_0 : chW prog_15_method_92_code 0 [3, 62, 29, 43, 180, 2, 211, 28, 46, 162, 0, 193, 17, 3, 32, 28, 104, 29, 96, 54, 4, 43, 28, 29, 184, 3, 10, 54, 5, 43, 180, 3, 13, 21, 4, 3] := chW_of (by decide +kernel)
theorem W_prog_15_method_92_code_192 : chW prog_15_method_92_code 192 [1, 167, 255, 168, 132, 3, 1, 167, 255, 59, 177] := chW_of (by decide +kernel)
theorem W_prog_15_method_92_code_32 : chW prog_15_method_92_code 32 [13, 21, 4, 3, 79, 21, 5, 156, 0, 6, 167, 0, 154, 29, 4, 96, 43, 180, 2, 211, 28, 46, 162, 0, 26, 43, 180, 2, 234, 21, 4, 4, 96, 46, 43, 180] := chW_of (by decide +kernel)
theorem W_prog_15_method_92_code_64 : chW prog_15_method_92_code 64 [96, 46, 43, 180, 2, 234, 21, 4, 46, 160, 0, 7, 4, 167, 0, 4, 3, 54, 6, 43, 180, 2, 72, 21, 5, 46, 4, 126, 158, 0, 7, 4, 167, 0, 4, 3] := chW_of (by decide +kernel)
theorem d_15_92_196 : decode prog_15_method_92_code 196 = .ok (.iinc 3 1, 3) := D_132 W_prog_15_method_92_code_192 4 rfl rfl rfl
theorem W_prog_15_method_92_code_96 : chW prog_15_method_92_code 96 [167, 0, 4, 3, 54, 7, 3, 54, 8, 21, 8, 43, 180, 2, 86, 21, 5, 46, 162, 0, 82, 21, 7, 153, 0, 44, 43, 21, 5, 4, 96, 43, 180, 2, 103, 16] := chW_of (by decide +kernel)
theorem W_prog_15_method_92_code_128 : chW prog_15_method_92_code 128 [180, 2, 103, 16, 6, 21, 5, 104, 21, 8, 96, 46, 43, 180, 2, 106, 16, 6, 21, 5, 104, 21, 8, 96, 46, 184, 2, 122, 155, 0, 7, 4, 167, 0, 4, 3] := chW_of (by decide +kernel)
theorem W_prog_15_method_92_code_160 : chW prog_15_method_92_code 160 [167, 0, 4, 3, 54, 9, 21, 6, 154, 0, 8, 21, 9, 153, 0, 17, 43, 180, 3, 13, 21, 4, 92, 46, 4, 21, 8, 120, 128, 79, 132, 8, 1, 167, 255, 168] := chW_of (by decide +kernel)
theorem d_15_92_190 : decode prog_15_method_92_code 190 = .ok (.iinc 8 1, 3) := D_132 W_prog_15_method_92_code_160 30 rfl rfl rfl
abbrev Q_M_isLike (D : va_G) (ca : Nat → ClassId) (ad : Nat → Int → Nat → Nat) (L : List Nat) (r : Int) (F : zF) (B : zB) (A : Nat → Prop) : Array Value → State → Outcome → State → Prop := va_Qi (S := Unit) (fun p _ => p = iI r) (fun _ => zPo D ca ad lnM nM L F B A) A
def f_M_isLike_36 (K : Nat) (s0 : Int) (F : zF) (B : zB) : zO := if (s0 = 0 ∨ s0 = 1) then some (s0, F, B) else none
set_option maxHeartbeats 4000000 in
set_option maxRecDepth 100000 in
theorem b_M_isLike_36 {D : va_G} {ca : Nat → ClassId} {ad : Nat → Int → Nat → Nat} {L : List Nat} {aS vS : Nat → Nat} {A : Nat → Prop} {p : Program} {l : Launch} {e : Env} {s : State} {m : MethodId} {args : Array Value} {below : List Frame} {meth : Method} {c : Code} {K : Nat} {r : Int} {F9 : zF} {B9 : zB} (X : zX D ca L aS vS A p s m args meth c prog_15_method_197_code 4 (Option.some Jvm.ClassFile.FieldType.boolean) "StaveHouseModel") {s0 : Int} {F : zF} {B : zB} {H : Heap} {locs : List Loc} {ls : Array Slot} (hf : f_M_isLike_36 K s0 F B = some (r, F9, B9)) (hZ : zH D ca ad lnM nM L F B A H) (hS : va_S A s.heap H locs) (hl : lv_has ls 4 []) : W p l e ({ frames := 0, cells := 0, slots := 0, locals := 0 } : Room) s m args below meth c H locs 0 0 (MQ below (Q_M_isLike D ca ad L r F9 B9 A) args s 0 0 A) (F0 m 36 ls [.int (iI s0)]) := by
  obtain ⟨hx, hb, hr, hml, hown, hts, hlk, hK, hA, hL, hX⟩ := id X
  replace hf : (if (s0 = 0 ∨ s0 = 1) then some (s0, F, B) else none) = some (r, F9, B9) := hf
  obtain ⟨g12, hf⟩ := gif hf
  cases hf
  exact W.zret hx hb hr (zbool g12) (fun t ht hW => ⟨⟨_, (), rfl, rfl, by rw [ht]; exact hZ, va_K.moved hW.alike hK⟩, hS.F ht⟩) hS.2.2 (D_172 W_prog_15_method_197_code_32 4 rfl rfl) hlk

def f_M_isLike_28 (K : Nat) (s0 : Int) (s1 : Int) (F : zF) (B : zB) : zO := if r32 s0 then if r32 s1 then (if s0 = s1 then f_M_isLike_36 K 1 F B else f_M_isLike_36 K 0 F B) else none else none
set_option maxHeartbeats 4000000 in
set_option maxRecDepth 100000 in
theorem b_M_isLike_28 {D : va_G} {ca : Nat → ClassId} {ad : Nat → Int → Nat → Nat} {L : List Nat} {aS vS : Nat → Nat} {A : Nat → Prop} {p : Program} {l : Launch} {e : Env} {s : State} {m : MethodId} {args : Array Value} {below : List Frame} {meth : Method} {c : Code} {K : Nat} {r : Int} {F9 : zF} {B9 : zB} (X : zX D ca L aS vS A p s m args meth c prog_15_method_197_code 4 (Option.some Jvm.ClassFile.FieldType.boolean) "StaveHouseModel") {s0 : Int} {s1 : Int} {F : zF} {B : zB} {H : Heap} {locs : List Loc} {ls : Array Slot} (hf : f_M_isLike_28 K s0 s1 F B = some (r, F9, B9)) (hZ : zH D ca ad lnM nM L F B A H) (hS : va_S A s.heap H locs) (hl : lv_has ls 4 []) : W p l e ({ frames := 0, cells := 0, slots := 0, locals := 0 } : Room) s m args below meth c H locs 0 0 (MQ below (Q_M_isLike D ca ad L r F9 B9 A) args s 0 0 A) (F0 m 28 ls [.int (iI s1), .int (iI s0)]) := by
  obtain ⟨hx, hb, hr, hml, hown, hts, hlk, hK, hA, hL, hX⟩ := id X
  replace hf : (if r32 s0 then if r32 s1 then (if s0 = s1 then f_M_isLike_36 K 1 F B else f_M_isLike_36 K 0 F B) else none else none) = some (r, F9, B9) := hf
  obtain ⟨g9, hf⟩ := gif hf
  obtain ⟨g10, hf⟩ := gif hf
  refine zne (tgt := 35) hx hb g9 g10 (D_160 W_prog_15_method_197_code_0 28 rfl rfl rfl) (by decide) (fun h11 => ?_) (fun h11 => ?_)
  · replace hf := gneg hf h11
    refine lv_iconst (v := iI 0) hx hb (D_3 W_prog_15_method_197_code_32 3 rfl rfl) rfl ?_
    exact b_M_isLike_36 X hf hZ hS (lv_sub hl [] rfl)
  · replace hf := gpos hf h11
    refine lv_iconst (v := iI 1) hx hb (D_4 W_prog_15_method_197_code_0 31 rfl rfl) rfl ?_
    refine lv_goto (tgt := 36) hx hb (D_167 W_prog_15_method_197_code_32 0 rfl rfl rfl) (by decide) ?_
    exact b_M_isLike_36 X hf hZ hS (lv_sub hl [] rfl)

def f_M_isLike_14 (K : Nat) (l2 : Int) (l3 : Int) (s0 : Int) (F : zF) (B : zB) : zO := if 0 ≤ l2 ∧ l2 < 3 then if 0 ≤ l3 ∧ l3 < 4000 then if r32 (B 13 l2 21 l3) then (if (B 13 l2 21 l3) = 0 then f_M_isLike_28 K s0 1 F B else f_M_isLike_28 K s0 0 F B) else none else none else none
set_option maxHeartbeats 4000000 in
set_option maxRecDepth 100000 in
theorem b_M_isLike_14 {D : va_G} {ca : Nat → ClassId} {ad : Nat → Int → Nat → Nat} {L : List Nat} {aS vS : Nat → Nat} {A : Nat → Prop} {p : Program} {l : Launch} {e : Env} {s : State} {m : MethodId} {args : Array Value} {below : List Frame} {meth : Method} {c : Code} {K : Nat} {r : Int} {F9 : zF} {B9 : zB} (X : zX D ca L aS vS A p s m args meth c prog_15_method_197_code 4 (Option.some Jvm.ClassFile.FieldType.boolean) "StaveHouseModel") {l2 : Int} {l3 : Int} {s0 : Int} {F : zF} {B : zB} {H : Heap} {locs : List Loc} {ls : Array Slot} (hf : f_M_isLike_14 K l2 l3 s0 F B = some (r, F9, B9)) (hZ : zH D ca ad lnM nM L F B A H) (hS : va_S A s.heap H locs) (hl : lv_has ls 4 [(2, .ref (ad 13 l2 0)), (3, .int (iI l3))]) : W p l e ({ frames := 0, cells := 0, slots := 0, locals := 0 } : Room) s m args below meth c H locs 0 0 (MQ below (Q_M_isLike D ca ad L r F9 B9 A) args s 0 0 A) (F0 m 14 ls [.int (iI s0)]) := by
  obtain ⟨hx, hb, hr, hml, hown, hts, hlk, hK, hA, hL, hX⟩ := id X
  replace hf : (if 0 ≤ l2 ∧ l2 < 3 then if 0 ≤ l3 ∧ l3 < 4000 then if r32 (B 13 l2 21 l3) then (if (B 13 l2 21 l3) = 0 then f_M_isLike_28 K s0 1 F B else f_M_isLike_28 K s0 0 F B) else none else none else none) = some (r, F9, B9) := hf
  refine lv_aload_n hx hb (D_44 W_prog_15_method_197_code_0 14 rfl rfl) rfl (lv_at hl 0 rfl) ?_
  obtain ⟨g5, hf⟩ := gif hf
  refine zget (ci := 13) (C := RX13) (T := TX13) (v := .ref (ad 13 l2 (21 + 1))) (k := 21) hx hb hts inW_13 hown hK hZ g5.1 g5.2 rfl (by decide) k_9_160 rfl (D_180 W_prog_15_method_197_code_0 15 rfl rfl rfl) ?_
  refine lv_iload_n hx hb (D_29 W_prog_15_method_197_code_0 18 rfl rfl) rfl (lv_at hl 1 rfl) ?_
  obtain ⟨g6, hf⟩ := gif hf
  refine zald (ci := 13) (k := 21) hx hb hK rfl hZ g5.1 g5.2 rfl (Nat.le_of_ble_eq_true rfl) g6.1 g6.2 (D_46 W_prog_15_method_197_code_0 19 rfl rfl) ?_
  obtain ⟨g7, hf⟩ := gif hf
  refine z0ne (tgt := 27) hx hb g7 (D_154 W_prog_15_method_197_code_0 20 rfl rfl rfl) (by decide) (fun h8 => ?_) (fun h8 => ?_)
  · replace hf := gneg hf h8
    refine lv_iconst (v := iI 0) hx hb (D_3 W_prog_15_method_197_code_0 27 rfl rfl) rfl ?_
    exact b_M_isLike_28 X hf hZ hS (lv_sub hl [] rfl)
  · replace hf := gpos hf h8
    refine lv_iconst (v := iI 1) hx hb (D_4 W_prog_15_method_197_code_0 23 rfl rfl) rfl ?_
    refine lv_goto (tgt := 28) hx hb (D_167 W_prog_15_method_197_code_0 24 rfl rfl rfl) (by decide) ?_
    exact b_M_isLike_28 X hf hZ hS (lv_sub hl [] rfl)

def f_M_isLike (K : Nat) (l0 : Int) (l1 : Int) (l2 : Int) (l3 : Int) (F : zF) (B : zB) : zO := if 0 ≤ l0 ∧ l0 < 3 then if 0 ≤ l1 ∧ l1 < 4000 then if r32 (B 13 l0 21 l1) then (if (B 13 l0 21 l1) = 0 then f_M_isLike_14 K l2 l3 1 F B else f_M_isLike_14 K l2 l3 0 F B) else none else none else none
set_option maxHeartbeats 4000000 in
set_option maxRecDepth 100000 in
theorem c_M_isLike {l : Launch} {D : va_G} {ca : Nat → ClassId} {ad : Nat → Int → Nat → Nat} {L : List Nat} {aS vS : Nat → Nat} {sz K : Nat}  {l0 : Int} {l1 : Int} {l2 : Int} {l3 : Int} {F F9 : zF} {B B9 : zB} {r : Int} (hf : f_M_isLike K l0 l1 l2 l3 F B = some (r, F9, B9)) : Met l ({ cls := "StaveHouseModel", name := "isLike", desc := "(LStaveHouseModel$Piece;ILStaveHouseModel$Piece;I)Z" } : Jvm.MethodName) (Cond.code ({ cls := "StaveHouseModel", name := "isLike", desc := "(LStaveHouseModel$Piece;ILStaveHouseModel$Piece;I)Z" } : Jvm.MethodName) prog_15_method_197_code 4 (Option.some Jvm.ClassFile.FieldType.boolean) :: wAll) ({ frames := 0, cells := 0, slots := 0, locals := 0 } : Room) (va_Pc [.ref (ad 13 l0 0), .int (iI l1), .ref (ad 13 l2 0), .int (iI l3)] (zPre D ca ad lnM nM L aS vS F B sz)) (Q_M_isLike D ca ad L r F9 B9 (zA L sz)) 0 0 (zA L sz) := by
  refine zMet (Qc := Q_M_isLike D ca ad L r F9 B9) (lv := [(0, .ref (ad 13 l0 0)), (1, .int (iI l1)), (2, .ref (ad 13 l2 0)), (3, .int (iI l3))]) (by decide) (Nat.le_of_ble_eq_true rfl) rfl (fun A p e s m below meth c ls X hZ hS hl => ?_)
  obtain ⟨hx, hb, hr, hml, hown, hts, hlk, hK, hA, hL, hX⟩ := id X
  replace hf : (if 0 ≤ l0 ∧ l0 < 3 then if 0 ≤ l1 ∧ l1 < 4000 then if r32 (B 13 l0 21 l1) then (if (B 13 l0 21 l1) = 0 then f_M_isLike_14 K l2 l3 1 F B else f_M_isLike_14 K l2 l3 0 F B) else none else none else none) = some (r, F9, B9) := hf
  refine lv_aload_n hx hb (D_42 W_prog_15_method_197_code_0 0 rfl rfl) rfl (lv_at hl 0 rfl) ?_
  obtain ⟨g1, hf⟩ := gif hf
  refine zget (ci := 13) (C := RX13) (T := TX13) (v := .ref (ad 13 l0 (21 + 1))) (k := 21) hx hb hts inW_13 hown hK hZ g1.1 g1.2 rfl (by decide) k_9_160 rfl (D_180 W_prog_15_method_197_code_0 1 rfl rfl rfl) ?_
  refine lv_iload_n hx hb (D_27 W_prog_15_method_197_code_0 4 rfl rfl) rfl (lv_at hl 1 rfl) ?_
  obtain ⟨g2, hf⟩ := gif hf
  refine zald (ci := 13) (k := 21) hx hb hK rfl hZ g1.1 g1.2 rfl (Nat.le_of_ble_eq_true rfl) g2.1 g2.2 (D_46 W_prog_15_method_197_code_0 5 rfl rfl) ?_
  obtain ⟨g3, hf⟩ := gif hf
  refine z0ne (tgt := 13) hx hb g3 (D_154 W_prog_15_method_197_code_0 6 rfl rfl rfl) (by decide) (fun h4 => ?_) (fun h4 => ?_)
  · replace hf := gneg hf h4
    refine lv_iconst (v := iI 0) hx hb (D_3 W_prog_15_method_197_code_0 13 rfl rfl) rfl ?_
    exact b_M_isLike_14 X hf hZ hS (lv_sub hl [2, 3] rfl)
  · replace hf := gpos hf h4
    refine lv_iconst (v := iI 1) hx hb (D_4 W_prog_15_method_197_code_0 9 rfl rfl) rfl ?_
    refine lv_goto (tgt := 14) hx hb (D_167 W_prog_15_method_197_code_0 10 rfl rfl rfl) (by decide) ?_
    exact b_M_isLike_14 X hf hZ hS (lv_sub hl [2, 3] rfl)

abbrev Q_M_isLength (D : va_G) (ca : Nat → ClassId) (ad : Nat → Int → Nat → Nat) (L : List Nat) (r : Int) (F : zF) (B : zB) (A : Nat → Prop) : Array Value → State → Outcome → State → Prop := va_Qi (S := Unit) (fun p _ => p = iI r) (fun _ => zPo D ca ad lnM nM L F B A) A
def f_M_isLength_148 (K : Nat) (s0 : Int) (F : zF) (B : zB) : zO := if (s0 = 0 ∨ s0 = 1) then some (s0, F, B) else none
set_option maxHeartbeats 4000000 in
set_option maxRecDepth 100000 in
theorem b_M_isLength_148 {D : va_G} {ca : Nat → ClassId} {ad : Nat → Int → Nat → Nat} {L : List Nat} {aS vS : Nat → Nat} {A : Nat → Prop} {p : Program} {l : Launch} {e : Env} {s : State} {m : MethodId} {args : Array Value} {below : List Frame} {meth : Method} {c : Code} {K : Nat} {r : Int} {F9 : zF} {B9 : zB} (X : zX D ca L aS vS A p s m args meth c prog_15_method_201_code 12 (Option.some Jvm.ClassFile.FieldType.boolean) "StaveHouseModel") {s0 : Int} {F : zF} {B : zB} {H : Heap} {locs : List Loc} {ls : Array Slot} (hf : f_M_isLength_148 K s0 F B = some (r, F9, B9)) (hZ : zH D ca ad lnM nM L F B A H) (hS : va_S A s.heap H locs) (hl : lv_has ls 12 []) : W p l e ({ frames := 3, cells := 0, slots := 0, locals := 87 } : Room) s m args below meth c H locs 0 0 (MQ below (Q_M_isLength D ca ad L r F9 B9 A) args s 0 0 A) (F0 m 148 ls [.int (iI s0)]) := by
  obtain ⟨hx, hb, hr, hml, hown, hts, hlk, hK, hA, hL, hX⟩ := id X
  replace hf : (if (s0 = 0 ∨ s0 = 1) then some (s0, F, B) else none) = some (r, F9, B9) := hf
  obtain ⟨g28, hf⟩ := gif hf
  cases hf
  exact W.zret hx hb hr (zbool g28) (fun t ht hW => ⟨⟨_, (), rfl, rfl, by rw [ht]; exact hZ, va_K.moved hW.alike hK⟩, hS.F ht⟩) hS.2.2 (D_172 W_prog_15_method_201_code_128 20 rfl rfl) hlk

def f_M_isLength_147 (K : Nat)  (F : zF) (B : zB) : zO := f_M_isLength_148 K 0 F B
set_option maxHeartbeats 4000000 in
set_option maxRecDepth 100000 in
theorem b_M_isLength_147 {D : va_G} {ca : Nat → ClassId} {ad : Nat → Int → Nat → Nat} {L : List Nat} {aS vS : Nat → Nat} {A : Nat → Prop} {p : Program} {l : Launch} {e : Env} {s : State} {m : MethodId} {args : Array Value} {below : List Frame} {meth : Method} {c : Code} {K : Nat} {r : Int} {F9 : zF} {B9 : zB} (X : zX D ca L aS vS A p s m args meth c prog_15_method_201_code 12 (Option.some Jvm.ClassFile.FieldType.boolean) "StaveHouseModel")  {F : zF} {B : zB} {H : Heap} {locs : List Loc} {ls : Array Slot} (hf : f_M_isLength_147 K  F B = some (r, F9, B9)) (hZ : zH D ca ad lnM nM L F B A H) (hS : va_S A s.heap H locs) (hl : lv_has ls 12 []) : W p l e ({ frames := 3, cells := 0, slots := 0, locals := 87 } : Room) s m args below meth c H locs 0 0 (MQ below (Q_M_isLength D ca ad L r F9 B9 A) args s 0 0 A) (F0 m 147 ls []) := by
  obtain ⟨hx, hb, hr, hml, hown, hts, hlk, hK, hA, hL, hX⟩ := id X
  replace hf : (f_M_isLength_148 K 0 F B) = some (r, F9, B9) := hf
  refine lv_iconst (v := iI 0) hx hb (D_3 W_prog_15_method_201_code_128 19 rfl rfl) rfl ?_
  exact b_M_isLength_148 X hf hZ hS (lv_sub hl [] rfl)

def f_M_isLength_46 (K : Nat) (s0 : Int) (F : zF) (B : zB) : zO := if (s0 = 0 ∨ s0 = 1) then some (s0, F, B) else none
set_option maxHeartbeats 4000000 in
set_option maxRecDepth 100000 in
theorem b_M_isLength_46 {D : va_G} {ca : Nat → ClassId} {ad : Nat → Int → Nat → Nat} {L : List Nat} {aS vS : Nat → Nat} {A : Nat → Prop} {p : Program} {l : Launch} {e : Env} {s : State} {m : MethodId} {args : Array Value} {below : List Frame} {meth : Method} {c : Code} {K : Nat} {r : Int} {F9 : zF} {B9 : zB} (X : zX D ca L aS vS A p s m args meth c prog_15_method_201_code 12 (Option.some Jvm.ClassFile.FieldType.boolean) "StaveHouseModel") {s0 : Int} {F : zF} {B : zB} {H : Heap} {locs : List Loc} {ls : Array Slot} (hf : f_M_isLength_46 K s0 F B = some (r, F9, B9)) (hZ : zH D ca ad lnM nM L F B A H) (hS : va_S A s.heap H locs) (hl : lv_has ls 12 []) : W p l e ({ frames := 3, cells := 0, slots := 0, locals := 87 } : Room) s m args below meth c H locs 0 0 (MQ below (Q_M_isLength D ca ad L r F9 B9 A) args s 0 0 A) (F0 m 46 ls [.int (iI s0)]) := by
  obtain ⟨hx, hb, hr, hml, hown, hts, hlk, hK, hA, hL, hX⟩ := id X
  replace hf : (if (s0 = 0 ∨ s0 = 1) then some (s0, F, B) else none) = some (r, F9, B9) := hf
  obtain ⟨g27, hf⟩ := gif hf
  cases hf
  exact W.zret hx hb hr (zbool g27) (fun t ht hW => ⟨⟨_, (), rfl, rfl, by rw [ht]; exact hZ, va_K.moved hW.alike hK⟩, hS.F ht⟩) hS.2.2 (D_172 W_prog_15_method_201_code_32 14 rfl rfl) hlk

def f_M_isLength_45 (K : Nat)  (F : zF) (B : zB) : zO := f_M_isLength_46 K 0 F B
set_option maxHeartbeats 4000000 in
set_option maxRecDepth 100000 in
theorem b_M_isLength_45 {D : va_G} {ca : Nat → ClassId} {ad : Nat → Int → Nat → Nat} {L : List Nat} {aS vS : Nat → Nat} {A : Nat → Prop} {p : Program} {l : Launch} {e : Env} {s : State} {m : MethodId} {args : Array Value} {below : List Frame} {meth : Method} {c : Code} {K : Nat} {r : Int} {F9 : zF} {B9 : zB} (X : zX D ca L aS vS A p s m args meth c prog_15_method_201_code 12 (Option.some Jvm.ClassFile.FieldType.boolean) "StaveHouseModel")  {F : zF} {B : zB} {H : Heap} {locs : List Loc} {ls : Array Slot} (hf : f_M_isLength_45 K  F B = some (r, F9, B9)) (hZ : zH D ca ad lnM nM L F B A H) (hS : va_S A s.heap H locs) (hl : lv_has ls 12 []) : W p l e ({ frames := 3, cells := 0, slots := 0, locals := 87 } : Room) s m args below meth c H locs 0 0 (MQ below (Q_M_isLength D ca ad L r F9 B9 A) args s 0 0 A) (F0 m 45 ls []) := by
  obtain ⟨hx, hb, hr, hml, hown, hts, hlk, hK, hA, hL, hX⟩ := id X
  replace hf : (f_M_isLength_46 K 0 F B) = some (r, F9, B9) := hf
  refine lv_iconst (v := iI 0) hx hb (D_3 W_prog_15_method_201_code_32 13 rfl rfl) rfl ?_
  exact b_M_isLength_46 X hf hZ hS (lv_sub hl [] rfl)

def f_M_isLength (K : Nat) (l1 : Int) (l2 : Int) (l3 : Int) (l4 : Int) (l5 : Int) (l6 : Int) (l7 : Int) (F : zF) (B : zB) : zO := if r32 l7 then (if l7 = 0 then if 0 ≤ l1 ∧ l1 < 3 then if 0 ≤ l3 ∧ l3 < 4000 then if 0 ≤ l4 ∧ l4 < 3 then if 0 ≤ l6 ∧ l6 < 4000 then if r64 (B 13 l1 16 l3) then if r64 (B 13 l4 16 l6) then (if (zcmp (B 13 l1 16 l3) (B 13 l4 16 l6)) = 0 then if r64 (B 13 l1 17 l3) then if r64 (B 13 l4 17 l6) then (if (zcmp (B 13 l1 17 l3) (B 13 l4 17 l6)) = 0 then f_M_isLength_46 K 1 F B else f_M_isLength_45 K F B) else none else none else f_M_isLength_45 K F B) else none else none else none else none else none else none else if 0 ≤ l4 ∧ l4 < 3 then if 0 ≤ l5 ∧ l5 < 4000 then if 0 ≤ l1 ∧ l1 < 3 then if 0 ≤ l2 ∧ l2 < 4000 then zbind (f_M_times K (B 13 l4 16 l5) (B 13 l4 17 l5) (B 13 l1 17 l2) (B 13 l1 16 l2) F B) (fun r7 F7 B7 => if 0 ≤ l3 ∧ l3 < 4000 then zbind (f_M_times K (B7 13 l1 16 l3) (B7 13 l1 17 l3) (F7 14 0 0) (F7 14 0 1) F7 B7) (fun r9 F9 B9 => if 0 ≤ l6 ∧ l6 < 4000 then if r64 (F9 14 0 0) then if r64 (B9 13 l4 16 l6) then (if (zcmp (F9 14 0 0) (B9 13 l4 16 l6)) = 0 then if r64 (F9 14 0 1) then if r64 (B9 13 l4 17 l6) then (if (zcmp (F9 14 0 1) (B9 13 l4 17 l6)) = 0 then f_M_isLength_148 K 1 F9 B9 else f_M_isLength_147 K F9 B9) else none else none else f_M_isLength_147 K F9 B9) else none else none else none) else none) else none else none else none else none) else none
set_option maxHeartbeats 4000000 in
set_option maxRecDepth 100000 in
theorem c_M_isLength {l : Launch} {D : va_G} {ca : Nat → ClassId} {ad : Nat → Int → Nat → Nat} {L : List Nat} {aS vS : Nat → Nat} {sz K : Nat}  {l1 : Int} {l2 : Int} {l3 : Int} {l4 : Int} {l5 : Int} {l6 : Int} {l7 : Int} {F F9 : zF} {B B9 : zB} {r : Int} (hf : f_M_isLength K l1 l2 l3 l4 l5 l6 l7 F B = some (r, F9, B9)) : Met l ({ cls := "StaveHouseModel", name := "isLength", desc := "(LStaveHouseModel$Piece;IILStaveHouseModel$Piece;IIZ)Z" } : Jvm.MethodName) (Cond.code ({ cls := "StaveHouseModel", name := "isLength", desc := "(LStaveHouseModel$Piece;IILStaveHouseModel$Piece;IIZ)Z" } : Jvm.MethodName) prog_15_method_201_code 12 (Option.some Jvm.ClassFile.FieldType.boolean) :: wAll) ({ frames := 3, cells := 0, slots := 0, locals := 87 } : Room) (va_Pc [.ref (ad 14 0 0), .ref (ad 13 l1 0), .int (iI l2), .int (iI l3), .ref (ad 13 l4 0), .int (iI l5), .int (iI l6), .int (iI l7)] (zPre D ca ad lnM nM L aS vS F B sz)) (Q_M_isLength D ca ad L r F9 B9 (zA L sz)) 0 0 (zA L sz) := by
  refine zMet (Qc := Q_M_isLength D ca ad L r F9 B9) (lv := [(0, .ref (ad 14 0 0)), (1, .ref (ad 13 l1 0)), (2, .int (iI l2)), (3, .int (iI l3)), (4, .ref (ad 13 l4 0)), (5, .int (iI l5)), (6, .int (iI l6)), (7, .int (iI l7))]) (by decide) (Nat.le_of_ble_eq_true rfl) rfl (fun A p e s m below meth c ls X hZ hS hl => ?_)
  obtain ⟨hx, hb, hr, hml, hown, hts, hlk, hK, hA, hL, hX⟩ := id X
  replace hf : (if r32 l7 then (if l7 = 0 then if 0 ≤ l1 ∧ l1 < 3 then if 0 ≤ l3 ∧ l3 < 4000 then if 0 ≤ l4 ∧ l4 < 3 then if 0 ≤ l6 ∧ l6 < 4000 then if r64 (B 13 l1 16 l3) then if r64 (B 13 l4 16 l6) then (if (zcmp (B 13 l1 16 l3) (B 13 l4 16 l6)) = 0 then if r64 (B 13 l1 17 l3) then if r64 (B 13 l4 17 l6) then (if (zcmp (B 13 l1 17 l3) (B 13 l4 17 l6)) = 0 then f_M_isLength_46 K 1 F B else f_M_isLength_45 K F B) else none else none else f_M_isLength_45 K F B) else none else none else none else none else none else none else if 0 ≤ l4 ∧ l4 < 3 then if 0 ≤ l5 ∧ l5 < 4000 then if 0 ≤ l1 ∧ l1 < 3 then if 0 ≤ l2 ∧ l2 < 4000 then zbind (f_M_times K (B 13 l4 16 l5) (B 13 l4 17 l5) (B 13 l1 17 l2) (B 13 l1 16 l2) F B) (fun r7 F7 B7 => if 0 ≤ l3 ∧ l3 < 4000 then zbind (f_M_times K (B7 13 l1 16 l3) (B7 13 l1 17 l3) (F7 14 0 0) (F7 14 0 1) F7 B7) (fun r9 F9 B9 => if 0 ≤ l6 ∧ l6 < 4000 then if r64 (F9 14 0 0) then if r64 (B9 13 l4 16 l6) then (if (zcmp (F9 14 0 0) (B9 13 l4 16 l6)) = 0 then if r64 (F9 14 0 1) then if r64 (B9 13 l4 17 l6) then (if (zcmp (F9 14 0 1) (B9 13 l4 17 l6)) = 0 then f_M_isLength_148 K 1 F9 B9 else f_M_isLength_147 K F9 B9) else none else none else f_M_isLength_147 K F9 B9) else none else none else none) else none) else none else none else none else none) else none) = some (r, F9, B9) := hf
  refine lv_iload hx hb (D_21 W_prog_15_method_201_code_0 0 rfl rfl) (lv_at hl 7 rfl) ?_
  obtain ⟨g1, hf⟩ := gif hf
  refine z0ne (tgt := 47) hx hb g1 (D_154 W_prog_15_method_201_code_0 2 rfl rfl rfl) (by decide) (fun h2 => ?_) (fun h2 => ?_)
  · replace hf := gneg hf h2
    refine lv_aload_n hx hb (D_42 W_prog_15_method_201_code_32 15 rfl rfl) rfl (lv_at hl 0 rfl) ?_
    refine lv_aload hx hb (D_25 W_prog_15_method_201_code_32 16 rfl rfl) (lv_at hl 4 rfl) ?_
    obtain ⟨g3, hf⟩ := gif hf
    refine zget (ci := 13) (C := RX13) (T := TX13) (v := .ref (ad 13 l4 (16 + 1))) (k := 16) hx hb hts inW_13 hown hK hZ g3.1 g3.2 rfl (by decide) k_9_150 rfl (D_180 W_prog_15_method_201_code_32 18 rfl rfl rfl) ?_
    refine lv_iload hx hb (D_21 W_prog_15_method_201_code_32 21 rfl rfl) (lv_at hl 5 rfl) ?_
    obtain ⟨g4, hf⟩ := gif hf
    refine zlald (ci := 13) (k := 16) hx hb hK rfl hZ g3.1 g3.2 rfl (Nat.le_of_ble_eq_true rfl) g4.1 g4.2 (D_47 W_prog_15_method_201_code_32 23 rfl rfl) ?_
    refine lv_aload hx hb (D_25 W_prog_15_method_201_code_32 24 rfl rfl) (lv_at hl 4 rfl) ?_
    refine zget (ci := 13) (C := RX13) (T := TX13) (v := .ref (ad 13 l4 (17 + 1))) (k := 17) hx hb hts inW_13 hown hK hZ g3.1 g3.2 rfl (by decide) k_9_152 rfl (D_180 W_prog_15_method_201_code_32 26 rfl rfl rfl) ?_
    refine lv_iload hx hb (D_21 W_prog_15_method_201_code_32 29 rfl rfl) (lv_at hl 5 rfl) ?_
    refine zlald (ci := 13) (k := 17) hx hb hK rfl hZ g3.1 g3.2 rfl (Nat.le_of_ble_eq_true rfl) g4.1 g4.2 (D_47 W_prog_15_method_201_code_32 31 rfl rfl) ?_
    refine lv_aload_n hx hb (D_43 W_prog_15_method_201_code_64 0 rfl rfl) rfl (lv_at hl 1 rfl) ?_
    obtain ⟨g5, hf⟩ := gif hf
    refine zget (ci := 13) (C := RX13) (T := TX13) (v := .ref (ad 13 l1 (17 + 1))) (k := 17) hx hb hts inW_13 hown hK hZ g5.1 g5.2 rfl (by decide) k_9_152 rfl (D_180 W_prog_15_method_201_code_64 1 rfl rfl rfl) ?_
    refine lv_iload_n hx hb (D_28 W_prog_15_method_201_code_64 4 rfl rfl) rfl (lv_at hl 2 rfl) ?_
    obtain ⟨g6, hf⟩ := gif hf
    refine zlald (ci := 13) (k := 17) hx hb hK rfl hZ g5.1 g5.2 rfl (Nat.le_of_ble_eq_true rfl) g6.1 g6.2 (D_47 W_prog_15_method_201_code_64 5 rfl rfl) ?_
    refine lv_aload_n hx hb (D_43 W_prog_15_method_201_code_64 6 rfl rfl) rfl (lv_at hl 1 rfl) ?_
    refine zget (ci := 13) (C := RX13) (T := TX13) (v := .ref (ad 13 l1 (16 + 1))) (k := 16) hx hb hts inW_13 hown hK hZ g5.1 g5.2 rfl (by decide) k_9_150 rfl (D_180 W_prog_15_method_201_code_64 7 rfl rfl rfl) ?_
    refine lv_iload_n hx hb (D_28 W_prog_15_method_201_code_64 10 rfl rfl) rfl (lv_at hl 2 rfl) ?_
    refine zlald (ci := 13) (k := 16) hx hb hK rfl hZ g5.1 g5.2 rfl (Nat.le_of_ble_eq_true rfl) g6.1 g6.2 (D_47 W_prog_15_method_201_code_64 11 rfl rfl) ?_
    obtain ⟨r7, F7, B7, hc7, hf⟩ := gbind hf
    refine va_callv (va_runV (As := [.long (lI (B 13 l4 16 l5)), .long (lI (B 13 l4 17 l5)), .long (lI (B 13 l1 17 l2)), .long (lI (B 13 l1 16 l2))]) (rest := []) ⟨hx, hb, hml, hown, hts⟩ (c_M_times (l := l) hc7) (cwV 4 hts (gdV k_13_155 k_13_157 ks_179 k_1_9 k_13_158) rfl rfl rfl (by decide +kernel) ⟨Nat.le_of_ble_eq_true rfl, Nat.le_of_ble_eq_true rfl⟩) (zPV X hZ hS (ci := 14) (by decide) (by decide) (r := (RX14, TX14, 107)) rfl [.long (lI (B 13 l4 16 l5)), .long (lI (B 13 l4 17 l5)), .long (lI (B 13 l1 17 l2)), .long (lI (B 13 l1 16 l2))]) rfl rfl hl.1 rfl (lv_room (Nat.le_of_ble_eq_true rfl)) (D_182 W_prog_15_method_201_code_64 12 rfl rfl rfl) ⟨Nat.le_of_ble_eq_true rfl, Nat.le_of_ble_eq_true rfl⟩) hS (fun q _ h => zAin X hS q h) (zAin X hS) (fun u7 t7 H7 locs7 ht7 hv7 hw7 hB7 hz7 hk7 hS7 => ?_)
    have hZ7 := zBack X ht7 hB7
    refine lv_aload_n hx hb (D_42 W_prog_15_method_201_code_64 15 rfl rfl) rfl (lv_at hl 0 rfl) ?_
    refine zget (ci := 14) (C := RX14) (T := TX14) (v := .long (lI (F7 14 0 0))) (k := 0) hx hb hts inW_14 hown hK hZ7 (by decide) (by decide) rfl (by decide) k_10_238 rfl (D_180 W_prog_15_method_201_code_64 16 rfl rfl rfl) ?_
    refine lv_lstore (lv' := [(8, .long (lI (F7 14 0 0))), (0, .ref (ad 14 0 0)), (1, .ref (ad 13 l1 0)), (2, .int (iI l2)), (3, .int (iI l3)), (4, .ref (ad 13 l4 0)), (5, .int (iI l5)), (6, .int (iI l6)), (7, .int (iI l7))]) hx hb (D_55 W_prog_15_method_201_code_64 19 rfl rfl) hl (by decide) rfl (fun ls hl => ?_)
    refine lv_aload_n hx hb (D_42 W_prog_15_method_201_code_64 21 rfl rfl) rfl (lv_at hl 1 rfl) ?_
    refine zget (ci := 14) (C := RX14) (T := TX14) (v := .long (lI (F7 14 0 1))) (k := 1) hx hb hts inW_14 hown hK hZ7 (by decide) (by decide) rfl (by decide) k_10_239 rfl (D_180 W_prog_15_method_201_code_64 22 rfl rfl rfl) ?_
    refine lv_lstore (lv' := [(10, .long (lI (F7 14 0 1))), (8, .long (lI (F7 14 0 0))), (0, .ref (ad 14 0 0)), (1, .ref (ad 13 l1 0)), (2, .int (iI l2)), (3, .int (iI l3)), (4, .ref (ad 13 l4 0)), (5, .int (iI l5)), (6, .int (iI l6)), (7, .int (iI l7))]) hx hb (D_55 W_prog_15_method_201_code_64 25 rfl rfl) hl (by decide) rfl (fun ls hl => ?_)
    refine lv_aload_n hx hb (D_42 W_prog_15_method_201_code_64 27 rfl rfl) rfl (lv_at hl 2 rfl) ?_
    refine lv_aload_n hx hb (D_43 W_prog_15_method_201_code_64 28 rfl rfl) rfl (lv_at hl 3 rfl) ?_
    refine zget (ci := 13) (C := RX13) (T := TX13) (v := .ref (ad 13 l1 (16 + 1))) (k := 16) hx hb hts inW_13 hown hK hZ7 g5.1 g5.2 rfl (by decide) k_9_150 rfl (D_180 W_prog_15_method_201_code_64 29 rfl rfl rfl) ?_
    refine lv_iload_n hx hb (D_29 W_prog_15_method_201_code_96 0 rfl rfl) rfl (lv_at hl 5 rfl) ?_
    obtain ⟨g8, hf⟩ := gif hf
    refine zlald (ci := 13) (k := 16) hx hb hK rfl hZ7 g5.1 g5.2 rfl (Nat.le_of_ble_eq_true rfl) g8.1 g8.2 (D_47 W_prog_15_method_201_code_96 1 rfl rfl) ?_
    refine lv_aload_n hx hb (D_43 W_prog_15_method_201_code_96 2 rfl rfl) rfl (lv_at hl 3 rfl) ?_
    refine zget (ci := 13) (C := RX13) (T := TX13) (v := .ref (ad 13 l1 (17 + 1))) (k := 17) hx hb hts inW_13 hown hK hZ7 g5.1 g5.2 rfl (by decide) k_9_152 rfl (D_180 W_prog_15_method_201_code_96 3 rfl rfl rfl) ?_
    refine lv_iload_n hx hb (D_29 W_prog_15_method_201_code_96 6 rfl rfl) rfl (lv_at hl 5 rfl) ?_
    refine zlald (ci := 13) (k := 17) hx hb hK rfl hZ7 g5.1 g5.2 rfl (Nat.le_of_ble_eq_true rfl) g8.1 g8.2 (D_47 W_prog_15_method_201_code_96 7 rfl rfl) ?_
    refine lv_lload hx hb (D_22 W_prog_15_method_201_code_96 8 rfl rfl) (lv_at hl 1 rfl) ?_
    refine lv_lload hx hb (D_22 W_prog_15_method_201_code_96 10 rfl rfl) (lv_at hl 0 rfl) ?_
    obtain ⟨r9, F9, B9, hc9, hf⟩ := gbind hf
    refine va_callv (va_runV (As := [.long (lI (B7 13 l1 16 l3)), .long (lI (B7 13 l1 17 l3)), .long (lI (F7 14 0 0)), .long (lI (F7 14 0 1))]) (rest := []) ⟨hx, hb, hml, hown, hts⟩ (c_M_times (l := l) hc9) (cwV 4 hts (gdV k_13_155 k_13_157 ks_179 k_1_9 k_13_158) rfl rfl rfl (by decide +kernel) ⟨Nat.le_of_ble_eq_true rfl, Nat.le_of_ble_eq_true rfl⟩) (zPV X hZ7 hS7 (ci := 14) (by decide) (by decide) (r := (RX14, TX14, 107)) rfl [.long (lI (B7 13 l1 16 l3)), .long (lI (B7 13 l1 17 l3)), .long (lI (F7 14 0 0)), .long (lI (F7 14 0 1))]) rfl rfl hl.1 rfl (lv_room (Nat.le_of_ble_eq_true rfl)) (D_182 W_prog_15_method_201_code_96 12 rfl rfl rfl) ⟨Nat.le_of_ble_eq_true rfl, Nat.le_of_ble_eq_true rfl⟩) hS7 (fun q _ h => zAin X hS7 q h) (zAin X hS7) (fun u9 t9 H9 locs9 ht9 hv9 hw9 hB9 hz9 hk9 hS9 => ?_)
    have hZ9 := zBack X ht9 hB9
    refine lv_aload_n hx hb (D_42 W_prog_15_method_201_code_96 15 rfl rfl) rfl (lv_at hl 2 rfl) ?_
    refine zget (ci := 14) (C := RX14) (T := TX14) (v := .long (lI (F9 14 0 0))) (k := 0) hx hb hts inW_14 hown hK hZ9 (by decide) (by decide) rfl (by decide) k_10_238 rfl (D_180 W_prog_15_method_201_code_96 16 rfl rfl rfl) ?_
    refine lv_aload hx hb (D_25 W_prog_15_method_201_code_96 19 rfl rfl) (lv_at hl 6 rfl) ?_
    refine zget (ci := 13) (C := RX13) (T := TX13) (v := .ref (ad 13 l4 (16 + 1))) (k := 16) hx hb hts inW_13 hown hK hZ9 g3.1 g3.2 rfl (by decide) k_9_150 rfl (D_180 W_prog_15_method_201_code_96 21 rfl rfl rfl) ?_
    refine lv_iload hx hb (D_21 W_prog_15_method_201_code_96 24 rfl rfl) (lv_at hl 8 rfl) ?_
    obtain ⟨g10, hf⟩ := gif hf
    refine zlald (ci := 13) (k := 16) hx hb hK rfl hZ9 g3.1 g3.2 rfl (Nat.le_of_ble_eq_true rfl) g10.1 g10.2 (D_47 W_prog_15_method_201_code_96 26 rfl rfl) ?_
    obtain ⟨g11, hf⟩ := gif hf
    obtain ⟨g12, hf⟩ := gif hf
    refine zcmp_r hx hb g11 g12 (D_148 W_prog_15_method_201_code_96 27 rfl rfl) ?_
    refine z0ne (tgt := 147) hx hb zcmp_32 (D_154 W_prog_15_method_201_code_96 28 rfl rfl rfl) (by decide) (fun h13 => ?_) (fun h13 => ?_)
    · replace hf := gneg hf h13
      exact b_M_isLength_147 X hf hZ9 hS9 (lv_sub hl [] rfl)
    · replace hf := gpos hf h13
      refine lv_aload_n hx hb (D_42 W_prog_15_method_201_code_96 31 rfl rfl) rfl (lv_at hl 2 rfl) ?_
      refine zget (ci := 14) (C := RX14) (T := TX14) (v := .long (lI (F9 14 0 1))) (k := 1) hx hb hts inW_14 hown hK hZ9 (by decide) (by decide) rfl (by decide) k_10_239 rfl (D_180 W_prog_15_method_201_code_128 0 rfl rfl rfl) ?_
      refine lv_aload hx hb (D_25 W_prog_15_method_201_code_128 3 rfl rfl) (lv_at hl 6 rfl) ?_
      refine zget (ci := 13) (C := RX13) (T := TX13) (v := .ref (ad 13 l4 (17 + 1))) (k := 17) hx hb hts inW_13 hown hK hZ9 g3.1 g3.2 rfl (by decide) k_9_152 rfl (D_180 W_prog_15_method_201_code_128 5 rfl rfl rfl) ?_
      refine lv_iload hx hb (D_21 W_prog_15_method_201_code_128 8 rfl rfl) (lv_at hl 8 rfl) ?_
      refine zlald (ci := 13) (k := 17) hx hb hK rfl hZ9 g3.1 g3.2 rfl (Nat.le_of_ble_eq_true rfl) g10.1 g10.2 (D_47 W_prog_15_method_201_code_128 10 rfl rfl) ?_
      obtain ⟨g14, hf⟩ := gif hf
      obtain ⟨g15, hf⟩ := gif hf
      refine zcmp_r hx hb g14 g15 (D_148 W_prog_15_method_201_code_128 11 rfl rfl) ?_
      refine z0ne (tgt := 147) hx hb zcmp_32 (D_154 W_prog_15_method_201_code_128 12 rfl rfl rfl) (by decide) (fun h16 => ?_) (fun h16 => ?_)
      · replace hf := gneg hf h16
        exact b_M_isLength_147 X hf hZ9 hS9 (lv_sub hl [] rfl)
      · replace hf := gpos hf h16
        refine lv_iconst (v := iI 1) hx hb (D_4 W_prog_15_method_201_code_128 15 rfl rfl) rfl ?_
        refine lv_goto (tgt := 148) hx hb (D_167 W_prog_15_method_201_code_128 16 rfl rfl rfl) (by decide) ?_
        exact b_M_isLength_148 X hf hZ9 hS9 (lv_sub hl [] rfl)
  · replace hf := gpos hf h2
    refine lv_aload_n hx hb (D_43 W_prog_15_method_201_code_0 5 rfl rfl) rfl (lv_at hl 1 rfl) ?_
    obtain ⟨g17, hf⟩ := gif hf
    refine zget (ci := 13) (C := RX13) (T := TX13) (v := .ref (ad 13 l1 (16 + 1))) (k := 16) hx hb hts inW_13 hown hK hZ g17.1 g17.2 rfl (by decide) k_9_150 rfl (D_180 W_prog_15_method_201_code_0 6 rfl rfl rfl) ?_
    refine lv_iload_n hx hb (D_29 W_prog_15_method_201_code_0 9 rfl rfl) rfl (lv_at hl 3 rfl) ?_
    obtain ⟨g18, hf⟩ := gif hf
    refine zlald (ci := 13) (k := 16) hx hb hK rfl hZ g17.1 g17.2 rfl (Nat.le_of_ble_eq_true rfl) g18.1 g18.2 (D_47 W_prog_15_method_201_code_0 10 rfl rfl) ?_
    refine lv_aload hx hb (D_25 W_prog_15_method_201_code_0 11 rfl rfl) (lv_at hl 4 rfl) ?_
    obtain ⟨g19, hf⟩ := gif hf
    refine zget (ci := 13) (C := RX13) (T := TX13) (v := .ref (ad 13 l4 (16 + 1))) (k := 16) hx hb hts inW_13 hown hK hZ g19.1 g19.2 rfl (by decide) k_9_150 rfl (D_180 W_prog_15_method_201_code_0 13 rfl rfl rfl) ?_
    refine lv_iload hx hb (D_21 W_prog_15_method_201_code_0 16 rfl rfl) (lv_at hl 6 rfl) ?_
    obtain ⟨g20, hf⟩ := gif hf
    refine zlald (ci := 13) (k := 16) hx hb hK rfl hZ g19.1 g19.2 rfl (Nat.le_of_ble_eq_true rfl) g20.1 g20.2 (D_47 W_prog_15_method_201_code_0 18 rfl rfl) ?_
    obtain ⟨g21, hf⟩ := gif hf
    obtain ⟨g22, hf⟩ := gif hf
    refine zcmp_r hx hb g21 g22 (D_148 W_prog_15_method_201_code_0 19 rfl rfl) ?_
    refine z0ne (tgt := 45) hx hb zcmp_32 (D_154 W_prog_15_method_201_code_0 20 rfl rfl rfl) (by decide) (fun h23 => ?_) (fun h23 => ?_)
    · replace hf := gneg hf h23
      exact b_M_isLength_45 X hf hZ hS (lv_sub hl [] rfl)
    · replace hf := gpos hf h23
      refine lv_aload_n hx hb (D_43 W_prog_15_method_201_code_0 23 rfl rfl) rfl (lv_at hl 1 rfl) ?_
      refine zget (ci := 13) (C := RX13) (T := TX13) (v := .ref (ad 13 l1 (17 + 1))) (k := 17) hx hb hts inW_13 hown hK hZ g17.1 g17.2 rfl (by decide) k_9_152 rfl (D_180 W_prog_15_method_201_code_0 24 rfl rfl rfl) ?_
      refine lv_iload_n hx hb (D_29 W_prog_15_method_201_code_0 27 rfl rfl) rfl (lv_at hl 3 rfl) ?_
      refine zlald (ci := 13) (k := 17) hx hb hK rfl hZ g17.1 g17.2 rfl (Nat.le_of_ble_eq_true rfl) g18.1 g18.2 (D_47 W_prog_15_method_201_code_0 28 rfl rfl) ?_
      refine lv_aload hx hb (D_25 W_prog_15_method_201_code_0 29 rfl rfl) (lv_at hl 4 rfl) ?_
      refine zget (ci := 13) (C := RX13) (T := TX13) (v := .ref (ad 13 l4 (17 + 1))) (k := 17) hx hb hts inW_13 hown hK hZ g19.1 g19.2 rfl (by decide) k_9_152 rfl (D_180 W_prog_15_method_201_code_0 31 rfl rfl rfl) ?_
      refine lv_iload hx hb (D_21 W_prog_15_method_201_code_32 2 rfl rfl) (lv_at hl 6 rfl) ?_
      refine zlald (ci := 13) (k := 17) hx hb hK rfl hZ g19.1 g19.2 rfl (Nat.le_of_ble_eq_true rfl) g20.1 g20.2 (D_47 W_prog_15_method_201_code_32 4 rfl rfl) ?_
      obtain ⟨g24, hf⟩ := gif hf
      obtain ⟨g25, hf⟩ := gif hf
      refine zcmp_r hx hb g24 g25 (D_148 W_prog_15_method_201_code_32 5 rfl rfl) ?_
      refine z0ne (tgt := 45) hx hb zcmp_32 (D_154 W_prog_15_method_201_code_32 6 rfl rfl rfl) (by decide) (fun h26 => ?_) (fun h26 => ?_)
      · replace hf := gneg hf h26
        exact b_M_isLength_45 X hf hZ hS (lv_sub hl [] rfl)
      · replace hf := gpos hf h26
        refine lv_iconst (v := iI 1) hx hb (D_4 W_prog_15_method_201_code_32 9 rfl rfl) rfl ?_
        refine lv_goto (tgt := 46) hx hb (D_167 W_prog_15_method_201_code_32 10 rfl rfl rfl) (by decide) ?_
        exact b_M_isLength_46 X hf hZ hS (lv_sub hl [] rfl)

abbrev Q_M_isLetter (D : va_G) (ca : Nat → ClassId) (ad : Nat → Int → Nat → Nat) (L : List Nat) (r : Int) (F : zF) (B : zB) (A : Nat → Prop) : Array Value → State → Outcome → State → Prop := va_Qi (S := Unit) (fun p _ => p = iI r) (fun _ => zPo D ca ad lnM nM L F B A) A
def f_M_isLetter_17 (K : Nat) (s0 : Int) (F : zF) (B : zB) : zO := if (s0 = 0 ∨ s0 = 1) then some (s0, F, B) else none
set_option maxHeartbeats 4000000 in
set_option maxRecDepth 100000 in
theorem b_M_isLetter_17 {D : va_G} {ca : Nat → ClassId} {ad : Nat → Int → Nat → Nat} {L : List Nat} {aS vS : Nat → Nat} {A : Nat → Prop} {p : Program} {l : Launch} {e : Env} {s : State} {m : MethodId} {args : Array Value} {below : List Frame} {meth : Method} {c : Code} {K : Nat} {r : Int} {F9 : zF} {B9 : zB} (X : zX D ca L aS vS A p s m args meth c prog_15_method_20_code 1 (Option.some Jvm.ClassFile.FieldType.boolean) "StaveHouseModel") {s0 : Int} {F : zF} {B : zB} {H : Heap} {locs : List Loc} {ls : Array Slot} (hf : f_M_isLetter_17 K s0 F B = some (r, F9, B9)) (hZ : zH D ca ad lnM nM L F B A H) (hS : va_S A s.heap H locs) (hl : lv_has ls 1 []) : W p l e ({ frames := 0, cells := 0, slots := 0, locals := 0 } : Room) s m args below meth c H locs 0 0 (MQ below (Q_M_isLetter D ca ad L r F9 B9 A) args s 0 0 A) (F0 m 17 ls [.int (iI s0)]) := by
  obtain ⟨hx, hb, hr, hml, hown, hts, hlk, hK, hA, hL, hX⟩ := id X
  replace hf : (if (s0 = 0 ∨ s0 = 1) then some (s0, F, B) else none) = some (r, F9, B9) := hf
  obtain ⟨g4, hf⟩ := gif hf
  cases hf
  exact W.zret hx hb hr (zbool g4) (fun t ht hW => ⟨⟨_, (), rfl, rfl, by rw [ht]; exact hZ, va_K.moved hW.alike hK⟩, hS.F ht⟩) hS.2.2 (D_172 W_prog_15_method_20_code_0 17 rfl rfl) hlk

def f_M_isLetter_16 (K : Nat)  (F : zF) (B : zB) : zO := f_M_isLetter_17 K 0 F B
set_option maxHeartbeats 4000000 in
set_option maxRecDepth 100000 in
theorem b_M_isLetter_16 {D : va_G} {ca : Nat → ClassId} {ad : Nat → Int → Nat → Nat} {L : List Nat} {aS vS : Nat → Nat} {A : Nat → Prop} {p : Program} {l : Launch} {e : Env} {s : State} {m : MethodId} {args : Array Value} {below : List Frame} {meth : Method} {c : Code} {K : Nat} {r : Int} {F9 : zF} {B9 : zB} (X : zX D ca L aS vS A p s m args meth c prog_15_method_20_code 1 (Option.some Jvm.ClassFile.FieldType.boolean) "StaveHouseModel")  {F : zF} {B : zB} {H : Heap} {locs : List Loc} {ls : Array Slot} (hf : f_M_isLetter_16 K  F B = some (r, F9, B9)) (hZ : zH D ca ad lnM nM L F B A H) (hS : va_S A s.heap H locs) (hl : lv_has ls 1 []) : W p l e ({ frames := 0, cells := 0, slots := 0, locals := 0 } : Room) s m args below meth c H locs 0 0 (MQ below (Q_M_isLetter D ca ad L r F9 B9 A) args s 0 0 A) (F0 m 16 ls []) := by
  obtain ⟨hx, hb, hr, hml, hown, hts, hlk, hK, hA, hL, hX⟩ := id X
  replace hf : (f_M_isLetter_17 K 0 F B) = some (r, F9, B9) := hf
  refine lv_iconst (v := iI 0) hx hb (D_3 W_prog_15_method_20_code_0 16 rfl rfl) rfl ?_
  exact b_M_isLetter_17 X hf hZ hS (lv_sub hl [] rfl)

def f_M_isLetter (K : Nat) (l0 : Int) (F : zF) (B : zB) : zO := if r32 l0 then (if l0 < 97 then f_M_isLetter_16 K F B else (if 122 < l0 then f_M_isLetter_16 K F B else f_M_isLetter_17 K 1 F B)) else none
set_option maxHeartbeats 4000000 in
set_option maxRecDepth 100000 in
theorem c_M_isLetter {l : Launch} {D : va_G} {ca : Nat → ClassId} {ad : Nat → Int → Nat → Nat} {L : List Nat} {aS vS : Nat → Nat} {sz K : Nat}  {l0 : Int} {F F9 : zF} {B B9 : zB} {r : Int} (hf : f_M_isLetter K l0 F B = some (r, F9, B9)) : Met l ({ cls := "StaveHouseModel", name := "isLetter", desc := "(I)Z" } : Jvm.MethodName) (Cond.code ({ cls := "StaveHouseModel", name := "isLetter", desc := "(I)Z" } : Jvm.MethodName) prog_15_method_20_code 1 (Option.some Jvm.ClassFile.FieldType.boolean) :: wAll) ({ frames := 0, cells := 0, slots := 0, locals := 0 } : Room) (va_Pc [.int (iI l0)] (zPre D ca ad lnM nM L aS vS F B sz)) (Q_M_isLetter D ca ad L r F9 B9 (zA L sz)) 0 0 (zA L sz) := by
  refine zMet (Qc := Q_M_isLetter D ca ad L r F9 B9) (lv := [(0, .int (iI l0))]) (by decide) (Nat.le_of_ble_eq_true rfl) rfl (fun A p e s m below meth c ls X hZ hS hl => ?_)
  obtain ⟨hx, hb, hr, hml, hown, hts, hlk, hK, hA, hL, hX⟩ := id X
  replace hf : (if r32 l0 then (if l0 < 97 then f_M_isLetter_16 K F B else (if 122 < l0 then f_M_isLetter_16 K F B else f_M_isLetter_17 K 1 F B)) else none) = some (r, F9, B9) := hf
  refine lv_iload_n hx hb (D_26 W_prog_15_method_20_code_0 0 rfl rfl) rfl (lv_at hl 0 rfl) ?_
  refine lv_bipush (v := iI 97) hx hb (D_16 W_prog_15_method_20_code_0 1 rfl rfl rfl) (by decide) ?_
  obtain ⟨g1, hf⟩ := gif hf
  refine zlt (tgt := 16) hx hb g1 (by decide) (D_161 W_prog_15_method_20_code_0 3 rfl rfl rfl) (by decide) (fun h2 => ?_) (fun h2 => ?_)
  · replace hf := gpos hf h2
    exact b_M_isLetter_16 X hf hZ hS (lv_sub hl [] rfl)
  · replace hf := gneg hf h2
    refine lv_iload_n hx hb (D_26 W_prog_15_method_20_code_0 6 rfl rfl) rfl (lv_at hl 0 rfl) ?_
    refine lv_bipush (v := iI 122) hx hb (D_16 W_prog_15_method_20_code_0 7 rfl rfl rfl) (by decide) ?_
    refine zgt (tgt := 16) hx hb g1 (by decide) (D_163 W_prog_15_method_20_code_0 9 rfl rfl rfl) (by decide) (fun h3 => ?_) (fun h3 => ?_)
    · replace hf := gpos hf h3
      exact b_M_isLetter_16 X hf hZ hS (lv_sub hl [] rfl)
    · replace hf := gneg hf h3
      refine lv_iconst (v := iI 1) hx hb (D_4 W_prog_15_method_20_code_0 12 rfl rfl) rfl ?_
      refine lv_goto (tgt := 17) hx hb (D_167 W_prog_15_method_20_code_0 13 rfl rfl rfl) (by decide) ?_
      exact b_M_isLetter_17 X hf hZ hS (lv_sub hl [] rfl)

abbrev Q_M_isDigit (D : va_G) (ca : Nat → ClassId) (ad : Nat → Int → Nat → Nat) (L : List Nat) (r : Int) (F : zF) (B : zB) (A : Nat → Prop) : Array Value → State → Outcome → State → Prop := va_Qi (S := Unit) (fun p _ => p = iI r) (fun _ => zPo D ca ad lnM nM L F B A) A
def f_M_isDigit_17 (K : Nat) (s0 : Int) (F : zF) (B : zB) : zO := if (s0 = 0 ∨ s0 = 1) then some (s0, F, B) else none
set_option maxHeartbeats 4000000 in
set_option maxRecDepth 100000 in
theorem b_M_isDigit_17 {D : va_G} {ca : Nat → ClassId} {ad : Nat → Int → Nat → Nat} {L : List Nat} {aS vS : Nat → Nat} {A : Nat → Prop} {p : Program} {l : Launch} {e : Env} {s : State} {m : MethodId} {args : Array Value} {below : List Frame} {meth : Method} {c : Code} {K : Nat} {r : Int} {F9 : zF} {B9 : zB} (X : zX D ca L aS vS A p s m args meth c prog_15_method_21_code 1 (Option.some Jvm.ClassFile.FieldType.boolean) "StaveHouseModel") {s0 : Int} {F : zF} {B : zB} {H : Heap} {locs : List Loc} {ls : Array Slot} (hf : f_M_isDigit_17 K s0 F B = some (r, F9, B9)) (hZ : zH D ca ad lnM nM L F B A H) (hS : va_S A s.heap H locs) (hl : lv_has ls 1 []) : W p l e ({ frames := 0, cells := 0, slots := 0, locals := 0 } : Room) s m args below meth c H locs 0 0 (MQ below (Q_M_isDigit D ca ad L r F9 B9 A) args s 0 0 A) (F0 m 17 ls [.int (iI s0)]) := by
  obtain ⟨hx, hb, hr, hml, hown, hts, hlk, hK, hA, hL, hX⟩ := id X
  replace hf : (if (s0 = 0 ∨ s0 = 1) then some (s0, F, B) else none) = some (r, F9, B9) := hf
  obtain ⟨g4, hf⟩ := gif hf
  cases hf
  exact W.zret hx hb hr (zbool g4) (fun t ht hW => ⟨⟨_, (), rfl, rfl, by rw [ht]; exact hZ, va_K.moved hW.alike hK⟩, hS.F ht⟩) hS.2.2 (D_172 W_prog_15_method_21_code_0 17 rfl rfl) hlk

def f_M_isDigit_16 (K : Nat)  (F : zF) (B : zB) : zO := f_M_isDigit_17 K 0 F B
set_option maxHeartbeats 4000000 in
set_option maxRecDepth 100000 in
theorem b_M_isDigit_16 {D : va_G} {ca : Nat → ClassId} {ad : Nat → Int → Nat → Nat} {L : List Nat} {aS vS : Nat → Nat} {A : Nat → Prop} {p : Program} {l : Launch} {e : Env} {s : State} {m : MethodId} {args : Array Value} {below : List Frame} {meth : Method} {c : Code} {K : Nat} {r : Int} {F9 : zF} {B9 : zB} (X : zX D ca L aS vS A p s m args meth c prog_15_method_21_code 1 (Option.some Jvm.ClassFile.FieldType.boolean) "StaveHouseModel")  {F : zF} {B : zB} {H : Heap} {locs : List Loc} {ls : Array Slot} (hf : f_M_isDigit_16 K  F B = some (r, F9, B9)) (hZ : zH D ca ad lnM nM L F B A H) (hS : va_S A s.heap H locs) (hl : lv_has ls 1 []) : W p l e ({ frames := 0, cells := 0, slots := 0, locals := 0 } : Room) s m args below meth c H locs 0 0 (MQ below (Q_M_isDigit D ca ad L r F9 B9 A) args s 0 0 A) (F0 m 16 ls []) := by
  obtain ⟨hx, hb, hr, hml, hown, hts, hlk, hK, hA, hL, hX⟩ := id X
  replace hf : (f_M_isDigit_17 K 0 F B) = some (r, F9, B9) := hf
  refine lv_iconst (v := iI 0) hx hb (D_3 W_prog_15_method_21_code_0 16 rfl rfl) rfl ?_
  exact b_M_isDigit_17 X hf hZ hS (lv_sub hl [] rfl)

def f_M_isDigit (K : Nat) (l0 : Int) (F : zF) (B : zB) : zO := if r32 l0 then (if l0 < 48 then f_M_isDigit_16 K F B else (if 57 < l0 then f_M_isDigit_16 K F B else f_M_isDigit_17 K 1 F B)) else none
set_option maxHeartbeats 4000000 in
set_option maxRecDepth 100000 in
theorem c_M_isDigit {l : Launch} {D : va_G} {ca : Nat → ClassId} {ad : Nat → Int → Nat → Nat} {L : List Nat} {aS vS : Nat → Nat} {sz K : Nat}  {l0 : Int} {F F9 : zF} {B B9 : zB} {r : Int} (hf : f_M_isDigit K l0 F B = some (r, F9, B9)) : Met l ({ cls := "StaveHouseModel", name := "isDigit", desc := "(I)Z" } : Jvm.MethodName) (Cond.code ({ cls := "StaveHouseModel", name := "isDigit", desc := "(I)Z" } : Jvm.MethodName) prog_15_method_21_code 1 (Option.some Jvm.ClassFile.FieldType.boolean) :: wAll) ({ frames := 0, cells := 0, slots := 0, locals := 0 } : Room) (va_Pc [.int (iI l0)] (zPre D ca ad lnM nM L aS vS F B sz)) (Q_M_isDigit D ca ad L r F9 B9 (zA L sz)) 0 0 (zA L sz) := by
  refine zMet (Qc := Q_M_isDigit D ca ad L r F9 B9) (lv := [(0, .int (iI l0))]) (by decide) (Nat.le_of_ble_eq_true rfl) rfl (fun A p e s m below meth c ls X hZ hS hl => ?_)
  obtain ⟨hx, hb, hr, hml, hown, hts, hlk, hK, hA, hL, hX⟩ := id X
  replace hf : (if r32 l0 then (if l0 < 48 then f_M_isDigit_16 K F B else (if 57 < l0 then f_M_isDigit_16 K F B else f_M_isDigit_17 K 1 F B)) else none) = some (r, F9, B9) := hf
  refine lv_iload_n hx hb (D_26 W_prog_15_method_21_code_0 0 rfl rfl) rfl (lv_at hl 0 rfl) ?_
  refine lv_bipush (v := iI 48) hx hb (D_16 W_prog_15_method_21_code_0 1 rfl rfl rfl) (by decide) ?_
  obtain ⟨g1, hf⟩ := gif hf
  refine zlt (tgt := 16) hx hb g1 (by decide) (D_161 W_prog_15_method_21_code_0 3 rfl rfl rfl) (by decide) (fun h2 => ?_) (fun h2 => ?_)
  · replace hf := gpos hf h2
    exact b_M_isDigit_16 X hf hZ hS (lv_sub hl [] rfl)
  · replace hf := gneg hf h2
    refine lv_iload_n hx hb (D_26 W_prog_15_method_21_code_0 6 rfl rfl) rfl (lv_at hl 0 rfl) ?_
    refine lv_bipush (v := iI 57) hx hb (D_16 W_prog_15_method_21_code_0 7 rfl rfl rfl) (by decide) ?_
    refine zgt (tgt := 16) hx hb g1 (by decide) (D_163 W_prog_15_method_21_code_0 9 rfl rfl rfl) (by decide) (fun h3 => ?_) (fun h3 => ?_)
    · replace hf := gpos hf h3
      exact b_M_isDigit_16 X hf hZ hS (lv_sub hl [] rfl)
    · replace hf := gneg hf h3
      refine lv_iconst (v := iI 1) hx hb (D_4 W_prog_15_method_21_code_0 12 rfl rfl) rfl ?_
      refine lv_goto (tgt := 17) hx hb (D_167 W_prog_15_method_21_code_0 13 rfl rfl rfl) (by decide) ?_
      exact b_M_isDigit_17 X hf hZ hS (lv_sub hl [] rfl)

abbrev Q_M_isOneOf (D : va_G) (ca : Nat → ClassId) (ad : Nat → Int → Nat → Nat) (L : List Nat) (r : Int) (F : zF) (B : zB) (A : Nat → Prop) : Array Value → State → Outcome → State → Prop := va_Qi (S := Unit) (fun p _ => p = iI r) (fun _ => zPo D ca ad lnM nM L F B A) A
def f_M_isOneOf_30 (rec4 : Int → Int → Nat → Int → zF → zB → zO) (K : Nat) (l3 : Int) (l0 : Nat) (l1 : Int) (s0 : Int) (F : zF) (B : zB) : zO := rec4 (l3 + 1) s0 l0 l1 F B
set_option maxHeartbeats 4000000 in
set_option maxRecDepth 100000 in
theorem b_M_isOneOf_30 {D : va_G} {ca : Nat → ClassId} {ad : Nat → Int → Nat → Nat} {L : List Nat} {aS vS : Nat → Nat} {A : Nat → Prop} {p : Program} {l : Launch} {e : Env} {s : State} {m : MethodId} {args : Array Value} {below : List Frame} {meth : Method} {c : Code} {K : Nat} {r : Int} {F9 : zF} {B9 : zB} (X : zX D ca L aS vS A p s m args meth c prog_15_method_23_code 4 (Option.some Jvm.ClassFile.FieldType.boolean) "StaveHouseModel") {rec4 : Int → Int → Nat → Int → zF → zB → zO} (hrec4 : ∀ {l3 : Int} {l2 : Int} {l0 : Nat} {l1 : Int} {F : zF} {B : zB} {H : Heap} {locs : List Loc} {ls : Array Slot}, rec4 l3 l2 l0 l1 F B = some (r, F9, B9) → zH D ca ad lnM nM L F B A H → va_S A s.heap H locs → lv_has ls 4 [(3, .int (iI l3)), (2, .int (iI l2)), (0, .ref (aS l0)), (1, .int (iI l1))] → W p l e ({ frames := 4, cells := 0, slots := 0, locals := 85 } : Room) s m args below meth c H locs 0 0 (MQ below (Q_M_isOneOf D ca ad L r F9 B9 A) args s 0 0 A) (F0 m 4 ls [])) {l3 : Int} {l0 : Nat} {l1 : Int} {s0 : Int} {F : zF} {B : zB} {H : Heap} {locs : List Loc} {ls : Array Slot} (hf : f_M_isOneOf_30 rec4 K l3 l0 l1 s0 F B = some (r, F9, B9)) (hZ : zH D ca ad lnM nM L F B A H) (hS : va_S A s.heap H locs) (hl : lv_has ls 4 [(3, .int (iI l3)), (0, .ref (aS l0)), (1, .int (iI l1))]) : W p l e ({ frames := 4, cells := 0, slots := 0, locals := 85 } : Room) s m args below meth c H locs 0 0 (MQ below (Q_M_isOneOf D ca ad L r F9 B9 A) args s 0 0 A) (F0 m 30 ls [.int (iI s0)]) := by
  obtain ⟨hx, hb, hr, hml, hown, hts, hlk, hK, hA, hL, hX⟩ := id X
  replace hf : (rec4 (l3 + 1) s0 l0 l1 F B) = some (r, F9, B9) := hf
  refine lv_istore_n (lv' := [(2, .int (iI s0)), (3, .int (iI l3)), (0, .ref (aS l0)), (1, .int (iI l1))]) hx hb (D_61 W_prog_15_method_23_code_0 30 rfl rfl) rfl hl (by decide) rfl (fun ls hl => ?_)
  refine lv_iinc (v := iI (l3 + 1)) (lv' := [(3, .int (iI (l3 + 1))), (2, .int (iI s0)), (0, .ref (aS l0)), (1, .int (iI l1))]) hx hb d_15_23_31 hl (k := 1) rfl (iI_add _ 1) (by decide) rfl (fun ls hl => ?_)
  refine lv_goto (tgt := 4) hx hb (D_167 W_prog_15_method_23_code_32 2 rfl rfl rfl) (by decide) ?_
  exact hrec4 hf hZ hS (lv_sub hl [0, 1, 2, 3] rfl)

def f_M_isOneOf_25 (rec4 : Int → Int → Nat → Int → zF → zB → zO) (K : Nat) (l3 : Int) (l0 : Nat) (l1 : Int) (F : zF) (B : zB) : zO := f_M_isOneOf_30 rec4 K l3 l0 l1 1 F B
set_option maxHeartbeats 4000000 in
set_option maxRecDepth 100000 in
theorem b_M_isOneOf_25 {D : va_G} {ca : Nat → ClassId} {ad : Nat → Int → Nat → Nat} {L : List Nat} {aS vS : Nat → Nat} {A : Nat → Prop} {p : Program} {l : Launch} {e : Env} {s : State} {m : MethodId} {args : Array Value} {below : List Frame} {meth : Method} {c : Code} {K : Nat} {r : Int} {F9 : zF} {B9 : zB} (X : zX D ca L aS vS A p s m args meth c prog_15_method_23_code 4 (Option.some Jvm.ClassFile.FieldType.boolean) "StaveHouseModel") {rec4 : Int → Int → Nat → Int → zF → zB → zO} (hrec4 : ∀ {l3 : Int} {l2 : Int} {l0 : Nat} {l1 : Int} {F : zF} {B : zB} {H : Heap} {locs : List Loc} {ls : Array Slot}, rec4 l3 l2 l0 l1 F B = some (r, F9, B9) → zH D ca ad lnM nM L F B A H → va_S A s.heap H locs → lv_has ls 4 [(3, .int (iI l3)), (2, .int (iI l2)), (0, .ref (aS l0)), (1, .int (iI l1))] → W p l e ({ frames := 4, cells := 0, slots := 0, locals := 85 } : Room) s m args below meth c H locs 0 0 (MQ below (Q_M_isOneOf D ca ad L r F9 B9 A) args s 0 0 A) (F0 m 4 ls [])) {l3 : Int} {l0 : Nat} {l1 : Int} {F : zF} {B : zB} {H : Heap} {locs : List Loc} {ls : Array Slot} (hf : f_M_isOneOf_25 rec4 K l3 l0 l1 F B = some (r, F9, B9)) (hZ : zH D ca ad lnM nM L F B A H) (hS : va_S A s.heap H locs) (hl : lv_has ls 4 [(3, .int (iI l3)), (0, .ref (aS l0)), (1, .int (iI l1))]) : W p l e ({ frames := 4, cells := 0, slots := 0, locals := 85 } : Room) s m args below meth c H locs 0 0 (MQ below (Q_M_isOneOf D ca ad L r F9 B9 A) args s 0 0 A) (F0 m 25 ls []) := by
  obtain ⟨hx, hb, hr, hml, hown, hts, hlk, hK, hA, hL, hX⟩ := id X
  replace hf : (f_M_isOneOf_30 rec4 K l3 l0 l1 1 F B) = some (r, F9, B9) := hf
  refine lv_iconst (v := iI 1) hx hb (D_4 W_prog_15_method_23_code_0 25 rfl rfl) rfl ?_
  refine lv_goto (tgt := 30) hx hb (D_167 W_prog_15_method_23_code_0 26 rfl rfl rfl) (by decide) ?_
  exact b_M_isOneOf_30 X hrec4 hf hZ hS (lv_sub hl [0, 1, 2] rfl)

def f_M_isOneOf_4 (K : Nat) : Nat → Int → Int → Nat → Int → zF → zB → zO
  | 0, _, _, _, _, _, _ => none
  | n + 1, l3, l2, l0, l1, F, B => if l0 < strL.length then zbind (f_String_length K l0 F B) (fun r2 F2 B2 => if r32 l3 then if r32 r2 then (if r2 ≤ l3 then if (l2 = 0 ∨ l2 = 1) then some (l2, F2, B2) else none else if r32 l2 then (if l2 = 0 then zbind (f_String_charAt K l0 l3 F2 B2) (fun r9 F9 B9 => if r32 r9 then if r32 l1 then (if r9 = l1 then f_M_isOneOf_25 (f_M_isOneOf_4 K n) K l3 l0 l1 F9 B9 else f_M_isOneOf_30 (f_M_isOneOf_4 K n) K l3 l0 l1 0 F9 B9) else none else none) else f_M_isOneOf_25 (f_M_isOneOf_4 K n) K l3 l0 l1 F2 B2) else none) else none else none) else none
set_option maxHeartbeats 4000000 in
set_option maxRecDepth 100000 in
theorem b_M_isOneOf_4 {D : va_G} {ca : Nat → ClassId} {ad : Nat → Int → Nat → Nat} {L : List Nat} {aS vS : Nat → Nat} {A : Nat → Prop} {p : Program} {l : Launch} {e : Env} {s : State} {m : MethodId} {args : Array Value} {below : List Frame} {meth : Method} {c : Code} {K : Nat} {r : Int} {F9 : zF} {B9 : zB} (X : zX D ca L aS vS A p s m args meth c prog_15_method_23_code 4 (Option.some Jvm.ClassFile.FieldType.boolean) "StaveHouseModel") : ∀ {n : Nat} {l3 : Int} {l2 : Int} {l0 : Nat} {l1 : Int} {F : zF} {B : zB} {H : Heap} {locs : List Loc} {ls : Array Slot}, f_M_isOneOf_4 K n l3 l2 l0 l1 F B = some (r, F9, B9) → zH D ca ad lnM nM L F B A H → va_S A s.heap H locs → lv_has ls 4 [(3, .int (iI l3)), (2, .int (iI l2)), (0, .ref (aS l0)), (1, .int (iI l1))] → W p l e ({ frames := 4, cells := 0, slots := 0, locals := 85 } : Room) s m args below meth c H locs 0 0 (MQ below (Q_M_isOneOf D ca ad L r F9 B9 A) args s 0 0 A) (F0 m 4 ls []) := by
  obtain ⟨hx, hb, hr, hml, hown, hts, hlk, hK, hA, hL, hX⟩ := id X
  intro n
  induction n with
  | zero =>
    intros
    rename_i hf _ _ _
    cases hf
  | succ n ih =>
    intro l3 l2 l0 l1 F B H locs ls hf hZ hS hl
    replace hf : (if l0 < strL.length then zbind (f_String_length K l0 F B) (fun r2 F2 B2 => if r32 l3 then if r32 r2 then (if r2 ≤ l3 then if (l2 = 0 ∨ l2 = 1) then some (l2, F2, B2) else none else if r32 l2 then (if l2 = 0 then zbind (f_String_charAt K l0 l3 F2 B2) (fun r9 F9 B9 => if r32 r9 then if r32 l1 then (if r9 = l1 then f_M_isOneOf_25 (f_M_isOneOf_4 K n) K l3 l0 l1 F9 B9 else f_M_isOneOf_30 (f_M_isOneOf_4 K n) K l3 l0 l1 0 F9 B9) else none else none) else f_M_isOneOf_25 (f_M_isOneOf_4 K n) K l3 l0 l1 F2 B2) else none) else none else none) else none) = some (r, F9, B9) := hf
    refine lv_iload_n hx hb (D_29 W_prog_15_method_23_code_0 4 rfl rfl) rfl (lv_at hl 0 rfl) ?_
    refine lv_aload_n hx hb (D_42 W_prog_15_method_23_code_0 5 rfl rfl) rfl (lv_at hl 2 rfl) ?_
    obtain ⟨g1, hf⟩ := gif hf
    obtain ⟨r2, F2, B2, hc2, hf⟩ := gbind hf
    refine va_calli (va_runV (As := []) (rest := [.int (iI l3)]) ⟨hx, hb, hml, hown, hts⟩ (c_String_length (l := l) hc2) (cwV 0 hts (gdV k_10_194 k_3_82 k_3_83 k_1_11 k_3_84) rfl rfl rfl (by decide +kernel) ⟨Nat.le_of_ble_eq_true rfl, Nat.le_of_ble_eq_true rfl⟩) ⟨zBlind, zsrecv hX g1 hS, zAt X hZ hS [.ref (aS l0)]⟩ rfl rfl hl.1 rfl (lv_room (Nat.le_of_ble_eq_true rfl)) (D_182 W_prog_15_method_23_code_0 6 rfl rfl rfl) ⟨Nat.le_of_ble_eq_true rfl, Nat.le_of_ble_eq_true rfl⟩) hS (fun q _ h => zAin X hS q h) (zAin X hS) (fun p2 u2 t2 H2 locs2 ht2 hv2 hw2 hB2 hz2 hk2 hS2 => ?_)
    have hZ2 := zBack X ht2 hB2
    subst hw2
    obtain ⟨g3, hf⟩ := gif hf
    obtain ⟨g4, hf⟩ := gif hf
    refine zge (tgt := 37) hx hb g3 g4 (D_162 W_prog_15_method_23_code_0 9 rfl rfl rfl) (by decide) (fun h5 => ?_) (fun h5 => ?_)
    · replace hf := gpos hf h5
      refine lv_iload_n hx hb (D_28 W_prog_15_method_23_code_32 5 rfl rfl) rfl (lv_at hl 1 rfl) ?_
      obtain ⟨g6, hf⟩ := gif hf
      cases hf
      exact W.zret hx hb hr (zbool g6) (fun t ht hW => ⟨⟨_, (), rfl, rfl, by rw [ht]; exact hZ2, va_K.moved hW.alike hK⟩, hS2.F ht⟩) hS2.2.2 (D_172 W_prog_15_method_23_code_32 6 rfl rfl) hlk
    · replace hf := gneg hf h5
      refine lv_iload_n hx hb (D_28 W_prog_15_method_23_code_0 12 rfl rfl) rfl (lv_at hl 1 rfl) ?_
      obtain ⟨g7, hf⟩ := gif hf
      refine z0ne (tgt := 25) hx hb g7 (D_154 W_prog_15_method_23_code_0 13 rfl rfl rfl) (by decide) (fun h8 => ?_) (fun h8 => ?_)
      · replace hf := gneg hf h8
        exact b_M_isOneOf_25 X ih hf hZ2 hS2 (lv_sub hl [0, 2, 3] rfl)
      · replace hf := gpos hf h8
        refine lv_aload_n hx hb (D_42 W_prog_15_method_23_code_0 16 rfl rfl) rfl (lv_at hl 2 rfl) ?_
        refine lv_iload_n hx hb (D_29 W_prog_15_method_23_code_0 17 rfl rfl) rfl (lv_at hl 0 rfl) ?_
        obtain ⟨r9, F9, B9, hc9, hf⟩ := gbind hf
        refine va_calli (va_runV (As := [.int (iI l3)]) (rest := []) ⟨hx, hb, hml, hown, hts⟩ (c_String_charAt (l := l) hc9) (cwV 1 hts (gdV k_10_195 k_7_134 k_7_135 k_1_11 k_7_136) rfl rfl rfl (by decide +kernel) ⟨Nat.le_of_ble_eq_true rfl, Nat.le_of_ble_eq_true rfl⟩) ⟨zBlind, zsrecv hX g1 hS2, zAt X hZ2 hS2 [.ref (aS l0), .int (iI l3)]⟩ rfl rfl hl.1 rfl (lv_room (Nat.le_of_ble_eq_true rfl)) (D_182 W_prog_15_method_23_code_0 18 rfl rfl rfl) ⟨Nat.le_of_ble_eq_true rfl, Nat.le_of_ble_eq_true rfl⟩) hS2 (fun q _ h => zAin X hS2 q h) (zAin X hS2) (fun p9 u9 t9 H9 locs9 ht9 hv9 hw9 hB9 hz9 hk9 hS9 => ?_)
        have hZ9 := zBack X ht9 hB9
        subst hw9
        refine lv_iload_n hx hb (D_27 W_prog_15_method_23_code_0 21 rfl rfl) rfl (lv_at hl 3 rfl) ?_
        obtain ⟨g10, hf⟩ := gif hf
        obtain ⟨g11, hf⟩ := gif hf
        refine zne (tgt := 29) hx hb g10 g11 (D_160 W_prog_15_method_23_code_0 22 rfl rfl rfl) (by decide) (fun h12 => ?_) (fun h12 => ?_)
        · replace hf := gneg hf h12
          refine lv_iconst (v := iI 0) hx hb (D_3 W_prog_15_method_23_code_0 29 rfl rfl) rfl ?_
          exact b_M_isOneOf_30 X ih hf hZ9 hS9 (lv_sub hl [0, 2, 3] rfl)
        · replace hf := gpos hf h12
          exact b_M_isOneOf_25 X ih hf hZ9 hS9 (lv_sub hl [0, 2, 3] rfl)

def f_M_isOneOf (K : Nat) (l0 : Nat) (l1 : Int) (F : zF) (B : zB) : zO := f_M_isOneOf_4 K K 0 0 l0 l1 F B
set_option maxHeartbeats 4000000 in
set_option maxRecDepth 100000 in
theorem c_M_isOneOf {l : Launch} {D : va_G} {ca : Nat → ClassId} {ad : Nat → Int → Nat → Nat} {L : List Nat} {aS vS : Nat → Nat} {sz K : Nat}  {l0 : Nat} {l1 : Int} {F F9 : zF} {B B9 : zB} {r : Int} (hf : f_M_isOneOf K l0 l1 F B = some (r, F9, B9)) : Met l ({ cls := "StaveHouseModel", name := "isOneOf", desc := "(Ljava/lang/String;I)Z" } : Jvm.MethodName) (Cond.code ({ cls := "StaveHouseModel", name := "isOneOf", desc := "(Ljava/lang/String;I)Z" } : Jvm.MethodName) prog_15_method_23_code 4 (Option.some Jvm.ClassFile.FieldType.boolean) :: wAll) ({ frames := 4, cells := 0, slots := 0, locals := 85 } : Room) (va_Pc [.ref (aS l0), .int (iI l1)] (zPre D ca ad lnM nM L aS vS F B sz)) (Q_M_isOneOf D ca ad L r F9 B9 (zA L sz)) 0 0 (zA L sz) := by
  refine zMet (Qc := Q_M_isOneOf D ca ad L r F9 B9) (lv := [(0, .ref (aS l0)), (1, .int (iI l1))]) (by decide) (Nat.le_of_ble_eq_true rfl) rfl (fun A p e s m below meth c ls X hZ hS hl => ?_)
  obtain ⟨hx, hb, hr, hml, hown, hts, hlk, hK, hA, hL, hX⟩ := id X
  replace hf : (f_M_isOneOf_4 K K 0 0 l0 l1 F B) = some (r, F9, B9) := hf
  refine lv_iconst (v := iI 0) hx hb (D_3 W_prog_15_method_23_code_0 0 rfl rfl) rfl ?_
  refine lv_istore_n (lv' := [(2, .int (iI 0)), (0, .ref (aS l0)), (1, .int (iI l1))]) hx hb (D_61 W_prog_15_method_23_code_0 1 rfl rfl) rfl hl (by decide) rfl (fun ls hl => ?_)
  refine lv_iconst (v := iI 0) hx hb (D_3 W_prog_15_method_23_code_0 2 rfl rfl) rfl ?_
  refine lv_istore_n (lv' := [(3, .int (iI 0)), (2, .int (iI 0)), (0, .ref (aS l0)), (1, .int (iI l1))]) hx hb (D_62 W_prog_15_method_23_code_0 3 rfl rfl) rfl hl (by decide) rfl (fun ls hl => ?_)
  exact b_M_isOneOf_4 X hf hZ hS (lv_sub hl [0, 1, 2, 3] rfl)

abbrev Q_M_isWord (D : va_G) (ca : Nat → ClassId) (ad : Nat → Int → Nat → Nat) (L : List Nat) (r : Int) (F : zF) (B : zB) (A : Nat → Prop) : Array Value → State → Outcome → State → Prop := va_Qi (S := Unit) (fun p _ => p = iI r) (fun _ => zPo D ca ad lnM nM L F B A) A
def f_M_isWord_32 (K : Nat) (s0 : Int) (F : zF) (B : zB) : zO := if (s0 = 0 ∨ s0 = 1) then some (s0, F, B) else none
set_option maxHeartbeats 4000000 in
set_option maxRecDepth 100000 in
theorem b_M_isWord_32 {D : va_G} {ca : Nat → ClassId} {ad : Nat → Int → Nat → Nat} {L : List Nat} {aS vS : Nat → Nat} {A : Nat → Prop} {p : Program} {l : Launch} {e : Env} {s : State} {m : MethodId} {args : Array Value} {below : List Frame} {meth : Method} {c : Code} {K : Nat} {r : Int} {F9 : zF} {B9 : zB} (X : zX D ca L aS vS A p s m args meth c prog_15_method_33_code 3 (Option.some Jvm.ClassFile.FieldType.boolean) "StaveHouseModel") {s0 : Int} {F : zF} {B : zB} {H : Heap} {locs : List Loc} {ls : Array Slot} (hf : f_M_isWord_32 K s0 F B = some (r, F9, B9)) (hZ : zH D ca ad lnM nM L F B A H) (hS : va_S A s.heap H locs) (hl : lv_has ls 3 []) : W p l e ({ frames := 0, cells := 0, slots := 0, locals := 0 } : Room) s m args below meth c H locs 0 0 (MQ below (Q_M_isWord D ca ad L r F9 B9 A) args s 0 0 A) (F0 m 32 ls [.int (iI s0)]) := by
  obtain ⟨hx, hb, hr, hml, hown, hts, hlk, hK, hA, hL, hX⟩ := id X
  replace hf : (if (s0 = 0 ∨ s0 = 1) then some (s0, F, B) else none) = some (r, F9, B9) := hf
  obtain ⟨g7, hf⟩ := gif hf
  cases hf
  exact W.zret hx hb hr (zbool g7) (fun t ht hW => ⟨⟨_, (), rfl, rfl, by rw [ht]; exact hZ, va_K.moved hW.alike hK⟩, hS.F ht⟩) hS.2.2 (D_172 W_prog_15_method_33_code_32 0 rfl rfl) hlk

def f_M_isWord_31 (K : Nat)  (F : zF) (B : zB) : zO := f_M_isWord_32 K 0 F B
set_option maxHeartbeats 4000000 in
set_option maxRecDepth 100000 in
theorem b_M_isWord_31 {D : va_G} {ca : Nat → ClassId} {ad : Nat → Int → Nat → Nat} {L : List Nat} {aS vS : Nat → Nat} {A : Nat → Prop} {p : Program} {l : Launch} {e : Env} {s : State} {m : MethodId} {args : Array Value} {below : List Frame} {meth : Method} {c : Code} {K : Nat} {r : Int} {F9 : zF} {B9 : zB} (X : zX D ca L aS vS A p s m args meth c prog_15_method_33_code 3 (Option.some Jvm.ClassFile.FieldType.boolean) "StaveHouseModel")  {F : zF} {B : zB} {H : Heap} {locs : List Loc} {ls : Array Slot} (hf : f_M_isWord_31 K  F B = some (r, F9, B9)) (hZ : zH D ca ad lnM nM L F B A H) (hS : va_S A s.heap H locs) (hl : lv_has ls 3 []) : W p l e ({ frames := 0, cells := 0, slots := 0, locals := 0 } : Room) s m args below meth c H locs 0 0 (MQ below (Q_M_isWord D ca ad L r F9 B9 A) args s 0 0 A) (F0 m 31 ls []) := by
  obtain ⟨hx, hb, hr, hml, hown, hts, hlk, hK, hA, hL, hX⟩ := id X
  replace hf : (f_M_isWord_32 K 0 F B) = some (r, F9, B9) := hf
  refine lv_iconst (v := iI 0) hx hb (D_3 W_prog_15_method_33_code_0 31 rfl rfl) rfl ?_
  exact b_M_isWord_32 X hf hZ hS (lv_sub hl [] rfl)

def f_M_isWord (K : Nat) (l1 : Int) (F : zF) (B : zB) : zO := if 0 ≤ (F 14 0 16) ∧ (F 14 0 16) < 3001 then if r32 (B 14 0 7 (F 14 0 16)) then (if (B 14 0 7 (F 14 0 16)) = 4 then if r64 (B 14 0 11 (F 14 0 16)) then if r64 l1 then (if (zcmp (B 14 0 11 (F 14 0 16)) l1) = 0 then f_M_isWord_32 K 1 F B else f_M_isWord_31 K F B) else none else none else f_M_isWord_31 K F B) else none else none
set_option maxHeartbeats 4000000 in
set_option maxRecDepth 100000 in
theorem c_M_isWord {l : Launch} {D : va_G} {ca : Nat → ClassId} {ad : Nat → Int → Nat → Nat} {L : List Nat} {aS vS : Nat → Nat} {sz K : Nat}  {l1 : Int} {F F9 : zF} {B B9 : zB} {r : Int} (hf : f_M_isWord K l1 F B = some (r, F9, B9)) : Met l ({ cls := "StaveHouseModel", name := "isWord", desc := "(J)Z" } : Jvm.MethodName) (Cond.code ({ cls := "StaveHouseModel", name := "isWord", desc := "(J)Z" } : Jvm.MethodName) prog_15_method_33_code 3 (Option.some Jvm.ClassFile.FieldType.boolean) :: wAll) ({ frames := 0, cells := 0, slots := 0, locals := 0 } : Room) (va_Pc [.ref (ad 14 0 0), .long (lI l1)] (zPre D ca ad lnM nM L aS vS F B sz)) (Q_M_isWord D ca ad L r F9 B9 (zA L sz)) 0 0 (zA L sz) := by
  refine zMet (Qc := Q_M_isWord D ca ad L r F9 B9) (lv := [(0, .ref (ad 14 0 0)), (1, .long (lI l1))]) (by decide) (Nat.le_of_ble_eq_true rfl) rfl (fun A p e s m below meth c ls X hZ hS hl => ?_)
  obtain ⟨hx, hb, hr, hml, hown, hts, hlk, hK, hA, hL, hX⟩ := id X
  replace hf : (if 0 ≤ (F 14 0 16) ∧ (F 14 0 16) < 3001 then if r32 (B 14 0 7 (F 14 0 16)) then (if (B 14 0 7 (F 14 0 16)) = 4 then if r64 (B 14 0 11 (F 14 0 16)) then if r64 l1 then (if (zcmp (B 14 0 11 (F 14 0 16)) l1) = 0 then f_M_isWord_32 K 1 F B else f_M_isWord_31 K F B) else none else none else f_M_isWord_31 K F B) else none else none) = some (r, F9, B9) := hf
  refine lv_aload_n hx hb (D_42 W_prog_15_method_33_code_0 0 rfl rfl) rfl (lv_at hl 0 rfl) ?_
  refine zget (ci := 14) (C := RX14) (T := TX14) (v := .ref (ad 14 0 (7 + 1))) (k := 7) hx hb hts inW_14 hown hK hZ (by decide) (by decide) rfl (by decide) k_11_5 rfl (D_180 W_prog_15_method_33_code_0 1 rfl rfl rfl) ?_
  refine lv_aload_n hx hb (D_42 W_prog_15_method_33_code_0 4 rfl rfl) rfl (lv_at hl 0 rfl) ?_
  refine zget (ci := 14) (C := RX14) (T := TX14) (v := .int (iI (F 14 0 16))) (k := 16) hx hb hts inW_14 hown hK hZ (by decide) (by decide) rfl (by decide) k_11_14 rfl (D_180 W_prog_15_method_33_code_0 5 rfl rfl rfl) ?_
  obtain ⟨g1, hf⟩ := gif hf
  refine zald (ci := 14) (k := 7) hx hb hK rfl hZ (by decide) (by decide) rfl (Nat.le_of_ble_eq_true rfl) g1.1 g1.2 (D_46 W_prog_15_method_33_code_0 8 rfl rfl) ?_
  refine lv_iconst (v := iI 4) hx hb (D_7 W_prog_15_method_33_code_0 9 rfl rfl) rfl ?_
  obtain ⟨g2, hf⟩ := gif hf
  refine zne (tgt := 31) hx hb g2 (by decide) (D_160 W_prog_15_method_33_code_0 10 rfl rfl rfl) (by decide) (fun h3 => ?_) (fun h3 => ?_)
  · replace hf := gneg hf h3
    exact b_M_isWord_31 X hf hZ hS (lv_sub hl [] rfl)
  · replace hf := gpos hf h3
    refine lv_aload_n hx hb (D_42 W_prog_15_method_33_code_0 13 rfl rfl) rfl (lv_at hl 0 rfl) ?_
    refine zget (ci := 14) (C := RX14) (T := TX14) (v := .ref (ad 14 0 (11 + 1))) (k := 11) hx hb hts inW_14 hown hK hZ (by decide) (by decide) rfl (by decide) k_11_9 rfl (D_180 W_prog_15_method_33_code_0 14 rfl rfl rfl) ?_
    refine lv_aload_n hx hb (D_42 W_prog_15_method_33_code_0 17 rfl rfl) rfl (lv_at hl 0 rfl) ?_
    refine zget (ci := 14) (C := RX14) (T := TX14) (v := .int (iI (F 14 0 16))) (k := 16) hx hb hts inW_14 hown hK hZ (by decide) (by decide) rfl (by decide) k_11_14 rfl (D_180 W_prog_15_method_33_code_0 18 rfl rfl rfl) ?_
    refine zlald (ci := 14) (k := 11) hx hb hK rfl hZ (by decide) (by decide) rfl (Nat.le_of_ble_eq_true rfl) g1.1 g1.2 (D_47 W_prog_15_method_33_code_0 21 rfl rfl) ?_
    refine lv_lload_n hx hb (D_31 W_prog_15_method_33_code_0 22 rfl rfl) rfl (lv_at hl 1 rfl) ?_
    obtain ⟨g4, hf⟩ := gif hf
    obtain ⟨g5, hf⟩ := gif hf
    refine zcmp_r hx hb g4 g5 (D_148 W_prog_15_method_33_code_0 23 rfl rfl) ?_
    refine z0ne (tgt := 31) hx hb zcmp_32 (D_154 W_prog_15_method_33_code_0 24 rfl rfl rfl) (by decide) (fun h6 => ?_) (fun h6 => ?_)
    · replace hf := gneg hf h6
      exact b_M_isWord_31 X hf hZ hS (lv_sub hl [] rfl)
    · replace hf := gpos hf h6
      refine lv_iconst (v := iI 1) hx hb (D_4 W_prog_15_method_33_code_0 27 rfl rfl) rfl ?_
      refine lv_goto (tgt := 32) hx hb (D_167 W_prog_15_method_33_code_0 28 rfl rfl rfl) (by decide) ?_
      exact b_M_isWord_32 X hf hZ hS (lv_sub hl [] rfl)

abbrev Q_M_failAt (D : va_G) (ca : Nat → ClassId) (ad : Nat → Int → Nat → Nat) (L : List Nat) (r : Int) (F : zF) (B : zB) (A : Nat → Prop) : Array Value → State → Outcome → State → Prop := va_Qv (S := Unit) (fun _ => True) (fun _ => zPo D ca ad lnM nM L F B A) A
def f_M_failAt (K : Nat) (l1 : Int) (l2 : Int) (F : zF) (B : zB) : zO := if r32 (F 14 0 17) then (if (F 14 0 17) ≤ 0 then if 0 ≤ l2 ∧ l2 < 3001 then some (0, (zup3 (zup3 F 14 0 17 l1) 14 0 18 (B 14 0 8 l2)), B) else none else some (0, F, B)) else none
set_option maxHeartbeats 4000000 in
set_option maxRecDepth 100000 in
theorem c_M_failAt {l : Launch} {D : va_G} {ca : Nat → ClassId} {ad : Nat → Int → Nat → Nat} {L : List Nat} {aS vS : Nat → Nat} {sz K : Nat}  {l1 : Int} {l2 : Int} {F F9 : zF} {B B9 : zB} {r : Int} (hf : f_M_failAt K l1 l2 F B = some (r, F9, B9)) : Met l ({ cls := "StaveHouseModel", name := "failAt", desc := "(II)V" } : Jvm.MethodName) (Cond.code ({ cls := "StaveHouseModel", name := "failAt", desc := "(II)V" } : Jvm.MethodName) prog_15_method_29_code 3 (Option.none : Option Jvm.ClassFile.FieldType) :: wAll) ({ frames := 0, cells := 0, slots := 0, locals := 0 } : Room) (va_Pc [.ref (ad 14 0 0), .int (iI l1), .int (iI l2)] (zPre D ca ad lnM nM L aS vS F B sz)) (Q_M_failAt D ca ad L r F9 B9 (zA L sz)) 0 0 (zA L sz) := by
  refine zMet (Qc := Q_M_failAt D ca ad L r F9 B9) (lv := [(0, .ref (ad 14 0 0)), (1, .int (iI l1)), (2, .int (iI l2))]) (by decide) (Nat.le_of_ble_eq_true rfl) rfl (fun A p e s m below meth c ls X hZ hS hl => ?_)
  obtain ⟨hx, hb, hr, hml, hown, hts, hlk, hK, hA, hL, hX⟩ := id X
  replace hf : (if r32 (F 14 0 17) then (if (F 14 0 17) ≤ 0 then if 0 ≤ l2 ∧ l2 < 3001 then some (0, (zup3 (zup3 F 14 0 17 l1) 14 0 18 (B 14 0 8 l2)), B) else none else some (0, F, B)) else none) = some (r, F9, B9) := hf
  refine lv_aload_n hx hb (D_42 W_prog_15_method_29_code_0 0 rfl rfl) rfl (lv_at hl 0 rfl) ?_
  refine zget (ci := 14) (C := RX14) (T := TX14) (v := .int (iI (F 14 0 17))) (k := 17) hx hb hts inW_14 hown hK hZ (by decide) (by decide) rfl (by decide) k_11_15 rfl (D_180 W_prog_15_method_29_code_0 1 rfl rfl rfl) ?_
  obtain ⟨g1, hf⟩ := gif hf
  refine z0le (tgt := 8) hx hb g1 (D_158 W_prog_15_method_29_code_0 4 rfl rfl rfl) (by decide) (fun h2 => ?_) (fun h2 => ?_)
  · replace hf := gpos hf h2
    refine lv_aload_n hx hb (D_42 W_prog_15_method_29_code_0 8 rfl rfl) rfl (lv_at hl 0 rfl) ?_
    refine lv_iload_n hx hb (D_27 W_prog_15_method_29_code_0 9 rfl rfl) rfl (lv_at hl 1 rfl) ?_
    refine zput (ci := 14) (C := RX14) (T := TX14) (k := 17) (v := l1) (w := .int (iI l1)) hx hb hts inW_14 tyX14 tyX14_ok nmX14 hown hK hZ hS (by decide) (by decide) rfl (by decide) k_11_15 rfl (fun G h => congrArg (fun q => Value.int (iI q)) h) rfl rfl (zno (by decide)) (D_181 W_prog_15_method_29_code_0 10 rfl rfl rfl) (fun H3 locs3 hZ3 hS3 => ?_)
    refine lv_aload_n hx hb (D_42 W_prog_15_method_29_code_0 13 rfl rfl) rfl (lv_at hl 0 rfl) ?_
    refine lv_aload_n hx hb (D_42 W_prog_15_method_29_code_0 14 rfl rfl) rfl (lv_at hl 0 rfl) ?_
    refine zget (ci := 14) (C := RX14) (T := TX14) (v := .ref (ad 14 0 (8 + 1))) (k := 8) hx hb hts inW_14 hown hK hZ3 (by decide) (by decide) rfl (by decide) k_11_6 rfl (D_180 W_prog_15_method_29_code_0 15 rfl rfl rfl) ?_
    refine lv_iload_n hx hb (D_28 W_prog_15_method_29_code_0 18 rfl rfl) rfl (lv_at hl 2 rfl) ?_
    obtain ⟨g4, hf⟩ := gif hf
    refine zald (ci := 14) (k := 8) hx hb hK rfl hZ3 (by decide) (by decide) rfl (Nat.le_of_ble_eq_true rfl) g4.1 g4.2 (D_46 W_prog_15_method_29_code_0 19 rfl rfl) ?_
    refine zput (ci := 14) (C := RX14) (T := TX14) (k := 18) (v := (B 14 0 8 l2)) (w := .int (iI (B 14 0 8 l2))) hx hb hts inW_14 tyX14 tyX14_ok nmX14 hown hK hZ3 hS3 (by decide) (by decide) rfl (by decide) k_11_16 rfl (fun G h => congrArg (fun q => Value.int (iI q)) h) rfl rfl (zno (by decide)) (D_181 W_prog_15_method_29_code_0 20 rfl rfl rfl) (fun H5 locs5 hZ5 hS5 => ?_)
    cases hf
    exact W.vret hx hb hr (fun t ht hW => ⟨⟨(), rfl, trivial, by rw [ht]; exact hZ5, va_K.moved hW.alike hK⟩, hS5.F ht⟩) hS5.2.2 (D_177 W_prog_15_method_29_code_0 23 rfl rfl) hlk
  · replace hf := gneg hf h2
    cases hf
    exact W.vret hx hb hr (fun t ht hW => ⟨⟨(), rfl, trivial, by rw [ht]; exact hZ, va_K.moved hW.alike hK⟩, hS.F ht⟩) hS.2.2 (D_177 W_prog_15_method_29_code_0 7 rfl rfl) hlk

abbrev Q_M_isSign (D : va_G) (ca : Nat → ClassId) (ad : Nat → Int → Nat → Nat) (L : List Nat) (r : Int) (F : zF) (B : zB) (A : Nat → Prop) : Array Value → State → Outcome → State → Prop := va_Qi (S := Unit) (fun p _ => p = iI r) (fun _ => zPo D ca ad lnM nM L F B A) A
def f_M_isSign_31 (K : Nat) (s0 : Int) (F : zF) (B : zB) : zO := if (s0 = 0 ∨ s0 = 1) then some (s0, F, B) else none
set_option maxHeartbeats 4000000 in
set_option maxRecDepth 100000 in
theorem b_M_isSign_31 {D : va_G} {ca : Nat → ClassId} {ad : Nat → Int → Nat → Nat} {L : List Nat} {aS vS : Nat → Nat} {A : Nat → Prop} {p : Program} {l : Launch} {e : Env} {s : State} {m : MethodId} {args : Array Value} {below : List Frame} {meth : Method} {c : Code} {K : Nat} {r : Int} {F9 : zF} {B9 : zB} (X : zX D ca L aS vS A p s m args meth c prog_15_method_32_code 2 (Option.some Jvm.ClassFile.FieldType.boolean) "StaveHouseModel") {s0 : Int} {F : zF} {B : zB} {H : Heap} {locs : List Loc} {ls : Array Slot} (hf : f_M_isSign_31 K s0 F B = some (r, F9, B9)) (hZ : zH D ca ad lnM nM L F B A H) (hS : va_S A s.heap H locs) (hl : lv_has ls 2 []) : W p l e ({ frames := 0, cells := 0, slots := 0, locals := 0 } : Room) s m args below meth c H locs 0 0 (MQ below (Q_M_isSign D ca ad L r F9 B9 A) args s 0 0 A) (F0 m 31 ls [.int (iI s0)]) := by
  obtain ⟨hx, hb, hr, hml, hown, hts, hlk, hK, hA, hL, hX⟩ := id X
  replace hf : (if (s0 = 0 ∨ s0 = 1) then some (s0, F, B) else none) = some (r, F9, B9) := hf
  obtain ⟨g7, hf⟩ := gif hf
  cases hf
  exact W.zret hx hb hr (zbool g7) (fun t ht hW => ⟨⟨_, (), rfl, rfl, by rw [ht]; exact hZ, va_K.moved hW.alike hK⟩, hS.F ht⟩) hS.2.2 (D_172 W_prog_15_method_32_code_0 31 rfl rfl) hlk

def f_M_isSign_30 (K : Nat)  (F : zF) (B : zB) : zO := f_M_isSign_31 K 0 F B
set_option maxHeartbeats 4000000 in
set_option maxRecDepth 100000 in
theorem b_M_isSign_30 {D : va_G} {ca : Nat → ClassId} {ad : Nat → Int → Nat → Nat} {L : List Nat} {aS vS : Nat → Nat} {A : Nat → Prop} {p : Program} {l : Launch} {e : Env} {s : State} {m : MethodId} {args : Array Value} {below : List Frame} {meth : Method} {c : Code} {K : Nat} {r : Int} {F9 : zF} {B9 : zB} (X : zX D ca L aS vS A p s m args meth c prog_15_method_32_code 2 (Option.some Jvm.ClassFile.FieldType.boolean) "StaveHouseModel")  {F : zF} {B : zB} {H : Heap} {locs : List Loc} {ls : Array Slot} (hf : f_M_isSign_30 K  F B = some (r, F9, B9)) (hZ : zH D ca ad lnM nM L F B A H) (hS : va_S A s.heap H locs) (hl : lv_has ls 2 []) : W p l e ({ frames := 0, cells := 0, slots := 0, locals := 0 } : Room) s m args below meth c H locs 0 0 (MQ below (Q_M_isSign D ca ad L r F9 B9 A) args s 0 0 A) (F0 m 30 ls []) := by
  obtain ⟨hx, hb, hr, hml, hown, hts, hlk, hK, hA, hL, hX⟩ := id X
  replace hf : (f_M_isSign_31 K 0 F B) = some (r, F9, B9) := hf
  refine lv_iconst (v := iI 0) hx hb (D_3 W_prog_15_method_32_code_0 30 rfl rfl) rfl ?_
  exact b_M_isSign_31 X hf hZ hS (lv_sub hl [] rfl)

def f_M_isSign (K : Nat) (l1 : Int) (F : zF) (B : zB) : zO := if 0 ≤ (F 14 0 16) ∧ (F 14 0 16) < 3001 then if r32 (B 14 0 7 (F 14 0 16)) then (if (B 14 0 7 (F 14 0 16)) = 5 then if r32 (B 14 0 9 (F 14 0 16)) then if r32 l1 then (if (B 14 0 9 (F 14 0 16)) = l1 then f_M_isSign_31 K 1 F B else f_M_isSign_30 K F B) else none else none else f_M_isSign_30 K F B) else none else none
set_option maxHeartbeats 4000000 in
set_option maxRecDepth 100000 in
theorem c_M_isSign {l : Launch} {D : va_G} {ca : Nat → ClassId} {ad : Nat → Int → Nat → Nat} {L : List Nat} {aS vS : Nat → Nat} {sz K : Nat}  {l1 : Int} {F F9 : zF} {B B9 : zB} {r : Int} (hf : f_M_isSign K l1 F B = some (r, F9, B9)) : Met l ({ cls := "StaveHouseModel", name := "isSign", desc := "(I)Z" } : Jvm.MethodName) (Cond.code ({ cls := "StaveHouseModel", name := "isSign", desc := "(I)Z" } : Jvm.MethodName) prog_15_method_32_code 2 (Option.some Jvm.ClassFile.FieldType.boolean) :: wAll) ({ frames := 0, cells := 0, slots := 0, locals := 0 } : Room) (va_Pc [.ref (ad 14 0 0), .int (iI l1)] (zPre D ca ad lnM nM L aS vS F B sz)) (Q_M_isSign D ca ad L r F9 B9 (zA L sz)) 0 0 (zA L sz) := by
  refine zMet (Qc := Q_M_isSign D ca ad L r F9 B9) (lv := [(0, .ref (ad 14 0 0)), (1, .int (iI l1))]) (by decide) (Nat.le_of_ble_eq_true rfl) rfl (fun A p e s m below meth c ls X hZ hS hl => ?_)
  obtain ⟨hx, hb, hr, hml, hown, hts, hlk, hK, hA, hL, hX⟩ := id X
  replace hf : (if 0 ≤ (F 14 0 16) ∧ (F 14 0 16) < 3001 then if r32 (B 14 0 7 (F 14 0 16)) then (if (B 14 0 7 (F 14 0 16)) = 5 then if r32 (B 14 0 9 (F 14 0 16)) then if r32 l1 then (if (B 14 0 9 (F 14 0 16)) = l1 then f_M_isSign_31 K 1 F B else f_M_isSign_30 K F B) else none else none else f_M_isSign_30 K F B) else none else none) = some (r, F9, B9) := hf
  refine lv_aload_n hx hb (D_42 W_prog_15_method_32_code_0 0 rfl rfl) rfl (lv_at hl 0 rfl) ?_
  refine zget (ci := 14) (C := RX14) (T := TX14) (v := .ref (ad 14 0 (7 + 1))) (k := 7) hx hb hts inW_14 hown hK hZ (by decide) (by decide) rfl (by decide) k_11_5 rfl (D_180 W_prog_15_method_32_code_0 1 rfl rfl rfl) ?_
  refine lv_aload_n hx hb (D_42 W_prog_15_method_32_code_0 4 rfl rfl) rfl (lv_at hl 0 rfl) ?_
  refine zget (ci := 14) (C := RX14) (T := TX14) (v := .int (iI (F 14 0 16))) (k := 16) hx hb hts inW_14 hown hK hZ (by decide) (by decide) rfl (by decide) k_11_14 rfl (D_180 W_prog_15_method_32_code_0 5 rfl rfl rfl) ?_
  obtain ⟨g1, hf⟩ := gif hf
  refine zald (ci := 14) (k := 7) hx hb hK rfl hZ (by decide) (by decide) rfl (Nat.le_of_ble_eq_true rfl) g1.1 g1.2 (D_46 W_prog_15_method_32_code_0 8 rfl rfl) ?_
  refine lv_iconst (v := iI 5) hx hb (D_8 W_prog_15_method_32_code_0 9 rfl rfl) rfl ?_
  obtain ⟨g2, hf⟩ := gif hf
  refine zne (tgt := 30) hx hb g2 (by decide) (D_160 W_prog_15_method_32_code_0 10 rfl rfl rfl) (by decide) (fun h3 => ?_) (fun h3 => ?_)
  · replace hf := gneg hf h3
    exact b_M_isSign_30 X hf hZ hS (lv_sub hl [] rfl)
  · replace hf := gpos hf h3
    refine lv_aload_n hx hb (D_42 W_prog_15_method_32_code_0 13 rfl rfl) rfl (lv_at hl 0 rfl) ?_
    refine zget (ci := 14) (C := RX14) (T := TX14) (v := .ref (ad 14 0 (9 + 1))) (k := 9) hx hb hts inW_14 hown hK hZ (by decide) (by decide) rfl (by decide) k_11_7 rfl (D_180 W_prog_15_method_32_code_0 14 rfl rfl rfl) ?_
    refine lv_aload_n hx hb (D_42 W_prog_15_method_32_code_0 17 rfl rfl) rfl (lv_at hl 0 rfl) ?_
    refine zget (ci := 14) (C := RX14) (T := TX14) (v := .int (iI (F 14 0 16))) (k := 16) hx hb hts inW_14 hown hK hZ (by decide) (by decide) rfl (by decide) k_11_14 rfl (D_180 W_prog_15_method_32_code_0 18 rfl rfl rfl) ?_
    refine zald (ci := 14) (k := 9) hx hb hK rfl hZ (by decide) (by decide) rfl (Nat.le_of_ble_eq_true rfl) g1.1 g1.2 (D_46 W_prog_15_method_32_code_0 21 rfl rfl) ?_
    refine lv_iload_n hx hb (D_27 W_prog_15_method_32_code_0 22 rfl rfl) rfl (lv_at hl 1 rfl) ?_
    obtain ⟨g4, hf⟩ := gif hf
    obtain ⟨g5, hf⟩ := gif hf
    refine zne (tgt := 30) hx hb g4 g5 (D_160 W_prog_15_method_32_code_0 23 rfl rfl rfl) (by decide) (fun h6 => ?_) (fun h6 => ?_)
    · replace hf := gneg hf h6
      exact b_M_isSign_30 X hf hZ hS (lv_sub hl [] rfl)
    · replace hf := gpos hf h6
      refine lv_iconst (v := iI 1) hx hb (D_4 W_prog_15_method_32_code_0 26 rfl rfl) rfl ?_
      refine lv_goto (tgt := 31) hx hb (D_167 W_prog_15_method_32_code_0 27 rfl rfl rfl) (by decide) ?_
      exact b_M_isSign_31 X hf hZ hS (lv_sub hl [] rfl)

abbrev Q_M_find (D : va_G) (ca : Nat → ClassId) (ad : Nat → Int → Nat → Nat) (L : List Nat) (r : Int) (F : zF) (B : zB) (A : Nat → Prop) : Array Value → State → Outcome → State → Prop := va_Qi (S := Unit) (fun p _ => p = iI r) (fun _ => zPo D ca ad lnM nM L F B A) A
def f_M_find_3 (K : Nat) : Nat → Int → Nat → Int → Nat → Int → Int → zF → zB → zO
  | 0, _, _, _, _, _, _, _, _ => none
  | n + 1, l4, l0c, l0i, l0k, l1, l2, F, B => if r32 l4 then if r32 l1 then (if l1 ≤ l4 then some ((-1), F, B) else if 0 ≤ l0i ∧ l0i < nM l0c then if 0 ≤ l4 ∧ l4 < (lnM l0c l0i l0k : Int) then if zk l0c l0k = (3, 1) then if lnM l0c l0i l0k ≤ 2147483647 then if r64 (B l0c l0i l0k l4) then if r64 l2 then (if (zcmp (B l0c l0i l0k l4) l2) = 0 then some (l4, F, B) else f_M_find_3 K n (l4 + 1) l0c l0i l0k l1 l2 F B) else none else none else none else none else none else none) else none else none
set_option maxHeartbeats 4000000 in
set_option maxRecDepth 100000 in
theorem b_M_find_3 {D : va_G} {ca : Nat → ClassId} {ad : Nat → Int → Nat → Nat} {L : List Nat} {aS vS : Nat → Nat} {A : Nat → Prop} {p : Program} {l : Launch} {e : Env} {s : State} {m : MethodId} {args : Array Value} {below : List Frame} {meth : Method} {c : Code} {K : Nat} {r : Int} {F9 : zF} {B9 : zB} (X : zX D ca L aS vS A p s m args meth c prog_15_method_34_code 5 (Option.some Jvm.ClassFile.FieldType.int) "StaveHouseModel") : ∀ {n : Nat} {l4 : Int} {l0c : Nat} {l0i : Int} {l0k : Nat} {l1 : Int} {l2 : Int} {F : zF} {B : zB} {H : Heap} {locs : List Loc} {ls : Array Slot}, f_M_find_3 K n l4 l0c l0i l0k l1 l2 F B = some (r, F9, B9) → zH D ca ad lnM nM L F B A H → va_S A s.heap H locs → lv_has ls 5 [(4, .int (iI l4)), (0, .ref (ad l0c l0i (l0k + 1))), (1, .int (iI l1)), (2, .long (lI l2))] → W p l e ({ frames := 0, cells := 0, slots := 0, locals := 0 } : Room) s m args below meth c H locs 0 0 (MQ below (Q_M_find D ca ad L r F9 B9 A) args s 0 0 A) (F0 m 3 ls []) := by
  obtain ⟨hx, hb, hr, hml, hown, hts, hlk, hK, hA, hL, hX⟩ := id X
  intro n
  induction n with
  | zero =>
    intros
    rename_i hf _ _ _
    cases hf
  | succ n ih =>
    intro l4 l0c l0i l0k l1 l2 F B H locs ls hf hZ hS hl
    replace hf : (if r32 l4 then if r32 l1 then (if l1 ≤ l4 then some ((-1), F, B) else if 0 ≤ l0i ∧ l0i < nM l0c then if 0 ≤ l4 ∧ l4 < (lnM l0c l0i l0k : Int) then if zk l0c l0k = (3, 1) then if lnM l0c l0i l0k ≤ 2147483647 then if r64 (B l0c l0i l0k l4) then if r64 l2 then (if (zcmp (B l0c l0i l0k l4) l2) = 0 then some (l4, F, B) else f_M_find_3 K n (l4 + 1) l0c l0i l0k l1 l2 F B) else none else none else none else none else none else none) else none else none) = some (r, F9, B9) := hf
    refine lv_iload hx hb (D_21 W_prog_15_method_34_code_0 3 rfl rfl) (lv_at hl 0 rfl) ?_
    refine lv_iload_n hx hb (D_27 W_prog_15_method_34_code_0 5 rfl rfl) rfl (lv_at hl 2 rfl) ?_
    obtain ⟨g1, hf⟩ := gif hf
    obtain ⟨g2, hf⟩ := gif hf
    refine zge (tgt := 27) hx hb g1 g2 (D_162 W_prog_15_method_34_code_0 6 rfl rfl rfl) (by decide) (fun h3 => ?_) (fun h3 => ?_)
    · replace hf := gpos hf h3
      refine lv_iconst (v := iI (-1)) hx hb (D_2 W_prog_15_method_34_code_0 27 rfl rfl) rfl ?_
      cases hf
      exact W.iret hx hb hr (fun t ht hW => ⟨⟨_, (), rfl, rfl, by rw [ht]; exact hZ, va_K.moved hW.alike hK⟩, hS.F ht⟩) hS.2.2 (D_172 W_prog_15_method_34_code_0 28 rfl rfl) hlk
    · replace hf := gneg hf h3
      refine lv_aload_n hx hb (D_42 W_prog_15_method_34_code_0 9 rfl rfl) rfl (lv_at hl 1 rfl) ?_
      refine lv_iload hx hb (D_21 W_prog_15_method_34_code_0 10 rfl rfl) (lv_at hl 0 rfl) ?_
      obtain ⟨g4, hf⟩ := gif hf
      obtain ⟨g5, hf⟩ := gif hf
      obtain ⟨g6, hf⟩ := gif hf
      obtain ⟨g7, hf⟩ := gif hf
      refine zlald (ci := l0c) (k := l0k) hx hb hK rfl hZ g4.1 g4.2 g6 g7 g5.1 g5.2 (D_47 W_prog_15_method_34_code_0 12 rfl rfl) ?_
      refine lv_lload_n hx hb (D_32 W_prog_15_method_34_code_0 13 rfl rfl) rfl (lv_at hl 3 rfl) ?_
      obtain ⟨g8, hf⟩ := gif hf
      obtain ⟨g9, hf⟩ := gif hf
      refine zcmp_r hx hb g8 g9 (D_148 W_prog_15_method_34_code_0 14 rfl rfl) ?_
      refine z0ne (tgt := 21) hx hb zcmp_32 (D_154 W_prog_15_method_34_code_0 15 rfl rfl rfl) (by decide) (fun h10 => ?_) (fun h10 => ?_)
      · replace hf := gneg hf h10
        refine lv_iinc (v := iI (l4 + 1)) (lv' := [(4, .int (iI (l4 + 1))), (0, .ref (ad l0c l0i (l0k + 1))), (1, .int (iI l1)), (2, .long (lI l2))]) hx hb d_15_34_21 hl (k := 0) rfl (iI_add _ 1) (by decide) rfl (fun ls hl => ?_)
        refine lv_goto (tgt := 3) hx hb (D_167 W_prog_15_method_34_code_0 24 rfl rfl rfl) (by decide) ?_
        exact ih hf hZ hS (lv_sub hl [0, 1, 2, 3] rfl)
      · replace hf := gpos hf h10
        refine lv_iload hx hb (D_21 W_prog_15_method_34_code_0 18 rfl rfl) (lv_at hl 0 rfl) ?_
        cases hf
        exact W.iret hx hb hr (fun t ht hW => ⟨⟨_, (), rfl, rfl, by rw [ht]; exact hZ, va_K.moved hW.alike hK⟩, hS.F ht⟩) hS.2.2 (D_172 W_prog_15_method_34_code_0 20 rfl rfl) hlk

def f_M_find (K : Nat) (l0c : Nat) (l0i : Int) (l0k : Nat) (l1 : Int) (l2 : Int) (F : zF) (B : zB) : zO := f_M_find_3 K K 0 l0c l0i l0k l1 l2 F B
set_option maxHeartbeats 4000000 in
set_option maxRecDepth 100000 in
theorem c_M_find {l : Launch} {D : va_G} {ca : Nat → ClassId} {ad : Nat → Int → Nat → Nat} {L : List Nat} {aS vS : Nat → Nat} {sz K : Nat}  {l0c : Nat} {l0i : Int} {l0k : Nat} {l1 : Int} {l2 : Int} {F F9 : zF} {B B9 : zB} {r : Int} (hf : f_M_find K l0c l0i l0k l1 l2 F B = some (r, F9, B9)) : Met l ({ cls := "StaveHouseModel", name := "find", desc := "([JIJ)I" } : Jvm.MethodName) (Cond.code ({ cls := "StaveHouseModel", name := "find", desc := "([JIJ)I" } : Jvm.MethodName) prog_15_method_34_code 5 (Option.some Jvm.ClassFile.FieldType.int) :: wAll) ({ frames := 0, cells := 0, slots := 0, locals := 0 } : Room) (va_Pc [.ref (ad l0c l0i (l0k + 1)), .int (iI l1), .long (lI l2)] (zPre D ca ad lnM nM L aS vS F B sz)) (Q_M_find D ca ad L r F9 B9 (zA L sz)) 0 0 (zA L sz) := by
  refine zMet (Qc := Q_M_find D ca ad L r F9 B9) (lv := [(0, .ref (ad l0c l0i (l0k + 1))), (1, .int (iI l1)), (2, .long (lI l2))]) (by decide) (Nat.le_of_ble_eq_true rfl) rfl (fun A p e s m below meth c ls X hZ hS hl => ?_)
  obtain ⟨hx, hb, hr, hml, hown, hts, hlk, hK, hA, hL, hX⟩ := id X
  replace hf : (f_M_find_3 K K 0 l0c l0i l0k l1 l2 F B) = some (r, F9, B9) := hf
  refine lv_iconst (v := iI 0) hx hb (D_3 W_prog_15_method_34_code_0 0 rfl rfl) rfl ?_
  refine lv_istore (lv' := [(4, .int (iI 0)), (0, .ref (ad l0c l0i (l0k + 1))), (1, .int (iI l1)), (2, .long (lI l2))]) hx hb (D_54 W_prog_15_method_34_code_0 1 rfl rfl) hl (by decide) rfl (fun ls hl => ?_)
  exact b_M_find_3 X hf hZ hS (lv_sub hl [0, 1, 2, 3] rfl)

abbrev Q_M_markHere (D : va_G) (ca : Nat → ClassId) (ad : Nat → Int → Nat → Nat) (L : List Nat) (r : Int) (F : zF) (B : zB) (A : Nat → Prop) : Array Value → State → Outcome → State → Prop := va_Qi (S := Unit) (fun p _ => p = iI r) (fun _ => zPo D ca ad lnM nM L F B A) A
def f_M_markHere_84 (K : Nat) (s0 : Int) (F : zF) (B : zB) : zO := some (s0, F, B)
set_option maxHeartbeats 4000000 in
set_option maxRecDepth 100000 in
theorem b_M_markHere_84 {D : va_G} {ca : Nat → ClassId} {ad : Nat → Int → Nat → Nat} {L : List Nat} {aS vS : Nat → Nat} {A : Nat → Prop} {p : Program} {l : Launch} {e : Env} {s : State} {m : MethodId} {args : Array Value} {below : List Frame} {meth : Method} {c : Code} {K : Nat} {r : Int} {F9 : zF} {B9 : zB} (X : zX D ca L aS vS A p s m args meth c prog_15_method_51_code 1 (Option.some Jvm.ClassFile.FieldType.int) "StaveHouseModel") {s0 : Int} {F : zF} {B : zB} {H : Heap} {locs : List Loc} {ls : Array Slot} (hf : f_M_markHere_84 K s0 F B = some (r, F9, B9)) (hZ : zH D ca ad lnM nM L F B A H) (hS : va_S A s.heap H locs) (hl : lv_has ls 1 []) : W p l e ({ frames := 1, cells := 0, slots := 0, locals := 21 } : Room) s m args below meth c H locs 0 0 (MQ below (Q_M_markHere D ca ad L r F9 B9 A) args s 0 0 A) (F0 m 84 ls [.int (iI s0)]) := by
  obtain ⟨hx, hb, hr, hml, hown, hts, hlk, hK, hA, hL, hX⟩ := id X
  replace hf : (some (s0, F, B)) = some (r, F9, B9) := hf
  cases hf
  exact W.iret hx hb hr (fun t ht hW => ⟨⟨_, (), rfl, rfl, by rw [ht]; exact hZ, va_K.moved hW.alike hK⟩, hS.F ht⟩) hS.2.2 (D_172 W_prog_15_method_51_code_64 20 rfl rfl) hlk

def f_M_markHere (K : Nat)  (F : zF) (B : zB) : zO := zbind (f_M_isSign K 126 F B) (fun r1 F1 B1 => if r32 r1 then (if r1 = 0 then zbind (f_M_isSign K 40 F1 B1) (fun r4 F4 B4 => if r32 r4 then (if r4 = 0 then zbind (f_M_isSign K 41 F4 B4) (fun r7 F7 B7 => if r32 r7 then (if r7 = 0 then zbind (f_M_isSign K 39 F7 B7) (fun r10 F10 B10 => if r32 r10 then (if r10 = 0 then zbind (f_M_isSign K 94 F10 B10) (fun r13 F13 B13 => if r32 r13 then (if r13 = 0 then zbind (f_M_isSign K 45 F13 B13) (fun r16 F16 B16 => if r32 r16 then (if r16 = 0 then zbind (f_M_isSign K 37 F16 B16) (fun r19 F19 B19 => if r32 r19 then (if r19 = 0 then f_M_markHere_84 K 0 F19 B19 else f_M_markHere_84 K 64 F19 B19) else none) else some (32, F16, B16)) else none) else some (16, F13, B13)) else none) else some (8, F10, B10)) else none) else some (4, F7, B7)) else none) else some (2, F4, B4)) else none) else some (1, F1, B1)) else none)
set_option maxHeartbeats 4000000 in
set_option maxRecDepth 100000 in
theorem c_M_markHere {l : Launch} {D : va_G} {ca : Nat → ClassId} {ad : Nat → Int → Nat → Nat} {L : List Nat} {aS vS : Nat → Nat} {sz K : Nat}   {F F9 : zF} {B B9 : zB} {r : Int} (hf : f_M_markHere K  F B = some (r, F9, B9)) : Met l ({ cls := "StaveHouseModel", name := "markHere", desc := "()I" } : Jvm.MethodName) (Cond.code ({ cls := "StaveHouseModel", name := "markHere", desc := "()I" } : Jvm.MethodName) prog_15_method_51_code 1 (Option.some Jvm.ClassFile.FieldType.int) :: wAll) ({ frames := 1, cells := 0, slots := 0, locals := 21 } : Room) (va_Pc [.ref (ad 14 0 0)] (zPre D ca ad lnM nM L aS vS F B sz)) (Q_M_markHere D ca ad L r F9 B9 (zA L sz)) 0 0 (zA L sz) := by
  refine zMet (Qc := Q_M_markHere D ca ad L r F9 B9) (lv := [(0, .ref (ad 14 0 0))]) (by decide) (Nat.le_of_ble_eq_true rfl) rfl (fun A p e s m below meth c ls X hZ hS hl => ?_)
  obtain ⟨hx, hb, hr, hml, hown, hts, hlk, hK, hA, hL, hX⟩ := id X
  replace hf : (zbind (f_M_isSign K 126 F B) (fun r1 F1 B1 => if r32 r1 then (if r1 = 0 then zbind (f_M_isSign K 40 F1 B1) (fun r4 F4 B4 => if r32 r4 then (if r4 = 0 then zbind (f_M_isSign K 41 F4 B4) (fun r7 F7 B7 => if r32 r7 then (if r7 = 0 then zbind (f_M_isSign K 39 F7 B7) (fun r10 F10 B10 => if r32 r10 then (if r10 = 0 then zbind (f_M_isSign K 94 F10 B10) (fun r13 F13 B13 => if r32 r13 then (if r13 = 0 then zbind (f_M_isSign K 45 F13 B13) (fun r16 F16 B16 => if r32 r16 then (if r16 = 0 then zbind (f_M_isSign K 37 F16 B16) (fun r19 F19 B19 => if r32 r19 then (if r19 = 0 then f_M_markHere_84 K 0 F19 B19 else f_M_markHere_84 K 64 F19 B19) else none) else some (32, F16, B16)) else none) else some (16, F13, B13)) else none) else some (8, F10, B10)) else none) else some (4, F7, B7)) else none) else some (2, F4, B4)) else none) else some (1, F1, B1)) else none)) = some (r, F9, B9) := hf
  refine lv_aload_n hx hb (D_42 W_prog_15_method_51_code_0 0 rfl rfl) rfl (lv_at hl 0 rfl) ?_
  refine lv_bipush (v := iI 126) hx hb (D_16 W_prog_15_method_51_code_0 1 rfl rfl rfl) (by decide) ?_
  obtain ⟨r1, F1, B1, hc1, hf⟩ := gbind hf
  refine va_calli (va_runV (As := [.int (iI 126)]) (rest := []) ⟨hx, hb, hml, hown, hts⟩ (c_M_isSign (l := l) hc1) (cwV 1 hts (gdV k_14_136 k_14_138 ks_206 k_1_9 k_14_139) rfl rfl rfl (by decide +kernel) ⟨Nat.le_of_ble_eq_true rfl, Nat.le_of_ble_eq_true rfl⟩) (zPV X hZ hS (ci := 14) (by decide) (by decide) (r := (RX14, TX14, 107)) rfl [.int (iI 126)]) rfl rfl hl.1 rfl (lv_room (Nat.le_of_ble_eq_true rfl)) (D_182 W_prog_15_method_51_code_0 3 rfl rfl rfl) ⟨Nat.le_of_ble_eq_true rfl, Nat.le_of_ble_eq_true rfl⟩) hS (fun q _ h => zAin X hS q h) (zAin X hS) (fun p1 u1 t1 H1 locs1 ht1 hv1 hw1 hB1 hz1 hk1 hS1 => ?_)
  have hZ1 := zBack X ht1 hB1
  subst hw1
  obtain ⟨g2, hf⟩ := gif hf
  refine z0eq (tgt := 11) hx hb g2 (D_153 W_prog_15_method_51_code_0 6 rfl rfl rfl) (by decide) (fun h3 => ?_) (fun h3 => ?_)
  · replace hf := gpos hf h3
    refine lv_aload_n hx hb (D_42 W_prog_15_method_51_code_0 11 rfl rfl) rfl (lv_at hl 0 rfl) ?_
    refine lv_bipush (v := iI 40) hx hb (D_16 W_prog_15_method_51_code_0 12 rfl rfl rfl) (by decide) ?_
    obtain ⟨r4, F4, B4, hc4, hf⟩ := gbind hf
    refine va_calli (va_runV (As := [.int (iI 40)]) (rest := []) ⟨hx, hb, hml, hown, hts⟩ (c_M_isSign (l := l) hc4) (cwV 1 hts (gdV k_14_136 k_14_138 ks_206 k_1_9 k_14_139) rfl rfl rfl (by decide +kernel) ⟨Nat.le_of_ble_eq_true rfl, Nat.le_of_ble_eq_true rfl⟩) (zPV X hZ1 hS1 (ci := 14) (by decide) (by decide) (r := (RX14, TX14, 107)) rfl [.int (iI 40)]) rfl rfl hl.1 rfl (lv_room (Nat.le_of_ble_eq_true rfl)) (D_182 W_prog_15_method_51_code_0 14 rfl rfl rfl) ⟨Nat.le_of_ble_eq_true rfl, Nat.le_of_ble_eq_true rfl⟩) hS1 (fun q _ h => zAin X hS1 q h) (zAin X hS1) (fun p4 u4 t4 H4 locs4 ht4 hv4 hw4 hB4 hz4 hk4 hS4 => ?_)
    have hZ4 := zBack X ht4 hB4
    subst hw4
    obtain ⟨g5, hf⟩ := gif hf
    refine z0eq (tgt := 22) hx hb g5 (D_153 W_prog_15_method_51_code_0 17 rfl rfl rfl) (by decide) (fun h6 => ?_) (fun h6 => ?_)
    · replace hf := gpos hf h6
      refine lv_aload_n hx hb (D_42 W_prog_15_method_51_code_0 22 rfl rfl) rfl (lv_at hl 0 rfl) ?_
      refine lv_bipush (v := iI 41) hx hb (D_16 W_prog_15_method_51_code_0 23 rfl rfl rfl) (by decide) ?_
      obtain ⟨r7, F7, B7, hc7, hf⟩ := gbind hf
      refine va_calli (va_runV (As := [.int (iI 41)]) (rest := []) ⟨hx, hb, hml, hown, hts⟩ (c_M_isSign (l := l) hc7) (cwV 1 hts (gdV k_14_136 k_14_138 ks_206 k_1_9 k_14_139) rfl rfl rfl (by decide +kernel) ⟨Nat.le_of_ble_eq_true rfl, Nat.le_of_ble_eq_true rfl⟩) (zPV X hZ4 hS4 (ci := 14) (by decide) (by decide) (r := (RX14, TX14, 107)) rfl [.int (iI 41)]) rfl rfl hl.1 rfl (lv_room (Nat.le_of_ble_eq_true rfl)) (D_182 W_prog_15_method_51_code_0 25 rfl rfl rfl) ⟨Nat.le_of_ble_eq_true rfl, Nat.le_of_ble_eq_true rfl⟩) hS4 (fun q _ h => zAin X hS4 q h) (zAin X hS4) (fun p7 u7 t7 H7 locs7 ht7 hv7 hw7 hB7 hz7 hk7 hS7 => ?_)
      have hZ7 := zBack X ht7 hB7
      subst hw7
      obtain ⟨g8, hf⟩ := gif hf
      refine z0eq (tgt := 33) hx hb g8 (D_153 W_prog_15_method_51_code_0 28 rfl rfl rfl) (by decide) (fun h9 => ?_) (fun h9 => ?_)
      · replace hf := gpos hf h9
        refine lv_aload_n hx hb (D_42 W_prog_15_method_51_code_32 1 rfl rfl) rfl (lv_at hl 0 rfl) ?_
        refine lv_bipush (v := iI 39) hx hb (D_16 W_prog_15_method_51_code_32 2 rfl rfl rfl) (by decide) ?_
        obtain ⟨r10, F10, B10, hc10, hf⟩ := gbind hf
        refine va_calli (va_runV (As := [.int (iI 39)]) (rest := []) ⟨hx, hb, hml, hown, hts⟩ (c_M_isSign (l := l) hc10) (cwV 1 hts (gdV k_14_136 k_14_138 ks_206 k_1_9 k_14_139) rfl rfl rfl (by decide +kernel) ⟨Nat.le_of_ble_eq_true rfl, Nat.le_of_ble_eq_true rfl⟩) (zPV X hZ7 hS7 (ci := 14) (by decide) (by decide) (r := (RX14, TX14, 107)) rfl [.int (iI 39)]) rfl rfl hl.1 rfl (lv_room (Nat.le_of_ble_eq_true rfl)) (D_182 W_prog_15_method_51_code_32 4 rfl rfl rfl) ⟨Nat.le_of_ble_eq_true rfl, Nat.le_of_ble_eq_true rfl⟩) hS7 (fun q _ h => zAin X hS7 q h) (zAin X hS7) (fun p10 u10 t10 H10 locs10 ht10 hv10 hw10 hB10 hz10 hk10 hS10 => ?_)
        have hZ10 := zBack X ht10 hB10
        subst hw10
        obtain ⟨g11, hf⟩ := gif hf
        refine z0eq (tgt := 45) hx hb g11 (D_153 W_prog_15_method_51_code_32 7 rfl rfl rfl) (by decide) (fun h12 => ?_) (fun h12 => ?_)
        · replace hf := gpos hf h12
          refine lv_aload_n hx hb (D_42 W_prog_15_method_51_code_32 13 rfl rfl) rfl (lv_at hl 0 rfl) ?_
          refine lv_bipush (v := iI 94) hx hb (D_16 W_prog_15_method_51_code_32 14 rfl rfl rfl) (by decide) ?_
          obtain ⟨r13, F13, B13, hc13, hf⟩ := gbind hf
          refine va_calli (va_runV (As := [.int (iI 94)]) (rest := []) ⟨hx, hb, hml, hown, hts⟩ (c_M_isSign (l := l) hc13) (cwV 1 hts (gdV k_14_136 k_14_138 ks_206 k_1_9 k_14_139) rfl rfl rfl (by decide +kernel) ⟨Nat.le_of_ble_eq_true rfl, Nat.le_of_ble_eq_true rfl⟩) (zPV X hZ10 hS10 (ci := 14) (by decide) (by decide) (r := (RX14, TX14, 107)) rfl [.int (iI 94)]) rfl rfl hl.1 rfl (lv_room (Nat.le_of_ble_eq_true rfl)) (D_182 W_prog_15_method_51_code_32 16 rfl rfl rfl) ⟨Nat.le_of_ble_eq_true rfl, Nat.le_of_ble_eq_true rfl⟩) hS10 (fun q _ h => zAin X hS10 q h) (zAin X hS10) (fun p13 u13 t13 H13 locs13 ht13 hv13 hw13 hB13 hz13 hk13 hS13 => ?_)
          have hZ13 := zBack X ht13 hB13
          subst hw13
          obtain ⟨g14, hf⟩ := gif hf
          refine z0eq (tgt := 57) hx hb g14 (D_153 W_prog_15_method_51_code_32 19 rfl rfl rfl) (by decide) (fun h15 => ?_) (fun h15 => ?_)
          · replace hf := gpos hf h15
            refine lv_aload_n hx hb (D_42 W_prog_15_method_51_code_32 25 rfl rfl) rfl (lv_at hl 0 rfl) ?_
            refine lv_bipush (v := iI 45) hx hb (D_16 W_prog_15_method_51_code_32 26 rfl rfl rfl) (by decide) ?_
            obtain ⟨r16, F16, B16, hc16, hf⟩ := gbind hf
            refine va_calli (va_runV (As := [.int (iI 45)]) (rest := []) ⟨hx, hb, hml, hown, hts⟩ (c_M_isSign (l := l) hc16) (cwV 1 hts (gdV k_14_136 k_14_138 ks_206 k_1_9 k_14_139) rfl rfl rfl (by decide +kernel) ⟨Nat.le_of_ble_eq_true rfl, Nat.le_of_ble_eq_true rfl⟩) (zPV X hZ13 hS13 (ci := 14) (by decide) (by decide) (r := (RX14, TX14, 107)) rfl [.int (iI 45)]) rfl rfl hl.1 rfl (lv_room (Nat.le_of_ble_eq_true rfl)) (D_182 W_prog_15_method_51_code_32 28 rfl rfl rfl) ⟨Nat.le_of_ble_eq_true rfl, Nat.le_of_ble_eq_true rfl⟩) hS13 (fun q _ h => zAin X hS13 q h) (zAin X hS13) (fun p16 u16 t16 H16 locs16 ht16 hv16 hw16 hB16 hz16 hk16 hS16 => ?_)
            have hZ16 := zBack X ht16 hB16
            subst hw16
            obtain ⟨g17, hf⟩ := gif hf
            refine z0eq (tgt := 69) hx hb g17 (D_153 W_prog_15_method_51_code_32 31 rfl rfl rfl) (by decide) (fun h18 => ?_) (fun h18 => ?_)
            · replace hf := gpos hf h18
              refine lv_aload_n hx hb (D_42 W_prog_15_method_51_code_64 5 rfl rfl) rfl (lv_at hl 0 rfl) ?_
              refine lv_bipush (v := iI 37) hx hb (D_16 W_prog_15_method_51_code_64 6 rfl rfl rfl) (by decide) ?_
              obtain ⟨r19, F19, B19, hc19, hf⟩ := gbind hf
              refine va_calli (va_runV (As := [.int (iI 37)]) (rest := []) ⟨hx, hb, hml, hown, hts⟩ (c_M_isSign (l := l) hc19) (cwV 1 hts (gdV k_14_136 k_14_138 ks_206 k_1_9 k_14_139) rfl rfl rfl (by decide +kernel) ⟨Nat.le_of_ble_eq_true rfl, Nat.le_of_ble_eq_true rfl⟩) (zPV X hZ16 hS16 (ci := 14) (by decide) (by decide) (r := (RX14, TX14, 107)) rfl [.int (iI 37)]) rfl rfl hl.1 rfl (lv_room (Nat.le_of_ble_eq_true rfl)) (D_182 W_prog_15_method_51_code_64 8 rfl rfl rfl) ⟨Nat.le_of_ble_eq_true rfl, Nat.le_of_ble_eq_true rfl⟩) hS16 (fun q _ h => zAin X hS16 q h) (zAin X hS16) (fun p19 u19 t19 H19 locs19 ht19 hv19 hw19 hB19 hz19 hk19 hS19 => ?_)
              have hZ19 := zBack X ht19 hB19
              subst hw19
              obtain ⟨g20, hf⟩ := gif hf
              refine z0eq (tgt := 83) hx hb g20 (D_153 W_prog_15_method_51_code_64 11 rfl rfl rfl) (by decide) (fun h21 => ?_) (fun h21 => ?_)
              · replace hf := gpos hf h21
                refine lv_iconst (v := iI 0) hx hb (D_3 W_prog_15_method_51_code_64 19 rfl rfl) rfl ?_
                exact b_M_markHere_84 X hf hZ19 hS19 (lv_sub hl [] rfl)
              · replace hf := gneg hf h21
                refine lv_bipush (v := iI 64) hx hb (D_16 W_prog_15_method_51_code_64 14 rfl rfl rfl) (by decide) ?_
                refine lv_goto (tgt := 84) hx hb (D_167 W_prog_15_method_51_code_64 16 rfl rfl rfl) (by decide) ?_
                exact b_M_markHere_84 X hf hZ19 hS19 (lv_sub hl [] rfl)
            · replace hf := gneg hf h18
              refine lv_bipush (v := iI 32) hx hb (D_16 W_prog_15_method_51_code_64 2 rfl rfl rfl) (by decide) ?_
              cases hf
              exact W.iret hx hb hr (fun t ht hW => ⟨⟨_, (), rfl, rfl, by rw [ht]; exact hZ16, va_K.moved hW.alike hK⟩, hS16.F ht⟩) hS16.2.2 (D_172 W_prog_15_method_51_code_64 4 rfl rfl) hlk
          · replace hf := gneg hf h15
            refine lv_bipush (v := iI 16) hx hb (D_16 W_prog_15_method_51_code_32 22 rfl rfl rfl) (by decide) ?_
            cases hf
            exact W.iret hx hb hr (fun t ht hW => ⟨⟨_, (), rfl, rfl, by rw [ht]; exact hZ13, va_K.moved hW.alike hK⟩, hS13.F ht⟩) hS13.2.2 (D_172 W_prog_15_method_51_code_32 24 rfl rfl) hlk
        · replace hf := gneg hf h12
          refine lv_bipush (v := iI 8) hx hb (D_16 W_prog_15_method_51_code_32 10 rfl rfl rfl) (by decide) ?_
          cases hf
          exact W.iret hx hb hr (fun t ht hW => ⟨⟨_, (), rfl, rfl, by rw [ht]; exact hZ10, va_K.moved hW.alike hK⟩, hS10.F ht⟩) hS10.2.2 (D_172 W_prog_15_method_51_code_32 12 rfl rfl) hlk
      · replace hf := gneg hf h9
        refine lv_iconst (v := iI 4) hx hb (D_7 W_prog_15_method_51_code_0 31 rfl rfl) rfl ?_
        cases hf
        exact W.iret hx hb hr (fun t ht hW => ⟨⟨_, (), rfl, rfl, by rw [ht]; exact hZ7, va_K.moved hW.alike hK⟩, hS7.F ht⟩) hS7.2.2 (D_172 W_prog_15_method_51_code_32 0 rfl rfl) hlk
    · replace hf := gneg hf h6
      refine lv_iconst (v := iI 2) hx hb (D_5 W_prog_15_method_51_code_0 20 rfl rfl) rfl ?_
      cases hf
      exact W.iret hx hb hr (fun t ht hW => ⟨⟨_, (), rfl, rfl, by rw [ht]; exact hZ4, va_K.moved hW.alike hK⟩, hS4.F ht⟩) hS4.2.2 (D_172 W_prog_15_method_51_code_0 21 rfl rfl) hlk
  · replace hf := gneg hf h3
    refine lv_iconst (v := iI 1) hx hb (D_4 W_prog_15_method_51_code_0 9 rfl rfl) rfl ?_
    cases hf
    exact W.iret hx hb hr (fun t ht hW => ⟨⟨_, (), rfl, rfl, by rw [ht]; exact hZ1, va_K.moved hW.alike hK⟩, hS1.F ht⟩) hS1.2.2 (D_172 W_prog_15_method_51_code_0 10 rfl rfl) hlk

abbrev Q_M_counts (D : va_G) (ca : Nat → ClassId) (ad : Nat → Int → Nat → Nat) (L : List Nat) (r : Int) (F : zF) (B : zB) (A : Nat → Prop) : Array Value → State → Outcome → State → Prop := va_Qv (S := Unit) (fun _ => True) (fun _ => zPo D ca ad lnM nM L F B A) A
def f_M_counts_30 (K : Nat)  (F : zF) (B : zB) : zO := some (0, F, B)
set_option maxHeartbeats 4000000 in
set_option maxRecDepth 100000 in
theorem b_M_counts_30 {D : va_G} {ca : Nat → ClassId} {ad : Nat → Int → Nat → Nat} {L : List Nat} {aS vS : Nat → Nat} {A : Nat → Prop} {p : Program} {l : Launch} {e : Env} {s : State} {m : MethodId} {args : Array Value} {below : List Frame} {meth : Method} {c : Code} {K : Nat} {r : Int} {F9 : zF} {B9 : zB} (X : zX D ca L aS vS A p s m args meth c prog_15_method_55_code 2 (Option.none : Option Jvm.ClassFile.FieldType) "StaveHouseModel")  {F : zF} {B : zB} {H : Heap} {locs : List Loc} {ls : Array Slot} (hf : f_M_counts_30 K  F B = some (r, F9, B9)) (hZ : zH D ca ad lnM nM L F B A H) (hS : va_S A s.heap H locs) (hl : lv_has ls 2 []) : W p l e ({ frames := 1, cells := 0, slots := 0, locals := 22 } : Room) s m args below meth c H locs 0 0 (MQ below (Q_M_counts D ca ad L r F9 B9 A) args s 0 0 A) (F0 m 30 ls []) := by
  obtain ⟨hx, hb, hr, hml, hown, hts, hlk, hK, hA, hL, hX⟩ := id X
  replace hf : (some (0, F, B)) = some (r, F9, B9) := hf
  cases hf
  exact W.vret hx hb hr (fun t ht hW => ⟨⟨(), rfl, trivial, by rw [ht]; exact hZ, va_K.moved hW.alike hK⟩, hS.F ht⟩) hS.2.2 (D_177 W_prog_15_method_55_code_0 30 rfl rfl) hlk

def f_M_counts (K : Nat) (l1 : Int) (F : zF) (B : zB) : zO := if r32 (F 14 0 37) then (if (F 14 0 37) = 5000 then zbind (f_M_failAt K 8 l1 F B) (fun r4 F4 B4 => f_M_counts_30 K F4 B4) else f_M_counts_30 K (zup3 F 14 0 37 ((F 14 0 37) + 1)) B) else none
set_option maxHeartbeats 4000000 in
set_option maxRecDepth 100000 in
theorem c_M_counts {l : Launch} {D : va_G} {ca : Nat → ClassId} {ad : Nat → Int → Nat → Nat} {L : List Nat} {aS vS : Nat → Nat} {sz K : Nat}  {l1 : Int} {F F9 : zF} {B B9 : zB} {r : Int} (hf : f_M_counts K l1 F B = some (r, F9, B9)) : Met l ({ cls := "StaveHouseModel", name := "counts", desc := "(I)V" } : Jvm.MethodName) (Cond.code ({ cls := "StaveHouseModel", name := "counts", desc := "(I)V" } : Jvm.MethodName) prog_15_method_55_code 2 (Option.none : Option Jvm.ClassFile.FieldType) :: wAll) ({ frames := 1, cells := 0, slots := 0, locals := 22 } : Room) (va_Pc [.ref (ad 14 0 0), .int (iI l1)] (zPre D ca ad lnM nM L aS vS F B sz)) (Q_M_counts D ca ad L r F9 B9 (zA L sz)) 0 0 (zA L sz) := by
  refine zMet (Qc := Q_M_counts D ca ad L r F9 B9) (lv := [(0, .ref (ad 14 0 0)), (1, .int (iI l1))]) (by decide) (Nat.le_of_ble_eq_true rfl) rfl (fun A p e s m below meth c ls X hZ hS hl => ?_)
  obtain ⟨hx, hb, hr, hml, hown, hts, hlk, hK, hA, hL, hX⟩ := id X
  replace hf : (if r32 (F 14 0 37) then (if (F 14 0 37) = 5000 then zbind (f_M_failAt K 8 l1 F B) (fun r4 F4 B4 => f_M_counts_30 K F4 B4) else f_M_counts_30 K (zup3 F 14 0 37 ((F 14 0 37) + 1)) B) else none) = some (r, F9, B9) := hf
  refine lv_aload_n hx hb (D_42 W_prog_15_method_55_code_0 0 rfl rfl) rfl (lv_at hl 0 rfl) ?_
  refine zget (ci := 14) (C := RX14) (T := TX14) (v := .int (iI (F 14 0 37))) (k := 37) hx hb hts inW_14 hown hK hZ (by decide) (by decide) rfl (by decide) k_11_35 rfl (D_180 W_prog_15_method_55_code_0 1 rfl rfl rfl) ?_
  refine lv_sipush (v := iI 5000) hx hb (D_17 W_prog_15_method_55_code_0 4 rfl rfl rfl) (by decide) ?_
  obtain ⟨g1, hf⟩ := gif hf
  refine zne (tgt := 20) hx hb g1 (by decide) (D_160 W_prog_15_method_55_code_0 7 rfl rfl rfl) (by decide) (fun h2 => ?_) (fun h2 => ?_)
  · replace hf := gneg hf h2
    refine lv_aload_n hx hb (D_42 W_prog_15_method_55_code_0 20 rfl rfl) rfl (lv_at hl 0 rfl) ?_
    refine lv_dup hx hb (D_89 W_prog_15_method_55_code_0 21 rfl rfl) rfl ?_
    refine zget (ci := 14) (C := RX14) (T := TX14) (v := .int (iI (F 14 0 37))) (k := 37) hx hb hts inW_14 hown hK hZ (by decide) (by decide) rfl (by decide) k_11_35 rfl (D_180 W_prog_15_method_55_code_0 22 rfl rfl rfl) ?_
    refine lv_iconst (v := iI 1) hx hb (D_4 W_prog_15_method_55_code_0 25 rfl rfl) rfl ?_
    refine zadd hx hb (D_96 W_prog_15_method_55_code_0 26 rfl rfl) ?_
    refine zput (ci := 14) (C := RX14) (T := TX14) (k := 37) (v := ((F 14 0 37) + 1)) (w := .int (iI ((F 14 0 37) + 1))) hx hb hts inW_14 tyX14 tyX14_ok nmX14 hown hK hZ hS (by decide) (by decide) rfl (by decide) k_11_35 rfl (fun G h => congrArg (fun q => Value.int (iI q)) h) rfl rfl (zno (by decide)) (D_181 W_prog_15_method_55_code_0 27 rfl rfl rfl) (fun H3 locs3 hZ3 hS3 => ?_)
    exact b_M_counts_30 X hf hZ3 hS3 (lv_sub hl [] rfl)
  · replace hf := gpos hf h2
    refine lv_aload_n hx hb (D_42 W_prog_15_method_55_code_0 10 rfl rfl) rfl (lv_at hl 0 rfl) ?_
    refine lv_bipush (v := iI 8) hx hb (D_16 W_prog_15_method_55_code_0 11 rfl rfl rfl) (by decide) ?_
    refine lv_iload_n hx hb (D_27 W_prog_15_method_55_code_0 13 rfl rfl) rfl (lv_at hl 1 rfl) ?_
    obtain ⟨r4, F4, B4, hc4, hf⟩ := gbind hf
    refine va_callv (va_runV (As := [.int (iI 8), .int (iI l1)]) (rest := []) ⟨hx, hb, hml, hown, hts⟩ (c_M_failAt (l := l) hc4) (cwV 2 hts (gdV k_14_132 k_14_134 ks_205 k_1_9 k_14_135) rfl rfl rfl (by decide +kernel) ⟨Nat.le_of_ble_eq_true rfl, Nat.le_of_ble_eq_true rfl⟩) (zPV X hZ hS (ci := 14) (by decide) (by decide) (r := (RX14, TX14, 107)) rfl [.int (iI 8), .int (iI l1)]) rfl rfl hl.1 rfl (lv_room (Nat.le_of_ble_eq_true rfl)) (D_182 W_prog_15_method_55_code_0 14 rfl rfl rfl) ⟨Nat.le_of_ble_eq_true rfl, Nat.le_of_ble_eq_true rfl⟩) hS (fun q _ h => zAin X hS q h) (zAin X hS) (fun u4 t4 H4 locs4 ht4 hv4 hw4 hB4 hz4 hk4 hS4 => ?_)
    have hZ4 := zBack X ht4 hB4
    refine lv_goto (tgt := 30) hx hb (D_167 W_prog_15_method_55_code_0 17 rfl rfl rfl) (by decide) ?_
    exact b_M_counts_30 X hf hZ4 hS4 (lv_sub hl [] rfl)

abbrev Q_M_valueOf (D : va_G) (ca : Nat → ClassId) (ad : Nat → Int → Nat → Nat) (L : List Nat) (r : Int) (F : zF) (B : zB) (A : Nat → Prop) : Array Value → State → Outcome → State → Prop := va_Qi (S := Unit) (fun p _ => p = iI r) (fun _ => zPo D ca ad lnM nM L F B A) A
def f_M_valueOf_279 (K : Nat) (s0 : Int) (F : zF) (B : zB) : zO := some (s0, F, B)
set_option maxHeartbeats 4000000 in
set_option maxRecDepth 100000 in
theorem b_M_valueOf_279 {D : va_G} {ca : Nat → ClassId} {ad : Nat → Int → Nat → Nat} {L : List Nat} {aS vS : Nat → Nat} {A : Nat → Prop} {p : Program} {l : Launch} {e : Env} {s : State} {m : MethodId} {args : Array Value} {below : List Frame} {meth : Method} {c : Code} {K : Nat} {r : Int} {F9 : zF} {B9 : zB} (X : zX D ca L aS vS A p s m args meth c prog_15_method_67_code 8 (Option.some Jvm.ClassFile.FieldType.int) "StaveHouseModel") {s0 : Int} {F : zF} {B : zB} {H : Heap} {locs : List Loc} {ls : Array Slot} (hf : f_M_valueOf_279 K s0 F B = some (r, F9, B9)) (hZ : zH D ca ad lnM nM L F B A H) (hS : va_S A s.heap H locs) (hl : lv_has ls 8 []) : W p l e ({ frames := 0, cells := 0, slots := 0, locals := 0 } : Room) s m args below meth c H locs 0 0 (MQ below (Q_M_valueOf D ca ad L r F9 B9 A) args s 0 0 A) (F0 m 279 ls [.int (iI s0)]) := by
  obtain ⟨hx, hb, hr, hml, hown, hts, hlk, hK, hA, hL, hX⟩ := id X
  replace hf : (some (s0, F, B)) = some (r, F9, B9) := hf
  cases hf
  exact W.iret hx hb hr (fun t ht hW => ⟨⟨_, (), rfl, rfl, by rw [ht]; exact hZ, va_K.moved hW.alike hK⟩, hS.F ht⟩) hS.2.2 (D_172 W_prog_15_method_67_code_256 23 rfl rfl) hlk

def f_M_valueOf_265 (K : Nat) (l6 : Int) (F : zF) (B : zB) : zO := if r32 l6 then (if l6 ≤ 1024 then f_M_valueOf_279 K l6 F B else f_M_valueOf_279 K (-1) F B) else none
set_option maxHeartbeats 4000000 in
set_option maxRecDepth 100000 in
theorem b_M_valueOf_265 {D : va_G} {ca : Nat → ClassId} {ad : Nat → Int → Nat → Nat} {L : List Nat} {aS vS : Nat → Nat} {A : Nat → Prop} {p : Program} {l : Launch} {e : Env} {s : State} {m : MethodId} {args : Array Value} {below : List Frame} {meth : Method} {c : Code} {K : Nat} {r : Int} {F9 : zF} {B9 : zB} (X : zX D ca L aS vS A p s m args meth c prog_15_method_67_code 8 (Option.some Jvm.ClassFile.FieldType.int) "StaveHouseModel") {l6 : Int} {F : zF} {B : zB} {H : Heap} {locs : List Loc} {ls : Array Slot} (hf : f_M_valueOf_265 K l6 F B = some (r, F9, B9)) (hZ : zH D ca ad lnM nM L F B A H) (hS : va_S A s.heap H locs) (hl : lv_has ls 8 [(6, .int (iI l6))]) : W p l e ({ frames := 0, cells := 0, slots := 0, locals := 0 } : Room) s m args below meth c H locs 0 0 (MQ below (Q_M_valueOf D ca ad L r F9 B9 A) args s 0 0 A) (F0 m 265 ls []) := by
  obtain ⟨hx, hb, hr, hml, hown, hts, hlk, hK, hA, hL, hX⟩ := id X
  replace hf : (if r32 l6 then (if l6 ≤ 1024 then f_M_valueOf_279 K l6 F B else f_M_valueOf_279 K (-1) F B) else none) = some (r, F9, B9) := hf
  refine lv_iload hx hb (D_21 W_prog_15_method_67_code_256 9 rfl rfl) (lv_at hl 0 rfl) ?_
  refine lv_sipush (v := iI 1024) hx hb (D_17 W_prog_15_method_67_code_256 11 rfl rfl rfl) (by decide) ?_
  obtain ⟨g41, hf⟩ := gif hf
  refine zle (tgt := 277) hx hb g41 (by decide) (D_164 W_prog_15_method_67_code_256 14 rfl rfl rfl) (by decide) (fun h42 => ?_) (fun h42 => ?_)
  · replace hf := gpos hf h42
    refine lv_iload hx hb (D_21 W_prog_15_method_67_code_256 21 rfl rfl) (lv_at hl 0 rfl) ?_
    exact b_M_valueOf_279 X hf hZ hS (lv_sub hl [] rfl)
  · replace hf := gneg hf h42
    refine lv_iconst (v := iI (-1)) hx hb (D_2 W_prog_15_method_67_code_256 17 rfl rfl) rfl ?_
    refine lv_goto (tgt := 279) hx hb (D_167 W_prog_15_method_67_code_256 18 rfl rfl rfl) (by decide) ?_
    exact b_M_valueOf_279 X hf hZ hS (lv_sub hl [] rfl)

def f_M_valueOf_237 (K : Nat) : Nat → Int → Int → Int → zF → zB → zO
  | 0, _, _, _, _, _ => none
  | n + 1, l7, l6, l5, F, B => if r32 l7 then if r32 l5 then (if l5 ≤ l7 then f_M_valueOf_265 K l6 F B else if r32 l6 then (if 1024 < l6 then f_M_valueOf_265 K l6 F B else f_M_valueOf_237 K n (l7 + 1) (l6 * 7) l5 F B) else none) else none else none
set_option maxHeartbeats 4000000 in
set_option maxRecDepth 100000 in
theorem b_M_valueOf_237 {D : va_G} {ca : Nat → ClassId} {ad : Nat → Int → Nat → Nat} {L : List Nat} {aS vS : Nat → Nat} {A : Nat → Prop} {p : Program} {l : Launch} {e : Env} {s : State} {m : MethodId} {args : Array Value} {below : List Frame} {meth : Method} {c : Code} {K : Nat} {r : Int} {F9 : zF} {B9 : zB} (X : zX D ca L aS vS A p s m args meth c prog_15_method_67_code 8 (Option.some Jvm.ClassFile.FieldType.int) "StaveHouseModel") : ∀ {n : Nat} {l7 : Int} {l6 : Int} {l5 : Int} {F : zF} {B : zB} {H : Heap} {locs : List Loc} {ls : Array Slot}, f_M_valueOf_237 K n l7 l6 l5 F B = some (r, F9, B9) → zH D ca ad lnM nM L F B A H → va_S A s.heap H locs → lv_has ls 8 [(7, .int (iI l7)), (6, .int (iI l6)), (5, .int (iI l5))] → W p l e ({ frames := 0, cells := 0, slots := 0, locals := 0 } : Room) s m args below meth c H locs 0 0 (MQ below (Q_M_valueOf D ca ad L r F9 B9 A) args s 0 0 A) (F0 m 237 ls []) := by
  obtain ⟨hx, hb, hr, hml, hown, hts, hlk, hK, hA, hL, hX⟩ := id X
  intro n
  induction n with
  | zero =>
    intros
    rename_i hf _ _ _
    cases hf
  | succ n ih =>
    intro l7 l6 l5 F B H locs ls hf hZ hS hl
    replace hf : (if r32 l7 then if r32 l5 then (if l5 ≤ l7 then f_M_valueOf_265 K l6 F B else if r32 l6 then (if 1024 < l6 then f_M_valueOf_265 K l6 F B else f_M_valueOf_237 K n (l7 + 1) (l6 * 7) l5 F B) else none) else none else none) = some (r, F9, B9) := hf
    refine lv_iload hx hb (D_21 W_prog_15_method_67_code_224 13 rfl rfl) (lv_at hl 0 rfl) ?_
    refine lv_iload hx hb (D_21 W_prog_15_method_67_code_224 15 rfl rfl) (lv_at hl 2 rfl) ?_
    obtain ⟨g36, hf⟩ := gif hf
    obtain ⟨g37, hf⟩ := gif hf
    refine zge (tgt := 265) hx hb g36 g37 (D_162 W_prog_15_method_67_code_224 17 rfl rfl rfl) (by decide) (fun h38 => ?_) (fun h38 => ?_)
    · replace hf := gpos hf h38
      exact b_M_valueOf_265 X hf hZ hS (lv_sub hl [1] rfl)
    · replace hf := gneg hf h38
      refine lv_iload hx hb (D_21 W_prog_15_method_67_code_224 20 rfl rfl) (lv_at hl 1 rfl) ?_
      refine lv_sipush (v := iI 1024) hx hb (D_17 W_prog_15_method_67_code_224 22 rfl rfl rfl) (by decide) ?_
      obtain ⟨g39, hf⟩ := gif hf
      refine zgt (tgt := 265) hx hb g39 (by decide) (D_163 W_prog_15_method_67_code_224 25 rfl rfl rfl) (by decide) (fun h40 => ?_) (fun h40 => ?_)
      · replace hf := gpos hf h40
        exact b_M_valueOf_265 X hf hZ hS (lv_sub hl [1] rfl)
      · replace hf := gneg hf h40
        refine lv_iload hx hb (D_21 W_prog_15_method_67_code_224 28 rfl rfl) (lv_at hl 1 rfl) ?_
        refine lv_bipush (v := iI 7) hx hb (D_16 W_prog_15_method_67_code_224 30 rfl rfl rfl) (by decide) ?_
        refine zmul hx hb (D_104 W_prog_15_method_67_code_256 0 rfl rfl) ?_
        refine lv_istore (lv' := [(6, .int (iI (l6 * 7))), (7, .int (iI l7)), (5, .int (iI l5))]) hx hb (D_54 W_prog_15_method_67_code_256 1 rfl rfl) hl (by decide) rfl (fun ls hl => ?_)
        refine lv_iinc (v := iI (l7 + 1)) (lv' := [(7, .int (iI (l7 + 1))), (6, .int (iI (l6 * 7))), (5, .int (iI l5))]) hx hb d_15_67_259 hl (k := 1) rfl (iI_add _ 1) (by decide) rfl (fun ls hl => ?_)
        refine lv_goto (tgt := 237) hx hb (D_167 W_prog_15_method_67_code_256 6 rfl rfl rfl) (by decide) ?_
        exact ih hf hZ hS (lv_sub hl [0, 1, 2] rfl)

def f_M_valueOf_234 (K : Nat) (l6 : Int) (l5 : Int) (F : zF) (B : zB) : zO := f_M_valueOf_237 K K 0 l6 l5 F B
set_option maxHeartbeats 4000000 in
set_option maxRecDepth 100000 in
theorem b_M_valueOf_234 {D : va_G} {ca : Nat → ClassId} {ad : Nat → Int → Nat → Nat} {L : List Nat} {aS vS : Nat → Nat} {A : Nat → Prop} {p : Program} {l : Launch} {e : Env} {s : State} {m : MethodId} {args : Array Value} {below : List Frame} {meth : Method} {c : Code} {K : Nat} {r : Int} {F9 : zF} {B9 : zB} (X : zX D ca L aS vS A p s m args meth c prog_15_method_67_code 8 (Option.some Jvm.ClassFile.FieldType.int) "StaveHouseModel") {l6 : Int} {l5 : Int} {F : zF} {B : zB} {H : Heap} {locs : List Loc} {ls : Array Slot} (hf : f_M_valueOf_234 K l6 l5 F B = some (r, F9, B9)) (hZ : zH D ca ad lnM nM L F B A H) (hS : va_S A s.heap H locs) (hl : lv_has ls 8 [(6, .int (iI l6)), (5, .int (iI l5))]) : W p l e ({ frames := 0, cells := 0, slots := 0, locals := 0 } : Room) s m args below meth c H locs 0 0 (MQ below (Q_M_valueOf D ca ad L r F9 B9 A) args s 0 0 A) (F0 m 234 ls []) := by
  obtain ⟨hx, hb, hr, hml, hown, hts, hlk, hK, hA, hL, hX⟩ := id X
  replace hf : (f_M_valueOf_237 K K 0 l6 l5 F B) = some (r, F9, B9) := hf
  refine lv_iconst (v := iI 0) hx hb (D_3 W_prog_15_method_67_code_224 10 rfl rfl) rfl ?_
  refine lv_istore (lv' := [(7, .int (iI 0)), (6, .int (iI l6)), (5, .int (iI l5))]) hx hb (D_54 W_prog_15_method_67_code_224 11 rfl rfl) hl (by decide) rfl (fun ls hl => ?_)
  exact b_M_valueOf_237 X hf hZ hS (lv_sub hl [0, 1, 2] rfl)

def f_M_valueOf_203 (K : Nat) : Nat → Int → Int → Int → zF → zB → zO
  | 0, _, _, _, _, _ => none
  | n + 1, l7, l6, l5, F, B => if r32 l7 then if r32 (B 14 0 51 5) then (if (B 14 0 51 5) ≤ l7 then f_M_valueOf_234 K l6 l5 F B else if r32 l6 then (if 1024 < l6 then f_M_valueOf_234 K l6 l5 F B else f_M_valueOf_203 K n (l7 + 1) (l6 * 5) l5 F B) else none) else none else none
set_option maxHeartbeats 4000000 in
set_option maxRecDepth 100000 in
theorem b_M_valueOf_203 {D : va_G} {ca : Nat → ClassId} {ad : Nat → Int → Nat → Nat} {L : List Nat} {aS vS : Nat → Nat} {A : Nat → Prop} {p : Program} {l : Launch} {e : Env} {s : State} {m : MethodId} {args : Array Value} {below : List Frame} {meth : Method} {c : Code} {K : Nat} {r : Int} {F9 : zF} {B9 : zB} (X : zX D ca L aS vS A p s m args meth c prog_15_method_67_code 8 (Option.some Jvm.ClassFile.FieldType.int) "StaveHouseModel") : ∀ {n : Nat} {l7 : Int} {l6 : Int} {l5 : Int} {F : zF} {B : zB} {H : Heap} {locs : List Loc} {ls : Array Slot}, f_M_valueOf_203 K n l7 l6 l5 F B = some (r, F9, B9) → zH D ca ad lnM nM L F B A H → va_S A s.heap H locs → lv_has ls 8 [(7, .int (iI l7)), (6, .int (iI l6)), (5, .int (iI l5)), (0, .ref (ad 14 0 0))] → W p l e ({ frames := 0, cells := 0, slots := 0, locals := 0 } : Room) s m args below meth c H locs 0 0 (MQ below (Q_M_valueOf D ca ad L r F9 B9 A) args s 0 0 A) (F0 m 203 ls []) := by
  obtain ⟨hx, hb, hr, hml, hown, hts, hlk, hK, hA, hL, hX⟩ := id X
  intro n
  induction n with
  | zero =>
    intros
    rename_i hf _ _ _
    cases hf
  | succ n ih =>
    intro l7 l6 l5 F B H locs ls hf hZ hS hl
    replace hf : (if r32 l7 then if r32 (B 14 0 51 5) then (if (B 14 0 51 5) ≤ l7 then f_M_valueOf_234 K l6 l5 F B else if r32 l6 then (if 1024 < l6 then f_M_valueOf_234 K l6 l5 F B else f_M_valueOf_203 K n (l7 + 1) (l6 * 5) l5 F B) else none) else none else none) = some (r, F9, B9) := hf
    refine lv_iload hx hb (D_21 W_prog_15_method_67_code_192 11 rfl rfl) (lv_at hl 0 rfl) ?_
    refine lv_aload_n hx hb (D_42 W_prog_15_method_67_code_192 13 rfl rfl) rfl (lv_at hl 3 rfl) ?_
    refine zget (ci := 14) (C := RX14) (T := TX14) (v := .ref (ad 14 0 (51 + 1))) (k := 51) hx hb hts inW_14 hown hK hZ (by decide) (by decide) rfl (by decide) k_11_49 rfl (D_180 W_prog_15_method_67_code_192 14 rfl rfl rfl) ?_
    refine lv_iconst (v := iI 5) hx hb (D_8 W_prog_15_method_67_code_192 17 rfl rfl) rfl ?_
    refine zald (ci := 14) (k := 51) hx hb hK rfl hZ (by decide) (by decide) rfl (Nat.le_of_ble_eq_true rfl) (by decide) (by decide) (D_46 W_prog_15_method_67_code_192 18 rfl rfl) ?_
    obtain ⟨g30, hf⟩ := gif hf
    obtain ⟨g31, hf⟩ := gif hf
    refine zge (tgt := 234) hx hb g30 g31 (D_162 W_prog_15_method_67_code_192 19 rfl rfl rfl) (by decide) (fun h33 => ?_) (fun h33 => ?_)
    · replace hf := gpos hf h33
      exact b_M_valueOf_234 X hf hZ hS (lv_sub hl [1, 2] rfl)
    · replace hf := gneg hf h33
      refine lv_iload hx hb (D_21 W_prog_15_method_67_code_192 22 rfl rfl) (lv_at hl 1 rfl) ?_
      refine lv_sipush (v := iI 1024) hx hb (D_17 W_prog_15_method_67_code_192 24 rfl rfl rfl) (by decide) ?_
      obtain ⟨g34, hf⟩ := gif hf
      refine zgt (tgt := 234) hx hb g34 (by decide) (D_163 W_prog_15_method_67_code_192 27 rfl rfl rfl) (by decide) (fun h35 => ?_) (fun h35 => ?_)
      · replace hf := gpos hf h35
        exact b_M_valueOf_234 X hf hZ hS (lv_sub hl [1, 2] rfl)
      · replace hf := gneg hf h35
        refine lv_iload hx hb (D_21 W_prog_15_method_67_code_192 30 rfl rfl) (lv_at hl 1 rfl) ?_
        refine lv_iconst (v := iI 5) hx hb (D_8 W_prog_15_method_67_code_224 0 rfl rfl) rfl ?_
        refine zmul hx hb (D_104 W_prog_15_method_67_code_224 1 rfl rfl) ?_
        refine lv_istore (lv' := [(6, .int (iI (l6 * 5))), (7, .int (iI l7)), (5, .int (iI l5)), (0, .ref (ad 14 0 0))]) hx hb (D_54 W_prog_15_method_67_code_224 2 rfl rfl) hl (by decide) rfl (fun ls hl => ?_)
        refine lv_iinc (v := iI (l7 + 1)) (lv' := [(7, .int (iI (l7 + 1))), (6, .int (iI (l6 * 5))), (5, .int (iI l5)), (0, .ref (ad 14 0 0))]) hx hb d_15_67_228 hl (k := 1) rfl (iI_add _ 1) (by decide) rfl (fun ls hl => ?_)
        refine lv_goto (tgt := 203) hx hb (D_167 W_prog_15_method_67_code_224 7 rfl rfl rfl) (by decide) ?_
        exact ih hf hZ hS (lv_sub hl [0, 1, 2, 3] rfl)

def f_M_valueOf_200 (K : Nat) (l6 : Int) (l5 : Int) (F : zF) (B : zB) : zO := f_M_valueOf_203 K K 0 l6 l5 F B
set_option maxHeartbeats 4000000 in
set_option maxRecDepth 100000 in
theorem b_M_valueOf_200 {D : va_G} {ca : Nat → ClassId} {ad : Nat → Int → Nat → Nat} {L : List Nat} {aS vS : Nat → Nat} {A : Nat → Prop} {p : Program} {l : Launch} {e : Env} {s : State} {m : MethodId} {args : Array Value} {below : List Frame} {meth : Method} {c : Code} {K : Nat} {r : Int} {F9 : zF} {B9 : zB} (X : zX D ca L aS vS A p s m args meth c prog_15_method_67_code 8 (Option.some Jvm.ClassFile.FieldType.int) "StaveHouseModel") {l6 : Int} {l5 : Int} {F : zF} {B : zB} {H : Heap} {locs : List Loc} {ls : Array Slot} (hf : f_M_valueOf_200 K l6 l5 F B = some (r, F9, B9)) (hZ : zH D ca ad lnM nM L F B A H) (hS : va_S A s.heap H locs) (hl : lv_has ls 8 [(6, .int (iI l6)), (5, .int (iI l5)), (0, .ref (ad 14 0 0))]) : W p l e ({ frames := 0, cells := 0, slots := 0, locals := 0 } : Room) s m args below meth c H locs 0 0 (MQ below (Q_M_valueOf D ca ad L r F9 B9 A) args s 0 0 A) (F0 m 200 ls []) := by
  obtain ⟨hx, hb, hr, hml, hown, hts, hlk, hK, hA, hL, hX⟩ := id X
  replace hf : (f_M_valueOf_203 K K 0 l6 l5 F B) = some (r, F9, B9) := hf
  refine lv_iconst (v := iI 0) hx hb (D_3 W_prog_15_method_67_code_192 8 rfl rfl) rfl ?_
  refine lv_istore (lv' := [(7, .int (iI 0)), (6, .int (iI l6)), (5, .int (iI l5)), (0, .ref (ad 14 0 0))]) hx hb (D_54 W_prog_15_method_67_code_192 9 rfl rfl) hl (by decide) rfl (fun ls hl => ?_)
  exact b_M_valueOf_203 X hf hZ hS (lv_sub hl [0, 1, 2, 3] rfl)

def f_M_valueOf_173 (K : Nat) : Nat → Int → Int → Int → Int → zF → zB → zO
  | 0, _, _, _, _, _, _ => none
  | n + 1, l7, l6, l5, l4, F, B => if r32 l7 then if r32 l4 then (if l4 ≤ l7 then f_M_valueOf_200 K l6 l5 F B else if r32 l6 then (if 1024 < l6 then f_M_valueOf_200 K l6 l5 F B else f_M_valueOf_173 K n (l7 + 1) (l6 * 3) l5 l4 F B) else none) else none else none
set_option maxHeartbeats 4000000 in
set_option maxRecDepth 100000 in
theorem b_M_valueOf_173 {D : va_G} {ca : Nat → ClassId} {ad : Nat → Int → Nat → Nat} {L : List Nat} {aS vS : Nat → Nat} {A : Nat → Prop} {p : Program} {l : Launch} {e : Env} {s : State} {m : MethodId} {args : Array Value} {below : List Frame} {meth : Method} {c : Code} {K : Nat} {r : Int} {F9 : zF} {B9 : zB} (X : zX D ca L aS vS A p s m args meth c prog_15_method_67_code 8 (Option.some Jvm.ClassFile.FieldType.int) "StaveHouseModel") : ∀ {n : Nat} {l7 : Int} {l6 : Int} {l5 : Int} {l4 : Int} {F : zF} {B : zB} {H : Heap} {locs : List Loc} {ls : Array Slot}, f_M_valueOf_173 K n l7 l6 l5 l4 F B = some (r, F9, B9) → zH D ca ad lnM nM L F B A H → va_S A s.heap H locs → lv_has ls 8 [(7, .int (iI l7)), (6, .int (iI l6)), (5, .int (iI l5)), (4, .int (iI l4)), (0, .ref (ad 14 0 0))] → W p l e ({ frames := 0, cells := 0, slots := 0, locals := 0 } : Room) s m args below meth c H locs 0 0 (MQ below (Q_M_valueOf D ca ad L r F9 B9 A) args s 0 0 A) (F0 m 173 ls []) := by
  obtain ⟨hx, hb, hr, hml, hown, hts, hlk, hK, hA, hL, hX⟩ := id X
  intro n
  induction n with
  | zero =>
    intros
    rename_i hf _ _ _
    cases hf
  | succ n ih =>
    intro l7 l6 l5 l4 F B H locs ls hf hZ hS hl
    replace hf : (if r32 l7 then if r32 l4 then (if l4 ≤ l7 then f_M_valueOf_200 K l6 l5 F B else if r32 l6 then (if 1024 < l6 then f_M_valueOf_200 K l6 l5 F B else f_M_valueOf_173 K n (l7 + 1) (l6 * 3) l5 l4 F B) else none) else none else none) = some (r, F9, B9) := hf
    refine lv_iload hx hb (D_21 W_prog_15_method_67_code_160 13 rfl rfl) (lv_at hl 0 rfl) ?_
    refine lv_iload hx hb (D_21 W_prog_15_method_67_code_160 15 rfl rfl) (lv_at hl 3 rfl) ?_
    obtain ⟨g25, hf⟩ := gif hf
    obtain ⟨g26, hf⟩ := gif hf
    refine zge (tgt := 200) hx hb g25 g26 (D_162 W_prog_15_method_67_code_160 17 rfl rfl rfl) (by decide) (fun h27 => ?_) (fun h27 => ?_)
    · replace hf := gpos hf h27
      exact b_M_valueOf_200 X hf hZ hS (lv_sub hl [1, 2, 4] rfl)
    · replace hf := gneg hf h27
      refine lv_iload hx hb (D_21 W_prog_15_method_67_code_160 20 rfl rfl) (lv_at hl 1 rfl) ?_
      refine lv_sipush (v := iI 1024) hx hb (D_17 W_prog_15_method_67_code_160 22 rfl rfl rfl) (by decide) ?_
      obtain ⟨g28, hf⟩ := gif hf
      refine zgt (tgt := 200) hx hb g28 (by decide) (D_163 W_prog_15_method_67_code_160 25 rfl rfl rfl) (by decide) (fun h29 => ?_) (fun h29 => ?_)
      · replace hf := gpos hf h29
        exact b_M_valueOf_200 X hf hZ hS (lv_sub hl [1, 2, 4] rfl)
      · replace hf := gneg hf h29
        refine lv_iload hx hb (D_21 W_prog_15_method_67_code_160 28 rfl rfl) (lv_at hl 1 rfl) ?_
        refine lv_iconst (v := iI 3) hx hb (D_6 W_prog_15_method_67_code_160 30 rfl rfl) rfl ?_
        refine zmul hx hb (D_104 W_prog_15_method_67_code_160 31 rfl rfl) ?_
        refine lv_istore (lv' := [(6, .int (iI (l6 * 3))), (7, .int (iI l7)), (5, .int (iI l5)), (4, .int (iI l4)), (0, .ref (ad 14 0 0))]) hx hb (D_54 W_prog_15_method_67_code_192 0 rfl rfl) hl (by decide) rfl (fun ls hl => ?_)
        refine lv_iinc (v := iI (l7 + 1)) (lv' := [(7, .int (iI (l7 + 1))), (6, .int (iI (l6 * 3))), (5, .int (iI l5)), (4, .int (iI l4)), (0, .ref (ad 14 0 0))]) hx hb d_15_67_194 hl (k := 1) rfl (iI_add _ 1) (by decide) rfl (fun ls hl => ?_)
        refine lv_goto (tgt := 173) hx hb (D_167 W_prog_15_method_67_code_192 5 rfl rfl rfl) (by decide) ?_
        exact ih hf hZ hS (lv_sub hl [0, 1, 2, 3, 4] rfl)

def f_M_valueOf_170 (K : Nat) (l6 : Int) (l5 : Int) (l4 : Int) (F : zF) (B : zB) : zO := f_M_valueOf_173 K K 0 l6 l5 l4 F B
set_option maxHeartbeats 4000000 in
set_option maxRecDepth 100000 in
theorem b_M_valueOf_170 {D : va_G} {ca : Nat → ClassId} {ad : Nat → Int → Nat → Nat} {L : List Nat} {aS vS : Nat → Nat} {A : Nat → Prop} {p : Program} {l : Launch} {e : Env} {s : State} {m : MethodId} {args : Array Value} {below : List Frame} {meth : Method} {c : Code} {K : Nat} {r : Int} {F9 : zF} {B9 : zB} (X : zX D ca L aS vS A p s m args meth c prog_15_method_67_code 8 (Option.some Jvm.ClassFile.FieldType.int) "StaveHouseModel") {l6 : Int} {l5 : Int} {l4 : Int} {F : zF} {B : zB} {H : Heap} {locs : List Loc} {ls : Array Slot} (hf : f_M_valueOf_170 K l6 l5 l4 F B = some (r, F9, B9)) (hZ : zH D ca ad lnM nM L F B A H) (hS : va_S A s.heap H locs) (hl : lv_has ls 8 [(6, .int (iI l6)), (5, .int (iI l5)), (4, .int (iI l4)), (0, .ref (ad 14 0 0))]) : W p l e ({ frames := 0, cells := 0, slots := 0, locals := 0 } : Room) s m args below meth c H locs 0 0 (MQ below (Q_M_valueOf D ca ad L r F9 B9 A) args s 0 0 A) (F0 m 170 ls []) := by
  obtain ⟨hx, hb, hr, hml, hown, hts, hlk, hK, hA, hL, hX⟩ := id X
  replace hf : (f_M_valueOf_173 K K 0 l6 l5 l4 F B) = some (r, F9, B9) := hf
  refine lv_iconst (v := iI 0) hx hb (D_3 W_prog_15_method_67_code_160 10 rfl rfl) rfl ?_
  refine lv_istore (lv' := [(7, .int (iI 0)), (6, .int (iI l6)), (5, .int (iI l5)), (4, .int (iI l4)), (0, .ref (ad 14 0 0))]) hx hb (D_54 W_prog_15_method_67_code_160 11 rfl rfl) hl (by decide) rfl (fun ls hl => ?_)
  exact b_M_valueOf_173 X hf hZ hS (lv_sub hl [0, 1, 2, 3, 4] rfl)

def f_M_valueOf_144 (K : Nat) : Nat → Int → Int → Int → Int → Int → zF → zB → zO
  | 0, _, _, _, _, _, _, _ => none
  | n + 1, l7, l6, l5, l4, l3, F, B => if r32 l7 then if r32 l3 then (if l3 ≤ l7 then f_M_valueOf_170 K l6 l5 l4 F B else if r32 l6 then (if 1024 < l6 then f_M_valueOf_170 K l6 l5 l4 F B else f_M_valueOf_144 K n (l7 + 1) (l6 * 2) l5 l4 l3 F B) else none) else none else none
set_option maxHeartbeats 4000000 in
set_option maxRecDepth 100000 in
theorem b_M_valueOf_144 {D : va_G} {ca : Nat → ClassId} {ad : Nat → Int → Nat → Nat} {L : List Nat} {aS vS : Nat → Nat} {A : Nat → Prop} {p : Program} {l : Launch} {e : Env} {s : State} {m : MethodId} {args : Array Value} {below : List Frame} {meth : Method} {c : Code} {K : Nat} {r : Int} {F9 : zF} {B9 : zB} (X : zX D ca L aS vS A p s m args meth c prog_15_method_67_code 8 (Option.some Jvm.ClassFile.FieldType.int) "StaveHouseModel") : ∀ {n : Nat} {l7 : Int} {l6 : Int} {l5 : Int} {l4 : Int} {l3 : Int} {F : zF} {B : zB} {H : Heap} {locs : List Loc} {ls : Array Slot}, f_M_valueOf_144 K n l7 l6 l5 l4 l3 F B = some (r, F9, B9) → zH D ca ad lnM nM L F B A H → va_S A s.heap H locs → lv_has ls 8 [(7, .int (iI l7)), (6, .int (iI l6)), (5, .int (iI l5)), (4, .int (iI l4)), (3, .int (iI l3)), (0, .ref (ad 14 0 0))] → W p l e ({ frames := 0, cells := 0, slots := 0, locals := 0 } : Room) s m args below meth c H locs 0 0 (MQ below (Q_M_valueOf D ca ad L r F9 B9 A) args s 0 0 A) (F0 m 144 ls []) := by
  obtain ⟨hx, hb, hr, hml, hown, hts, hlk, hK, hA, hL, hX⟩ := id X
  intro n
  induction n with
  | zero =>
    intros
    rename_i hf _ _ _
    cases hf
  | succ n ih =>
    intro l7 l6 l5 l4 l3 F B H locs ls hf hZ hS hl
    replace hf : (if r32 l7 then if r32 l3 then (if l3 ≤ l7 then f_M_valueOf_170 K l6 l5 l4 F B else if r32 l6 then (if 1024 < l6 then f_M_valueOf_170 K l6 l5 l4 F B else f_M_valueOf_144 K n (l7 + 1) (l6 * 2) l5 l4 l3 F B) else none) else none else none) = some (r, F9, B9) := hf
    refine lv_iload hx hb (D_21 W_prog_15_method_67_code_128 16 rfl rfl) (lv_at hl 0 rfl) ?_
    refine lv_iload_n hx hb (D_29 W_prog_15_method_67_code_128 18 rfl rfl) rfl (lv_at hl 4 rfl) ?_
    obtain ⟨g20, hf⟩ := gif hf
    obtain ⟨g21, hf⟩ := gif hf
    refine zge (tgt := 170) hx hb g20 g21 (D_162 W_prog_15_method_67_code_128 19 rfl rfl rfl) (by decide) (fun h22 => ?_) (fun h22 => ?_)
    · replace hf := gpos hf h22
      exact b_M_valueOf_170 X hf hZ hS (lv_sub hl [1, 2, 3, 5] rfl)
    · replace hf := gneg hf h22
      refine lv_iload hx hb (D_21 W_prog_15_method_67_code_128 22 rfl rfl) (lv_at hl 1 rfl) ?_
      refine lv_sipush (v := iI 1024) hx hb (D_17 W_prog_15_method_67_code_128 24 rfl rfl rfl) (by decide) ?_
      obtain ⟨g23, hf⟩ := gif hf
      refine zgt (tgt := 170) hx hb g23 (by decide) (D_163 W_prog_15_method_67_code_128 27 rfl rfl rfl) (by decide) (fun h24 => ?_) (fun h24 => ?_)
      · replace hf := gpos hf h24
        exact b_M_valueOf_170 X hf hZ hS (lv_sub hl [1, 2, 3, 5] rfl)
      · replace hf := gneg hf h24
        refine lv_iload hx hb (D_21 W_prog_15_method_67_code_128 30 rfl rfl) (lv_at hl 1 rfl) ?_
        refine lv_iconst (v := iI 2) hx hb (D_5 W_prog_15_method_67_code_160 0 rfl rfl) rfl ?_
        refine zmul hx hb (D_104 W_prog_15_method_67_code_160 1 rfl rfl) ?_
        refine lv_istore (lv' := [(6, .int (iI (l6 * 2))), (7, .int (iI l7)), (5, .int (iI l5)), (4, .int (iI l4)), (3, .int (iI l3)), (0, .ref (ad 14 0 0))]) hx hb (D_54 W_prog_15_method_67_code_160 2 rfl rfl) hl (by decide) rfl (fun ls hl => ?_)
        refine lv_iinc (v := iI (l7 + 1)) (lv' := [(7, .int (iI (l7 + 1))), (6, .int (iI (l6 * 2))), (5, .int (iI l5)), (4, .int (iI l4)), (3, .int (iI l3)), (0, .ref (ad 14 0 0))]) hx hb d_15_67_164 hl (k := 1) rfl (iI_add _ 1) (by decide) rfl (fun ls hl => ?_)
        refine lv_goto (tgt := 144) hx hb (D_167 W_prog_15_method_67_code_160 7 rfl rfl rfl) (by decide) ?_
        exact ih hf hZ hS (lv_sub hl [0, 1, 2, 3, 4, 5] rfl)

def f_M_valueOf_136 (K : Nat)  (F : zF) (B : zB) : zO := some ((-1), F, B)
set_option maxHeartbeats 4000000 in
set_option maxRecDepth 100000 in
theorem b_M_valueOf_136 {D : va_G} {ca : Nat → ClassId} {ad : Nat → Int → Nat → Nat} {L : List Nat} {aS vS : Nat → Nat} {A : Nat → Prop} {p : Program} {l : Launch} {e : Env} {s : State} {m : MethodId} {args : Array Value} {below : List Frame} {meth : Method} {c : Code} {K : Nat} {r : Int} {F9 : zF} {B9 : zB} (X : zX D ca L aS vS A p s m args meth c prog_15_method_67_code 8 (Option.some Jvm.ClassFile.FieldType.int) "StaveHouseModel")  {F : zF} {B : zB} {H : Heap} {locs : List Loc} {ls : Array Slot} (hf : f_M_valueOf_136 K  F B = some (r, F9, B9)) (hZ : zH D ca ad lnM nM L F B A H) (hS : va_S A s.heap H locs) (hl : lv_has ls 8 []) : W p l e ({ frames := 0, cells := 0, slots := 0, locals := 0 } : Room) s m args below meth c H locs 0 0 (MQ below (Q_M_valueOf D ca ad L r F9 B9 A) args s 0 0 A) (F0 m 136 ls []) := by
  obtain ⟨hx, hb, hr, hml, hown, hts, hlk, hK, hA, hL, hX⟩ := id X
  replace hf : (some ((-1), F, B)) = some (r, F9, B9) := hf
  refine lv_iconst (v := iI (-1)) hx hb (D_2 W_prog_15_method_67_code_128 8 rfl rfl) rfl ?_
  cases hf
  exact W.iret hx hb hr (fun t ht hW => ⟨⟨_, (), rfl, rfl, by rw [ht]; exact hZ, va_K.moved hW.alike hK⟩, hS.F ht⟩) hS.2.2 (D_172 W_prog_15_method_67_code_128 9 rfl rfl) hlk

def f_M_valueOf_110 (K : Nat) (l4 : Int) (l3 : Int) (s0 : Int) (s1 : Int) (F : zF) (B : zB) : zO := if r32 l3 then (if l3 < 0 then f_M_valueOf_136 K F B else if r32 l4 then (if l4 < 0 then f_M_valueOf_136 K F B else if r32 (B 14 0 51 5) then (if (B 14 0 51 5) < 0 then f_M_valueOf_136 K F B else if r32 (s0 + s1) then (if 0 ≤ (s0 + s1) then f_M_valueOf_144 K K 0 1 (s0 + s1) l4 l3 F B else f_M_valueOf_136 K F B) else none) else none) else none) else none
set_option maxHeartbeats 4000000 in
set_option maxRecDepth 100000 in
theorem b_M_valueOf_110 {D : va_G} {ca : Nat → ClassId} {ad : Nat → Int → Nat → Nat} {L : List Nat} {aS vS : Nat → Nat} {A : Nat → Prop} {p : Program} {l : Launch} {e : Env} {s : State} {m : MethodId} {args : Array Value} {below : List Frame} {meth : Method} {c : Code} {K : Nat} {r : Int} {F9 : zF} {B9 : zB} (X : zX D ca L aS vS A p s m args meth c prog_15_method_67_code 8 (Option.some Jvm.ClassFile.FieldType.int) "StaveHouseModel") {l4 : Int} {l3 : Int} {s0 : Int} {s1 : Int} {F : zF} {B : zB} {H : Heap} {locs : List Loc} {ls : Array Slot} (hf : f_M_valueOf_110 K l4 l3 s0 s1 F B = some (r, F9, B9)) (hZ : zH D ca ad lnM nM L F B A H) (hS : va_S A s.heap H locs) (hl : lv_has ls 8 [(4, .int (iI l4)), (3, .int (iI l3)), (0, .ref (ad 14 0 0))]) : W p l e ({ frames := 0, cells := 0, slots := 0, locals := 0 } : Room) s m args below meth c H locs 0 0 (MQ below (Q_M_valueOf D ca ad L r F9 B9 A) args s 0 0 A) (F0 m 110 ls [.int (iI s1), .int (iI s0)]) := by
  obtain ⟨hx, hb, hr, hml, hown, hts, hlk, hK, hA, hL, hX⟩ := id X
  replace hf : (if r32 l3 then (if l3 < 0 then f_M_valueOf_136 K F B else if r32 l4 then (if l4 < 0 then f_M_valueOf_136 K F B else if r32 (B 14 0 51 5) then (if (B 14 0 51 5) < 0 then f_M_valueOf_136 K F B else if r32 (s0 + s1) then (if 0 ≤ (s0 + s1) then f_M_valueOf_144 K K 0 1 (s0 + s1) l4 l3 F B else f_M_valueOf_136 K F B) else none) else none) else none) else none) = some (r, F9, B9) := hf
  refine zadd hx hb (D_96 W_prog_15_method_67_code_96 14 rfl rfl) ?_
  refine lv_istore (lv' := [(5, .int (iI (s0 + s1))), (4, .int (iI l4)), (3, .int (iI l3)), (0, .ref (ad 14 0 0))]) hx hb (D_54 W_prog_15_method_67_code_96 15 rfl rfl) hl (by decide) rfl (fun ls hl => ?_)
  refine lv_iload_n hx hb (D_29 W_prog_15_method_67_code_96 17 rfl rfl) rfl (lv_at hl 2 rfl) ?_
  obtain ⟨g12, hf⟩ := gif hf
  refine z0lt (tgt := 136) hx hb g12 (D_155 W_prog_15_method_67_code_96 18 rfl rfl rfl) (by decide) (fun h13 => ?_) (fun h13 => ?_)
  · replace hf := gpos hf h13
    exact b_M_valueOf_136 X hf hZ hS (lv_sub hl [] rfl)
  · replace hf := gneg hf h13
    refine lv_iload hx hb (D_21 W_prog_15_method_67_code_96 21 rfl rfl) (lv_at hl 1 rfl) ?_
    obtain ⟨g14, hf⟩ := gif hf
    refine z0lt (tgt := 136) hx hb g14 (D_155 W_prog_15_method_67_code_96 23 rfl rfl rfl) (by decide) (fun h15 => ?_) (fun h15 => ?_)
    · replace hf := gpos hf h15
      exact b_M_valueOf_136 X hf hZ hS (lv_sub hl [] rfl)
    · replace hf := gneg hf h15
      refine lv_aload_n hx hb (D_42 W_prog_15_method_67_code_96 26 rfl rfl) rfl (lv_at hl 3 rfl) ?_
      refine zget (ci := 14) (C := RX14) (T := TX14) (v := .ref (ad 14 0 (51 + 1))) (k := 51) hx hb hts inW_14 hown hK hZ (by decide) (by decide) rfl (by decide) k_11_49 rfl (D_180 W_prog_15_method_67_code_96 27 rfl rfl rfl) ?_
      refine lv_iconst (v := iI 5) hx hb (D_8 W_prog_15_method_67_code_96 30 rfl rfl) rfl ?_
      refine zald (ci := 14) (k := 51) hx hb hK rfl hZ (by decide) (by decide) rfl (Nat.le_of_ble_eq_true rfl) (by decide) (by decide) (D_46 W_prog_15_method_67_code_96 31 rfl rfl) ?_
      obtain ⟨g16, hf⟩ := gif hf
      refine z0lt (tgt := 136) hx hb g16 (D_155 W_prog_15_method_67_code_128 0 rfl rfl rfl) (by decide) (fun h17 => ?_) (fun h17 => ?_)
      · replace hf := gpos hf h17
        exact b_M_valueOf_136 X hf hZ hS (lv_sub hl [] rfl)
      · replace hf := gneg hf h17
        refine lv_iload hx hb (D_21 W_prog_15_method_67_code_128 3 rfl rfl) (lv_at hl 0 rfl) ?_
        obtain ⟨g18, hf⟩ := gif hf
        refine z0ge (tgt := 138) hx hb g18 (D_156 W_prog_15_method_67_code_128 5 rfl rfl rfl) (by decide) (fun h19 => ?_) (fun h19 => ?_)
        · replace hf := gpos hf h19
          refine lv_iconst (v := iI 1) hx hb (D_4 W_prog_15_method_67_code_128 10 rfl rfl) rfl ?_
          refine lv_istore (lv' := [(6, .int (iI 1)), (5, .int (iI (s0 + s1))), (4, .int (iI l4)), (3, .int (iI l3)), (0, .ref (ad 14 0 0))]) hx hb (D_54 W_prog_15_method_67_code_128 11 rfl rfl) hl (by decide) rfl (fun ls hl => ?_)
          refine lv_iconst (v := iI 0) hx hb (D_3 W_prog_15_method_67_code_128 13 rfl rfl) rfl ?_
          refine lv_istore (lv' := [(7, .int (iI 0)), (6, .int (iI 1)), (5, .int (iI (s0 + s1))), (4, .int (iI l4)), (3, .int (iI l3)), (0, .ref (ad 14 0 0))]) hx hb (D_54 W_prog_15_method_67_code_128 14 rfl rfl) hl (by decide) rfl (fun ls hl => ?_)
          exact b_M_valueOf_144 X hf hZ hS (lv_sub hl [0, 1, 2, 3, 4, 5] rfl)
        · replace hf := gneg hf h19
          exact b_M_valueOf_136 X hf hZ hS (lv_sub hl [] rfl)

def f_M_valueOf_89 (K : Nat) (l3 : Int) (l2 : Int) (s0 : Int) (s1 : Int) (F : zF) (B : zB) : zO := if r32 l2 then (if l2 = 7 then f_M_valueOf_110 K (s0 + s1) l3 (B 14 0 51 7) 1 F B else f_M_valueOf_110 K (s0 + s1) l3 (B 14 0 51 7) 0 F B) else none
set_option maxHeartbeats 4000000 in
set_option maxRecDepth 100000 in
theorem b_M_valueOf_89 {D : va_G} {ca : Nat → ClassId} {ad : Nat → Int → Nat → Nat} {L : List Nat} {aS vS : Nat → Nat} {A : Nat → Prop} {p : Program} {l : Launch} {e : Env} {s : State} {m : MethodId} {args : Array Value} {below : List Frame} {meth : Method} {c : Code} {K : Nat} {r : Int} {F9 : zF} {B9 : zB} (X : zX D ca L aS vS A p s m args meth c prog_15_method_67_code 8 (Option.some Jvm.ClassFile.FieldType.int) "StaveHouseModel") {l3 : Int} {l2 : Int} {s0 : Int} {s1 : Int} {F : zF} {B : zB} {H : Heap} {locs : List Loc} {ls : Array Slot} (hf : f_M_valueOf_89 K l3 l2 s0 s1 F B = some (r, F9, B9)) (hZ : zH D ca ad lnM nM L F B A H) (hS : va_S A s.heap H locs) (hl : lv_has ls 8 [(3, .int (iI l3)), (2, .int (iI l2)), (0, .ref (ad 14 0 0))]) : W p l e ({ frames := 0, cells := 0, slots := 0, locals := 0 } : Room) s m args below meth c H locs 0 0 (MQ below (Q_M_valueOf D ca ad L r F9 B9 A) args s 0 0 A) (F0 m 89 ls [.int (iI s1), .int (iI s0)]) := by
  obtain ⟨hx, hb, hr, hml, hown, hts, hlk, hK, hA, hL, hX⟩ := id X
  replace hf : (if r32 l2 then (if l2 = 7 then f_M_valueOf_110 K (s0 + s1) l3 (B 14 0 51 7) 1 F B else f_M_valueOf_110 K (s0 + s1) l3 (B 14 0 51 7) 0 F B) else none) = some (r, F9, B9) := hf
  refine zadd hx hb (D_96 W_prog_15_method_67_code_64 25 rfl rfl) ?_
  refine lv_istore (lv' := [(4, .int (iI (s0 + s1))), (3, .int (iI l3)), (2, .int (iI l2)), (0, .ref (ad 14 0 0))]) hx hb (D_54 W_prog_15_method_67_code_64 26 rfl rfl) hl (by decide) rfl (fun ls hl => ?_)
  refine lv_aload_n hx hb (D_42 W_prog_15_method_67_code_64 28 rfl rfl) rfl (lv_at hl 3 rfl) ?_
  refine zget (ci := 14) (C := RX14) (T := TX14) (v := .ref (ad 14 0 (51 + 1))) (k := 51) hx hb hts inW_14 hown hK hZ (by decide) (by decide) rfl (by decide) k_11_49 rfl (D_180 W_prog_15_method_67_code_64 29 rfl rfl rfl) ?_
  refine lv_bipush (v := iI 7) hx hb (D_16 W_prog_15_method_67_code_96 0 rfl rfl rfl) (by decide) ?_
  refine zald (ci := 14) (k := 51) hx hb hK rfl hZ (by decide) (by decide) rfl (Nat.le_of_ble_eq_true rfl) (by decide) (by decide) (D_46 W_prog_15_method_67_code_96 2 rfl rfl) ?_
  refine lv_iload_n hx hb (D_28 W_prog_15_method_67_code_96 3 rfl rfl) rfl (lv_at hl 2 rfl) ?_
  refine lv_bipush (v := iI 7) hx hb (D_16 W_prog_15_method_67_code_96 4 rfl rfl rfl) (by decide) ?_
  obtain ⟨g10, hf⟩ := gif hf
  refine zne (tgt := 109) hx hb g10 (by decide) (D_160 W_prog_15_method_67_code_96 6 rfl rfl rfl) (by decide) (fun h11 => ?_) (fun h11 => ?_)
  · replace hf := gneg hf h11
    refine lv_iconst (v := iI 0) hx hb (D_3 W_prog_15_method_67_code_96 13 rfl rfl) rfl ?_
    exact b_M_valueOf_110 X hf hZ hS (lv_sub hl [0, 1, 3] rfl)
  · replace hf := gpos hf h11
    refine lv_iconst (v := iI 1) hx hb (D_4 W_prog_15_method_67_code_96 9 rfl rfl) rfl ?_
    refine lv_goto (tgt := 110) hx hb (D_167 W_prog_15_method_67_code_96 10 rfl rfl rfl) (by decide) ?_
    exact b_M_valueOf_110 X hf hZ hS (lv_sub hl [0, 1, 3] rfl)

def f_M_valueOf_55 (K : Nat) : Nat → Int → Int → Int → zF → zB → zO
  | 0, _, _, _, _, _ => none
  | n + 1, l4, l3, l2, F, B => if r32 l4 then (if l4 ≤ 1 then if r32 l2 then (if l2 = 3 then f_M_valueOf_89 K l3 l2 (B 14 0 51 3) 1 F B else f_M_valueOf_89 K l3 l2 (B 14 0 51 3) 0 F B) else none else f_M_valueOf_55 K n (zdv l4 2) (l3 - 1) l2 F B) else none
set_option maxHeartbeats 4000000 in
set_option maxRecDepth 100000 in
theorem b_M_valueOf_55 {D : va_G} {ca : Nat → ClassId} {ad : Nat → Int → Nat → Nat} {L : List Nat} {aS vS : Nat → Nat} {A : Nat → Prop} {p : Program} {l : Launch} {e : Env} {s : State} {m : MethodId} {args : Array Value} {below : List Frame} {meth : Method} {c : Code} {K : Nat} {r : Int} {F9 : zF} {B9 : zB} (X : zX D ca L aS vS A p s m args meth c prog_15_method_67_code 8 (Option.some Jvm.ClassFile.FieldType.int) "StaveHouseModel") : ∀ {n : Nat} {l4 : Int} {l3 : Int} {l2 : Int} {F : zF} {B : zB} {H : Heap} {locs : List Loc} {ls : Array Slot}, f_M_valueOf_55 K n l4 l3 l2 F B = some (r, F9, B9) → zH D ca ad lnM nM L F B A H → va_S A s.heap H locs → lv_has ls 8 [(4, .int (iI l4)), (3, .int (iI l3)), (2, .int (iI l2)), (0, .ref (ad 14 0 0))] → W p l e ({ frames := 0, cells := 0, slots := 0, locals := 0 } : Room) s m args below meth c H locs 0 0 (MQ below (Q_M_valueOf D ca ad L r F9 B9 A) args s 0 0 A) (F0 m 55 ls []) := by
  obtain ⟨hx, hb, hr, hml, hown, hts, hlk, hK, hA, hL, hX⟩ := id X
  intro n
  induction n with
  | zero =>
    intros
    rename_i hf _ _ _
    cases hf
  | succ n ih =>
    intro l4 l3 l2 F B H locs ls hf hZ hS hl
    replace hf : (if r32 l4 then (if l4 ≤ 1 then if r32 l2 then (if l2 = 3 then f_M_valueOf_89 K l3 l2 (B 14 0 51 3) 1 F B else f_M_valueOf_89 K l3 l2 (B 14 0 51 3) 0 F B) else none else f_M_valueOf_55 K n (zdv l4 2) (l3 - 1) l2 F B) else none) = some (r, F9, B9) := hf
    refine lv_iload hx hb (D_21 W_prog_15_method_67_code_32 23 rfl rfl) (lv_at hl 0 rfl) ?_
    refine lv_iconst (v := iI 1) hx hb (D_4 W_prog_15_method_67_code_32 25 rfl rfl) rfl ?_
    obtain ⟨g6, hf⟩ := gif hf
    refine zle (tgt := 73) hx hb g6 (by decide) (D_164 W_prog_15_method_67_code_32 26 rfl rfl rfl) (by decide) (fun h7 => ?_) (fun h7 => ?_)
    · replace hf := gpos hf h7
      refine lv_aload_n hx hb (D_42 W_prog_15_method_67_code_64 9 rfl rfl) rfl (lv_at hl 3 rfl) ?_
      refine zget (ci := 14) (C := RX14) (T := TX14) (v := .ref (ad 14 0 (51 + 1))) (k := 51) hx hb hts inW_14 hown hK hZ (by decide) (by decide) rfl (by decide) k_11_49 rfl (D_180 W_prog_15_method_67_code_64 10 rfl rfl rfl) ?_
      refine lv_iconst (v := iI 3) hx hb (D_6 W_prog_15_method_67_code_64 13 rfl rfl) rfl ?_
      refine zald (ci := 14) (k := 51) hx hb hK rfl hZ (by decide) (by decide) rfl (Nat.le_of_ble_eq_true rfl) (by decide) (by decide) (D_46 W_prog_15_method_67_code_64 14 rfl rfl) ?_
      refine lv_iload_n hx hb (D_28 W_prog_15_method_67_code_64 15 rfl rfl) rfl (lv_at hl 2 rfl) ?_
      refine lv_iconst (v := iI 3) hx hb (D_6 W_prog_15_method_67_code_64 16 rfl rfl) rfl ?_
      obtain ⟨g8, hf⟩ := gif hf
      refine zne (tgt := 88) hx hb g8 (by decide) (D_160 W_prog_15_method_67_code_64 17 rfl rfl rfl) (by decide) (fun h9 => ?_) (fun h9 => ?_)
      · replace hf := gneg hf h9
        refine lv_iconst (v := iI 0) hx hb (D_3 W_prog_15_method_67_code_64 24 rfl rfl) rfl ?_
        exact b_M_valueOf_89 X hf hZ hS (lv_sub hl [1, 2, 3] rfl)
      · replace hf := gpos hf h9
        refine lv_iconst (v := iI 1) hx hb (D_4 W_prog_15_method_67_code_64 20 rfl rfl) rfl ?_
        refine lv_goto (tgt := 89) hx hb (D_167 W_prog_15_method_67_code_64 21 rfl rfl rfl) (by decide) ?_
        exact b_M_valueOf_89 X hf hZ hS (lv_sub hl [1, 2, 3] rfl)
    · replace hf := gneg hf h7
      refine lv_iinc (v := iI (l3 - 1)) (lv' := [(3, .int (iI (l3 - 1))), (4, .int (iI l4)), (2, .int (iI l2)), (0, .ref (ad 14 0 0))]) hx hb d_15_67_61 hl (k := 1) rfl (by rw [show Int32.ofInt (-1) = iI (-1) from rfl, iI_add]; congr 1) (by decide) rfl (fun ls hl => ?_)
      refine lv_iload hx hb (D_21 W_prog_15_method_67_code_64 0 rfl rfl) (lv_at hl 1 rfl) ?_
      refine lv_iconst (v := iI 2) hx hb (D_5 W_prog_15_method_67_code_64 2 rfl rfl) rfl ?_
      refine zdv_r hx hb (by decide) (D_108 W_prog_15_method_67_code_64 3 rfl rfl) ?_
      refine lv_istore (lv' := [(4, .int (iI (zdv l4 2))), (3, .int (iI (l3 - 1))), (2, .int (iI l2)), (0, .ref (ad 14 0 0))]) hx hb (D_54 W_prog_15_method_67_code_64 4 rfl rfl) hl (by decide) rfl (fun ls hl => ?_)
      refine lv_goto (tgt := 55) hx hb (D_167 W_prog_15_method_67_code_64 6 rfl rfl rfl) (by decide) ?_
      exact ih hf hZ hS (lv_sub hl [0, 1, 2, 3] rfl)

def f_M_valueOf_29 (K : Nat) (l1 : Int) (s0 : Int) (F : zF) (B : zB) : zO := if 0 ≤ l1 ∧ l1 < 3001 then f_M_valueOf_55 K K (B 14 0 32 l1) (((B 14 0 51 2) + 7) - (B 14 0 33 l1)) s0 F B else none
set_option maxHeartbeats 4000000 in
set_option maxRecDepth 100000 in
theorem b_M_valueOf_29 {D : va_G} {ca : Nat → ClassId} {ad : Nat → Int → Nat → Nat} {L : List Nat} {aS vS : Nat → Nat} {A : Nat → Prop} {p : Program} {l : Launch} {e : Env} {s : State} {m : MethodId} {args : Array Value} {below : List Frame} {meth : Method} {c : Code} {K : Nat} {r : Int} {F9 : zF} {B9 : zB} (X : zX D ca L aS vS A p s m args meth c prog_15_method_67_code 8 (Option.some Jvm.ClassFile.FieldType.int) "StaveHouseModel") {l1 : Int} {s0 : Int} {F : zF} {B : zB} {H : Heap} {locs : List Loc} {ls : Array Slot} (hf : f_M_valueOf_29 K l1 s0 F B = some (r, F9, B9)) (hZ : zH D ca ad lnM nM L F B A H) (hS : va_S A s.heap H locs) (hl : lv_has ls 8 [(0, .ref (ad 14 0 0)), (1, .int (iI l1))]) : W p l e ({ frames := 0, cells := 0, slots := 0, locals := 0 } : Room) s m args below meth c H locs 0 0 (MQ below (Q_M_valueOf D ca ad L r F9 B9 A) args s 0 0 A) (F0 m 29 ls [.int (iI s0)]) := by
  obtain ⟨hx, hb, hr, hml, hown, hts, hlk, hK, hA, hL, hX⟩ := id X
  replace hf : (if 0 ≤ l1 ∧ l1 < 3001 then f_M_valueOf_55 K K (B 14 0 32 l1) (((B 14 0 51 2) + 7) - (B 14 0 33 l1)) s0 F B else none) = some (r, F9, B9) := hf
  refine lv_istore_n (lv' := [(2, .int (iI s0)), (0, .ref (ad 14 0 0)), (1, .int (iI l1))]) hx hb (D_61 W_prog_15_method_67_code_0 29 rfl rfl) rfl hl (by decide) rfl (fun ls hl => ?_)
  refine lv_aload_n hx hb (D_42 W_prog_15_method_67_code_0 30 rfl rfl) rfl (lv_at hl 1 rfl) ?_
  refine zget (ci := 14) (C := RX14) (T := TX14) (v := .ref (ad 14 0 (51 + 1))) (k := 51) hx hb hts inW_14 hown hK hZ (by decide) (by decide) rfl (by decide) k_11_49 rfl (D_180 W_prog_15_method_67_code_0 31 rfl rfl rfl) ?_
  refine lv_iconst (v := iI 2) hx hb (D_5 W_prog_15_method_67_code_32 2 rfl rfl) rfl ?_
  refine zald (ci := 14) (k := 51) hx hb hK rfl hZ (by decide) (by decide) rfl (Nat.le_of_ble_eq_true rfl) (by decide) (by decide) (D_46 W_prog_15_method_67_code_32 3 rfl rfl) ?_
  refine lv_bipush (v := iI 7) hx hb (D_16 W_prog_15_method_67_code_32 4 rfl rfl rfl) (by decide) ?_
  refine zadd hx hb (D_96 W_prog_15_method_67_code_32 6 rfl rfl) ?_
  refine lv_aload_n hx hb (D_42 W_prog_15_method_67_code_32 7 rfl rfl) rfl (lv_at hl 1 rfl) ?_
  refine zget (ci := 14) (C := RX14) (T := TX14) (v := .ref (ad 14 0 (33 + 1))) (k := 33) hx hb hts inW_14 hown hK hZ (by decide) (by decide) rfl (by decide) k_11_31 rfl (D_180 W_prog_15_method_67_code_32 8 rfl rfl rfl) ?_
  refine lv_iload_n hx hb (D_27 W_prog_15_method_67_code_32 11 rfl rfl) rfl (lv_at hl 2 rfl) ?_
  obtain ⟨g5, hf⟩ := gif hf
  refine zald (ci := 14) (k := 33) hx hb hK rfl hZ (by decide) (by decide) rfl (Nat.le_of_ble_eq_true rfl) g5.1 g5.2 (D_46 W_prog_15_method_67_code_32 12 rfl rfl) ?_
  refine zsub hx hb (D_100 W_prog_15_method_67_code_32 13 rfl rfl) ?_
  refine lv_istore_n (lv' := [(3, .int (iI (((B 14 0 51 2) + 7) - (B 14 0 33 l1)))), (2, .int (iI s0)), (0, .ref (ad 14 0 0)), (1, .int (iI l1))]) hx hb (D_62 W_prog_15_method_67_code_32 14 rfl rfl) rfl hl (by decide) rfl (fun ls hl => ?_)
  refine lv_aload_n hx hb (D_42 W_prog_15_method_67_code_32 15 rfl rfl) rfl (lv_at hl 2 rfl) ?_
  refine zget (ci := 14) (C := RX14) (T := TX14) (v := .ref (ad 14 0 (32 + 1))) (k := 32) hx hb hts inW_14 hown hK hZ (by decide) (by decide) rfl (by decide) k_11_30 rfl (D_180 W_prog_15_method_67_code_32 16 rfl rfl rfl) ?_
  refine lv_iload_n hx hb (D_27 W_prog_15_method_67_code_32 19 rfl rfl) rfl (lv_at hl 3 rfl) ?_
  refine zald (ci := 14) (k := 32) hx hb hK rfl hZ (by decide) (by decide) rfl (Nat.le_of_ble_eq_true rfl) g5.1 g5.2 (D_46 W_prog_15_method_67_code_32 20 rfl rfl) ?_
  refine lv_istore (lv' := [(4, .int (iI (B 14 0 32 l1))), (3, .int (iI (((B 14 0 51 2) + 7) - (B 14 0 33 l1)))), (2, .int (iI s0)), (0, .ref (ad 14 0 0)), (1, .int (iI l1))]) hx hb (D_54 W_prog_15_method_67_code_32 21 rfl rfl) hl (by decide) rfl (fun ls hl => ?_)
  exact b_M_valueOf_55 X hf hZ hS (lv_sub hl [0, 1, 2, 3] rfl)

def f_M_valueOf (K : Nat) (l1 : Int) (F : zF) (B : zB) : zO := if 0 ≤ l1 ∧ l1 < 3001 then if r32 (B 14 0 33 l1) then (if (B 14 0 33 l1) = 0 then f_M_valueOf_29 K l1 1 F B else (if (B 14 0 33 l1) = 1 then f_M_valueOf_29 K l1 3 F B else f_M_valueOf_29 K l1 7 F B)) else none else none
set_option maxHeartbeats 4000000 in
set_option maxRecDepth 100000 in
theorem c_M_valueOf {l : Launch} {D : va_G} {ca : Nat → ClassId} {ad : Nat → Int → Nat → Nat} {L : List Nat} {aS vS : Nat → Nat} {sz K : Nat}  {l1 : Int} {F F9 : zF} {B B9 : zB} {r : Int} (hf : f_M_valueOf K l1 F B = some (r, F9, B9)) : Met l ({ cls := "StaveHouseModel", name := "valueOf", desc := "(I)I" } : Jvm.MethodName) (Cond.code ({ cls := "StaveHouseModel", name := "valueOf", desc := "(I)I" } : Jvm.MethodName) prog_15_method_67_code 8 (Option.some Jvm.ClassFile.FieldType.int) :: wAll) ({ frames := 0, cells := 0, slots := 0, locals := 0 } : Room) (va_Pc [.ref (ad 14 0 0), .int (iI l1)] (zPre D ca ad lnM nM L aS vS F B sz)) (Q_M_valueOf D ca ad L r F9 B9 (zA L sz)) 0 0 (zA L sz) := by
  refine zMet (Qc := Q_M_valueOf D ca ad L r F9 B9) (lv := [(0, .ref (ad 14 0 0)), (1, .int (iI l1))]) (by decide) (Nat.le_of_ble_eq_true rfl) rfl (fun A p e s m below meth c ls X hZ hS hl => ?_)
  obtain ⟨hx, hb, hr, hml, hown, hts, hlk, hK, hA, hL, hX⟩ := id X
  replace hf : (if 0 ≤ l1 ∧ l1 < 3001 then if r32 (B 14 0 33 l1) then (if (B 14 0 33 l1) = 0 then f_M_valueOf_29 K l1 1 F B else (if (B 14 0 33 l1) = 1 then f_M_valueOf_29 K l1 3 F B else f_M_valueOf_29 K l1 7 F B)) else none else none) = some (r, F9, B9) := hf
  refine lv_aload_n hx hb (D_42 W_prog_15_method_67_code_0 0 rfl rfl) rfl (lv_at hl 0 rfl) ?_
  refine zget (ci := 14) (C := RX14) (T := TX14) (v := .ref (ad 14 0 (33 + 1))) (k := 33) hx hb hts inW_14 hown hK hZ (by decide) (by decide) rfl (by decide) k_11_31 rfl (D_180 W_prog_15_method_67_code_0 1 rfl rfl rfl) ?_
  refine lv_iload_n hx hb (D_27 W_prog_15_method_67_code_0 4 rfl rfl) rfl (lv_at hl 1 rfl) ?_
  obtain ⟨g1, hf⟩ := gif hf
  refine zald (ci := 14) (k := 33) hx hb hK rfl hZ (by decide) (by decide) rfl (Nat.le_of_ble_eq_true rfl) g1.1 g1.2 (D_46 W_prog_15_method_67_code_0 5 rfl rfl) ?_
  obtain ⟨g2, hf⟩ := gif hf
  refine z0ne (tgt := 13) hx hb g2 (D_154 W_prog_15_method_67_code_0 6 rfl rfl rfl) (by decide) (fun h3 => ?_) (fun h3 => ?_)
  · replace hf := gneg hf h3
    refine lv_aload_n hx hb (D_42 W_prog_15_method_67_code_0 13 rfl rfl) rfl (lv_at hl 0 rfl) ?_
    refine zget (ci := 14) (C := RX14) (T := TX14) (v := .ref (ad 14 0 (33 + 1))) (k := 33) hx hb hts inW_14 hown hK hZ (by decide) (by decide) rfl (by decide) k_11_31 rfl (D_180 W_prog_15_method_67_code_0 14 rfl rfl rfl) ?_
    refine lv_iload_n hx hb (D_27 W_prog_15_method_67_code_0 17 rfl rfl) rfl (lv_at hl 1 rfl) ?_
    refine zald (ci := 14) (k := 33) hx hb hK rfl hZ (by decide) (by decide) rfl (Nat.le_of_ble_eq_true rfl) g1.1 g1.2 (D_46 W_prog_15_method_67_code_0 18 rfl rfl) ?_
    refine lv_iconst (v := iI 1) hx hb (D_4 W_prog_15_method_67_code_0 19 rfl rfl) rfl ?_
    refine zne (tgt := 27) hx hb g2 (by decide) (D_160 W_prog_15_method_67_code_0 20 rfl rfl rfl) (by decide) (fun h4 => ?_) (fun h4 => ?_)
    · replace hf := gneg hf h4
      refine lv_bipush (v := iI 7) hx hb (D_16 W_prog_15_method_67_code_0 27 rfl rfl rfl) (by decide) ?_
      exact b_M_valueOf_29 X hf hZ hS (lv_sub hl [0, 1] rfl)
    · replace hf := gpos hf h4
      refine lv_iconst (v := iI 3) hx hb (D_6 W_prog_15_method_67_code_0 23 rfl rfl) rfl ?_
      refine lv_goto (tgt := 29) hx hb (D_167 W_prog_15_method_67_code_0 24 rfl rfl rfl) (by decide) ?_
      exact b_M_valueOf_29 X hf hZ hS (lv_sub hl [0, 1] rfl)
  · replace hf := gpos hf h3
    refine lv_iconst (v := iI 1) hx hb (D_4 W_prog_15_method_67_code_0 9 rfl rfl) rfl ?_
    refine lv_goto (tgt := 29) hx hb (D_167 W_prog_15_method_67_code_0 10 rfl rfl rfl) (by decide) ?_
    exact b_M_valueOf_29 X hf hZ hS (lv_sub hl [0, 1] rfl)

abbrev Q_M_behindPitches (D : va_G) (ca : Nat → ClassId) (ad : Nat → Int → Nat → Nat) (L : List Nat) (r : Int) (F : zF) (B : zB) (A : Nat → Prop) : Array Value → State → Outcome → State → Prop := va_Qi (S := Unit) (fun p _ => p = iI r) (fun _ => zPo D ca ad lnM nM L F B A) A
def f_M_behindPitches_4 (K : Nat) : Nat → Int → zF → zB → zO
  | 0, _, _, _ => none
  | n + 1, l2, F, B => if 0 ≤ l2 ∧ l2 < 3001 then if r32 (B 14 0 7 l2) then (if (B 14 0 7 l2) = 2 then f_M_behindPitches_4 K n (l2 + 1) F B else some (l2, F, B)) else none else none
set_option maxHeartbeats 4000000 in
set_option maxRecDepth 100000 in
theorem b_M_behindPitches_4 {D : va_G} {ca : Nat → ClassId} {ad : Nat → Int → Nat → Nat} {L : List Nat} {aS vS : Nat → Nat} {A : Nat → Prop} {p : Program} {l : Launch} {e : Env} {s : State} {m : MethodId} {args : Array Value} {below : List Frame} {meth : Method} {c : Code} {K : Nat} {r : Int} {F9 : zF} {B9 : zB} (X : zX D ca L aS vS A p s m args meth c prog_15_method_69_code 3 (Option.some Jvm.ClassFile.FieldType.int) "StaveHouseModel") : ∀ {n : Nat} {l2 : Int} {F : zF} {B : zB} {H : Heap} {locs : List Loc} {ls : Array Slot}, f_M_behindPitches_4 K n l2 F B = some (r, F9, B9) → zH D ca ad lnM nM L F B A H → va_S A s.heap H locs → lv_has ls 3 [(2, .int (iI l2)), (0, .ref (ad 14 0 0))] → W p l e ({ frames := 0, cells := 0, slots := 0, locals := 0 } : Room) s m args below meth c H locs 0 0 (MQ below (Q_M_behindPitches D ca ad L r F9 B9 A) args s 0 0 A) (F0 m 4 ls []) := by
  obtain ⟨hx, hb, hr, hml, hown, hts, hlk, hK, hA, hL, hX⟩ := id X
  intro n
  induction n with
  | zero =>
    intros
    rename_i hf _ _ _
    cases hf
  | succ n ih =>
    intro l2 F B H locs ls hf hZ hS hl
    replace hf : (if 0 ≤ l2 ∧ l2 < 3001 then if r32 (B 14 0 7 l2) then (if (B 14 0 7 l2) = 2 then f_M_behindPitches_4 K n (l2 + 1) F B else some (l2, F, B)) else none else none) = some (r, F9, B9) := hf
    refine lv_aload_n hx hb (D_42 W_prog_15_method_69_code_0 4 rfl rfl) rfl (lv_at hl 1 rfl) ?_
    refine zget (ci := 14) (C := RX14) (T := TX14) (v := .ref (ad 14 0 (7 + 1))) (k := 7) hx hb hts inW_14 hown hK hZ (by decide) (by decide) rfl (by decide) k_11_5 rfl (D_180 W_prog_15_method_69_code_0 5 rfl rfl rfl) ?_
    refine lv_iload_n hx hb (D_28 W_prog_15_method_69_code_0 8 rfl rfl) rfl (lv_at hl 0 rfl) ?_
    obtain ⟨g1, hf⟩ := gif hf
    refine zald (ci := 14) (k := 7) hx hb hK rfl hZ (by decide) (by decide) rfl (Nat.le_of_ble_eq_true rfl) g1.1 g1.2 (D_46 W_prog_15_method_69_code_0 9 rfl rfl) ?_
    refine lv_iconst (v := iI 2) hx hb (D_5 W_prog_15_method_69_code_0 10 rfl rfl) rfl ?_
    obtain ⟨g2, hf⟩ := gif hf
    refine zne (tgt := 20) hx hb g2 (by decide) (D_160 W_prog_15_method_69_code_0 11 rfl rfl rfl) (by decide) (fun h3 => ?_) (fun h3 => ?_)
    · replace hf := gneg hf h3
      refine lv_iload_n hx hb (D_28 W_prog_15_method_69_code_0 20 rfl rfl) rfl (lv_at hl 0 rfl) ?_
      cases hf
      exact W.iret hx hb hr (fun t ht hW => ⟨⟨_, (), rfl, rfl, by rw [ht]; exact hZ, va_K.moved hW.alike hK⟩, hS.F ht⟩) hS.2.2 (D_172 W_prog_15_method_69_code_0 21 rfl rfl) hlk
    · replace hf := gpos hf h3
      refine lv_iinc (v := iI (l2 + 1)) (lv' := [(2, .int (iI (l2 + 1))), (0, .ref (ad 14 0 0))]) hx hb d_15_69_14 hl (k := 0) rfl (iI_add _ 1) (by decide) rfl (fun ls hl => ?_)
      refine lv_goto (tgt := 4) hx hb (D_167 W_prog_15_method_69_code_0 17 rfl rfl rfl) (by decide) ?_
      exact ih hf hZ hS (lv_sub hl [0, 1] rfl)

def f_M_behindPitches (K : Nat) (l1 : Int) (F : zF) (B : zB) : zO := f_M_behindPitches_4 K K (l1 + 1) F B
set_option maxHeartbeats 4000000 in
set_option maxRecDepth 100000 in
theorem c_M_behindPitches {l : Launch} {D : va_G} {ca : Nat → ClassId} {ad : Nat → Int → Nat → Nat} {L : List Nat} {aS vS : Nat → Nat} {sz K : Nat}  {l1 : Int} {F F9 : zF} {B B9 : zB} {r : Int} (hf : f_M_behindPitches K l1 F B = some (r, F9, B9)) : Met l ({ cls := "StaveHouseModel", name := "behindPitches", desc := "(I)I" } : Jvm.MethodName) (Cond.code ({ cls := "StaveHouseModel", name := "behindPitches", desc := "(I)I" } : Jvm.MethodName) prog_15_method_69_code 3 (Option.some Jvm.ClassFile.FieldType.int) :: wAll) ({ frames := 0, cells := 0, slots := 0, locals := 0 } : Room) (va_Pc [.ref (ad 14 0 0), .int (iI l1)] (zPre D ca ad lnM nM L aS vS F B sz)) (Q_M_behindPitches D ca ad L r F9 B9 (zA L sz)) 0 0 (zA L sz) := by
  refine zMet (Qc := Q_M_behindPitches D ca ad L r F9 B9) (lv := [(0, .ref (ad 14 0 0)), (1, .int (iI l1))]) (by decide) (Nat.le_of_ble_eq_true rfl) rfl (fun A p e s m below meth c ls X hZ hS hl => ?_)
  obtain ⟨hx, hb, hr, hml, hown, hts, hlk, hK, hA, hL, hX⟩ := id X
  replace hf : (f_M_behindPitches_4 K K (l1 + 1) F B) = some (r, F9, B9) := hf
  refine lv_iload_n hx hb (D_27 W_prog_15_method_69_code_0 0 rfl rfl) rfl (lv_at hl 1 rfl) ?_
  refine lv_iconst (v := iI 1) hx hb (D_4 W_prog_15_method_69_code_0 1 rfl rfl) rfl ?_
  refine zadd hx hb (D_96 W_prog_15_method_69_code_0 2 rfl rfl) ?_
  refine lv_istore_n (lv' := [(2, .int (iI (l1 + 1))), (0, .ref (ad 14 0 0)), (1, .int (iI l1))]) hx hb (D_61 W_prog_15_method_69_code_0 3 rfl rfl) rfl hl (by decide) rfl (fun ls hl => ?_)
  exact b_M_behindPitches_4 X hf hZ hS (lv_sub hl [0, 1] rfl)

abbrev Q_M_pitchOf (D : va_G) (ca : Nat → ClassId) (ad : Nat → Int → Nat → Nat) (L : List Nat) (r : Int) (F : zF) (B : zB) (A : Nat → Prop) : Array Value → State → Outcome → State → Prop := va_Qv (S := Unit) (fun _ => True) (fun _ => zPo D ca ad lnM nM L F B A) A
def f_M_pitchOf_299 (K : Nat) (l6 : Int) (l4 : Int) (l3 : Int) (l1 : Int) (F : zF) (B : zB) : zO := if 0 ≤ (F 14 0 6) ∧ (F 14 0 6) < 3 then if 0 ≤ l6 ∧ l6 < 24000 then zbind (f_M_tone K l3 0 F (zup4 B 13 (F 14 0 6) 28 l6 l3)) (fun r48 F48 B48 => if 0 ≤ (F48 14 0 6) ∧ (F48 14 0 6) < 3 then if 0 ≤ l1 ∧ l1 < 4000 then some (0, F48, (zup4 (zup4 B48 13 (F 14 0 6) 29 l6 (l4 - r48)) 13 (F48 14 0 6) 21 l1 (((zup4 B48 13 (F 14 0 6) 29 l6 (l4 - r48)) 13 (F48 14 0 6) 21 l1) + 1))) else none else none) else none else none
set_option maxHeartbeats 4000000 in
set_option maxRecDepth 100000 in
theorem b_M_pitchOf_299 {D : va_G} {ca : Nat → ClassId} {ad : Nat → Int → Nat → Nat} {L : List Nat} {aS vS : Nat → Nat} {A : Nat → Prop} {p : Program} {l : Launch} {e : Env} {s : State} {m : MethodId} {args : Array Value} {below : List Frame} {meth : Method} {c : Code} {K : Nat} {r : Int} {F9 : zF} {B9 : zB} (X : zX D ca L aS vS A p s m args meth c prog_15_method_70_code 8 (Option.none : Option Jvm.ClassFile.FieldType) "StaveHouseModel") {l6 : Int} {l4 : Int} {l3 : Int} {l1 : Int} {F : zF} {B : zB} {H : Heap} {locs : List Loc} {ls : Array Slot} (hf : f_M_pitchOf_299 K l6 l4 l3 l1 F B = some (r, F9, B9)) (hZ : zH D ca ad lnM nM L F B A H) (hS : va_S A s.heap H locs) (hl : lv_has ls 8 [(6, .int (iI l6)), (4, .int (iI l4)), (3, .int (iI l3)), (0, .ref (ad 14 0 0)), (1, .int (iI l1))]) : W p l e ({ frames := 1, cells := 0, slots := 0, locals := 23 } : Room) s m args below meth c H locs 0 0 (MQ below (Q_M_pitchOf D ca ad L r F9 B9 A) args s 0 0 A) (F0 m 299 ls []) := by
  obtain ⟨hx, hb, hr, hml, hown, hts, hlk, hK, hA, hL, hX⟩ := id X
  replace hf : (if 0 ≤ (F 14 0 6) ∧ (F 14 0 6) < 3 then if 0 ≤ l6 ∧ l6 < 24000 then zbind (f_M_tone K l3 0 F (zup4 B 13 (F 14 0 6) 28 l6 l3)) (fun r48 F48 B48 => if 0 ≤ (F48 14 0 6) ∧ (F48 14 0 6) < 3 then if 0 ≤ l1 ∧ l1 < 4000 then some (0, F48, (zup4 (zup4 B48 13 (F 14 0 6) 29 l6 (l4 - r48)) 13 (F48 14 0 6) 21 l1 (((zup4 B48 13 (F 14 0 6) 29 l6 (l4 - r48)) 13 (F48 14 0 6) 21 l1) + 1))) else none else none) else none else none) = some (r, F9, B9) := hf
  refine lv_aload_n hx hb (D_42 W_prog_15_method_70_code_288 11 rfl rfl) rfl (lv_at hl 3 rfl) ?_
  refine zget (ci := 14) (C := RX14) (T := TX14) (v := va_rf (zrf ad 13 (F 14 0 6))) (k := 6) hx hb hts inW_14 hown hK hZ (by decide) (by decide) rfl (by decide) k_11_4 rfl (D_180 W_prog_15_method_70_code_288 12 rfl rfl rfl) ?_
  obtain ⟨g45, hf⟩ := gif hf
  refine zunrf g45.1 ?_
  refine zget (ci := 13) (C := RX13) (T := TX13) (v := .ref (ad 13 (F 14 0 6) (28 + 1))) (k := 28) hx hb hts inW_13 hown hK hZ g45.1 g45.2 rfl (by decide) k_9_174 rfl (D_180 W_prog_15_method_70_code_288 15 rfl rfl rfl) ?_
  refine lv_iload hx hb (D_21 W_prog_15_method_70_code_288 18 rfl rfl) (lv_at hl 0 rfl) ?_
  refine lv_iload_n hx hb (D_29 W_prog_15_method_70_code_288 20 rfl rfl) rfl (lv_at hl 2 rfl) ?_
  obtain ⟨g46, hf⟩ := gif hf
  refine zast (ci := 13) (k := 28) hx hb hK rfl hZ hS g45.1 g45.2 rfl (Nat.le_of_ble_eq_true rfl) g46.1 g46.2 (D_79 W_prog_15_method_70_code_288 21 rfl rfl) (fun H47 locs47 hZ47 hS47 => ?_)
  refine lv_aload_n hx hb (D_42 W_prog_15_method_70_code_288 22 rfl rfl) rfl (lv_at hl 3 rfl) ?_
  refine zget (ci := 14) (C := RX14) (T := TX14) (v := va_rf (zrf ad 13 (F 14 0 6))) (k := 6) hx hb hts inW_14 hown hK hZ47 (by decide) (by decide) rfl (by decide) k_11_4 rfl (D_180 W_prog_15_method_70_code_288 23 rfl rfl rfl) ?_
  refine zunrf g45.1 ?_
  refine zget (ci := 13) (C := RX13) (T := TX13) (v := .ref (ad 13 (F 14 0 6) (29 + 1))) (k := 29) hx hb hts inW_13 hown hK hZ47 g45.1 g45.2 rfl (by decide) k_9_176 rfl (D_180 W_prog_15_method_70_code_288 26 rfl rfl rfl) ?_
  refine lv_iload hx hb (D_21 W_prog_15_method_70_code_288 29 rfl rfl) (lv_at hl 0 rfl) ?_
  refine lv_iload hx hb (D_21 W_prog_15_method_70_code_288 31 rfl rfl) (lv_at hl 1 rfl) ?_
  refine lv_iload_n hx hb (D_29 W_prog_15_method_70_code_320 1 rfl rfl) rfl (lv_at hl 2 rfl) ?_
  refine lv_iconst (v := iI 0) hx hb (D_3 W_prog_15_method_70_code_320 2 rfl rfl) rfl ?_
  obtain ⟨r48, F48, B48, hc48, hf⟩ := gbind hf
  refine va_calli (va_runS (As := [.int (iI l3), .int (iI 0)]) (rest := [.int (iI l4), .int (iI l6), .ref (ad 13 (F 14 0 6) (29 + 1))]) ⟨hx, hb, hml, hown, hts⟩ (c_M_tone (l := l) hc48) (va_cwS 2 hts (gdS k_12_158 k_12_159 k_1_9 k_12_160) rfl rfl rfl (by decide +kernel) ⟨Nat.le_of_ble_eq_true rfl, Nat.le_of_ble_eq_true rfl⟩) (zPS X hZ47 hS47 [.int (iI l3), .int (iI 0)]) rfl rfl hl.1 rfl (lv_room (Nat.le_of_ble_eq_true rfl)) (D_184 W_prog_15_method_70_code_320 3 rfl rfl rfl) ⟨Nat.le_of_ble_eq_true rfl, Nat.le_of_ble_eq_true rfl⟩) hS47 (fun q _ h => zAin X hS47 q h) (zAin X hS47) (fun p48 u48 t48 H48 locs48 ht48 hv48 hw48 hB48 hz48 hk48 hS48 => ?_)
  have hZ48 := zBack X ht48 hB48
  subst hw48
  refine zsub hx hb (D_100 W_prog_15_method_70_code_320 6 rfl rfl) ?_
  refine zast (ci := 13) (k := 29) hx hb hK rfl hZ48 hS48 g45.1 g45.2 rfl (Nat.le_of_ble_eq_true rfl) g46.1 g46.2 (D_79 W_prog_15_method_70_code_320 7 rfl rfl) (fun H49 locs49 hZ49 hS49 => ?_)
  refine lv_aload_n hx hb (D_42 W_prog_15_method_70_code_320 8 rfl rfl) rfl (lv_at hl 3 rfl) ?_
  refine zget (ci := 14) (C := RX14) (T := TX14) (v := va_rf (zrf ad 13 (F48 14 0 6))) (k := 6) hx hb hts inW_14 hown hK hZ49 (by decide) (by decide) rfl (by decide) k_11_4 rfl (D_180 W_prog_15_method_70_code_320 9 rfl rfl rfl) ?_
  obtain ⟨g50, hf⟩ := gif hf
  refine zunrf g50.1 ?_
  refine zget (ci := 13) (C := RX13) (T := TX13) (v := .ref (ad 13 (F48 14 0 6) (21 + 1))) (k := 21) hx hb hts inW_13 hown hK hZ49 g50.1 g50.2 rfl (by decide) k_9_160 rfl (D_180 W_prog_15_method_70_code_320 12 rfl rfl rfl) ?_
  refine lv_iload_n hx hb (D_27 W_prog_15_method_70_code_320 15 rfl rfl) rfl (lv_at hl 4 rfl) ?_
  refine lv_dup2_11 hx hb (D_92 W_prog_15_method_70_code_320 16 rfl rfl) rfl rfl ?_
  obtain ⟨g51, hf⟩ := gif hf
  refine zald (ci := 13) (k := 21) hx hb hK rfl hZ49 g50.1 g50.2 rfl (Nat.le_of_ble_eq_true rfl) g51.1 g51.2 (D_46 W_prog_15_method_70_code_320 17 rfl rfl) ?_
  refine lv_iconst (v := iI 1) hx hb (D_4 W_prog_15_method_70_code_320 18 rfl rfl) rfl ?_
  refine zadd hx hb (D_96 W_prog_15_method_70_code_320 19 rfl rfl) ?_
  refine zast (ci := 13) (k := 21) hx hb hK rfl hZ49 hS49 g50.1 g50.2 rfl (Nat.le_of_ble_eq_true rfl) g51.1 g51.2 (D_79 W_prog_15_method_70_code_320 20 rfl rfl) (fun H52 locs52 hZ52 hS52 => ?_)
  cases hf
  exact W.vret hx hb hr (fun t ht hW => ⟨⟨(), rfl, trivial, by rw [ht]; exact hZ52, va_K.moved hW.alike hK⟩, hS52.F ht⟩) hS52.2.2 (D_177 W_prog_15_method_70_code_320 21 rfl rfl) hlk

def f_M_pitchOf_226 (K : Nat) : Nat → Int → Int → Int → Int → Int → zF → zB → zO
  | 0, _, _, _, _, _, _, _ => none
  | n + 1, l6, l5, l4, l3, l1, F, B => if r32 l6 then if r32 l5 then (if l6 ≤ l5 then f_M_pitchOf_299 K l6 l4 l3 l1 F B else if 0 ≤ (F 14 0 6) ∧ (F 14 0 6) < 3 then if 0 ≤ (l6 - 1) ∧ (l6 - 1) < 24000 then if r32 (B 13 (F 14 0 6) 28 (l6 - 1)) then if r32 l3 then (if (B 13 (F 14 0 6) 28 (l6 - 1)) ≤ l3 then f_M_pitchOf_299 K l6 l4 l3 l1 F B else if 0 ≤ l6 ∧ l6 < 24000 then f_M_pitchOf_226 K n (l6 - 1) l5 l4 l3 l1 F (zup4 (zup4 B 13 (F 14 0 6) 28 l6 (B 13 (F 14 0 6) 28 (l6 - 1))) 13 (F 14 0 6) 29 l6 ((zup4 B 13 (F 14 0 6) 28 l6 (B 13 (F 14 0 6) 28 (l6 - 1))) 13 (F 14 0 6) 29 (l6 - 1))) else none) else none else none else none else none) else none else none
set_option maxHeartbeats 4000000 in
set_option maxRecDepth 100000 in
theorem b_M_pitchOf_226 {D : va_G} {ca : Nat → ClassId} {ad : Nat → Int → Nat → Nat} {L : List Nat} {aS vS : Nat → Nat} {A : Nat → Prop} {p : Program} {l : Launch} {e : Env} {s : State} {m : MethodId} {args : Array Value} {below : List Frame} {meth : Method} {c : Code} {K : Nat} {r : Int} {F9 : zF} {B9 : zB} (X : zX D ca L aS vS A p s m args meth c prog_15_method_70_code 8 (Option.none : Option Jvm.ClassFile.FieldType) "StaveHouseModel") : ∀ {n : Nat} {l6 : Int} {l5 : Int} {l4 : Int} {l3 : Int} {l1 : Int} {F : zF} {B : zB} {H : Heap} {locs : List Loc} {ls : Array Slot}, f_M_pitchOf_226 K n l6 l5 l4 l3 l1 F B = some (r, F9, B9) → zH D ca ad lnM nM L F B A H → va_S A s.heap H locs → lv_has ls 8 [(6, .int (iI l6)), (5, .int (iI l5)), (4, .int (iI l4)), (3, .int (iI l3)), (0, .ref (ad 14 0 0)), (1, .int (iI l1))] → W p l e ({ frames := 1, cells := 0, slots := 0, locals := 23 } : Room) s m args below meth c H locs 0 0 (MQ below (Q_M_pitchOf D ca ad L r F9 B9 A) args s 0 0 A) (F0 m 226 ls []) := by
  obtain ⟨hx, hb, hr, hml, hown, hts, hlk, hK, hA, hL, hX⟩ := id X
  intro n
  induction n with
  | zero =>
    intros
    rename_i hf _ _ _
    cases hf
  | succ n ih =>
    intro l6 l5 l4 l3 l1 F B H locs ls hf hZ hS hl
    replace hf : (if r32 l6 then if r32 l5 then (if l6 ≤ l5 then f_M_pitchOf_299 K l6 l4 l3 l1 F B else if 0 ≤ (F 14 0 6) ∧ (F 14 0 6) < 3 then if 0 ≤ (l6 - 1) ∧ (l6 - 1) < 24000 then if r32 (B 13 (F 14 0 6) 28 (l6 - 1)) then if r32 l3 then (if (B 13 (F 14 0 6) 28 (l6 - 1)) ≤ l3 then f_M_pitchOf_299 K l6 l4 l3 l1 F B else if 0 ≤ l6 ∧ l6 < 24000 then f_M_pitchOf_226 K n (l6 - 1) l5 l4 l3 l1 F (zup4 (zup4 B 13 (F 14 0 6) 28 l6 (B 13 (F 14 0 6) 28 (l6 - 1))) 13 (F 14 0 6) 29 l6 ((zup4 B 13 (F 14 0 6) 28 l6 (B 13 (F 14 0 6) 28 (l6 - 1))) 13 (F 14 0 6) 29 (l6 - 1))) else none) else none else none else none else none) else none else none) = some (r, F9, B9) := hf
    refine lv_iload hx hb (D_21 W_prog_15_method_70_code_224 2 rfl rfl) (lv_at hl 0 rfl) ?_
    refine lv_iload hx hb (D_21 W_prog_15_method_70_code_224 4 rfl rfl) (lv_at hl 1 rfl) ?_
    obtain ⟨g34, hf⟩ := gif hf
    obtain ⟨g35, hf⟩ := gif hf
    refine zle (tgt := 299) hx hb g34 g35 (D_164 W_prog_15_method_70_code_224 6 rfl rfl rfl) (by decide) (fun h36 => ?_) (fun h36 => ?_)
    · replace hf := gpos hf h36
      exact b_M_pitchOf_299 X hf hZ hS (lv_sub hl [0, 2, 3, 4, 5] rfl)
    · replace hf := gneg hf h36
      refine lv_aload_n hx hb (D_42 W_prog_15_method_70_code_224 9 rfl rfl) rfl (lv_at hl 4 rfl) ?_
      refine zget (ci := 14) (C := RX14) (T := TX14) (v := va_rf (zrf ad 13 (F 14 0 6))) (k := 6) hx hb hts inW_14 hown hK hZ (by decide) (by decide) rfl (by decide) k_11_4 rfl (D_180 W_prog_15_method_70_code_224 10 rfl rfl rfl) ?_
      obtain ⟨g37, hf⟩ := gif hf
      refine zunrf g37.1 ?_
      refine zget (ci := 13) (C := RX13) (T := TX13) (v := .ref (ad 13 (F 14 0 6) (28 + 1))) (k := 28) hx hb hts inW_13 hown hK hZ g37.1 g37.2 rfl (by decide) k_9_174 rfl (D_180 W_prog_15_method_70_code_224 13 rfl rfl rfl) ?_
      refine lv_iload hx hb (D_21 W_prog_15_method_70_code_224 16 rfl rfl) (lv_at hl 0 rfl) ?_
      refine lv_iconst (v := iI 1) hx hb (D_4 W_prog_15_method_70_code_224 18 rfl rfl) rfl ?_
      refine zsub hx hb (D_100 W_prog_15_method_70_code_224 19 rfl rfl) ?_
      obtain ⟨g38, hf⟩ := gif hf
      refine zald (ci := 13) (k := 28) hx hb hK rfl hZ g37.1 g37.2 rfl (Nat.le_of_ble_eq_true rfl) g38.1 g38.2 (D_46 W_prog_15_method_70_code_224 20 rfl rfl) ?_
      refine lv_iload_n hx hb (D_29 W_prog_15_method_70_code_224 21 rfl rfl) rfl (lv_at hl 3 rfl) ?_
      obtain ⟨g39, hf⟩ := gif hf
      obtain ⟨g40, hf⟩ := gif hf
      refine zle (tgt := 299) hx hb g39 g40 (D_164 W_prog_15_method_70_code_224 22 rfl rfl rfl) (by decide) (fun h41 => ?_) (fun h41 => ?_)
      · replace hf := gpos hf h41
        exact b_M_pitchOf_299 X hf hZ hS (lv_sub hl [0, 2, 3, 4, 5] rfl)
      · replace hf := gneg hf h41
        refine lv_aload_n hx hb (D_42 W_prog_15_method_70_code_224 25 rfl rfl) rfl (lv_at hl 4 rfl) ?_
        refine zget (ci := 14) (C := RX14) (T := TX14) (v := va_rf (zrf ad 13 (F 14 0 6))) (k := 6) hx hb hts inW_14 hown hK hZ (by decide) (by decide) rfl (by decide) k_11_4 rfl (D_180 W_prog_15_method_70_code_224 26 rfl rfl rfl) ?_
        refine zunrf g37.1 ?_
        refine zget (ci := 13) (C := RX13) (T := TX13) (v := .ref (ad 13 (F 14 0 6) (28 + 1))) (k := 28) hx hb hts inW_13 hown hK hZ g37.1 g37.2 rfl (by decide) k_9_174 rfl (D_180 W_prog_15_method_70_code_224 29 rfl rfl rfl) ?_
        refine lv_iload hx hb (D_21 W_prog_15_method_70_code_256 0 rfl rfl) (lv_at hl 0 rfl) ?_
        refine lv_aload_n hx hb (D_42 W_prog_15_method_70_code_256 2 rfl rfl) rfl (lv_at hl 4 rfl) ?_
        refine zget (ci := 14) (C := RX14) (T := TX14) (v := va_rf (zrf ad 13 (F 14 0 6))) (k := 6) hx hb hts inW_14 hown hK hZ (by decide) (by decide) rfl (by decide) k_11_4 rfl (D_180 W_prog_15_method_70_code_256 3 rfl rfl rfl) ?_
        refine zunrf g37.1 ?_
        refine zget (ci := 13) (C := RX13) (T := TX13) (v := .ref (ad 13 (F 14 0 6) (28 + 1))) (k := 28) hx hb hts inW_13 hown hK hZ g37.1 g37.2 rfl (by decide) k_9_174 rfl (D_180 W_prog_15_method_70_code_256 6 rfl rfl rfl) ?_
        refine lv_iload hx hb (D_21 W_prog_15_method_70_code_256 9 rfl rfl) (lv_at hl 0 rfl) ?_
        refine lv_iconst (v := iI 1) hx hb (D_4 W_prog_15_method_70_code_256 11 rfl rfl) rfl ?_
        refine zsub hx hb (D_100 W_prog_15_method_70_code_256 12 rfl rfl) ?_
        refine zald (ci := 13) (k := 28) hx hb hK rfl hZ g37.1 g37.2 rfl (Nat.le_of_ble_eq_true rfl) g38.1 g38.2 (D_46 W_prog_15_method_70_code_256 13 rfl rfl) ?_
        obtain ⟨g42, hf⟩ := gif hf
        refine zast (ci := 13) (k := 28) hx hb hK rfl hZ hS g37.1 g37.2 rfl (Nat.le_of_ble_eq_true rfl) g42.1 g42.2 (D_79 W_prog_15_method_70_code_256 14 rfl rfl) (fun H43 locs43 hZ43 hS43 => ?_)
        refine lv_aload_n hx hb (D_42 W_prog_15_method_70_code_256 15 rfl rfl) rfl (lv_at hl 4 rfl) ?_
        refine zget (ci := 14) (C := RX14) (T := TX14) (v := va_rf (zrf ad 13 (F 14 0 6))) (k := 6) hx hb hts inW_14 hown hK hZ43 (by decide) (by decide) rfl (by decide) k_11_4 rfl (D_180 W_prog_15_method_70_code_256 16 rfl rfl rfl) ?_
        refine zunrf g37.1 ?_
        refine zget (ci := 13) (C := RX13) (T := TX13) (v := .ref (ad 13 (F 14 0 6) (29 + 1))) (k := 29) hx hb hts inW_13 hown hK hZ43 g37.1 g37.2 rfl (by decide) k_9_176 rfl (D_180 W_prog_15_method_70_code_256 19 rfl rfl rfl) ?_
        refine lv_iload hx hb (D_21 W_prog_15_method_70_code_256 22 rfl rfl) (lv_at hl 0 rfl) ?_
        refine lv_aload_n hx hb (D_42 W_prog_15_method_70_code_256 24 rfl rfl) rfl (lv_at hl 4 rfl) ?_
        refine zget (ci := 14) (C := RX14) (T := TX14) (v := va_rf (zrf ad 13 (F 14 0 6))) (k := 6) hx hb hts inW_14 hown hK hZ43 (by decide) (by decide) rfl (by decide) k_11_4 rfl (D_180 W_prog_15_method_70_code_256 25 rfl rfl rfl) ?_
        refine zunrf g37.1 ?_
        refine zget (ci := 13) (C := RX13) (T := TX13) (v := .ref (ad 13 (F 14 0 6) (29 + 1))) (k := 29) hx hb hts inW_13 hown hK hZ43 g37.1 g37.2 rfl (by decide) k_9_176 rfl (D_180 W_prog_15_method_70_code_256 28 rfl rfl rfl) ?_
        refine lv_iload hx hb (D_21 W_prog_15_method_70_code_256 31 rfl rfl) (lv_at hl 0 rfl) ?_
        refine lv_iconst (v := iI 1) hx hb (D_4 W_prog_15_method_70_code_288 1 rfl rfl) rfl ?_
        refine zsub hx hb (D_100 W_prog_15_method_70_code_288 2 rfl rfl) ?_
        refine zald (ci := 13) (k := 29) hx hb hK rfl hZ43 g37.1 g37.2 rfl (Nat.le_of_ble_eq_true rfl) g38.1 g38.2 (D_46 W_prog_15_method_70_code_288 3 rfl rfl) ?_
        refine zast (ci := 13) (k := 29) hx hb hK rfl hZ43 hS43 g37.1 g37.2 rfl (Nat.le_of_ble_eq_true rfl) g42.1 g42.2 (D_79 W_prog_15_method_70_code_288 4 rfl rfl) (fun H44 locs44 hZ44 hS44 => ?_)
        refine lv_iinc (v := iI (l6 - 1)) (lv' := [(6, .int (iI (l6 - 1))), (5, .int (iI l5)), (4, .int (iI l4)), (3, .int (iI l3)), (0, .ref (ad 14 0 0)), (1, .int (iI l1))]) hx hb d_15_70_293 hl (k := 0) rfl (by rw [show Int32.ofInt (-1) = iI (-1) from rfl, iI_add]; congr 1) (by decide) rfl (fun ls hl => ?_)
        refine lv_goto (tgt := 226) hx hb (D_167 W_prog_15_method_70_code_288 8 rfl rfl rfl) (by decide) ?_
        exact ih hf hZ44 hS44 (lv_sub hl [0, 1, 2, 3, 4, 5] rfl)

def f_M_pitchOf_212 (rec184 : Int → Int → Int → Int → Int → Int → Int → zF → zB → zO) (K : Nat) (l7 : Int) (l6 : Int) (l5 : Int) (l4 : Int) (l3 : Int) (l1 : Int) (l2 : Int) (F : zF) (B : zB) : zO := rec184 (l7 + 1) l6 l5 l4 l3 l1 l2 F B
set_option maxHeartbeats 4000000 in
set_option maxRecDepth 100000 in
theorem b_M_pitchOf_212 {D : va_G} {ca : Nat → ClassId} {ad : Nat → Int → Nat → Nat} {L : List Nat} {aS vS : Nat → Nat} {A : Nat → Prop} {p : Program} {l : Launch} {e : Env} {s : State} {m : MethodId} {args : Array Value} {below : List Frame} {meth : Method} {c : Code} {K : Nat} {r : Int} {F9 : zF} {B9 : zB} (X : zX D ca L aS vS A p s m args meth c prog_15_method_70_code 8 (Option.none : Option Jvm.ClassFile.FieldType) "StaveHouseModel") {rec184 : Int → Int → Int → Int → Int → Int → Int → zF → zB → zO} (hrec184 : ∀ {l7 : Int} {l6 : Int} {l5 : Int} {l4 : Int} {l3 : Int} {l1 : Int} {l2 : Int} {F : zF} {B : zB} {H : Heap} {locs : List Loc} {ls : Array Slot}, rec184 l7 l6 l5 l4 l3 l1 l2 F B = some (r, F9, B9) → zH D ca ad lnM nM L F B A H → va_S A s.heap H locs → lv_has ls 8 [(7, .int (iI l7)), (6, .int (iI l6)), (5, .int (iI l5)), (4, .int (iI l4)), (3, .int (iI l3)), (0, .ref (ad 14 0 0)), (1, .int (iI l1)), (2, .int (iI l2))] → W p l e ({ frames := 1, cells := 0, slots := 0, locals := 23 } : Room) s m args below meth c H locs 0 0 (MQ below (Q_M_pitchOf D ca ad L r F9 B9 A) args s 0 0 A) (F0 m 184 ls [])) {l7 : Int} {l6 : Int} {l5 : Int} {l4 : Int} {l3 : Int} {l1 : Int} {l2 : Int} {F : zF} {B : zB} {H : Heap} {locs : List Loc} {ls : Array Slot} (hf : f_M_pitchOf_212 rec184 K l7 l6 l5 l4 l3 l1 l2 F B = some (r, F9, B9)) (hZ : zH D ca ad lnM nM L F B A H) (hS : va_S A s.heap H locs) (hl : lv_has ls 8 [(7, .int (iI l7)), (6, .int (iI l6)), (5, .int (iI l5)), (4, .int (iI l4)), (3, .int (iI l3)), (0, .ref (ad 14 0 0)), (1, .int (iI l1)), (2, .int (iI l2))]) : W p l e ({ frames := 1, cells := 0, slots := 0, locals := 23 } : Room) s m args below meth c H locs 0 0 (MQ below (Q_M_pitchOf D ca ad L r F9 B9 A) args s 0 0 A) (F0 m 212 ls []) := by
  obtain ⟨hx, hb, hr, hml, hown, hts, hlk, hK, hA, hL, hX⟩ := id X
  replace hf : (rec184 (l7 + 1) l6 l5 l4 l3 l1 l2 F B) = some (r, F9, B9) := hf
  refine lv_iinc (v := iI (l7 + 1)) (lv' := [(7, .int (iI (l7 + 1))), (6, .int (iI l6)), (5, .int (iI l5)), (4, .int (iI l4)), (3, .int (iI l3)), (0, .ref (ad 14 0 0)), (1, .int (iI l1)), (2, .int (iI l2))]) hx hb d_15_70_212 hl (k := 0) rfl (iI_add _ 1) (by decide) rfl (fun ls hl => ?_)
  refine lv_goto (tgt := 184) hx hb (D_167 W_prog_15_method_70_code_192 23 rfl rfl rfl) (by decide) ?_
  exact hrec184 hf hZ hS (lv_sub hl [0, 1, 2, 3, 4, 5, 6, 7] rfl)

def f_M_pitchOf_184 (K : Nat) : Nat → Int → Int → Int → Int → Int → Int → Int → zF → zB → zO
  | 0, _, _, _, _, _, _, _, _, _ => none
  | n + 1, l7, l6, l5, l4, l3, l1, l2, F, B => if r32 l7 then if r32 l6 then (if l6 ≤ l7 then zbind (f_M_good K F B) (fun r24 F24 B24 => if r32 r24 then (if r24 = 0 then some (0, F24, B24) else f_M_pitchOf_226 K K l6 l5 l4 l3 l1 F24 B24) else none) else if 0 ≤ (F 14 0 6) ∧ (F 14 0 6) < 3 then if 0 ≤ l7 ∧ l7 < 24000 then if r32 (B 13 (F 14 0 6) 28 l7) then if r32 l3 then (if (B 13 (F 14 0 6) 28 l7) = l3 then zbind (f_M_failAt K 9 l2 F B) (fun r33 F33 B33 => f_M_pitchOf_212 (f_M_pitchOf_184 K n) K l7 l6 l5 l4 l3 l1 l2 F33 B33) else f_M_pitchOf_212 (f_M_pitchOf_184 K n) K l7 l6 l5 l4 l3 l1 l2 F B) else none else none else none else none) else none else none
set_option maxHeartbeats 4000000 in
set_option maxRecDepth 100000 in
theorem b_M_pitchOf_184 {D : va_G} {ca : Nat → ClassId} {ad : Nat → Int → Nat → Nat} {L : List Nat} {aS vS : Nat → Nat} {A : Nat → Prop} {p : Program} {l : Launch} {e : Env} {s : State} {m : MethodId} {args : Array Value} {below : List Frame} {meth : Method} {c : Code} {K : Nat} {r : Int} {F9 : zF} {B9 : zB} (X : zX D ca L aS vS A p s m args meth c prog_15_method_70_code 8 (Option.none : Option Jvm.ClassFile.FieldType) "StaveHouseModel") : ∀ {n : Nat} {l7 : Int} {l6 : Int} {l5 : Int} {l4 : Int} {l3 : Int} {l1 : Int} {l2 : Int} {F : zF} {B : zB} {H : Heap} {locs : List Loc} {ls : Array Slot}, f_M_pitchOf_184 K n l7 l6 l5 l4 l3 l1 l2 F B = some (r, F9, B9) → zH D ca ad lnM nM L F B A H → va_S A s.heap H locs → lv_has ls 8 [(7, .int (iI l7)), (6, .int (iI l6)), (5, .int (iI l5)), (4, .int (iI l4)), (3, .int (iI l3)), (0, .ref (ad 14 0 0)), (1, .int (iI l1)), (2, .int (iI l2))] → W p l e ({ frames := 1, cells := 0, slots := 0, locals := 23 } : Room) s m args below meth c H locs 0 0 (MQ below (Q_M_pitchOf D ca ad L r F9 B9 A) args s 0 0 A) (F0 m 184 ls []) := by
  obtain ⟨hx, hb, hr, hml, hown, hts, hlk, hK, hA, hL, hX⟩ := id X
  intro n
  induction n with
  | zero =>
    intros
    rename_i hf _ _ _
    cases hf
  | succ n ih =>
    intro l7 l6 l5 l4 l3 l1 l2 F B H locs ls hf hZ hS hl
    replace hf : (if r32 l7 then if r32 l6 then (if l6 ≤ l7 then zbind (f_M_good K F B) (fun r24 F24 B24 => if r32 r24 then (if r24 = 0 then some (0, F24, B24) else f_M_pitchOf_226 K K l6 l5 l4 l3 l1 F24 B24) else none) else if 0 ≤ (F 14 0 6) ∧ (F 14 0 6) < 3 then if 0 ≤ l7 ∧ l7 < 24000 then if r32 (B 13 (F 14 0 6) 28 l7) then if r32 l3 then (if (B 13 (F 14 0 6) 28 l7) = l3 then zbind (f_M_failAt K 9 l2 F B) (fun r33 F33 B33 => f_M_pitchOf_212 (f_M_pitchOf_184 K n) K l7 l6 l5 l4 l3 l1 l2 F33 B33) else f_M_pitchOf_212 (f_M_pitchOf_184 K n) K l7 l6 l5 l4 l3 l1 l2 F B) else none else none else none else none) else none else none) = some (r, F9, B9) := hf
    refine lv_iload hx hb (D_21 W_prog_15_method_70_code_160 24 rfl rfl) (lv_at hl 0 rfl) ?_
    refine lv_iload hx hb (D_21 W_prog_15_method_70_code_160 26 rfl rfl) (lv_at hl 1 rfl) ?_
    obtain ⟨g21, hf⟩ := gif hf
    obtain ⟨g22, hf⟩ := gif hf
    refine zge (tgt := 218) hx hb g21 g22 (D_162 W_prog_15_method_70_code_160 28 rfl rfl rfl) (by decide) (fun h23 => ?_) (fun h23 => ?_)
    · replace hf := gpos hf h23
      refine lv_aload_n hx hb (D_42 W_prog_15_method_70_code_192 26 rfl rfl) rfl (lv_at hl 5 rfl) ?_
      obtain ⟨r24, F24, B24, hc24, hf⟩ := gbind hf
      refine va_calli (va_runV (As := []) (rest := []) ⟨hx, hb, hml, hown, hts⟩ (c_M_good (l := l) hc24) (cwV 0 hts (gdV k_13_15 k_13_17 ks_152 k_1_9 k_13_18) rfl rfl rfl (by decide +kernel) ⟨Nat.le_of_ble_eq_true rfl, Nat.le_of_ble_eq_true rfl⟩) (zPV X hZ hS (ci := 14) (by decide) (by decide) (r := (RX14, TX14, 107)) rfl []) rfl rfl hl.1 rfl (lv_room (Nat.le_of_ble_eq_true rfl)) (D_182 W_prog_15_method_70_code_192 27 rfl rfl rfl) ⟨Nat.le_of_ble_eq_true rfl, Nat.le_of_ble_eq_true rfl⟩) hS (fun q _ h => zAin X hS q h) (zAin X hS) (fun p24 u24 t24 H24 locs24 ht24 hv24 hw24 hB24 hz24 hk24 hS24 => ?_)
      have hZ24 := zBack X ht24 hB24
      subst hw24
      obtain ⟨g25, hf⟩ := gif hf
      refine z0ne (tgt := 226) hx hb g25 (D_154 W_prog_15_method_70_code_192 30 rfl rfl rfl) (by decide) (fun h26 => ?_) (fun h26 => ?_)
      · replace hf := gneg hf h26
        exact b_M_pitchOf_226 X hf hZ24 hS24 (lv_sub hl [1, 2, 3, 4, 5, 6] rfl)
      · replace hf := gpos hf h26
        cases hf
        exact W.vret hx hb hr (fun t ht hW => ⟨⟨(), rfl, trivial, by rw [ht]; exact hZ24, va_K.moved hW.alike hK⟩, hS24.F ht⟩) hS24.2.2 (D_177 W_prog_15_method_70_code_224 1 rfl rfl) hlk
    · replace hf := gneg hf h23
      refine lv_aload_n hx hb (D_42 W_prog_15_method_70_code_160 31 rfl rfl) rfl (lv_at hl 5 rfl) ?_
      refine zget (ci := 14) (C := RX14) (T := TX14) (v := va_rf (zrf ad 13 (F 14 0 6))) (k := 6) hx hb hts inW_14 hown hK hZ (by decide) (by decide) rfl (by decide) k_11_4 rfl (D_180 W_prog_15_method_70_code_192 0 rfl rfl rfl) ?_
      obtain ⟨g27, hf⟩ := gif hf
      refine zunrf g27.1 ?_
      refine zget (ci := 13) (C := RX13) (T := TX13) (v := .ref (ad 13 (F 14 0 6) (28 + 1))) (k := 28) hx hb hts inW_13 hown hK hZ g27.1 g27.2 rfl (by decide) k_9_174 rfl (D_180 W_prog_15_method_70_code_192 3 rfl rfl rfl) ?_
      refine lv_iload hx hb (D_21 W_prog_15_method_70_code_192 6 rfl rfl) (lv_at hl 0 rfl) ?_
      obtain ⟨g28, hf⟩ := gif hf
      refine zald (ci := 13) (k := 28) hx hb hK rfl hZ g27.1 g27.2 rfl (Nat.le_of_ble_eq_true rfl) g28.1 g28.2 (D_46 W_prog_15_method_70_code_192 8 rfl rfl) ?_
      refine lv_iload_n hx hb (D_29 W_prog_15_method_70_code_192 9 rfl rfl) rfl (lv_at hl 4 rfl) ?_
      obtain ⟨g29, hf⟩ := gif hf
      obtain ⟨g30, hf⟩ := gif hf
      refine zne (tgt := 212) hx hb g29 g30 (D_160 W_prog_15_method_70_code_192 10 rfl rfl rfl) (by decide) (fun h31 => ?_) (fun h31 => ?_)
      · replace hf := gneg hf h31
        exact b_M_pitchOf_212 X ih hf hZ hS (lv_sub hl [0, 1, 2, 3, 4, 5, 6, 7] rfl)
      · replace hf := gpos hf h31
        refine lv_aload_n hx hb (D_42 W_prog_15_method_70_code_192 13 rfl rfl) rfl (lv_at hl 5 rfl) ?_
        refine lv_bipush (v := iI 9) hx hb (D_16 W_prog_15_method_70_code_192 14 rfl rfl rfl) (by decide) ?_
        refine lv_iload_n hx hb (D_28 W_prog_15_method_70_code_192 16 rfl rfl) rfl (lv_at hl 7 rfl) ?_
        obtain ⟨r33, F33, B33, hc33, hf⟩ := gbind hf
        refine va_callv (va_runV (As := [.int (iI 9), .int (iI l2)]) (rest := []) ⟨hx, hb, hml, hown, hts⟩ (c_M_failAt (l := l) hc33) (cwV 2 hts (gdV k_14_132 k_14_134 ks_205 k_1_9 k_14_135) rfl rfl rfl (by decide +kernel) ⟨Nat.le_of_ble_eq_true rfl, Nat.le_of_ble_eq_true rfl⟩) (zPV X hZ hS (ci := 14) (by decide) (by decide) (r := (RX14, TX14, 107)) rfl [.int (iI 9), .int (iI l2)]) rfl rfl hl.1 rfl (lv_room (Nat.le_of_ble_eq_true rfl)) (D_182 W_prog_15_method_70_code_192 17 rfl rfl rfl) ⟨Nat.le_of_ble_eq_true rfl, Nat.le_of_ble_eq_true rfl⟩) hS (fun q _ h => zAin X hS q h) (zAin X hS) (fun u33 t33 H33 locs33 ht33 hv33 hw33 hB33 hz33 hk33 hS33 => ?_)
        have hZ33 := zBack X ht33 hB33
        exact b_M_pitchOf_212 X ih hf hZ33 hS33 (lv_sub hl [0, 1, 2, 3, 4, 5, 6, 7] rfl)

def f_M_pitchOf_146 (K : Nat) (l2 : Int) (F : zF) (B : zB) : zO := zbind (f_M_failAt K 9 l2 F B) (fun r20 F20 B20 => some (0, F20, B20))
set_option maxHeartbeats 4000000 in
set_option maxRecDepth 100000 in
theorem b_M_pitchOf_146 {D : va_G} {ca : Nat → ClassId} {ad : Nat → Int → Nat → Nat} {L : List Nat} {aS vS : Nat → Nat} {A : Nat → Prop} {p : Program} {l : Launch} {e : Env} {s : State} {m : MethodId} {args : Array Value} {below : List Frame} {meth : Method} {c : Code} {K : Nat} {r : Int} {F9 : zF} {B9 : zB} (X : zX D ca L aS vS A p s m args meth c prog_15_method_70_code 8 (Option.none : Option Jvm.ClassFile.FieldType) "StaveHouseModel") {l2 : Int} {F : zF} {B : zB} {H : Heap} {locs : List Loc} {ls : Array Slot} (hf : f_M_pitchOf_146 K l2 F B = some (r, F9, B9)) (hZ : zH D ca ad lnM nM L F B A H) (hS : va_S A s.heap H locs) (hl : lv_has ls 8 [(0, .ref (ad 14 0 0)), (2, .int (iI l2))]) : W p l e ({ frames := 1, cells := 0, slots := 0, locals := 23 } : Room) s m args below meth c H locs 0 0 (MQ below (Q_M_pitchOf D ca ad L r F9 B9 A) args s 0 0 A) (F0 m 146 ls []) := by
  obtain ⟨hx, hb, hr, hml, hown, hts, hlk, hK, hA, hL, hX⟩ := id X
  replace hf : (zbind (f_M_failAt K 9 l2 F B) (fun r20 F20 B20 => some (0, F20, B20))) = some (r, F9, B9) := hf
  refine lv_aload_n hx hb (D_42 W_prog_15_method_70_code_128 18 rfl rfl) rfl (lv_at hl 0 rfl) ?_
  refine lv_bipush (v := iI 9) hx hb (D_16 W_prog_15_method_70_code_128 19 rfl rfl rfl) (by decide) ?_
  refine lv_iload_n hx hb (D_28 W_prog_15_method_70_code_128 21 rfl rfl) rfl (lv_at hl 1 rfl) ?_
  obtain ⟨r20, F20, B20, hc20, hf⟩ := gbind hf
  refine va_callv (va_runV (As := [.int (iI 9), .int (iI l2)]) (rest := []) ⟨hx, hb, hml, hown, hts⟩ (c_M_failAt (l := l) hc20) (cwV 2 hts (gdV k_14_132 k_14_134 ks_205 k_1_9 k_14_135) rfl rfl rfl (by decide +kernel) ⟨Nat.le_of_ble_eq_true rfl, Nat.le_of_ble_eq_true rfl⟩) (zPV X hZ hS (ci := 14) (by decide) (by decide) (r := (RX14, TX14, 107)) rfl [.int (iI 9), .int (iI l2)]) rfl rfl hl.1 rfl (lv_room (Nat.le_of_ble_eq_true rfl)) (D_182 W_prog_15_method_70_code_128 22 rfl rfl rfl) ⟨Nat.le_of_ble_eq_true rfl, Nat.le_of_ble_eq_true rfl⟩) hS (fun q _ h => zAin X hS q h) (zAin X hS) (fun u20 t20 H20 locs20 ht20 hv20 hw20 hB20 hz20 hk20 hS20 => ?_)
  have hZ20 := zBack X ht20 hB20
  cases hf
  exact W.vret hx hb hr (fun t ht hW => ⟨⟨(), rfl, trivial, by rw [ht]; exact hZ20, va_K.moved hW.alike hK⟩, hS20.F ht⟩) hS20.2.2 (D_177 W_prog_15_method_70_code_128 25 rfl rfl) hlk

def f_M_pitchOf_131 (rec32 : Int → Int → Int → Int → Int → zF → zB → zO) (K : Nat) (l4 : Int) (l3 : Int) (l5 : Int) (l1 : Int) (l2 : Int) (s0 : Int) (F : zF) (B : zB) : zO := if r32 s0 then (if s0 < (-2) then f_M_pitchOf_146 K l2 F B else (if s0 ≤ 2 then rec32 (l5 - 1) l4 l3 l1 l2 F B else f_M_pitchOf_146 K l2 F B)) else none
set_option maxHeartbeats 4000000 in
set_option maxRecDepth 100000 in
theorem b_M_pitchOf_131 {D : va_G} {ca : Nat → ClassId} {ad : Nat → Int → Nat → Nat} {L : List Nat} {aS vS : Nat → Nat} {A : Nat → Prop} {p : Program} {l : Launch} {e : Env} {s : State} {m : MethodId} {args : Array Value} {below : List Frame} {meth : Method} {c : Code} {K : Nat} {r : Int} {F9 : zF} {B9 : zB} (X : zX D ca L aS vS A p s m args meth c prog_15_method_70_code 8 (Option.none : Option Jvm.ClassFile.FieldType) "StaveHouseModel") {rec32 : Int → Int → Int → Int → Int → zF → zB → zO} (hrec32 : ∀ {l5 : Int} {l4 : Int} {l3 : Int} {l1 : Int} {l2 : Int} {F : zF} {B : zB} {H : Heap} {locs : List Loc} {ls : Array Slot}, rec32 l5 l4 l3 l1 l2 F B = some (r, F9, B9) → zH D ca ad lnM nM L F B A H → va_S A s.heap H locs → lv_has ls 8 [(5, .int (iI l5)), (4, .int (iI l4)), (3, .int (iI l3)), (0, .ref (ad 14 0 0)), (1, .int (iI l1)), (2, .int (iI l2))] → W p l e ({ frames := 1, cells := 0, slots := 0, locals := 23 } : Room) s m args below meth c H locs 0 0 (MQ below (Q_M_pitchOf D ca ad L r F9 B9 A) args s 0 0 A) (F0 m 32 ls [])) {l4 : Int} {l3 : Int} {l5 : Int} {l1 : Int} {l2 : Int} {s0 : Int} {F : zF} {B : zB} {H : Heap} {locs : List Loc} {ls : Array Slot} (hf : f_M_pitchOf_131 rec32 K l4 l3 l5 l1 l2 s0 F B = some (r, F9, B9)) (hZ : zH D ca ad lnM nM L F B A H) (hS : va_S A s.heap H locs) (hl : lv_has ls 8 [(4, .int (iI l4)), (3, .int (iI l3)), (5, .int (iI l5)), (0, .ref (ad 14 0 0)), (1, .int (iI l1)), (2, .int (iI l2))]) : W p l e ({ frames := 1, cells := 0, slots := 0, locals := 23 } : Room) s m args below meth c H locs 0 0 (MQ below (Q_M_pitchOf D ca ad L r F9 B9 A) args s 0 0 A) (F0 m 131 ls [.int (iI s0)]) := by
  obtain ⟨hx, hb, hr, hml, hown, hts, hlk, hK, hA, hL, hX⟩ := id X
  replace hf : (if r32 s0 then (if s0 < (-2) then f_M_pitchOf_146 K l2 F B else (if s0 ≤ 2 then rec32 (l5 - 1) l4 l3 l1 l2 F B else f_M_pitchOf_146 K l2 F B)) else none) = some (r, F9, B9) := hf
  refine lv_istore (lv' := [(6, .int (iI s0)), (4, .int (iI l4)), (3, .int (iI l3)), (5, .int (iI l5)), (0, .ref (ad 14 0 0)), (1, .int (iI l1)), (2, .int (iI l2))]) hx hb (D_54 W_prog_15_method_70_code_128 3 rfl rfl) hl (by decide) rfl (fun ls hl => ?_)
  refine lv_iload hx hb (D_21 W_prog_15_method_70_code_128 5 rfl rfl) (lv_at hl 0 rfl) ?_
  refine lv_bipush (v := iI (-2)) hx hb (D_16 W_prog_15_method_70_code_128 7 rfl rfl rfl) (by decide) ?_
  obtain ⟨g17, hf⟩ := gif hf
  refine zlt (tgt := 146) hx hb g17 (by decide) (D_161 W_prog_15_method_70_code_128 9 rfl rfl rfl) (by decide) (fun h18 => ?_) (fun h18 => ?_)
  · replace hf := gpos hf h18
    exact b_M_pitchOf_146 X hf hZ hS (lv_sub hl [4, 6] rfl)
  · replace hf := gneg hf h18
    refine lv_iload hx hb (D_21 W_prog_15_method_70_code_128 12 rfl rfl) (lv_at hl 0 rfl) ?_
    refine lv_iconst (v := iI 2) hx hb (D_5 W_prog_15_method_70_code_128 14 rfl rfl) rfl ?_
    refine zle (tgt := 154) hx hb g17 (by decide) (D_164 W_prog_15_method_70_code_128 15 rfl rfl rfl) (by decide) (fun h19 => ?_) (fun h19 => ?_)
    · replace hf := gpos hf h19
      refine lv_iinc (v := iI (l5 - 1)) (lv' := [(5, .int (iI (l5 - 1))), (6, .int (iI s0)), (4, .int (iI l4)), (3, .int (iI l3)), (0, .ref (ad 14 0 0)), (1, .int (iI l1)), (2, .int (iI l2))]) hx hb d_15_70_154 hl (k := 3) rfl (by rw [show Int32.ofInt (-1) = iI (-1) from rfl, iI_add]; congr 1) (by decide) rfl (fun ls hl => ?_)
      refine lv_goto (tgt := 32) hx hb (D_167 W_prog_15_method_70_code_128 29 rfl rfl rfl) (by decide) ?_
      exact hrec32 hf hZ hS (lv_sub hl [0, 2, 3, 4, 5, 6] rfl)
    · replace hf := gneg hf h19
      exact b_M_pitchOf_146 X hf hZ hS (lv_sub hl [4, 6] rfl)

def f_M_pitchOf_118 (rec32 : Int → Int → Int → Int → Int → zF → zB → zO) (K : Nat) (l4 : Int) (l3 : Int) (l5 : Int) (l1 : Int) (l2 : Int) (F : zF) (B : zB) : zO := f_M_pitchOf_131 rec32 K l4 l3 l5 l1 l2 9 F B
set_option maxHeartbeats 4000000 in
set_option maxRecDepth 100000 in
theorem b_M_pitchOf_118 {D : va_G} {ca : Nat → ClassId} {ad : Nat → Int → Nat → Nat} {L : List Nat} {aS vS : Nat → Nat} {A : Nat → Prop} {p : Program} {l : Launch} {e : Env} {s : State} {m : MethodId} {args : Array Value} {below : List Frame} {meth : Method} {c : Code} {K : Nat} {r : Int} {F9 : zF} {B9 : zB} (X : zX D ca L aS vS A p s m args meth c prog_15_method_70_code 8 (Option.none : Option Jvm.ClassFile.FieldType) "StaveHouseModel") {rec32 : Int → Int → Int → Int → Int → zF → zB → zO} (hrec32 : ∀ {l5 : Int} {l4 : Int} {l3 : Int} {l1 : Int} {l2 : Int} {F : zF} {B : zB} {H : Heap} {locs : List Loc} {ls : Array Slot}, rec32 l5 l4 l3 l1 l2 F B = some (r, F9, B9) → zH D ca ad lnM nM L F B A H → va_S A s.heap H locs → lv_has ls 8 [(5, .int (iI l5)), (4, .int (iI l4)), (3, .int (iI l3)), (0, .ref (ad 14 0 0)), (1, .int (iI l1)), (2, .int (iI l2))] → W p l e ({ frames := 1, cells := 0, slots := 0, locals := 23 } : Room) s m args below meth c H locs 0 0 (MQ below (Q_M_pitchOf D ca ad L r F9 B9 A) args s 0 0 A) (F0 m 32 ls [])) {l4 : Int} {l3 : Int} {l5 : Int} {l1 : Int} {l2 : Int} {F : zF} {B : zB} {H : Heap} {locs : List Loc} {ls : Array Slot} (hf : f_M_pitchOf_118 rec32 K l4 l3 l5 l1 l2 F B = some (r, F9, B9)) (hZ : zH D ca ad lnM nM L F B A H) (hS : va_S A s.heap H locs) (hl : lv_has ls 8 [(4, .int (iI l4)), (3, .int (iI l3)), (5, .int (iI l5)), (0, .ref (ad 14 0 0)), (1, .int (iI l1)), (2, .int (iI l2))]) : W p l e ({ frames := 1, cells := 0, slots := 0, locals := 23 } : Room) s m args below meth c H locs 0 0 (MQ below (Q_M_pitchOf D ca ad L r F9 B9 A) args s 0 0 A) (F0 m 118 ls []) := by
  obtain ⟨hx, hb, hr, hml, hown, hts, hlk, hK, hA, hL, hX⟩ := id X
  replace hf : (f_M_pitchOf_131 rec32 K l4 l3 l5 l1 l2 9 F B) = some (r, F9, B9) := hf
  refine lv_bipush (v := iI 9) hx hb (D_16 W_prog_15_method_70_code_96 22 rfl rfl rfl) (by decide) ?_
  refine lv_goto (tgt := 131) hx hb (D_167 W_prog_15_method_70_code_96 24 rfl rfl rfl) (by decide) ?_
  exact b_M_pitchOf_131 X hrec32 hf hZ hS (lv_sub hl [0, 1, 2, 3, 4, 5] rfl)

def f_M_pitchOf_106 (rec32 : Int → Int → Int → Int → Int → zF → zB → zO) (K : Nat) (l3 : Int) (l5 : Int) (l1 : Int) (l2 : Int) (s0 : Int) (F : zF) (B : zB) : zO := if r32 l3 then (if l3 < 0 then f_M_pitchOf_118 rec32 K s0 l3 l5 l1 l2 F B else (if l3 ≤ 62 then zbind (f_M_tone K l3 0 F B) (fun r16 F16 B16 => f_M_pitchOf_131 rec32 K s0 l3 l5 l1 l2 (s0 - r16) F16 B16) else f_M_pitchOf_118 rec32 K s0 l3 l5 l1 l2 F B)) else none
set_option maxHeartbeats 4000000 in
set_option maxRecDepth 100000 in
theorem b_M_pitchOf_106 {D : va_G} {ca : Nat → ClassId} {ad : Nat → Int → Nat → Nat} {L : List Nat} {aS vS : Nat → Nat} {A : Nat → Prop} {p : Program} {l : Launch} {e : Env} {s : State} {m : MethodId} {args : Array Value} {below : List Frame} {meth : Method} {c : Code} {K : Nat} {r : Int} {F9 : zF} {B9 : zB} (X : zX D ca L aS vS A p s m args meth c prog_15_method_70_code 8 (Option.none : Option Jvm.ClassFile.FieldType) "StaveHouseModel") {rec32 : Int → Int → Int → Int → Int → zF → zB → zO} (hrec32 : ∀ {l5 : Int} {l4 : Int} {l3 : Int} {l1 : Int} {l2 : Int} {F : zF} {B : zB} {H : Heap} {locs : List Loc} {ls : Array Slot}, rec32 l5 l4 l3 l1 l2 F B = some (r, F9, B9) → zH D ca ad lnM nM L F B A H → va_S A s.heap H locs → lv_has ls 8 [(5, .int (iI l5)), (4, .int (iI l4)), (3, .int (iI l3)), (0, .ref (ad 14 0 0)), (1, .int (iI l1)), (2, .int (iI l2))] → W p l e ({ frames := 1, cells := 0, slots := 0, locals := 23 } : Room) s m args below meth c H locs 0 0 (MQ below (Q_M_pitchOf D ca ad L r F9 B9 A) args s 0 0 A) (F0 m 32 ls [])) {l3 : Int} {l5 : Int} {l1 : Int} {l2 : Int} {s0 : Int} {F : zF} {B : zB} {H : Heap} {locs : List Loc} {ls : Array Slot} (hf : f_M_pitchOf_106 rec32 K l3 l5 l1 l2 s0 F B = some (r, F9, B9)) (hZ : zH D ca ad lnM nM L F B A H) (hS : va_S A s.heap H locs) (hl : lv_has ls 8 [(3, .int (iI l3)), (5, .int (iI l5)), (0, .ref (ad 14 0 0)), (1, .int (iI l1)), (2, .int (iI l2))]) : W p l e ({ frames := 1, cells := 0, slots := 0, locals := 23 } : Room) s m args below meth c H locs 0 0 (MQ below (Q_M_pitchOf D ca ad L r F9 B9 A) args s 0 0 A) (F0 m 106 ls [.int (iI s0)]) := by
  obtain ⟨hx, hb, hr, hml, hown, hts, hlk, hK, hA, hL, hX⟩ := id X
  replace hf : (if r32 l3 then (if l3 < 0 then f_M_pitchOf_118 rec32 K s0 l3 l5 l1 l2 F B else (if l3 ≤ 62 then zbind (f_M_tone K l3 0 F B) (fun r16 F16 B16 => f_M_pitchOf_131 rec32 K s0 l3 l5 l1 l2 (s0 - r16) F16 B16) else f_M_pitchOf_118 rec32 K s0 l3 l5 l1 l2 F B)) else none) = some (r, F9, B9) := hf
  refine lv_istore (lv' := [(4, .int (iI s0)), (3, .int (iI l3)), (5, .int (iI l5)), (0, .ref (ad 14 0 0)), (1, .int (iI l1)), (2, .int (iI l2))]) hx hb (D_54 W_prog_15_method_70_code_96 10 rfl rfl) hl (by decide) rfl (fun ls hl => ?_)
  refine lv_iload_n hx hb (D_29 W_prog_15_method_70_code_96 12 rfl rfl) rfl (lv_at hl 1 rfl) ?_
  obtain ⟨g13, hf⟩ := gif hf
  refine z0lt (tgt := 118) hx hb g13 (D_155 W_prog_15_method_70_code_96 13 rfl rfl rfl) (by decide) (fun h14 => ?_) (fun h14 => ?_)
  · replace hf := gpos hf h14
    exact b_M_pitchOf_118 X hrec32 hf hZ hS (lv_sub hl [0, 1, 2, 3, 4, 5] rfl)
  · replace hf := gneg hf h14
    refine lv_iload_n hx hb (D_29 W_prog_15_method_70_code_96 16 rfl rfl) rfl (lv_at hl 1 rfl) ?_
    refine lv_bipush (v := iI 62) hx hb (D_16 W_prog_15_method_70_code_96 17 rfl rfl rfl) (by decide) ?_
    refine zle (tgt := 123) hx hb g13 (by decide) (D_164 W_prog_15_method_70_code_96 19 rfl rfl rfl) (by decide) (fun h15 => ?_) (fun h15 => ?_)
    · replace hf := gpos hf h15
      refine lv_iload hx hb (D_21 W_prog_15_method_70_code_96 27 rfl rfl) (lv_at hl 0 rfl) ?_
      refine lv_iload_n hx hb (D_29 W_prog_15_method_70_code_96 29 rfl rfl) rfl (lv_at hl 1 rfl) ?_
      refine lv_iconst (v := iI 0) hx hb (D_3 W_prog_15_method_70_code_96 30 rfl rfl) rfl ?_
      obtain ⟨r16, F16, B16, hc16, hf⟩ := gbind hf
      refine va_calli (va_runS (As := [.int (iI l3), .int (iI 0)]) (rest := [.int (iI s0)]) ⟨hx, hb, hml, hown, hts⟩ (c_M_tone (l := l) hc16) (va_cwS 2 hts (gdS k_12_158 k_12_159 k_1_9 k_12_160) rfl rfl rfl (by decide +kernel) ⟨Nat.le_of_ble_eq_true rfl, Nat.le_of_ble_eq_true rfl⟩) (zPS X hZ hS [.int (iI l3), .int (iI 0)]) rfl rfl hl.1 rfl (lv_room (Nat.le_of_ble_eq_true rfl)) (D_184 W_prog_15_method_70_code_96 31 rfl rfl rfl) ⟨Nat.le_of_ble_eq_true rfl, Nat.le_of_ble_eq_true rfl⟩) hS (fun q _ h => zAin X hS q h) (zAin X hS) (fun p16 u16 t16 H16 locs16 ht16 hv16 hw16 hB16 hz16 hk16 hS16 => ?_)
      have hZ16 := zBack X ht16 hB16
      subst hw16
      refine zsub hx hb (D_100 W_prog_15_method_70_code_128 2 rfl rfl) ?_
      exact b_M_pitchOf_131 X hrec32 hf hZ16 hS16 (lv_sub hl [0, 1, 2, 3, 4, 5] rfl)
    · replace hf := gneg hf h15
      exact b_M_pitchOf_118 X hrec32 hf hZ hS (lv_sub hl [0, 1, 2, 3, 4, 5] rfl)

def f_M_pitchOf_70 (rec32 : Int → Int → Int → Int → Int → zF → zB → zO) (K : Nat) (l5 : Int) (l4 : Int) (l1 : Int) (l2 : Int) (s0 : Int) (F : zF) (B : zB) : zO := if 0 ≤ l5 ∧ l5 < 100 then if r32 (B 14 0 42 l5) then (if (B 14 0 42 l5) = 0 then f_M_pitchOf_106 rec32 K s0 l5 l1 l2 (l4 + (B 14 0 44 l5)) F B else f_M_pitchOf_106 rec32 K s0 l5 l1 l2 ((2 * (B 14 0 44 l5)) - l4) F B) else none else none
set_option maxHeartbeats 4000000 in
set_option maxRecDepth 100000 in
theorem b_M_pitchOf_70 {D : va_G} {ca : Nat → ClassId} {ad : Nat → Int → Nat → Nat} {L : List Nat} {aS vS : Nat → Nat} {A : Nat → Prop} {p : Program} {l : Launch} {e : Env} {s : State} {m : MethodId} {args : Array Value} {below : List Frame} {meth : Method} {c : Code} {K : Nat} {r : Int} {F9 : zF} {B9 : zB} (X : zX D ca L aS vS A p s m args meth c prog_15_method_70_code 8 (Option.none : Option Jvm.ClassFile.FieldType) "StaveHouseModel") {rec32 : Int → Int → Int → Int → Int → zF → zB → zO} (hrec32 : ∀ {l5 : Int} {l4 : Int} {l3 : Int} {l1 : Int} {l2 : Int} {F : zF} {B : zB} {H : Heap} {locs : List Loc} {ls : Array Slot}, rec32 l5 l4 l3 l1 l2 F B = some (r, F9, B9) → zH D ca ad lnM nM L F B A H → va_S A s.heap H locs → lv_has ls 8 [(5, .int (iI l5)), (4, .int (iI l4)), (3, .int (iI l3)), (0, .ref (ad 14 0 0)), (1, .int (iI l1)), (2, .int (iI l2))] → W p l e ({ frames := 1, cells := 0, slots := 0, locals := 23 } : Room) s m args below meth c H locs 0 0 (MQ below (Q_M_pitchOf D ca ad L r F9 B9 A) args s 0 0 A) (F0 m 32 ls [])) {l5 : Int} {l4 : Int} {l1 : Int} {l2 : Int} {s0 : Int} {F : zF} {B : zB} {H : Heap} {locs : List Loc} {ls : Array Slot} (hf : f_M_pitchOf_70 rec32 K l5 l4 l1 l2 s0 F B = some (r, F9, B9)) (hZ : zH D ca ad lnM nM L F B A H) (hS : va_S A s.heap H locs) (hl : lv_has ls 8 [(5, .int (iI l5)), (4, .int (iI l4)), (0, .ref (ad 14 0 0)), (1, .int (iI l1)), (2, .int (iI l2))]) : W p l e ({ frames := 1, cells := 0, slots := 0, locals := 23 } : Room) s m args below meth c H locs 0 0 (MQ below (Q_M_pitchOf D ca ad L r F9 B9 A) args s 0 0 A) (F0 m 70 ls [.int (iI s0)]) := by
  obtain ⟨hx, hb, hr, hml, hown, hts, hlk, hK, hA, hL, hX⟩ := id X
  replace hf : (if 0 ≤ l5 ∧ l5 < 100 then if r32 (B 14 0 42 l5) then (if (B 14 0 42 l5) = 0 then f_M_pitchOf_106 rec32 K s0 l5 l1 l2 (l4 + (B 14 0 44 l5)) F B else f_M_pitchOf_106 rec32 K s0 l5 l1 l2 ((2 * (B 14 0 44 l5)) - l4) F B) else none else none) = some (r, F9, B9) := hf
  refine lv_istore_n (lv' := [(3, .int (iI s0)), (5, .int (iI l5)), (4, .int (iI l4)), (0, .ref (ad 14 0 0)), (1, .int (iI l1)), (2, .int (iI l2))]) hx hb (D_62 W_prog_15_method_70_code_64 6 rfl rfl) rfl hl (by decide) rfl (fun ls hl => ?_)
  refine lv_aload_n hx hb (D_42 W_prog_15_method_70_code_64 7 rfl rfl) rfl (lv_at hl 3 rfl) ?_
  refine zget (ci := 14) (C := RX14) (T := TX14) (v := .ref (ad 14 0 (42 + 1))) (k := 42) hx hb hts inW_14 hown hK hZ (by decide) (by decide) rfl (by decide) k_11_40 rfl (D_180 W_prog_15_method_70_code_64 8 rfl rfl rfl) ?_
  refine lv_iload hx hb (D_21 W_prog_15_method_70_code_64 11 rfl rfl) (lv_at hl 1 rfl) ?_
  obtain ⟨g10, hf⟩ := gif hf
  refine zzald (ci := 14) (k := 42) hx hb hK rfl hZ (by decide) (by decide) rfl (Nat.le_of_ble_eq_true rfl) g10.1 g10.2 (D_51 W_prog_15_method_70_code_64 13 rfl rfl) ?_
  obtain ⟨g11, hf⟩ := gif hf
  refine z0eq (tgt := 96) hx hb g11 (D_153 W_prog_15_method_70_code_64 14 rfl rfl rfl) (by decide) (fun h12 => ?_) (fun h12 => ?_)
  · replace hf := gpos hf h12
    refine lv_iload hx hb (D_21 W_prog_15_method_70_code_96 0 rfl rfl) (lv_at hl 2 rfl) ?_
    refine lv_aload_n hx hb (D_42 W_prog_15_method_70_code_96 2 rfl rfl) rfl (lv_at hl 3 rfl) ?_
    refine zget (ci := 14) (C := RX14) (T := TX14) (v := .ref (ad 14 0 (44 + 1))) (k := 44) hx hb hts inW_14 hown hK hZ (by decide) (by decide) rfl (by decide) k_11_42 rfl (D_180 W_prog_15_method_70_code_96 3 rfl rfl rfl) ?_
    refine lv_iload hx hb (D_21 W_prog_15_method_70_code_96 6 rfl rfl) (lv_at hl 1 rfl) ?_
    refine zald (ci := 14) (k := 44) hx hb hK rfl hZ (by decide) (by decide) rfl (Nat.le_of_ble_eq_true rfl) g10.1 g10.2 (D_46 W_prog_15_method_70_code_96 8 rfl rfl) ?_
    refine zadd hx hb (D_96 W_prog_15_method_70_code_96 9 rfl rfl) ?_
    exact b_M_pitchOf_106 X hrec32 hf hZ hS (lv_sub hl [0, 1, 3, 4, 5] rfl)
  · replace hf := gneg hf h12
    refine lv_iconst (v := iI 2) hx hb (D_5 W_prog_15_method_70_code_64 17 rfl rfl) rfl ?_
    refine lv_aload_n hx hb (D_42 W_prog_15_method_70_code_64 18 rfl rfl) rfl (lv_at hl 3 rfl) ?_
    refine zget (ci := 14) (C := RX14) (T := TX14) (v := .ref (ad 14 0 (44 + 1))) (k := 44) hx hb hts inW_14 hown hK hZ (by decide) (by decide) rfl (by decide) k_11_42 rfl (D_180 W_prog_15_method_70_code_64 19 rfl rfl rfl) ?_
    refine lv_iload hx hb (D_21 W_prog_15_method_70_code_64 22 rfl rfl) (lv_at hl 1 rfl) ?_
    refine zald (ci := 14) (k := 44) hx hb hK rfl hZ (by decide) (by decide) rfl (Nat.le_of_ble_eq_true rfl) g10.1 g10.2 (D_46 W_prog_15_method_70_code_64 24 rfl rfl) ?_
    refine zmul hx hb (D_104 W_prog_15_method_70_code_64 25 rfl rfl) ?_
    refine lv_iload hx hb (D_21 W_prog_15_method_70_code_64 26 rfl rfl) (lv_at hl 2 rfl) ?_
    refine zsub hx hb (D_100 W_prog_15_method_70_code_64 28 rfl rfl) ?_
    refine lv_goto (tgt := 106) hx hb (D_167 W_prog_15_method_70_code_64 29 rfl rfl rfl) (by decide) ?_
    exact b_M_pitchOf_106 X hrec32 hf hZ hS (lv_sub hl [0, 1, 3, 4, 5] rfl)

def f_M_pitchOf_32 (K : Nat) : Nat → Int → Int → Int → Int → Int → zF → zB → zO
  | 0, _, _, _, _, _, _, _ => none
  | n + 1, l5, l4, l3, l1, l2, F, B => if r32 l5 then (if l5 < 0 then if 0 ≤ (F 14 0 6) ∧ (F 14 0 6) < 3 then if 0 ≤ l1 ∧ l1 < 4000 then f_M_pitchOf_184 K K (6 * l1) ((6 * l1) + (B 13 (F 14 0 6) 21 l1)) (6 * l1) l4 l3 l1 l2 F B else none else none else if 0 ≤ l5 ∧ l5 < 100 then if r32 (B 14 0 42 l5) then (if (B 14 0 42 l5) = 0 then f_M_pitchOf_70 (f_M_pitchOf_32 K n) K l5 l4 l1 l2 (l3 + (B 14 0 43 l5)) F B else f_M_pitchOf_70 (f_M_pitchOf_32 K n) K l5 l4 l1 l2 ((2 * (B 14 0 43 l5)) - l3) F B) else none else none) else none
set_option maxHeartbeats 4000000 in
set_option maxRecDepth 100000 in
theorem b_M_pitchOf_32 {D : va_G} {ca : Nat → ClassId} {ad : Nat → Int → Nat → Nat} {L : List Nat} {aS vS : Nat → Nat} {A : Nat → Prop} {p : Program} {l : Launch} {e : Env} {s : State} {m : MethodId} {args : Array Value} {below : List Frame} {meth : Method} {c : Code} {K : Nat} {r : Int} {F9 : zF} {B9 : zB} (X : zX D ca L aS vS A p s m args meth c prog_15_method_70_code 8 (Option.none : Option Jvm.ClassFile.FieldType) "StaveHouseModel") : ∀ {n : Nat} {l5 : Int} {l4 : Int} {l3 : Int} {l1 : Int} {l2 : Int} {F : zF} {B : zB} {H : Heap} {locs : List Loc} {ls : Array Slot}, f_M_pitchOf_32 K n l5 l4 l3 l1 l2 F B = some (r, F9, B9) → zH D ca ad lnM nM L F B A H → va_S A s.heap H locs → lv_has ls 8 [(5, .int (iI l5)), (4, .int (iI l4)), (3, .int (iI l3)), (0, .ref (ad 14 0 0)), (1, .int (iI l1)), (2, .int (iI l2))] → W p l e ({ frames := 1, cells := 0, slots := 0, locals := 23 } : Room) s m args below meth c H locs 0 0 (MQ below (Q_M_pitchOf D ca ad L r F9 B9 A) args s 0 0 A) (F0 m 32 ls []) := by
  obtain ⟨hx, hb, hr, hml, hown, hts, hlk, hK, hA, hL, hX⟩ := id X
  intro n
  induction n with
  | zero =>
    intros
    rename_i hf _ _ _
    cases hf
  | succ n ih =>
    intro l5 l4 l3 l1 l2 F B H locs ls hf hZ hS hl
    replace hf : (if r32 l5 then (if l5 < 0 then if 0 ≤ (F 14 0 6) ∧ (F 14 0 6) < 3 then if 0 ≤ l1 ∧ l1 < 4000 then f_M_pitchOf_184 K K (6 * l1) ((6 * l1) + (B 13 (F 14 0 6) 21 l1)) (6 * l1) l4 l3 l1 l2 F B else none else none else if 0 ≤ l5 ∧ l5 < 100 then if r32 (B 14 0 42 l5) then (if (B 14 0 42 l5) = 0 then f_M_pitchOf_70 (f_M_pitchOf_32 K n) K l5 l4 l1 l2 (l3 + (B 14 0 43 l5)) F B else f_M_pitchOf_70 (f_M_pitchOf_32 K n) K l5 l4 l1 l2 ((2 * (B 14 0 43 l5)) - l3) F B) else none else none) else none) = some (r, F9, B9) := hf
    refine lv_iload hx hb (D_21 W_prog_15_method_70_code_32 0 rfl rfl) (lv_at hl 0 rfl) ?_
    obtain ⟨g3, hf⟩ := gif hf
    refine z0lt (tgt := 160) hx hb g3 (D_155 W_prog_15_method_70_code_32 2 rfl rfl rfl) (by decide) (fun h4 => ?_) (fun h4 => ?_)
    · replace hf := gpos hf h4
      refine lv_bipush (v := iI 6) hx hb (D_16 W_prog_15_method_70_code_160 0 rfl rfl rfl) (by decide) ?_
      refine lv_iload_n hx hb (D_27 W_prog_15_method_70_code_160 2 rfl rfl) rfl (lv_at hl 4 rfl) ?_
      refine zmul hx hb (D_104 W_prog_15_method_70_code_160 3 rfl rfl) ?_
      refine lv_istore (lv' := [(5, .int (iI (6 * l1))), (4, .int (iI l4)), (3, .int (iI l3)), (0, .ref (ad 14 0 0)), (1, .int (iI l1)), (2, .int (iI l2))]) hx hb (D_54 W_prog_15_method_70_code_160 4 rfl rfl) hl (by decide) rfl (fun ls hl => ?_)
      refine lv_iload hx hb (D_21 W_prog_15_method_70_code_160 6 rfl rfl) (lv_at hl 0 rfl) ?_
      refine lv_aload_n hx hb (D_42 W_prog_15_method_70_code_160 8 rfl rfl) rfl (lv_at hl 3 rfl) ?_
      refine zget (ci := 14) (C := RX14) (T := TX14) (v := va_rf (zrf ad 13 (F 14 0 6))) (k := 6) hx hb hts inW_14 hown hK hZ (by decide) (by decide) rfl (by decide) k_11_4 rfl (D_180 W_prog_15_method_70_code_160 9 rfl rfl rfl) ?_
      obtain ⟨g5, hf⟩ := gif hf
      refine zunrf g5.1 ?_
      refine zget (ci := 13) (C := RX13) (T := TX13) (v := .ref (ad 13 (F 14 0 6) (21 + 1))) (k := 21) hx hb hts inW_13 hown hK hZ g5.1 g5.2 rfl (by decide) k_9_160 rfl (D_180 W_prog_15_method_70_code_160 12 rfl rfl rfl) ?_
      refine lv_iload_n hx hb (D_27 W_prog_15_method_70_code_160 15 rfl rfl) rfl (lv_at hl 4 rfl) ?_
      obtain ⟨g6, hf⟩ := gif hf
      refine zald (ci := 13) (k := 21) hx hb hK rfl hZ g5.1 g5.2 rfl (Nat.le_of_ble_eq_true rfl) g6.1 g6.2 (D_46 W_prog_15_method_70_code_160 16 rfl rfl) ?_
      refine zadd hx hb (D_96 W_prog_15_method_70_code_160 17 rfl rfl) ?_
      refine lv_istore (lv' := [(6, .int (iI ((6 * l1) + (B 13 (F 14 0 6) 21 l1)))), (5, .int (iI (6 * l1))), (4, .int (iI l4)), (3, .int (iI l3)), (0, .ref (ad 14 0 0)), (1, .int (iI l1)), (2, .int (iI l2))]) hx hb (D_54 W_prog_15_method_70_code_160 18 rfl rfl) hl (by decide) rfl (fun ls hl => ?_)
      refine lv_iload hx hb (D_21 W_prog_15_method_70_code_160 20 rfl rfl) (lv_at hl 1 rfl) ?_
      refine lv_istore (lv' := [(7, .int (iI (6 * l1))), (6, .int (iI ((6 * l1) + (B 13 (F 14 0 6) 21 l1)))), (5, .int (iI (6 * l1))), (4, .int (iI l4)), (3, .int (iI l3)), (0, .ref (ad 14 0 0)), (1, .int (iI l1)), (2, .int (iI l2))]) hx hb (D_54 W_prog_15_method_70_code_160 22 rfl rfl) hl (by decide) rfl (fun ls hl => ?_)
      exact b_M_pitchOf_184 X hf hZ hS (lv_sub hl [0, 1, 2, 3, 4, 5, 6, 7] rfl)
    · replace hf := gneg hf h4
      refine lv_aload_n hx hb (D_42 W_prog_15_method_70_code_32 5 rfl rfl) rfl (lv_at hl 3 rfl) ?_
      refine zget (ci := 14) (C := RX14) (T := TX14) (v := .ref (ad 14 0 (42 + 1))) (k := 42) hx hb hts inW_14 hown hK hZ (by decide) (by decide) rfl (by decide) k_11_40 rfl (D_180 W_prog_15_method_70_code_32 6 rfl rfl rfl) ?_
      refine lv_iload hx hb (D_21 W_prog_15_method_70_code_32 9 rfl rfl) (lv_at hl 0 rfl) ?_
      obtain ⟨g7, hf⟩ := gif hf
      refine zzald (ci := 14) (k := 42) hx hb hK rfl hZ (by decide) (by decide) rfl (Nat.le_of_ble_eq_true rfl) g7.1 g7.2 (D_51 W_prog_15_method_70_code_32 11 rfl rfl) ?_
      obtain ⟨g8, hf⟩ := gif hf
      refine z0eq (tgt := 61) hx hb g8 (D_153 W_prog_15_method_70_code_32 12 rfl rfl rfl) (by decide) (fun h9 => ?_) (fun h9 => ?_)
      · replace hf := gpos hf h9
        refine lv_iload_n hx hb (D_29 W_prog_15_method_70_code_32 29 rfl rfl) rfl (lv_at hl 2 rfl) ?_
        refine lv_aload_n hx hb (D_42 W_prog_15_method_70_code_32 30 rfl rfl) rfl (lv_at hl 3 rfl) ?_
        refine zget (ci := 14) (C := RX14) (T := TX14) (v := .ref (ad 14 0 (43 + 1))) (k := 43) hx hb hts inW_14 hown hK hZ (by decide) (by decide) rfl (by decide) k_11_41 rfl (D_180 W_prog_15_method_70_code_32 31 rfl rfl rfl) ?_
        refine lv_iload hx hb (D_21 W_prog_15_method_70_code_64 2 rfl rfl) (lv_at hl 0 rfl) ?_
        refine zald (ci := 14) (k := 43) hx hb hK rfl hZ (by decide) (by decide) rfl (Nat.le_of_ble_eq_true rfl) g7.1 g7.2 (D_46 W_prog_15_method_70_code_64 4 rfl rfl) ?_
        refine zadd hx hb (D_96 W_prog_15_method_70_code_64 5 rfl rfl) ?_
        exact b_M_pitchOf_70 X ih hf hZ hS (lv_sub hl [0, 1, 3, 4, 5] rfl)
      · replace hf := gneg hf h9
        refine lv_iconst (v := iI 2) hx hb (D_5 W_prog_15_method_70_code_32 15 rfl rfl) rfl ?_
        refine lv_aload_n hx hb (D_42 W_prog_15_method_70_code_32 16 rfl rfl) rfl (lv_at hl 3 rfl) ?_
        refine zget (ci := 14) (C := RX14) (T := TX14) (v := .ref (ad 14 0 (43 + 1))) (k := 43) hx hb hts inW_14 hown hK hZ (by decide) (by decide) rfl (by decide) k_11_41 rfl (D_180 W_prog_15_method_70_code_32 17 rfl rfl rfl) ?_
        refine lv_iload hx hb (D_21 W_prog_15_method_70_code_32 20 rfl rfl) (lv_at hl 0 rfl) ?_
        refine zald (ci := 14) (k := 43) hx hb hK rfl hZ (by decide) (by decide) rfl (Nat.le_of_ble_eq_true rfl) g7.1 g7.2 (D_46 W_prog_15_method_70_code_32 22 rfl rfl) ?_
        refine zmul hx hb (D_104 W_prog_15_method_70_code_32 23 rfl rfl) ?_
        refine lv_iload_n hx hb (D_29 W_prog_15_method_70_code_32 24 rfl rfl) rfl (lv_at hl 2 rfl) ?_
        refine zsub hx hb (D_100 W_prog_15_method_70_code_32 25 rfl rfl) ?_
        refine lv_goto (tgt := 70) hx hb (D_167 W_prog_15_method_70_code_32 26 rfl rfl rfl) (by decide) ?_
        exact b_M_pitchOf_70 X ih hf hZ hS (lv_sub hl [0, 1, 3, 4, 5] rfl)

def f_M_pitchOf (K : Nat) (l1 : Int) (l2 : Int) (F : zF) (B : zB) : zO := if 0 ≤ l2 ∧ l2 < 3001 then zbind (f_M_tone K (B 14 0 9 l2) (B 14 0 10 l2) F B) (fun r2 F2 B2 => f_M_pitchOf_32 K K ((F2 14 0 45) - 1) r2 (B 14 0 9 l2) l1 l2 F2 B2) else none
set_option maxHeartbeats 4000000 in
set_option maxRecDepth 100000 in
theorem c_M_pitchOf {l : Launch} {D : va_G} {ca : Nat → ClassId} {ad : Nat → Int → Nat → Nat} {L : List Nat} {aS vS : Nat → Nat} {sz K : Nat}  {l1 : Int} {l2 : Int} {F F9 : zF} {B B9 : zB} {r : Int} (hf : f_M_pitchOf K l1 l2 F B = some (r, F9, B9)) : Met l ({ cls := "StaveHouseModel", name := "pitchOf", desc := "(II)V" } : Jvm.MethodName) (Cond.code ({ cls := "StaveHouseModel", name := "pitchOf", desc := "(II)V" } : Jvm.MethodName) prog_15_method_70_code 8 (Option.none : Option Jvm.ClassFile.FieldType) :: wAll) ({ frames := 1, cells := 0, slots := 0, locals := 23 } : Room) (va_Pc [.ref (ad 14 0 0), .int (iI l1), .int (iI l2)] (zPre D ca ad lnM nM L aS vS F B sz)) (Q_M_pitchOf D ca ad L r F9 B9 (zA L sz)) 0 0 (zA L sz) := by
  refine zMet (Qc := Q_M_pitchOf D ca ad L r F9 B9) (lv := [(0, .ref (ad 14 0 0)), (1, .int (iI l1)), (2, .int (iI l2))]) (by decide) (Nat.le_of_ble_eq_true rfl) rfl (fun A p e s m below meth c ls X hZ hS hl => ?_)
  obtain ⟨hx, hb, hr, hml, hown, hts, hlk, hK, hA, hL, hX⟩ := id X
  replace hf : (if 0 ≤ l2 ∧ l2 < 3001 then zbind (f_M_tone K (B 14 0 9 l2) (B 14 0 10 l2) F B) (fun r2 F2 B2 => f_M_pitchOf_32 K K ((F2 14 0 45) - 1) r2 (B 14 0 9 l2) l1 l2 F2 B2) else none) = some (r, F9, B9) := hf
  refine lv_aload_n hx hb (D_42 W_prog_15_method_70_code_0 0 rfl rfl) rfl (lv_at hl 0 rfl) ?_
  refine zget (ci := 14) (C := RX14) (T := TX14) (v := .ref (ad 14 0 (9 + 1))) (k := 9) hx hb hts inW_14 hown hK hZ (by decide) (by decide) rfl (by decide) k_11_7 rfl (D_180 W_prog_15_method_70_code_0 1 rfl rfl rfl) ?_
  refine lv_iload_n hx hb (D_28 W_prog_15_method_70_code_0 4 rfl rfl) rfl (lv_at hl 2 rfl) ?_
  obtain ⟨g1, hf⟩ := gif hf
  refine zald (ci := 14) (k := 9) hx hb hK rfl hZ (by decide) (by decide) rfl (Nat.le_of_ble_eq_true rfl) g1.1 g1.2 (D_46 W_prog_15_method_70_code_0 5 rfl rfl) ?_
  refine lv_istore_n (lv' := [(3, .int (iI (B 14 0 9 l2))), (0, .ref (ad 14 0 0)), (1, .int (iI l1)), (2, .int (iI l2))]) hx hb (D_62 W_prog_15_method_70_code_0 6 rfl rfl) rfl hl (by decide) rfl (fun ls hl => ?_)
  refine lv_aload_n hx hb (D_42 W_prog_15_method_70_code_0 7 rfl rfl) rfl (lv_at hl 1 rfl) ?_
  refine zget (ci := 14) (C := RX14) (T := TX14) (v := .ref (ad 14 0 (9 + 1))) (k := 9) hx hb hts inW_14 hown hK hZ (by decide) (by decide) rfl (by decide) k_11_7 rfl (D_180 W_prog_15_method_70_code_0 8 rfl rfl rfl) ?_
  refine lv_iload_n hx hb (D_28 W_prog_15_method_70_code_0 11 rfl rfl) rfl (lv_at hl 3 rfl) ?_
  refine zald (ci := 14) (k := 9) hx hb hK rfl hZ (by decide) (by decide) rfl (Nat.le_of_ble_eq_true rfl) g1.1 g1.2 (D_46 W_prog_15_method_70_code_0 12 rfl rfl) ?_
  refine lv_aload_n hx hb (D_42 W_prog_15_method_70_code_0 13 rfl rfl) rfl (lv_at hl 1 rfl) ?_
  refine zget (ci := 14) (C := RX14) (T := TX14) (v := .ref (ad 14 0 (10 + 1))) (k := 10) hx hb hts inW_14 hown hK hZ (by decide) (by decide) rfl (by decide) k_11_8 rfl (D_180 W_prog_15_method_70_code_0 14 rfl rfl rfl) ?_
  refine lv_iload_n hx hb (D_28 W_prog_15_method_70_code_0 17 rfl rfl) rfl (lv_at hl 3 rfl) ?_
  refine zald (ci := 14) (k := 10) hx hb hK rfl hZ (by decide) (by decide) rfl (Nat.le_of_ble_eq_true rfl) g1.1 g1.2 (D_46 W_prog_15_method_70_code_0 18 rfl rfl) ?_
  obtain ⟨r2, F2, B2, hc2, hf⟩ := gbind hf
  refine va_calli (va_runS (As := [.int (iI (B 14 0 9 l2)), .int (iI (B 14 0 10 l2))]) (rest := []) ⟨hx, hb, hml, hown, hts⟩ (c_M_tone (l := l) hc2) (va_cwS 2 hts (gdS k_12_158 k_12_159 k_1_9 k_12_160) rfl rfl rfl (by decide +kernel) ⟨Nat.le_of_ble_eq_true rfl, Nat.le_of_ble_eq_true rfl⟩) (zPS X hZ hS [.int (iI (B 14 0 9 l2)), .int (iI (B 14 0 10 l2))]) rfl rfl hl.1 rfl (lv_room (Nat.le_of_ble_eq_true rfl)) (D_184 W_prog_15_method_70_code_0 19 rfl rfl rfl) ⟨Nat.le_of_ble_eq_true rfl, Nat.le_of_ble_eq_true rfl⟩) hS (fun q _ h => zAin X hS q h) (zAin X hS) (fun p2 u2 t2 H2 locs2 ht2 hv2 hw2 hB2 hz2 hk2 hS2 => ?_)
  have hZ2 := zBack X ht2 hB2
  subst hw2
  refine lv_istore (lv' := [(4, .int (iI r2)), (3, .int (iI (B 14 0 9 l2))), (0, .ref (ad 14 0 0)), (1, .int (iI l1)), (2, .int (iI l2))]) hx hb (D_54 W_prog_15_method_70_code_0 22 rfl rfl) hl (by decide) rfl (fun ls hl => ?_)
  refine lv_aload_n hx hb (D_42 W_prog_15_method_70_code_0 24 rfl rfl) rfl (lv_at hl 2 rfl) ?_
  refine zget (ci := 14) (C := RX14) (T := TX14) (v := .int (iI (F2 14 0 45))) (k := 45) hx hb hts inW_14 hown hK hZ2 (by decide) (by decide) rfl (by decide) k_11_43 rfl (D_180 W_prog_15_method_70_code_0 25 rfl rfl rfl) ?_
  refine lv_iconst (v := iI 1) hx hb (D_4 W_prog_15_method_70_code_0 28 rfl rfl) rfl ?_
  refine zsub hx hb (D_100 W_prog_15_method_70_code_0 29 rfl rfl) ?_
  refine lv_istore (lv' := [(5, .int (iI ((F2 14 0 45) - 1))), (4, .int (iI r2)), (3, .int (iI (B 14 0 9 l2))), (0, .ref (ad 14 0 0)), (1, .int (iI l1)), (2, .int (iI l2))]) hx hb (D_54 W_prog_15_method_70_code_0 30 rfl rfl) hl (by decide) rfl (fun ls hl => ?_)
  exact b_M_pitchOf_32 X hf hZ2 hS2 (lv_sub hl [0, 1, 2, 3, 4, 5] rfl)

abbrev Q_M_swap_1 (D : va_G) (ca : Nat → ClassId) (ad : Nat → Int → Nat → Nat) (L : List Nat) (r : Int) (F : zF) (B : zB) (A : Nat → Prop) : Array Value → State → Outcome → State → Prop := va_Qv (S := Unit) (fun _ => True) (fun _ => zPo D ca ad lnM nM L F B A) A
def f_M_swap_1 (K : Nat) (l0c : Nat) (l0i : Int) (l0k : Nat) (l1 : Int) (l2 : Int) (F : zF) (B : zB) : zO := if 0 ≤ l0i ∧ l0i < nM l0c then if 0 ≤ l1 ∧ l1 < (lnM l0c l0i l0k : Int) then if zk l0c l0k = (3, 1) then if lnM l0c l0i l0k ≤ 2147483647 then if 0 ≤ l2 ∧ l2 < (lnM l0c l0i l0k : Int) then some (0, F, (zup4 (zup4 B l0c l0i l0k l1 (B l0c l0i l0k l2)) l0c l0i l0k l2 (B l0c l0i l0k l1))) else none else none else none else none else none
set_option maxHeartbeats 4000000 in
set_option maxRecDepth 100000 in
theorem c_M_swap_1 {l : Launch} {D : va_G} {ca : Nat → ClassId} {ad : Nat → Int → Nat → Nat} {L : List Nat} {aS vS : Nat → Nat} {sz K : Nat}  {l0c : Nat} {l0i : Int} {l0k : Nat} {l1 : Int} {l2 : Int} {F F9 : zF} {B B9 : zB} {r : Int} (hf : f_M_swap_1 K l0c l0i l0k l1 l2 F B = some (r, F9, B9)) : Met l ({ cls := "StaveHouseModel", name := "swap", desc := "([JII)V" } : Jvm.MethodName) (Cond.code ({ cls := "StaveHouseModel", name := "swap", desc := "([JII)V" } : Jvm.MethodName) prog_15_method_65_code 5 (Option.none : Option Jvm.ClassFile.FieldType) :: wAll) ({ frames := 0, cells := 0, slots := 0, locals := 0 } : Room) (va_Pc [.ref (ad l0c l0i (l0k + 1)), .int (iI l1), .int (iI l2)] (zPre D ca ad lnM nM L aS vS F B sz)) (Q_M_swap_1 D ca ad L r F9 B9 (zA L sz)) 0 0 (zA L sz) := by
  refine zMet (Qc := Q_M_swap_1 D ca ad L r F9 B9) (lv := [(0, .ref (ad l0c l0i (l0k + 1))), (1, .int (iI l1)), (2, .int (iI l2))]) (by decide) (Nat.le_of_ble_eq_true rfl) rfl (fun A p e s m below meth c ls X hZ hS hl => ?_)
  obtain ⟨hx, hb, hr, hml, hown, hts, hlk, hK, hA, hL, hX⟩ := id X
  replace hf : (if 0 ≤ l0i ∧ l0i < nM l0c then if 0 ≤ l1 ∧ l1 < (lnM l0c l0i l0k : Int) then if zk l0c l0k = (3, 1) then if lnM l0c l0i l0k ≤ 2147483647 then if 0 ≤ l2 ∧ l2 < (lnM l0c l0i l0k : Int) then some (0, F, (zup4 (zup4 B l0c l0i l0k l1 (B l0c l0i l0k l2)) l0c l0i l0k l2 (B l0c l0i l0k l1))) else none else none else none else none else none) = some (r, F9, B9) := hf
  refine lv_aload_n hx hb (D_42 W_prog_15_method_65_code_0 0 rfl rfl) rfl (lv_at hl 0 rfl) ?_
  refine lv_iload_n hx hb (D_27 W_prog_15_method_65_code_0 1 rfl rfl) rfl (lv_at hl 1 rfl) ?_
  obtain ⟨g1, hf⟩ := gif hf
  obtain ⟨g2, hf⟩ := gif hf
  obtain ⟨g3, hf⟩ := gif hf
  obtain ⟨g4, hf⟩ := gif hf
  refine zlald (ci := l0c) (k := l0k) hx hb hK rfl hZ g1.1 g1.2 g3 g4 g2.1 g2.2 (D_47 W_prog_15_method_65_code_0 2 rfl rfl) ?_
  refine lv_lstore_n (lv' := [(3, .long (lI (B l0c l0i l0k l1))), (0, .ref (ad l0c l0i (l0k + 1))), (1, .int (iI l1)), (2, .int (iI l2))]) hx hb (D_66 W_prog_15_method_65_code_0 3 rfl rfl) rfl hl (by decide) rfl (fun ls hl => ?_)
  refine lv_aload_n hx hb (D_42 W_prog_15_method_65_code_0 4 rfl rfl) rfl (lv_at hl 1 rfl) ?_
  refine lv_iload_n hx hb (D_27 W_prog_15_method_65_code_0 5 rfl rfl) rfl (lv_at hl 2 rfl) ?_
  refine lv_aload_n hx hb (D_42 W_prog_15_method_65_code_0 6 rfl rfl) rfl (lv_at hl 1 rfl) ?_
  refine lv_iload_n hx hb (D_28 W_prog_15_method_65_code_0 7 rfl rfl) rfl (lv_at hl 3 rfl) ?_
  obtain ⟨g5, hf⟩ := gif hf
  refine zlald (ci := l0c) (k := l0k) hx hb hK rfl hZ g1.1 g1.2 g3 g4 g5.1 g5.2 (D_47 W_prog_15_method_65_code_0 8 rfl rfl) ?_
  refine zlast (ci := l0c) (k := l0k) hx hb hK rfl hZ hS g1.1 g1.2 g3 g4 g2.1 g2.2 (D_80 W_prog_15_method_65_code_0 9 rfl rfl) (fun H6 locs6 hZ6 hS6 => ?_)
  refine lv_aload_n hx hb (D_42 W_prog_15_method_65_code_0 10 rfl rfl) rfl (lv_at hl 1 rfl) ?_
  refine lv_iload_n hx hb (D_28 W_prog_15_method_65_code_0 11 rfl rfl) rfl (lv_at hl 3 rfl) ?_
  refine lv_lload_n hx hb (D_33 W_prog_15_method_65_code_0 12 rfl rfl) rfl (lv_at hl 0 rfl) ?_
  refine zlast (ci := l0c) (k := l0k) hx hb hK rfl hZ6 hS6 g1.1 g1.2 g3 g4 g5.1 g5.2 (D_80 W_prog_15_method_65_code_0 13 rfl rfl) (fun H7 locs7 hZ7 hS7 => ?_)
  cases hf
  exact W.vret hx hb hr (fun t ht hW => ⟨⟨(), rfl, trivial, by rw [ht]; exact hZ7, va_K.moved hW.alike hK⟩, hS7.F ht⟩) hS7.2.2 (D_177 W_prog_15_method_65_code_0 14 rfl rfl) hlk

abbrev Q_M_swap_0 (D : va_G) (ca : Nat → ClassId) (ad : Nat → Int → Nat → Nat) (L : List Nat) (r : Int) (F : zF) (B : zB) (A : Nat → Prop) : Array Value → State → Outcome → State → Prop := va_Qv (S := Unit) (fun _ => True) (fun _ => zPo D ca ad lnM nM L F B A) A
def f_M_swap_0 (K : Nat) (l0c : Nat) (l0i : Int) (l0k : Nat) (l1 : Int) (l2 : Int) (F : zF) (B : zB) : zO := if 0 ≤ l0i ∧ l0i < nM l0c then if 0 ≤ l1 ∧ l1 < (lnM l0c l0i l0k : Int) then if zk l0c l0k = (3, 0) then if lnM l0c l0i l0k ≤ 2147483647 then if 0 ≤ l2 ∧ l2 < (lnM l0c l0i l0k : Int) then some (0, F, (zup4 (zup4 B l0c l0i l0k l1 (B l0c l0i l0k l2)) l0c l0i l0k l2 (B l0c l0i l0k l1))) else none else none else none else none else none
set_option maxHeartbeats 4000000 in
set_option maxRecDepth 100000 in
theorem c_M_swap_0 {l : Launch} {D : va_G} {ca : Nat → ClassId} {ad : Nat → Int → Nat → Nat} {L : List Nat} {aS vS : Nat → Nat} {sz K : Nat}  {l0c : Nat} {l0i : Int} {l0k : Nat} {l1 : Int} {l2 : Int} {F F9 : zF} {B B9 : zB} {r : Int} (hf : f_M_swap_0 K l0c l0i l0k l1 l2 F B = some (r, F9, B9)) : Met l ({ cls := "StaveHouseModel", name := "swap", desc := "([III)V" } : Jvm.MethodName) (Cond.code ({ cls := "StaveHouseModel", name := "swap", desc := "([III)V" } : Jvm.MethodName) prog_15_method_64_code 4 (Option.none : Option Jvm.ClassFile.FieldType) :: wAll) ({ frames := 0, cells := 0, slots := 0, locals := 0 } : Room) (va_Pc [.ref (ad l0c l0i (l0k + 1)), .int (iI l1), .int (iI l2)] (zPre D ca ad lnM nM L aS vS F B sz)) (Q_M_swap_0 D ca ad L r F9 B9 (zA L sz)) 0 0 (zA L sz) := by
  refine zMet (Qc := Q_M_swap_0 D ca ad L r F9 B9) (lv := [(0, .ref (ad l0c l0i (l0k + 1))), (1, .int (iI l1)), (2, .int (iI l2))]) (by decide) (Nat.le_of_ble_eq_true rfl) rfl (fun A p e s m below meth c ls X hZ hS hl => ?_)
  obtain ⟨hx, hb, hr, hml, hown, hts, hlk, hK, hA, hL, hX⟩ := id X
  replace hf : (if 0 ≤ l0i ∧ l0i < nM l0c then if 0 ≤ l1 ∧ l1 < (lnM l0c l0i l0k : Int) then if zk l0c l0k = (3, 0) then if lnM l0c l0i l0k ≤ 2147483647 then if 0 ≤ l2 ∧ l2 < (lnM l0c l0i l0k : Int) then some (0, F, (zup4 (zup4 B l0c l0i l0k l1 (B l0c l0i l0k l2)) l0c l0i l0k l2 (B l0c l0i l0k l1))) else none else none else none else none else none) = some (r, F9, B9) := hf
  refine lv_aload_n hx hb (D_42 W_prog_15_method_64_code_0 0 rfl rfl) rfl (lv_at hl 0 rfl) ?_
  refine lv_iload_n hx hb (D_27 W_prog_15_method_64_code_0 1 rfl rfl) rfl (lv_at hl 1 rfl) ?_
  obtain ⟨g1, hf⟩ := gif hf
  obtain ⟨g2, hf⟩ := gif hf
  obtain ⟨g3, hf⟩ := gif hf
  obtain ⟨g4, hf⟩ := gif hf
  refine zald (ci := l0c) (k := l0k) hx hb hK rfl hZ g1.1 g1.2 g3 g4 g2.1 g2.2 (D_46 W_prog_15_method_64_code_0 2 rfl rfl) ?_
  refine lv_istore_n (lv' := [(3, .int (iI (B l0c l0i l0k l1))), (0, .ref (ad l0c l0i (l0k + 1))), (1, .int (iI l1)), (2, .int (iI l2))]) hx hb (D_62 W_prog_15_method_64_code_0 3 rfl rfl) rfl hl (by decide) rfl (fun ls hl => ?_)
  refine lv_aload_n hx hb (D_42 W_prog_15_method_64_code_0 4 rfl rfl) rfl (lv_at hl 1 rfl) ?_
  refine lv_iload_n hx hb (D_27 W_prog_15_method_64_code_0 5 rfl rfl) rfl (lv_at hl 2 rfl) ?_
  refine lv_aload_n hx hb (D_42 W_prog_15_method_64_code_0 6 rfl rfl) rfl (lv_at hl 1 rfl) ?_
  refine lv_iload_n hx hb (D_28 W_prog_15_method_64_code_0 7 rfl rfl) rfl (lv_at hl 3 rfl) ?_
  obtain ⟨g5, hf⟩ := gif hf
  refine zald (ci := l0c) (k := l0k) hx hb hK rfl hZ g1.1 g1.2 g3 g4 g5.1 g5.2 (D_46 W_prog_15_method_64_code_0 8 rfl rfl) ?_
  refine zast (ci := l0c) (k := l0k) hx hb hK rfl hZ hS g1.1 g1.2 g3 g4 g2.1 g2.2 (D_79 W_prog_15_method_64_code_0 9 rfl rfl) (fun H6 locs6 hZ6 hS6 => ?_)
  refine lv_aload_n hx hb (D_42 W_prog_15_method_64_code_0 10 rfl rfl) rfl (lv_at hl 1 rfl) ?_
  refine lv_iload_n hx hb (D_28 W_prog_15_method_64_code_0 11 rfl rfl) rfl (lv_at hl 3 rfl) ?_
  refine lv_iload_n hx hb (D_29 W_prog_15_method_64_code_0 12 rfl rfl) rfl (lv_at hl 0 rfl) ?_
  refine zast (ci := l0c) (k := l0k) hx hb hK rfl hZ6 hS6 g1.1 g1.2 g3 g4 g5.1 g5.2 (D_79 W_prog_15_method_64_code_0 13 rfl rfl) (fun H7 locs7 hZ7 hS7 => ?_)
  cases hf
  exact W.vret hx hb hr (fun t ht hW => ⟨⟨(), rfl, trivial, by rw [ht]; exact hZ7, va_K.moved hW.alike hK⟩, hS7.F ht⟩) hS7.2.2 (D_177 W_prog_15_method_64_code_0 14 rfl rfl) hlk

abbrev Q_M_power (D : va_G) (ca : Nat → ClassId) (ad : Nat → Int → Nat → Nat) (L : List Nat) (r : Int) (F : zF) (B : zB) (A : Nat → Prop) : Array Value → State → Outcome → State → Prop := va_Qv (S := Unit) (fun _ => True) (fun _ => zPo D ca ad lnM nM L F B A) A
def f_M_power_12 (rec5 : Int → Int → Int → zF → zB → zO) (K : Nat) : Nat → Int → Int → Int → zF → zB → zO
  | 0, _, _, _, _, _ => none
  | n + 1, l4, l3, l2, F, B => if ¬ iI l4 = 0 then if r32 (zrm l3 l4) then (if (zrm l3 l4) = 0 then if 0 ≤ l4 ∧ l4 < 8 then f_M_power_12 rec5 K n l4 (zdv l3 l4) l2 F (zup4 B 14 0 51 l4 ((B 14 0 51 l4) + l2)) else none else rec5 (l4 + 1) l3 l2 F B) else none else none
set_option maxHeartbeats 4000000 in
set_option maxRecDepth 100000 in
theorem b_M_power_12 {D : va_G} {ca : Nat → ClassId} {ad : Nat → Int → Nat → Nat} {L : List Nat} {aS vS : Nat → Nat} {A : Nat → Prop} {p : Program} {l : Launch} {e : Env} {s : State} {m : MethodId} {args : Array Value} {below : List Frame} {meth : Method} {c : Code} {K : Nat} {r : Int} {F9 : zF} {B9 : zB} (X : zX D ca L aS vS A p s m args meth c prog_15_method_62_code 5 (Option.none : Option Jvm.ClassFile.FieldType) "StaveHouseModel") {rec5 : Int → Int → Int → zF → zB → zO} (hrec5 : ∀ {l4 : Int} {l3 : Int} {l2 : Int} {F : zF} {B : zB} {H : Heap} {locs : List Loc} {ls : Array Slot}, rec5 l4 l3 l2 F B = some (r, F9, B9) → zH D ca ad lnM nM L F B A H → va_S A s.heap H locs → lv_has ls 5 [(4, .int (iI l4)), (3, .int (iI l3)), (0, .ref (ad 14 0 0)), (2, .int (iI l2))] → W p l e ({ frames := 0, cells := 0, slots := 0, locals := 0 } : Room) s m args below meth c H locs 0 0 (MQ below (Q_M_power D ca ad L r F9 B9 A) args s 0 0 A) (F0 m 5 ls [])) : ∀ {n : Nat} {l4 : Int} {l3 : Int} {l2 : Int} {F : zF} {B : zB} {H : Heap} {locs : List Loc} {ls : Array Slot}, f_M_power_12 rec5 K n l4 l3 l2 F B = some (r, F9, B9) → zH D ca ad lnM nM L F B A H → va_S A s.heap H locs → lv_has ls 5 [(4, .int (iI l4)), (3, .int (iI l3)), (0, .ref (ad 14 0 0)), (2, .int (iI l2))] → W p l e ({ frames := 0, cells := 0, slots := 0, locals := 0 } : Room) s m args below meth c H locs 0 0 (MQ below (Q_M_power D ca ad L r F9 B9 A) args s 0 0 A) (F0 m 12 ls []) := by
  obtain ⟨hx, hb, hr, hml, hown, hts, hlk, hK, hA, hL, hX⟩ := id X
  intro n
  induction n with
  | zero =>
    intros
    rename_i hf _ _ _
    cases hf
  | succ n ih =>
    intro l4 l3 l2 F B H locs ls hf hZ hS hl
    replace hf : (if ¬ iI l4 = 0 then if r32 (zrm l3 l4) then (if (zrm l3 l4) = 0 then if 0 ≤ l4 ∧ l4 < 8 then f_M_power_12 rec5 K n l4 (zdv l3 l4) l2 F (zup4 B 14 0 51 l4 ((B 14 0 51 l4) + l2)) else none else rec5 (l4 + 1) l3 l2 F B) else none else none) = some (r, F9, B9) := hf
    refine lv_iload_n hx hb (D_29 W_prog_15_method_62_code_0 12 rfl rfl) rfl (lv_at hl 1 rfl) ?_
    refine lv_iload hx hb (D_21 W_prog_15_method_62_code_0 13 rfl rfl) (lv_at hl 0 rfl) ?_
    obtain ⟨g3, hf⟩ := gif hf
    refine zrm_r hx hb g3 (D_112 W_prog_15_method_62_code_0 15 rfl rfl) ?_
    obtain ⟨g4, hf⟩ := gif hf
    refine z0ne (tgt := 38) hx hb g4 (D_154 W_prog_15_method_62_code_0 16 rfl rfl rfl) (by decide) (fun h5 => ?_) (fun h5 => ?_)
    · replace hf := gneg hf h5
      refine lv_iinc (v := iI (l4 + 1)) (lv' := [(4, .int (iI (l4 + 1))), (3, .int (iI l3)), (0, .ref (ad 14 0 0)), (2, .int (iI l2))]) hx hb d_15_62_38 hl (k := 0) rfl (iI_add _ 1) (by decide) rfl (fun ls hl => ?_)
      refine lv_goto (tgt := 5) hx hb (D_167 W_prog_15_method_62_code_32 9 rfl rfl rfl) (by decide) ?_
      exact hrec5 hf hZ hS (lv_sub hl [0, 1, 2, 3] rfl)
    · replace hf := gpos hf h5
      refine lv_aload_n hx hb (D_42 W_prog_15_method_62_code_0 19 rfl rfl) rfl (lv_at hl 2 rfl) ?_
      refine zget (ci := 14) (C := RX14) (T := TX14) (v := .ref (ad 14 0 (51 + 1))) (k := 51) hx hb hts inW_14 hown hK hZ (by decide) (by decide) rfl (by decide) k_11_49 rfl (D_180 W_prog_15_method_62_code_0 20 rfl rfl rfl) ?_
      refine lv_iload hx hb (D_21 W_prog_15_method_62_code_0 23 rfl rfl) (lv_at hl 0 rfl) ?_
      refine lv_dup2_11 hx hb (D_92 W_prog_15_method_62_code_0 25 rfl rfl) rfl rfl ?_
      obtain ⟨g6, hf⟩ := gif hf
      refine zald (ci := 14) (k := 51) hx hb hK rfl hZ (by decide) (by decide) rfl (Nat.le_of_ble_eq_true rfl) g6.1 g6.2 (D_46 W_prog_15_method_62_code_0 26 rfl rfl) ?_
      refine lv_iload_n hx hb (D_28 W_prog_15_method_62_code_0 27 rfl rfl) rfl (lv_at hl 3 rfl) ?_
      refine zadd hx hb (D_96 W_prog_15_method_62_code_0 28 rfl rfl) ?_
      refine zast (ci := 14) (k := 51) hx hb hK rfl hZ hS (by decide) (by decide) rfl (Nat.le_of_ble_eq_true rfl) g6.1 g6.2 (D_79 W_prog_15_method_62_code_0 29 rfl rfl) (fun H7 locs7 hZ7 hS7 => ?_)
      refine lv_iload_n hx hb (D_29 W_prog_15_method_62_code_0 30 rfl rfl) rfl (lv_at hl 1 rfl) ?_
      refine lv_iload hx hb (D_21 W_prog_15_method_62_code_0 31 rfl rfl) (lv_at hl 0 rfl) ?_
      refine zdv_r hx hb g3 (D_108 W_prog_15_method_62_code_32 1 rfl rfl) ?_
      refine lv_istore_n (lv' := [(3, .int (iI (zdv l3 l4))), (4, .int (iI l4)), (0, .ref (ad 14 0 0)), (2, .int (iI l2))]) hx hb (D_62 W_prog_15_method_62_code_32 2 rfl rfl) rfl hl (by decide) rfl (fun ls hl => ?_)
      refine lv_goto (tgt := 12) hx hb (D_167 W_prog_15_method_62_code_32 3 rfl rfl rfl) (by decide) ?_
      exact ih hf hZ7 hS7 (lv_sub hl [1, 0, 2, 3] rfl)

def f_M_power_5 (K : Nat) : Nat → Int → Int → Int → zF → zB → zO
  | 0, _, _, _, _, _ => none
  | n + 1, l4, l3, l2, F, B => if r32 l4 then (if 8 ≤ l4 then some (0, F, B) else f_M_power_12 (f_M_power_5 K n) K K l4 l3 l2 F B) else none
set_option maxHeartbeats 4000000 in
set_option maxRecDepth 100000 in
theorem b_M_power_5 {D : va_G} {ca : Nat → ClassId} {ad : Nat → Int → Nat → Nat} {L : List Nat} {aS vS : Nat → Nat} {A : Nat → Prop} {p : Program} {l : Launch} {e : Env} {s : State} {m : MethodId} {args : Array Value} {below : List Frame} {meth : Method} {c : Code} {K : Nat} {r : Int} {F9 : zF} {B9 : zB} (X : zX D ca L aS vS A p s m args meth c prog_15_method_62_code 5 (Option.none : Option Jvm.ClassFile.FieldType) "StaveHouseModel") : ∀ {n : Nat} {l4 : Int} {l3 : Int} {l2 : Int} {F : zF} {B : zB} {H : Heap} {locs : List Loc} {ls : Array Slot}, f_M_power_5 K n l4 l3 l2 F B = some (r, F9, B9) → zH D ca ad lnM nM L F B A H → va_S A s.heap H locs → lv_has ls 5 [(4, .int (iI l4)), (3, .int (iI l3)), (0, .ref (ad 14 0 0)), (2, .int (iI l2))] → W p l e ({ frames := 0, cells := 0, slots := 0, locals := 0 } : Room) s m args below meth c H locs 0 0 (MQ below (Q_M_power D ca ad L r F9 B9 A) args s 0 0 A) (F0 m 5 ls []) := by
  obtain ⟨hx, hb, hr, hml, hown, hts, hlk, hK, hA, hL, hX⟩ := id X
  intro n
  induction n with
  | zero =>
    intros
    rename_i hf _ _ _
    cases hf
  | succ n ih =>
    intro l4 l3 l2 F B H locs ls hf hZ hS hl
    replace hf : (if r32 l4 then (if 8 ≤ l4 then some (0, F, B) else f_M_power_12 (f_M_power_5 K n) K K l4 l3 l2 F B) else none) = some (r, F9, B9) := hf
    refine lv_iload hx hb (D_21 W_prog_15_method_62_code_0 5 rfl rfl) (lv_at hl 0 rfl) ?_
    refine lv_bipush (v := iI 8) hx hb (D_16 W_prog_15_method_62_code_0 7 rfl rfl rfl) (by decide) ?_
    obtain ⟨g1, hf⟩ := gif hf
    refine zge (tgt := 44) hx hb g1 (by decide) (D_162 W_prog_15_method_62_code_0 9 rfl rfl rfl) (by decide) (fun h2 => ?_) (fun h2 => ?_)
    · replace hf := gpos hf h2
      cases hf
      exact W.vret hx hb hr (fun t ht hW => ⟨⟨(), rfl, trivial, by rw [ht]; exact hZ, va_K.moved hW.alike hK⟩, hS.F ht⟩) hS.2.2 (D_177 W_prog_15_method_62_code_32 12 rfl rfl) hlk
    · replace hf := gneg hf h2
      exact b_M_power_12 X ih hf hZ hS (lv_sub hl [0, 1, 2, 3] rfl)

def f_M_power (K : Nat) (l1 : Int) (l2 : Int) (F : zF) (B : zB) : zO := f_M_power_5 K K 2 l1 l2 F B
set_option maxHeartbeats 4000000 in
set_option maxRecDepth 100000 in
theorem c_M_power {l : Launch} {D : va_G} {ca : Nat → ClassId} {ad : Nat → Int → Nat → Nat} {L : List Nat} {aS vS : Nat → Nat} {sz K : Nat}  {l1 : Int} {l2 : Int} {F F9 : zF} {B B9 : zB} {r : Int} (hf : f_M_power K l1 l2 F B = some (r, F9, B9)) : Met l ({ cls := "StaveHouseModel", name := "power", desc := "(II)V" } : Jvm.MethodName) (Cond.code ({ cls := "StaveHouseModel", name := "power", desc := "(II)V" } : Jvm.MethodName) prog_15_method_62_code 5 (Option.none : Option Jvm.ClassFile.FieldType) :: wAll) ({ frames := 0, cells := 0, slots := 0, locals := 0 } : Room) (va_Pc [.ref (ad 14 0 0), .int (iI l1), .int (iI l2)] (zPre D ca ad lnM nM L aS vS F B sz)) (Q_M_power D ca ad L r F9 B9 (zA L sz)) 0 0 (zA L sz) := by
  refine zMet (Qc := Q_M_power D ca ad L r F9 B9) (lv := [(0, .ref (ad 14 0 0)), (1, .int (iI l1)), (2, .int (iI l2))]) (by decide) (Nat.le_of_ble_eq_true rfl) rfl (fun A p e s m below meth c ls X hZ hS hl => ?_)
  obtain ⟨hx, hb, hr, hml, hown, hts, hlk, hK, hA, hL, hX⟩ := id X
  replace hf : (f_M_power_5 K K 2 l1 l2 F B) = some (r, F9, B9) := hf
  refine lv_iload_n hx hb (D_27 W_prog_15_method_62_code_0 0 rfl rfl) rfl (lv_at hl 1 rfl) ?_
  refine lv_istore_n (lv' := [(3, .int (iI l1)), (0, .ref (ad 14 0 0)), (1, .int (iI l1)), (2, .int (iI l2))]) hx hb (D_62 W_prog_15_method_62_code_0 1 rfl rfl) rfl hl (by decide) rfl (fun ls hl => ?_)
  refine lv_iconst (v := iI 2) hx hb (D_5 W_prog_15_method_62_code_0 2 rfl rfl) rfl ?_
  refine lv_istore (lv' := [(4, .int (iI 2)), (3, .int (iI l1)), (0, .ref (ad 14 0 0)), (1, .int (iI l1)), (2, .int (iI l2))]) hx hb (D_54 W_prog_15_method_62_code_0 3 rfl rfl) hl (by decide) rfl (fun ls hl => ?_)
  exact b_M_power_5 X hf hZ hS (lv_sub hl [0, 1, 2, 4] rfl)

abbrev Q_M_lastOuter (D : va_G) (ca : Nat → ClassId) (ad : Nat → Int → Nat → Nat) (L : List Nat) (r : Int) (F : zF) (B : zB) (A : Nat → Prop) : Array Value → State → Outcome → State → Prop := va_Qi (S := Unit) (fun p _ => p = iI r) (fun _ => zPo D ca ad lnM nM L F B A) A
def f_M_lastOuter_32 (K : Nat) (l3 : Int) (F : zF) (B : zB) : zO := some (l3, F, B)
set_option maxHeartbeats 4000000 in
set_option maxRecDepth 100000 in
theorem b_M_lastOuter_32 {D : va_G} {ca : Nat → ClassId} {ad : Nat → Int → Nat → Nat} {L : List Nat} {aS vS : Nat → Nat} {A : Nat → Prop} {p : Program} {l : Launch} {e : Env} {s : State} {m : MethodId} {args : Array Value} {below : List Frame} {meth : Method} {c : Code} {K : Nat} {r : Int} {F9 : zF} {B9 : zB} (X : zX D ca L aS vS A p s m args meth c prog_15_method_74_code 4 (Option.some Jvm.ClassFile.FieldType.int) "StaveHouseModel") {l3 : Int} {F : zF} {B : zB} {H : Heap} {locs : List Loc} {ls : Array Slot} (hf : f_M_lastOuter_32 K l3 F B = some (r, F9, B9)) (hZ : zH D ca ad lnM nM L F B A H) (hS : va_S A s.heap H locs) (hl : lv_has ls 4 [(3, .int (iI l3))]) : W p l e ({ frames := 0, cells := 0, slots := 0, locals := 0 } : Room) s m args below meth c H locs 0 0 (MQ below (Q_M_lastOuter D ca ad L r F9 B9 A) args s 0 0 A) (F0 m 32 ls []) := by
  obtain ⟨hx, hb, hr, hml, hown, hts, hlk, hK, hA, hL, hX⟩ := id X
  replace hf : (some (l3, F, B)) = some (r, F9, B9) := hf
  refine lv_iload_n hx hb (D_29 W_prog_15_method_74_code_32 0 rfl rfl) rfl (lv_at hl 0 rfl) ?_
  cases hf
  exact W.iret hx hb hr (fun t ht hW => ⟨⟨_, (), rfl, rfl, by rw [ht]; exact hZ, va_K.moved hW.alike hK⟩, hS.F ht⟩) hS.2.2 (D_172 W_prog_15_method_74_code_32 1 rfl rfl) hlk

def f_M_lastOuter_2 (K : Nat) : Nat → Int → Int → Int → Int → zF → zB → zO
  | 0, _, _, _, _, _, _ => none
  | n + 1, l3, l0, l1, l2, F, B => if r32 (l3 + 1) then if r32 l2 then (if l2 ≤ (l3 + 1) then f_M_lastOuter_32 K l3 F B else if 0 ≤ l0 ∧ l0 < 3 then if 0 ≤ (l3 + 1) ∧ (l3 + 1) < 4000 then if 0 ≤ l1 ∧ l1 < 4000 then if r32 (B 13 l0 25 (l3 + 1)) then if r32 (B 13 l0 25 l1) then (if (B 13 l0 25 (l3 + 1)) = (B 13 l0 25 l1) then f_M_lastOuter_2 K n (l3 + 1) l0 l1 l2 F B else f_M_lastOuter_32 K l3 F B) else none else none else none else none else none) else none else none
set_option maxHeartbeats 4000000 in
set_option maxRecDepth 100000 in
theorem b_M_lastOuter_2 {D : va_G} {ca : Nat → ClassId} {ad : Nat → Int → Nat → Nat} {L : List Nat} {aS vS : Nat → Nat} {A : Nat → Prop} {p : Program} {l : Launch} {e : Env} {s : State} {m : MethodId} {args : Array Value} {below : List Frame} {meth : Method} {c : Code} {K : Nat} {r : Int} {F9 : zF} {B9 : zB} (X : zX D ca L aS vS A p s m args meth c prog_15_method_74_code 4 (Option.some Jvm.ClassFile.FieldType.int) "StaveHouseModel") : ∀ {n : Nat} {l3 : Int} {l0 : Int} {l1 : Int} {l2 : Int} {F : zF} {B : zB} {H : Heap} {locs : List Loc} {ls : Array Slot}, f_M_lastOuter_2 K n l3 l0 l1 l2 F B = some (r, F9, B9) → zH D ca ad lnM nM L F B A H → va_S A s.heap H locs → lv_has ls 4 [(3, .int (iI l3)), (0, .ref (ad 13 l0 0)), (1, .int (iI l1)), (2, .int (iI l2))] → W p l e ({ frames := 0, cells := 0, slots := 0, locals := 0 } : Room) s m args below meth c H locs 0 0 (MQ below (Q_M_lastOuter D ca ad L r F9 B9 A) args s 0 0 A) (F0 m 2 ls []) := by
  obtain ⟨hx, hb, hr, hml, hown, hts, hlk, hK, hA, hL, hX⟩ := id X
  intro n
  induction n with
  | zero =>
    intros
    rename_i hf _ _ _
    cases hf
  | succ n ih =>
    intro l3 l0 l1 l2 F B H locs ls hf hZ hS hl
    replace hf : (if r32 (l3 + 1) then if r32 l2 then (if l2 ≤ (l3 + 1) then f_M_lastOuter_32 K l3 F B else if 0 ≤ l0 ∧ l0 < 3 then if 0 ≤ (l3 + 1) ∧ (l3 + 1) < 4000 then if 0 ≤ l1 ∧ l1 < 4000 then if r32 (B 13 l0 25 (l3 + 1)) then if r32 (B 13 l0 25 l1) then (if (B 13 l0 25 (l3 + 1)) = (B 13 l0 25 l1) then f_M_lastOuter_2 K n (l3 + 1) l0 l1 l2 F B else f_M_lastOuter_32 K l3 F B) else none else none else none else none else none) else none else none) = some (r, F9, B9) := hf
    refine lv_iload_n hx hb (D_29 W_prog_15_method_74_code_0 2 rfl rfl) rfl (lv_at hl 0 rfl) ?_
    refine lv_iconst (v := iI 1) hx hb (D_4 W_prog_15_method_74_code_0 3 rfl rfl) rfl ?_
    refine zadd hx hb (D_96 W_prog_15_method_74_code_0 4 rfl rfl) ?_
    refine lv_iload_n hx hb (D_28 W_prog_15_method_74_code_0 5 rfl rfl) rfl (lv_at hl 3 rfl) ?_
    obtain ⟨g1, hf⟩ := gif hf
    obtain ⟨g2, hf⟩ := gif hf
    refine zge (tgt := 32) hx hb g1 g2 (D_162 W_prog_15_method_74_code_0 6 rfl rfl rfl) (by decide) (fun h3 => ?_) (fun h3 => ?_)
    · replace hf := gpos hf h3
      exact b_M_lastOuter_32 X hf hZ hS (lv_sub hl [0] rfl)
    · replace hf := gneg hf h3
      refine lv_aload_n hx hb (D_42 W_prog_15_method_74_code_0 9 rfl rfl) rfl (lv_at hl 1 rfl) ?_
      obtain ⟨g4, hf⟩ := gif hf
      refine zget (ci := 13) (C := RX13) (T := TX13) (v := .ref (ad 13 l0 (25 + 1))) (k := 25) hx hb hts inW_13 hown hK hZ g4.1 g4.2 rfl (by decide) k_9_168 rfl (D_180 W_prog_15_method_74_code_0 10 rfl rfl rfl) ?_
      refine lv_iload_n hx hb (D_29 W_prog_15_method_74_code_0 13 rfl rfl) rfl (lv_at hl 0 rfl) ?_
      refine lv_iconst (v := iI 1) hx hb (D_4 W_prog_15_method_74_code_0 14 rfl rfl) rfl ?_
      refine zadd hx hb (D_96 W_prog_15_method_74_code_0 15 rfl rfl) ?_
      obtain ⟨g5, hf⟩ := gif hf
      refine zald (ci := 13) (k := 25) hx hb hK rfl hZ g4.1 g4.2 rfl (Nat.le_of_ble_eq_true rfl) g5.1 g5.2 (D_46 W_prog_15_method_74_code_0 16 rfl rfl) ?_
      refine lv_aload_n hx hb (D_42 W_prog_15_method_74_code_0 17 rfl rfl) rfl (lv_at hl 1 rfl) ?_
      refine zget (ci := 13) (C := RX13) (T := TX13) (v := .ref (ad 13 l0 (25 + 1))) (k := 25) hx hb hts inW_13 hown hK hZ g4.1 g4.2 rfl (by decide) k_9_168 rfl (D_180 W_prog_15_method_74_code_0 18 rfl rfl rfl) ?_
      refine lv_iload_n hx hb (D_27 W_prog_15_method_74_code_0 21 rfl rfl) rfl (lv_at hl 2 rfl) ?_
      obtain ⟨g6, hf⟩ := gif hf
      refine zald (ci := 13) (k := 25) hx hb hK rfl hZ g4.1 g4.2 rfl (Nat.le_of_ble_eq_true rfl) g6.1 g6.2 (D_46 W_prog_15_method_74_code_0 22 rfl rfl) ?_
      obtain ⟨g7, hf⟩ := gif hf
      obtain ⟨g8, hf⟩ := gif hf
      refine zne (tgt := 32) hx hb g7 g8 (D_160 W_prog_15_method_74_code_0 23 rfl rfl rfl) (by decide) (fun h9 => ?_) (fun h9 => ?_)
      · replace hf := gneg hf h9
        exact b_M_lastOuter_32 X hf hZ hS (lv_sub hl [0] rfl)
      · replace hf := gpos hf h9
        refine lv_iinc (v := iI (l3 + 1)) (lv' := [(3, .int (iI (l3 + 1))), (0, .ref (ad 13 l0 0)), (1, .int (iI l1)), (2, .int (iI l2))]) hx hb d_15_74_26 hl (k := 0) rfl (iI_add _ 1) (by decide) rfl (fun ls hl => ?_)
        refine lv_goto (tgt := 2) hx hb (D_167 W_prog_15_method_74_code_0 29 rfl rfl rfl) (by decide) ?_
        exact ih hf hZ hS (lv_sub hl [0, 1, 2, 3] rfl)

def f_M_lastOuter (K : Nat) (l0 : Int) (l1 : Int) (l2 : Int) (F : zF) (B : zB) : zO := f_M_lastOuter_2 K K l1 l0 l1 l2 F B
set_option maxHeartbeats 4000000 in
set_option maxRecDepth 100000 in
theorem c_M_lastOuter {l : Launch} {D : va_G} {ca : Nat → ClassId} {ad : Nat → Int → Nat → Nat} {L : List Nat} {aS vS : Nat → Nat} {sz K : Nat}  {l0 : Int} {l1 : Int} {l2 : Int} {F F9 : zF} {B B9 : zB} {r : Int} (hf : f_M_lastOuter K l0 l1 l2 F B = some (r, F9, B9)) : Met l ({ cls := "StaveHouseModel", name := "lastOuter", desc := "(LStaveHouseModel$Piece;II)I" } : Jvm.MethodName) (Cond.code ({ cls := "StaveHouseModel", name := "lastOuter", desc := "(LStaveHouseModel$Piece;II)I" } : Jvm.MethodName) prog_15_method_74_code 4 (Option.some Jvm.ClassFile.FieldType.int) :: wAll) ({ frames := 0, cells := 0, slots := 0, locals := 0 } : Room) (va_Pc [.ref (ad 13 l0 0), .int (iI l1), .int (iI l2)] (zPre D ca ad lnM nM L aS vS F B sz)) (Q_M_lastOuter D ca ad L r F9 B9 (zA L sz)) 0 0 (zA L sz) := by
  refine zMet (Qc := Q_M_lastOuter D ca ad L r F9 B9) (lv := [(0, .ref (ad 13 l0 0)), (1, .int (iI l1)), (2, .int (iI l2))]) (by decide) (Nat.le_of_ble_eq_true rfl) rfl (fun A p e s m below meth c ls X hZ hS hl => ?_)
  obtain ⟨hx, hb, hr, hml, hown, hts, hlk, hK, hA, hL, hX⟩ := id X
  replace hf : (f_M_lastOuter_2 K K l1 l0 l1 l2 F B) = some (r, F9, B9) := hf
  refine lv_iload_n hx hb (D_27 W_prog_15_method_74_code_0 0 rfl rfl) rfl (lv_at hl 1 rfl) ?_
  refine lv_istore_n (lv' := [(3, .int (iI l1)), (0, .ref (ad 13 l0 0)), (1, .int (iI l1)), (2, .int (iI l2))]) hx hb (D_62 W_prog_15_method_74_code_0 1 rfl rfl) rfl hl (by decide) rfl (fun ls hl => ?_)
  exact b_M_lastOuter_2 X hf hZ hS (lv_sub hl [0, 1, 2, 3] rfl)

abbrev Q_M_share (D : va_G) (ca : Nat → ClassId) (ad : Nat → Int → Nat → Nat) (L : List Nat) (r : Int) (F : zF) (B : zB) (A : Nat → Prop) : Array Value → State → Outcome → State → Prop := va_Qi (S := Unit) (fun p _ => p = iI r) (fun _ => zPo D ca ad lnM nM L F B A) A
def f_M_share_57 (rec5 : Int → Int → Int → Int → Int → zF → zB → zO) (K : Nat) (l4 : Int) (l0 : Int) (l1 : Int) (l2 : Int) (s0 : Int) (F : zF) (B : zB) : zO := rec5 (l4 + 1) s0 l0 l1 l2 F B
set_option maxHeartbeats 4000000 in
set_option maxRecDepth 100000 in
theorem b_M_share_57 {D : va_G} {ca : Nat → ClassId} {ad : Nat → Int → Nat → Nat} {L : List Nat} {aS vS : Nat → Nat} {A : Nat → Prop} {p : Program} {l : Launch} {e : Env} {s : State} {m : MethodId} {args : Array Value} {below : List Frame} {meth : Method} {c : Code} {K : Nat} {r : Int} {F9 : zF} {B9 : zB} (X : zX D ca L aS vS A p s m args meth c prog_15_method_72_code 5 (Option.some Jvm.ClassFile.FieldType.boolean) "StaveHouseModel") {rec5 : Int → Int → Int → Int → Int → zF → zB → zO} (hrec5 : ∀ {l4 : Int} {l3 : Int} {l0 : Int} {l1 : Int} {l2 : Int} {F : zF} {B : zB} {H : Heap} {locs : List Loc} {ls : Array Slot}, rec5 l4 l3 l0 l1 l2 F B = some (r, F9, B9) → zH D ca ad lnM nM L F B A H → va_S A s.heap H locs → lv_has ls 5 [(4, .int (iI l4)), (3, .int (iI l3)), (0, .ref (ad 13 l0 0)), (1, .int (iI l1)), (2, .int (iI l2))] → W p l e ({ frames := 1, cells := 0, slots := 0, locals := 24 } : Room) s m args below meth c H locs 0 0 (MQ below (Q_M_share D ca ad L r F9 B9 A) args s 0 0 A) (F0 m 5 ls [])) {l4 : Int} {l0 : Int} {l1 : Int} {l2 : Int} {s0 : Int} {F : zF} {B : zB} {H : Heap} {locs : List Loc} {ls : Array Slot} (hf : f_M_share_57 rec5 K l4 l0 l1 l2 s0 F B = some (r, F9, B9)) (hZ : zH D ca ad lnM nM L F B A H) (hS : va_S A s.heap H locs) (hl : lv_has ls 5 [(4, .int (iI l4)), (0, .ref (ad 13 l0 0)), (1, .int (iI l1)), (2, .int (iI l2))]) : W p l e ({ frames := 1, cells := 0, slots := 0, locals := 24 } : Room) s m args below meth c H locs 0 0 (MQ below (Q_M_share D ca ad L r F9 B9 A) args s 0 0 A) (F0 m 57 ls [.int (iI s0)]) := by
  obtain ⟨hx, hb, hr, hml, hown, hts, hlk, hK, hA, hL, hX⟩ := id X
  replace hf : (rec5 (l4 + 1) s0 l0 l1 l2 F B) = some (r, F9, B9) := hf
  refine lv_istore_n (lv' := [(3, .int (iI s0)), (4, .int (iI l4)), (0, .ref (ad 13 l0 0)), (1, .int (iI l1)), (2, .int (iI l2))]) hx hb (D_62 W_prog_15_method_72_code_32 25 rfl rfl) rfl hl (by decide) rfl (fun ls hl => ?_)
  refine lv_iinc (v := iI (l4 + 1)) (lv' := [(4, .int (iI (l4 + 1))), (3, .int (iI s0)), (0, .ref (ad 13 l0 0)), (1, .int (iI l1)), (2, .int (iI l2))]) hx hb d_15_72_58 hl (k := 1) rfl (iI_add _ 1) (by decide) rfl (fun ls hl => ?_)
  refine lv_goto (tgt := 5) hx hb (D_167 W_prog_15_method_72_code_32 29 rfl rfl rfl) (by decide) ?_
  exact hrec5 hf hZ hS (lv_sub hl [0, 1, 2, 3, 4] rfl)

def f_M_share_52 (rec5 : Int → Int → Int → Int → Int → zF → zB → zO) (K : Nat) (l4 : Int) (l0 : Int) (l1 : Int) (l2 : Int) (F : zF) (B : zB) : zO := f_M_share_57 rec5 K l4 l0 l1 l2 1 F B
set_option maxHeartbeats 4000000 in
set_option maxRecDepth 100000 in
theorem b_M_share_52 {D : va_G} {ca : Nat → ClassId} {ad : Nat → Int → Nat → Nat} {L : List Nat} {aS vS : Nat → Nat} {A : Nat → Prop} {p : Program} {l : Launch} {e : Env} {s : State} {m : MethodId} {args : Array Value} {below : List Frame} {meth : Method} {c : Code} {K : Nat} {r : Int} {F9 : zF} {B9 : zB} (X : zX D ca L aS vS A p s m args meth c prog_15_method_72_code 5 (Option.some Jvm.ClassFile.FieldType.boolean) "StaveHouseModel") {rec5 : Int → Int → Int → Int → Int → zF → zB → zO} (hrec5 : ∀ {l4 : Int} {l3 : Int} {l0 : Int} {l1 : Int} {l2 : Int} {F : zF} {B : zB} {H : Heap} {locs : List Loc} {ls : Array Slot}, rec5 l4 l3 l0 l1 l2 F B = some (r, F9, B9) → zH D ca ad lnM nM L F B A H → va_S A s.heap H locs → lv_has ls 5 [(4, .int (iI l4)), (3, .int (iI l3)), (0, .ref (ad 13 l0 0)), (1, .int (iI l1)), (2, .int (iI l2))] → W p l e ({ frames := 1, cells := 0, slots := 0, locals := 24 } : Room) s m args below meth c H locs 0 0 (MQ below (Q_M_share D ca ad L r F9 B9 A) args s 0 0 A) (F0 m 5 ls [])) {l4 : Int} {l0 : Int} {l1 : Int} {l2 : Int} {F : zF} {B : zB} {H : Heap} {locs : List Loc} {ls : Array Slot} (hf : f_M_share_52 rec5 K l4 l0 l1 l2 F B = some (r, F9, B9)) (hZ : zH D ca ad lnM nM L F B A H) (hS : va_S A s.heap H locs) (hl : lv_has ls 5 [(4, .int (iI l4)), (0, .ref (ad 13 l0 0)), (1, .int (iI l1)), (2, .int (iI l2))]) : W p l e ({ frames := 1, cells := 0, slots := 0, locals := 24 } : Room) s m args below meth c H locs 0 0 (MQ below (Q_M_share D ca ad L r F9 B9 A) args s 0 0 A) (F0 m 52 ls []) := by
  obtain ⟨hx, hb, hr, hml, hown, hts, hlk, hK, hA, hL, hX⟩ := id X
  replace hf : (f_M_share_57 rec5 K l4 l0 l1 l2 1 F B) = some (r, F9, B9) := hf
  refine lv_iconst (v := iI 1) hx hb (D_4 W_prog_15_method_72_code_32 20 rfl rfl) rfl ?_
  refine lv_goto (tgt := 57) hx hb (D_167 W_prog_15_method_72_code_32 21 rfl rfl rfl) (by decide) ?_
  exact b_M_share_57 X hrec5 hf hZ hS (lv_sub hl [0, 1, 2, 3] rfl)

def f_M_share_5 (K : Nat) : Nat → Int → Int → Int → Int → Int → zF → zB → zO
  | 0, _, _, _, _, _, _, _ => none
  | n + 1, l4, l3, l0, l1, l2, F, B => if 0 ≤ l0 ∧ l0 < 3 then if 0 ≤ l1 ∧ l1 < 4000 then if r32 l4 then if r32 (B 13 l0 21 l1) then (if (B 13 l0 21 l1) ≤ l4 then if (l3 = 0 ∨ l3 = 1) then some (l3, F, B) else none else if r32 l3 then (if l3 = 0 then if 0 ≤ ((6 * l1) + l4) ∧ ((6 * l1) + l4) < 24000 then zbind (f_M_has K l0 l2 (B 13 l0 28 ((6 * l1) + l4)) (B 13 l0 29 ((6 * l1) + l4)) F B) (fun r10 F10 B10 => if r32 r10 then (if r10 < 0 then f_M_share_57 (f_M_share_5 K n) K l4 l0 l1 l2 0 F10 B10 else f_M_share_52 (f_M_share_5 K n) K l4 l0 l1 l2 F10 B10) else none) else none else f_M_share_52 (f_M_share_5 K n) K l4 l0 l1 l2 F B) else none) else none else none else none else none
set_option maxHeartbeats 4000000 in
set_option maxRecDepth 100000 in
theorem b_M_share_5 {D : va_G} {ca : Nat → ClassId} {ad : Nat → Int → Nat → Nat} {L : List Nat} {aS vS : Nat → Nat} {A : Nat → Prop} {p : Program} {l : Launch} {e : Env} {s : State} {m : MethodId} {args : Array Value} {below : List Frame} {meth : Method} {c : Code} {K : Nat} {r : Int} {F9 : zF} {B9 : zB} (X : zX D ca L aS vS A p s m args meth c prog_15_method_72_code 5 (Option.some Jvm.ClassFile.FieldType.boolean) "StaveHouseModel") : ∀ {n : Nat} {l4 : Int} {l3 : Int} {l0 : Int} {l1 : Int} {l2 : Int} {F : zF} {B : zB} {H : Heap} {locs : List Loc} {ls : Array Slot}, f_M_share_5 K n l4 l3 l0 l1 l2 F B = some (r, F9, B9) → zH D ca ad lnM nM L F B A H → va_S A s.heap H locs → lv_has ls 5 [(4, .int (iI l4)), (3, .int (iI l3)), (0, .ref (ad 13 l0 0)), (1, .int (iI l1)), (2, .int (iI l2))] → W p l e ({ frames := 1, cells := 0, slots := 0, locals := 24 } : Room) s m args below meth c H locs 0 0 (MQ below (Q_M_share D ca ad L r F9 B9 A) args s 0 0 A) (F0 m 5 ls []) := by
  obtain ⟨hx, hb, hr, hml, hown, hts, hlk, hK, hA, hL, hX⟩ := id X
  intro n
  induction n with
  | zero =>
    intros
    rename_i hf _ _ _
    cases hf
  | succ n ih =>
    intro l4 l3 l0 l1 l2 F B H locs ls hf hZ hS hl
    replace hf : (if 0 ≤ l0 ∧ l0 < 3 then if 0 ≤ l1 ∧ l1 < 4000 then if r32 l4 then if r32 (B 13 l0 21 l1) then (if (B 13 l0 21 l1) ≤ l4 then if (l3 = 0 ∨ l3 = 1) then some (l3, F, B) else none else if r32 l3 then (if l3 = 0 then if 0 ≤ ((6 * l1) + l4) ∧ ((6 * l1) + l4) < 24000 then zbind (f_M_has K l0 l2 (B 13 l0 28 ((6 * l1) + l4)) (B 13 l0 29 ((6 * l1) + l4)) F B) (fun r10 F10 B10 => if r32 r10 then (if r10 < 0 then f_M_share_57 (f_M_share_5 K n) K l4 l0 l1 l2 0 F10 B10 else f_M_share_52 (f_M_share_5 K n) K l4 l0 l1 l2 F10 B10) else none) else none else f_M_share_52 (f_M_share_5 K n) K l4 l0 l1 l2 F B) else none) else none else none else none else none) = some (r, F9, B9) := hf
    refine lv_iload hx hb (D_21 W_prog_15_method_72_code_0 5 rfl rfl) (lv_at hl 0 rfl) ?_
    refine lv_aload_n hx hb (D_42 W_prog_15_method_72_code_0 7 rfl rfl) rfl (lv_at hl 2 rfl) ?_
    obtain ⟨g1, hf⟩ := gif hf
    refine zget (ci := 13) (C := RX13) (T := TX13) (v := .ref (ad 13 l0 (21 + 1))) (k := 21) hx hb hts inW_13 hown hK hZ g1.1 g1.2 rfl (by decide) k_9_160 rfl (D_180 W_prog_15_method_72_code_0 8 rfl rfl rfl) ?_
    refine lv_iload_n hx hb (D_27 W_prog_15_method_72_code_0 11 rfl rfl) rfl (lv_at hl 3 rfl) ?_
    obtain ⟨g2, hf⟩ := gif hf
    refine zald (ci := 13) (k := 21) hx hb hK rfl hZ g1.1 g1.2 rfl (Nat.le_of_ble_eq_true rfl) g2.1 g2.2 (D_46 W_prog_15_method_72_code_0 12 rfl rfl) ?_
    obtain ⟨g3, hf⟩ := gif hf
    obtain ⟨g4, hf⟩ := gif hf
    refine zge (tgt := 64) hx hb g3 g4 (D_162 W_prog_15_method_72_code_0 13 rfl rfl rfl) (by decide) (fun h5 => ?_) (fun h5 => ?_)
    · replace hf := gpos hf h5
      refine lv_iload_n hx hb (D_29 W_prog_15_method_72_code_64 0 rfl rfl) rfl (lv_at hl 1 rfl) ?_
      obtain ⟨g6, hf⟩ := gif hf
      cases hf
      exact W.zret hx hb hr (zbool g6) (fun t ht hW => ⟨⟨_, (), rfl, rfl, by rw [ht]; exact hZ, va_K.moved hW.alike hK⟩, hS.F ht⟩) hS.2.2 (D_172 W_prog_15_method_72_code_64 1 rfl rfl) hlk
    · replace hf := gneg hf h5
      refine lv_iload_n hx hb (D_29 W_prog_15_method_72_code_0 16 rfl rfl) rfl (lv_at hl 1 rfl) ?_
      obtain ⟨g7, hf⟩ := gif hf
      refine z0ne (tgt := 52) hx hb g7 (D_154 W_prog_15_method_72_code_0 17 rfl rfl rfl) (by decide) (fun h8 => ?_) (fun h8 => ?_)
      · replace hf := gneg hf h8
        exact b_M_share_52 X ih hf hZ hS (lv_sub hl [0, 2, 3, 4] rfl)
      · replace hf := gpos hf h8
        refine lv_aload_n hx hb (D_42 W_prog_15_method_72_code_0 20 rfl rfl) rfl (lv_at hl 2 rfl) ?_
        refine lv_iload_n hx hb (D_28 W_prog_15_method_72_code_0 21 rfl rfl) rfl (lv_at hl 4 rfl) ?_
        refine lv_aload_n hx hb (D_42 W_prog_15_method_72_code_0 22 rfl rfl) rfl (lv_at hl 2 rfl) ?_
        refine zget (ci := 13) (C := RX13) (T := TX13) (v := .ref (ad 13 l0 (28 + 1))) (k := 28) hx hb hts inW_13 hown hK hZ g1.1 g1.2 rfl (by decide) k_9_174 rfl (D_180 W_prog_15_method_72_code_0 23 rfl rfl rfl) ?_
        refine lv_bipush (v := iI 6) hx hb (D_16 W_prog_15_method_72_code_0 26 rfl rfl rfl) (by decide) ?_
        refine lv_iload_n hx hb (D_27 W_prog_15_method_72_code_0 28 rfl rfl) rfl (lv_at hl 3 rfl) ?_
        refine zmul hx hb (D_104 W_prog_15_method_72_code_0 29 rfl rfl) ?_
        refine lv_iload hx hb (D_21 W_prog_15_method_72_code_0 30 rfl rfl) (lv_at hl 0 rfl) ?_
        refine zadd hx hb (D_96 W_prog_15_method_72_code_32 0 rfl rfl) ?_
        obtain ⟨g9, hf⟩ := gif hf
        refine zald (ci := 13) (k := 28) hx hb hK rfl hZ g1.1 g1.2 rfl (Nat.le_of_ble_eq_true rfl) g9.1 g9.2 (D_46 W_prog_15_method_72_code_32 1 rfl rfl) ?_
        refine lv_aload_n hx hb (D_42 W_prog_15_method_72_code_32 2 rfl rfl) rfl (lv_at hl 2 rfl) ?_
        refine zget (ci := 13) (C := RX13) (T := TX13) (v := .ref (ad 13 l0 (29 + 1))) (k := 29) hx hb hts inW_13 hown hK hZ g1.1 g1.2 rfl (by decide) k_9_176 rfl (D_180 W_prog_15_method_72_code_32 3 rfl rfl rfl) ?_
        refine lv_bipush (v := iI 6) hx hb (D_16 W_prog_15_method_72_code_32 6 rfl rfl rfl) (by decide) ?_
        refine lv_iload_n hx hb (D_27 W_prog_15_method_72_code_32 8 rfl rfl) rfl (lv_at hl 3 rfl) ?_
        refine zmul hx hb (D_104 W_prog_15_method_72_code_32 9 rfl rfl) ?_
        refine lv_iload hx hb (D_21 W_prog_15_method_72_code_32 10 rfl rfl) (lv_at hl 0 rfl) ?_
        refine zadd hx hb (D_96 W_prog_15_method_72_code_32 12 rfl rfl) ?_
        refine zald (ci := 13) (k := 29) hx hb hK rfl hZ g1.1 g1.2 rfl (Nat.le_of_ble_eq_true rfl) g9.1 g9.2 (D_46 W_prog_15_method_72_code_32 13 rfl rfl) ?_
        obtain ⟨r10, F10, B10, hc10, hf⟩ := gbind hf
        refine va_calli (va_runS (As := [.ref (ad 13 l0 0), .int (iI l2), .int (iI (B 13 l0 28 ((6 * l1) + l4))), .int (iI (B 13 l0 29 ((6 * l1) + l4)))]) (rest := []) ⟨hx, hb, hml, hown, hts⟩ (c_M_has (l := l) hc10) (va_cwS 4 hts (gdS k_12_132 k_12_133 k_1_9 k_12_134) rfl rfl rfl (by decide +kernel) ⟨Nat.le_of_ble_eq_true rfl, Nat.le_of_ble_eq_true rfl⟩) (zPS X hZ hS [.ref (ad 13 l0 0), .int (iI l2), .int (iI (B 13 l0 28 ((6 * l1) + l4))), .int (iI (B 13 l0 29 ((6 * l1) + l4)))]) rfl rfl hl.1 rfl (lv_room (Nat.le_of_ble_eq_true rfl)) (D_184 W_prog_15_method_72_code_32 14 rfl rfl rfl) ⟨Nat.le_of_ble_eq_true rfl, Nat.le_of_ble_eq_true rfl⟩) hS (fun q _ h => zAin X hS q h) (zAin X hS) (fun p10 u10 t10 H10 locs10 ht10 hv10 hw10 hB10 hz10 hk10 hS10 => ?_)
        have hZ10 := zBack X ht10 hB10
        subst hw10
        obtain ⟨g11, hf⟩ := gif hf
        refine z0lt (tgt := 56) hx hb g11 (D_155 W_prog_15_method_72_code_32 17 rfl rfl rfl) (by decide) (fun h12 => ?_) (fun h12 => ?_)
        · replace hf := gpos hf h12
          refine lv_iconst (v := iI 0) hx hb (D_3 W_prog_15_method_72_code_32 24 rfl rfl) rfl ?_
          exact b_M_share_57 X ih hf hZ10 hS10 (lv_sub hl [0, 2, 3, 4] rfl)
        · replace hf := gneg hf h12
          exact b_M_share_52 X ih hf hZ10 hS10 (lv_sub hl [0, 2, 3, 4] rfl)

def f_M_share (K : Nat) (l0 : Int) (l1 : Int) (l2 : Int) (F : zF) (B : zB) : zO := f_M_share_5 K K 0 0 l0 l1 l2 F B
set_option maxHeartbeats 4000000 in
set_option maxRecDepth 100000 in
theorem c_M_share {l : Launch} {D : va_G} {ca : Nat → ClassId} {ad : Nat → Int → Nat → Nat} {L : List Nat} {aS vS : Nat → Nat} {sz K : Nat}  {l0 : Int} {l1 : Int} {l2 : Int} {F F9 : zF} {B B9 : zB} {r : Int} (hf : f_M_share K l0 l1 l2 F B = some (r, F9, B9)) : Met l ({ cls := "StaveHouseModel", name := "share", desc := "(LStaveHouseModel$Piece;II)Z" } : Jvm.MethodName) (Cond.code ({ cls := "StaveHouseModel", name := "share", desc := "(LStaveHouseModel$Piece;II)Z" } : Jvm.MethodName) prog_15_method_72_code 5 (Option.some Jvm.ClassFile.FieldType.boolean) :: wAll) ({ frames := 1, cells := 0, slots := 0, locals := 24 } : Room) (va_Pc [.ref (ad 13 l0 0), .int (iI l1), .int (iI l2)] (zPre D ca ad lnM nM L aS vS F B sz)) (Q_M_share D ca ad L r F9 B9 (zA L sz)) 0 0 (zA L sz) := by
  refine zMet (Qc := Q_M_share D ca ad L r F9 B9) (lv := [(0, .ref (ad 13 l0 0)), (1, .int (iI l1)), (2, .int (iI l2))]) (by decide) (Nat.le_of_ble_eq_true rfl) rfl (fun A p e s m below meth c ls X hZ hS hl => ?_)
  obtain ⟨hx, hb, hr, hml, hown, hts, hlk, hK, hA, hL, hX⟩ := id X
  replace hf : (f_M_share_5 K K 0 0 l0 l1 l2 F B) = some (r, F9, B9) := hf
  refine lv_iconst (v := iI 0) hx hb (D_3 W_prog_15_method_72_code_0 0 rfl rfl) rfl ?_
  refine lv_istore_n (lv' := [(3, .int (iI 0)), (0, .ref (ad 13 l0 0)), (1, .int (iI l1)), (2, .int (iI l2))]) hx hb (D_62 W_prog_15_method_72_code_0 1 rfl rfl) rfl hl (by decide) rfl (fun ls hl => ?_)
  refine lv_iconst (v := iI 0) hx hb (D_3 W_prog_15_method_72_code_0 2 rfl rfl) rfl ?_
  refine lv_istore (lv' := [(4, .int (iI 0)), (3, .int (iI 0)), (0, .ref (ad 13 l0 0)), (1, .int (iI l1)), (2, .int (iI l2))]) hx hb (D_54 W_prog_15_method_72_code_0 3 rfl rfl) hl (by decide) rfl (fun ls hl => ?_)
  exact b_M_share_5 X hf hZ hS (lv_sub hl [0, 1, 2, 3, 4] rfl)

abbrev Q_M_holds (D : va_G) (ca : Nat → ClassId) (ad : Nat → Int → Nat → Nat) (L : List Nat) (r : Int) (F : zF) (B : zB) (A : Nat → Prop) : Array Value → State → Outcome → State → Prop := va_Qv (S := Unit) (fun _ => True) (fun _ => zPo D ca ad lnM nM L F B A) A
def f_M_holds_196 (rec2 : Int → Int → Int → zF → zB → zO) (K : Nat) (l3 : Int) (l1 : Int) (l2 : Int) (F : zF) (B : zB) : zO := rec2 (l3 + 1) l1 l2 F B
set_option maxHeartbeats 4000000 in
set_option maxRecDepth 100000 in
theorem b_M_holds_196 {D : va_G} {ca : Nat → ClassId} {ad : Nat → Int → Nat → Nat} {L : List Nat} {aS vS : Nat → Nat} {A : Nat → Prop} {p : Program} {l : Launch} {e : Env} {s : State} {m : MethodId} {args : Array Value} {below : List Frame} {meth : Method} {c : Code} {K : Nat} {r : Int} {F9 : zF} {B9 : zB} (X : zX D ca L aS vS A p s m args meth c prog_15_method_92_code 10 (Option.none : Option Jvm.ClassFile.FieldType) "StaveHouseModel") {rec2 : Int → Int → Int → zF → zB → zO} (hrec2 : ∀ {l3 : Int} {l1 : Int} {l2 : Int} {F : zF} {B : zB} {H : Heap} {locs : List Loc} {ls : Array Slot}, rec2 l3 l1 l2 F B = some (r, F9, B9) → zH D ca ad lnM nM L F B A H → va_S A s.heap H locs → lv_has ls 10 [(3, .int (iI l3)), (1, .ref (ad 13 l1 0)), (2, .int (iI l2))] → W p l e ({ frames := 1, cells := 0, slots := 0, locals := 24 } : Room) s m args below meth c H locs 0 0 (MQ below (Q_M_holds D ca ad L r F9 B9 A) args s 0 0 A) (F0 m 2 ls [])) {l3 : Int} {l1 : Int} {l2 : Int} {F : zF} {B : zB} {H : Heap} {locs : List Loc} {ls : Array Slot} (hf : f_M_holds_196 rec2 K l3 l1 l2 F B = some (r, F9, B9)) (hZ : zH D ca ad lnM nM L F B A H) (hS : va_S A s.heap H locs) (hl : lv_has ls 10 [(3, .int (iI l3)), (1, .ref (ad 13 l1 0)), (2, .int (iI l2))]) : W p l e ({ frames := 1, cells := 0, slots := 0, locals := 24 } : Room) s m args below meth c H locs 0 0 (MQ below (Q_M_holds D ca ad L r F9 B9 A) args s 0 0 A) (F0 m 196 ls []) := by
  obtain ⟨hx, hb, hr, hml, hown, hts, hlk, hK, hA, hL, hX⟩ := id X
  replace hf : (rec2 (l3 + 1) l1 l2 F B) = some (r, F9, B9) := hf
  refine lv_iinc (v := iI (l3 + 1)) (lv' := [(3, .int (iI (l3 + 1))), (1, .ref (ad 13 l1 0)), (2, .int (iI l2))]) hx hb d_15_92_196 hl (k := 0) rfl (iI_add _ 1) (by decide) rfl (fun ls hl => ?_)
  refine lv_goto (tgt := 2) hx hb (D_167 W_prog_15_method_92_code_192 7 rfl rfl rfl) (by decide) ?_
  exact hrec2 hf hZ hS (lv_sub hl [0, 1, 2] rfl)

def f_M_holds_190 (rec2 : Int → Int → Int → zF → zB → zO) (rec105 : Int → Int → Int → Int → Int → Int → Int → Int → zF → zB → zO) (K : Nat) (l8 : Int) (l7 : Int) (l6 : Int) (l5 : Int) (l4 : Int) (l3 : Int) (l1 : Int) (l2 : Int) (F : zF) (B : zB) : zO := rec105 (l8 + 1) l7 l6 l5 l4 l3 l1 l2 F B
set_option maxHeartbeats 4000000 in
set_option maxRecDepth 100000 in
theorem b_M_holds_190 {D : va_G} {ca : Nat → ClassId} {ad : Nat → Int → Nat → Nat} {L : List Nat} {aS vS : Nat → Nat} {A : Nat → Prop} {p : Program} {l : Launch} {e : Env} {s : State} {m : MethodId} {args : Array Value} {below : List Frame} {meth : Method} {c : Code} {K : Nat} {r : Int} {F9 : zF} {B9 : zB} (X : zX D ca L aS vS A p s m args meth c prog_15_method_92_code 10 (Option.none : Option Jvm.ClassFile.FieldType) "StaveHouseModel") {rec2 : Int → Int → Int → zF → zB → zO} {rec105 : Int → Int → Int → Int → Int → Int → Int → Int → zF → zB → zO} (hrec2 : ∀ {l3 : Int} {l1 : Int} {l2 : Int} {F : zF} {B : zB} {H : Heap} {locs : List Loc} {ls : Array Slot}, rec2 l3 l1 l2 F B = some (r, F9, B9) → zH D ca ad lnM nM L F B A H → va_S A s.heap H locs → lv_has ls 10 [(3, .int (iI l3)), (1, .ref (ad 13 l1 0)), (2, .int (iI l2))] → W p l e ({ frames := 1, cells := 0, slots := 0, locals := 24 } : Room) s m args below meth c H locs 0 0 (MQ below (Q_M_holds D ca ad L r F9 B9 A) args s 0 0 A) (F0 m 2 ls [])) (hrec105 : ∀ {l8 : Int} {l7 : Int} {l6 : Int} {l5 : Int} {l4 : Int} {l3 : Int} {l1 : Int} {l2 : Int} {F : zF} {B : zB} {H : Heap} {locs : List Loc} {ls : Array Slot}, rec105 l8 l7 l6 l5 l4 l3 l1 l2 F B = some (r, F9, B9) → zH D ca ad lnM nM L F B A H → va_S A s.heap H locs → lv_has ls 10 [(8, .int (iI l8)), (7, .int (iI l7)), (6, .int (iI l6)), (5, .int (iI l5)), (4, .int (iI l4)), (3, .int (iI l3)), (1, .ref (ad 13 l1 0)), (2, .int (iI l2))] → W p l e ({ frames := 1, cells := 0, slots := 0, locals := 24 } : Room) s m args below meth c H locs 0 0 (MQ below (Q_M_holds D ca ad L r F9 B9 A) args s 0 0 A) (F0 m 105 ls [])) {l8 : Int} {l7 : Int} {l6 : Int} {l5 : Int} {l4 : Int} {l3 : Int} {l1 : Int} {l2 : Int} {F : zF} {B : zB} {H : Heap} {locs : List Loc} {ls : Array Slot} (hf : f_M_holds_190 rec2 rec105 K l8 l7 l6 l5 l4 l3 l1 l2 F B = some (r, F9, B9)) (hZ : zH D ca ad lnM nM L F B A H) (hS : va_S A s.heap H locs) (hl : lv_has ls 10 [(8, .int (iI l8)), (7, .int (iI l7)), (6, .int (iI l6)), (5, .int (iI l5)), (4, .int (iI l4)), (3, .int (iI l3)), (1, .ref (ad 13 l1 0)), (2, .int (iI l2))]) : W p l e ({ frames := 1, cells := 0, slots := 0, locals := 24 } : Room) s m args below meth c H locs 0 0 (MQ below (Q_M_holds D ca ad L r F9 B9 A) args s 0 0 A) (F0 m 190 ls []) := by
  obtain ⟨hx, hb, hr, hml, hown, hts, hlk, hK, hA, hL, hX⟩ := id X
  replace hf : (rec105 (l8 + 1) l7 l6 l5 l4 l3 l1 l2 F B) = some (r, F9, B9) := hf
  refine lv_iinc (v := iI (l8 + 1)) (lv' := [(8, .int (iI (l8 + 1))), (7, .int (iI l7)), (6, .int (iI l6)), (5, .int (iI l5)), (4, .int (iI l4)), (3, .int (iI l3)), (1, .ref (ad 13 l1 0)), (2, .int (iI l2))]) hx hb d_15_92_190 hl (k := 0) rfl (iI_add _ 1) (by decide) rfl (fun ls hl => ?_)
  refine lv_goto (tgt := 105) hx hb (D_167 W_prog_15_method_92_code_192 1 rfl rfl rfl) (by decide) ?_
  exact hrec105 hf hZ hS (lv_sub hl [0, 1, 2, 3, 4, 5, 6, 7] rfl)

def f_M_holds_176 (rec2 : Int → Int → Int → zF → zB → zO) (rec105 : Int → Int → Int → Int → Int → Int → Int → Int → zF → zB → zO) (K : Nat) (l8 : Int) (l7 : Int) (l6 : Int) (l5 : Int) (l4 : Int) (l3 : Int) (l1 : Int) (l2 : Int) (F : zF) (B : zB) : zO := if 0 ≤ l1 ∧ l1 < 3 then if 0 ≤ l4 ∧ l4 < 3200 then f_M_holds_190 rec2 rec105 K l8 l7 l6 l5 l4 l3 l1 l2 F (zup4 B 13 l1 36 l4 (zor (B 13 l1 36 l4) (zshl 1 l8))) else none else none
set_option maxHeartbeats 4000000 in
set_option maxRecDepth 100000 in
theorem b_M_holds_176 {D : va_G} {ca : Nat → ClassId} {ad : Nat → Int → Nat → Nat} {L : List Nat} {aS vS : Nat → Nat} {A : Nat → Prop} {p : Program} {l : Launch} {e : Env} {s : State} {m : MethodId} {args : Array Value} {below : List Frame} {meth : Method} {c : Code} {K : Nat} {r : Int} {F9 : zF} {B9 : zB} (X : zX D ca L aS vS A p s m args meth c prog_15_method_92_code 10 (Option.none : Option Jvm.ClassFile.FieldType) "StaveHouseModel") {rec2 : Int → Int → Int → zF → zB → zO} {rec105 : Int → Int → Int → Int → Int → Int → Int → Int → zF → zB → zO} (hrec2 : ∀ {l3 : Int} {l1 : Int} {l2 : Int} {F : zF} {B : zB} {H : Heap} {locs : List Loc} {ls : Array Slot}, rec2 l3 l1 l2 F B = some (r, F9, B9) → zH D ca ad lnM nM L F B A H → va_S A s.heap H locs → lv_has ls 10 [(3, .int (iI l3)), (1, .ref (ad 13 l1 0)), (2, .int (iI l2))] → W p l e ({ frames := 1, cells := 0, slots := 0, locals := 24 } : Room) s m args below meth c H locs 0 0 (MQ below (Q_M_holds D ca ad L r F9 B9 A) args s 0 0 A) (F0 m 2 ls [])) (hrec105 : ∀ {l8 : Int} {l7 : Int} {l6 : Int} {l5 : Int} {l4 : Int} {l3 : Int} {l1 : Int} {l2 : Int} {F : zF} {B : zB} {H : Heap} {locs : List Loc} {ls : Array Slot}, rec105 l8 l7 l6 l5 l4 l3 l1 l2 F B = some (r, F9, B9) → zH D ca ad lnM nM L F B A H → va_S A s.heap H locs → lv_has ls 10 [(8, .int (iI l8)), (7, .int (iI l7)), (6, .int (iI l6)), (5, .int (iI l5)), (4, .int (iI l4)), (3, .int (iI l3)), (1, .ref (ad 13 l1 0)), (2, .int (iI l2))] → W p l e ({ frames := 1, cells := 0, slots := 0, locals := 24 } : Room) s m args below meth c H locs 0 0 (MQ below (Q_M_holds D ca ad L r F9 B9 A) args s 0 0 A) (F0 m 105 ls [])) {l8 : Int} {l7 : Int} {l6 : Int} {l5 : Int} {l4 : Int} {l3 : Int} {l1 : Int} {l2 : Int} {F : zF} {B : zB} {H : Heap} {locs : List Loc} {ls : Array Slot} (hf : f_M_holds_176 rec2 rec105 K l8 l7 l6 l5 l4 l3 l1 l2 F B = some (r, F9, B9)) (hZ : zH D ca ad lnM nM L F B A H) (hS : va_S A s.heap H locs) (hl : lv_has ls 10 [(8, .int (iI l8)), (7, .int (iI l7)), (6, .int (iI l6)), (5, .int (iI l5)), (4, .int (iI l4)), (3, .int (iI l3)), (1, .ref (ad 13 l1 0)), (2, .int (iI l2))]) : W p l e ({ frames := 1, cells := 0, slots := 0, locals := 24 } : Room) s m args below meth c H locs 0 0 (MQ below (Q_M_holds D ca ad L r F9 B9 A) args s 0 0 A) (F0 m 176 ls []) := by
  obtain ⟨hx, hb, hr, hml, hown, hts, hlk, hK, hA, hL, hX⟩ := id X
  replace hf : (if 0 ≤ l1 ∧ l1 < 3 then if 0 ≤ l4 ∧ l4 < 3200 then f_M_holds_190 rec2 rec105 K l8 l7 l6 l5 l4 l3 l1 l2 F (zup4 B 13 l1 36 l4 (zor (B 13 l1 36 l4) (zshl 1 l8))) else none else none) = some (r, F9, B9) := hf
  refine lv_aload_n hx hb (D_43 W_prog_15_method_92_code_160 16 rfl rfl) rfl (lv_at hl 6 rfl) ?_
  obtain ⟨g38, hf⟩ := gif hf
  refine zget (ci := 13) (C := RX13) (T := TX13) (v := .ref (ad 13 l1 (36 + 1))) (k := 36) hx hb hts inW_13 hown hK hZ g38.1 g38.2 rfl (by decide) k_9_190 rfl (D_180 W_prog_15_method_92_code_160 17 rfl rfl rfl) ?_
  refine lv_iload hx hb (D_21 W_prog_15_method_92_code_160 20 rfl rfl) (lv_at hl 4 rfl) ?_
  refine lv_dup2_11 hx hb (D_92 W_prog_15_method_92_code_160 22 rfl rfl) rfl rfl ?_
  obtain ⟨g39, hf⟩ := gif hf
  refine zald (ci := 13) (k := 36) hx hb hK rfl hZ g38.1 g38.2 rfl (Nat.le_of_ble_eq_true rfl) g39.1 g39.2 (D_46 W_prog_15_method_92_code_160 23 rfl rfl) ?_
  refine lv_iconst (v := iI 1) hx hb (D_4 W_prog_15_method_92_code_160 24 rfl rfl) rfl ?_
  refine lv_iload hx hb (D_21 W_prog_15_method_92_code_160 25 rfl rfl) (lv_at hl 0 rfl) ?_
  refine zshl_r hx hb (D_120 W_prog_15_method_92_code_160 27 rfl rfl) ?_
  refine zor_r hx hb (D_128 W_prog_15_method_92_code_160 28 rfl rfl) ?_
  refine zast (ci := 13) (k := 36) hx hb hK rfl hZ hS g38.1 g38.2 rfl (Nat.le_of_ble_eq_true rfl) g39.1 g39.2 (D_79 W_prog_15_method_92_code_160 29 rfl rfl) (fun H40 locs40 hZ40 hS40 => ?_)
  exact b_M_holds_190 X hrec2 hrec105 hf hZ40 hS40 (lv_sub hl [0, 1, 2, 3, 4, 5, 6, 7] rfl)

def f_M_holds_164 (rec2 : Int → Int → Int → zF → zB → zO) (rec105 : Int → Int → Int → Int → Int → Int → Int → Int → zF → zB → zO) (K : Nat) (l8 : Int) (l7 : Int) (l6 : Int) (l5 : Int) (l4 : Int) (l3 : Int) (l1 : Int) (l2 : Int) (s0 : Int) (F : zF) (B : zB) : zO := if r32 l6 then (if l6 = 0 then if r32 s0 then (if s0 = 0 then f_M_holds_190 rec2 rec105 K l8 l7 l6 l5 l4 l3 l1 l2 F B else f_M_holds_176 rec2 rec105 K l8 l7 l6 l5 l4 l3 l1 l2 F B) else none else f_M_holds_176 rec2 rec105 K l8 l7 l6 l5 l4 l3 l1 l2 F B) else none
set_option maxHeartbeats 4000000 in
set_option maxRecDepth 100000 in
theorem b_M_holds_164 {D : va_G} {ca : Nat → ClassId} {ad : Nat → Int → Nat → Nat} {L : List Nat} {aS vS : Nat → Nat} {A : Nat → Prop} {p : Program} {l : Launch} {e : Env} {s : State} {m : MethodId} {args : Array Value} {below : List Frame} {meth : Method} {c : Code} {K : Nat} {r : Int} {F9 : zF} {B9 : zB} (X : zX D ca L aS vS A p s m args meth c prog_15_method_92_code 10 (Option.none : Option Jvm.ClassFile.FieldType) "StaveHouseModel") {rec2 : Int → Int → Int → zF → zB → zO} {rec105 : Int → Int → Int → Int → Int → Int → Int → Int → zF → zB → zO} (hrec2 : ∀ {l3 : Int} {l1 : Int} {l2 : Int} {F : zF} {B : zB} {H : Heap} {locs : List Loc} {ls : Array Slot}, rec2 l3 l1 l2 F B = some (r, F9, B9) → zH D ca ad lnM nM L F B A H → va_S A s.heap H locs → lv_has ls 10 [(3, .int (iI l3)), (1, .ref (ad 13 l1 0)), (2, .int (iI l2))] → W p l e ({ frames := 1, cells := 0, slots := 0, locals := 24 } : Room) s m args below meth c H locs 0 0 (MQ below (Q_M_holds D ca ad L r F9 B9 A) args s 0 0 A) (F0 m 2 ls [])) (hrec105 : ∀ {l8 : Int} {l7 : Int} {l6 : Int} {l5 : Int} {l4 : Int} {l3 : Int} {l1 : Int} {l2 : Int} {F : zF} {B : zB} {H : Heap} {locs : List Loc} {ls : Array Slot}, rec105 l8 l7 l6 l5 l4 l3 l1 l2 F B = some (r, F9, B9) → zH D ca ad lnM nM L F B A H → va_S A s.heap H locs → lv_has ls 10 [(8, .int (iI l8)), (7, .int (iI l7)), (6, .int (iI l6)), (5, .int (iI l5)), (4, .int (iI l4)), (3, .int (iI l3)), (1, .ref (ad 13 l1 0)), (2, .int (iI l2))] → W p l e ({ frames := 1, cells := 0, slots := 0, locals := 24 } : Room) s m args below meth c H locs 0 0 (MQ below (Q_M_holds D ca ad L r F9 B9 A) args s 0 0 A) (F0 m 105 ls [])) {l8 : Int} {l7 : Int} {l6 : Int} {l5 : Int} {l4 : Int} {l3 : Int} {l1 : Int} {l2 : Int} {s0 : Int} {F : zF} {B : zB} {H : Heap} {locs : List Loc} {ls : Array Slot} (hf : f_M_holds_164 rec2 rec105 K l8 l7 l6 l5 l4 l3 l1 l2 s0 F B = some (r, F9, B9)) (hZ : zH D ca ad lnM nM L F B A H) (hS : va_S A s.heap H locs) (hl : lv_has ls 10 [(8, .int (iI l8)), (7, .int (iI l7)), (6, .int (iI l6)), (5, .int (iI l5)), (4, .int (iI l4)), (3, .int (iI l3)), (1, .ref (ad 13 l1 0)), (2, .int (iI l2))]) : W p l e ({ frames := 1, cells := 0, slots := 0, locals := 24 } : Room) s m args below meth c H locs 0 0 (MQ below (Q_M_holds D ca ad L r F9 B9 A) args s 0 0 A) (F0 m 164 ls [.int (iI s0)]) := by
  obtain ⟨hx, hb, hr, hml, hown, hts, hlk, hK, hA, hL, hX⟩ := id X
  replace hf : (if r32 l6 then (if l6 = 0 then if r32 s0 then (if s0 = 0 then f_M_holds_190 rec2 rec105 K l8 l7 l6 l5 l4 l3 l1 l2 F B else f_M_holds_176 rec2 rec105 K l8 l7 l6 l5 l4 l3 l1 l2 F B) else none else f_M_holds_176 rec2 rec105 K l8 l7 l6 l5 l4 l3 l1 l2 F B) else none) = some (r, F9, B9) := hf
  refine lv_istore (lv' := [(9, .int (iI s0)), (8, .int (iI l8)), (7, .int (iI l7)), (6, .int (iI l6)), (5, .int (iI l5)), (4, .int (iI l4)), (3, .int (iI l3)), (1, .ref (ad 13 l1 0)), (2, .int (iI l2))]) hx hb (D_54 W_prog_15_method_92_code_160 4 rfl rfl) hl (by decide) rfl (fun ls hl => ?_)
  refine lv_iload hx hb (D_21 W_prog_15_method_92_code_160 6 rfl rfl) (lv_at hl 3 rfl) ?_
  obtain ⟨g34, hf⟩ := gif hf
  refine z0ne (tgt := 176) hx hb g34 (D_154 W_prog_15_method_92_code_160 8 rfl rfl rfl) (by decide) (fun h35 => ?_) (fun h35 => ?_)
  · replace hf := gneg hf h35
    exact b_M_holds_176 X hrec2 hrec105 hf hZ hS (lv_sub hl [1, 2, 3, 4, 5, 6, 7, 8] rfl)
  · replace hf := gpos hf h35
    refine lv_iload hx hb (D_21 W_prog_15_method_92_code_160 11 rfl rfl) (lv_at hl 0 rfl) ?_
    obtain ⟨g36, hf⟩ := gif hf
    refine z0eq (tgt := 190) hx hb g36 (D_153 W_prog_15_method_92_code_160 13 rfl rfl rfl) (by decide) (fun h37 => ?_) (fun h37 => ?_)
    · replace hf := gpos hf h37
      exact b_M_holds_190 X hrec2 hrec105 hf hZ hS (lv_sub hl [1, 2, 3, 4, 5, 6, 7, 8] rfl)
    · replace hf := gneg hf h37
      exact b_M_holds_176 X hrec2 hrec105 hf hZ hS (lv_sub hl [1, 2, 3, 4, 5, 6, 7, 8] rfl)

def f_M_holds_163 (rec2 : Int → Int → Int → zF → zB → zO) (rec105 : Int → Int → Int → Int → Int → Int → Int → Int → zF → zB → zO) (K : Nat) (l8 : Int) (l7 : Int) (l6 : Int) (l5 : Int) (l4 : Int) (l3 : Int) (l1 : Int) (l2 : Int) (F : zF) (B : zB) : zO := f_M_holds_164 rec2 rec105 K l8 l7 l6 l5 l4 l3 l1 l2 0 F B
set_option maxHeartbeats 4000000 in
set_option maxRecDepth 100000 in
theorem b_M_holds_163 {D : va_G} {ca : Nat → ClassId} {ad : Nat → Int → Nat → Nat} {L : List Nat} {aS vS : Nat → Nat} {A : Nat → Prop} {p : Program} {l : Launch} {e : Env} {s : State} {m : MethodId} {args : Array Value} {below : List Frame} {meth : Method} {c : Code} {K : Nat} {r : Int} {F9 : zF} {B9 : zB} (X : zX D ca L aS vS A p s m args meth c prog_15_method_92_code 10 (Option.none : Option Jvm.ClassFile.FieldType) "StaveHouseModel") {rec2 : Int → Int → Int → zF → zB → zO} {rec105 : Int → Int → Int → Int → Int → Int → Int → Int → zF → zB → zO} (hrec2 : ∀ {l3 : Int} {l1 : Int} {l2 : Int} {F : zF} {B : zB} {H : Heap} {locs : List Loc} {ls : Array Slot}, rec2 l3 l1 l2 F B = some (r, F9, B9) → zH D ca ad lnM nM L F B A H → va_S A s.heap H locs → lv_has ls 10 [(3, .int (iI l3)), (1, .ref (ad 13 l1 0)), (2, .int (iI l2))] → W p l e ({ frames := 1, cells := 0, slots := 0, locals := 24 } : Room) s m args below meth c H locs 0 0 (MQ below (Q_M_holds D ca ad L r F9 B9 A) args s 0 0 A) (F0 m 2 ls [])) (hrec105 : ∀ {l8 : Int} {l7 : Int} {l6 : Int} {l5 : Int} {l4 : Int} {l3 : Int} {l1 : Int} {l2 : Int} {F : zF} {B : zB} {H : Heap} {locs : List Loc} {ls : Array Slot}, rec105 l8 l7 l6 l5 l4 l3 l1 l2 F B = some (r, F9, B9) → zH D ca ad lnM nM L F B A H → va_S A s.heap H locs → lv_has ls 10 [(8, .int (iI l8)), (7, .int (iI l7)), (6, .int (iI l6)), (5, .int (iI l5)), (4, .int (iI l4)), (3, .int (iI l3)), (1, .ref (ad 13 l1 0)), (2, .int (iI l2))] → W p l e ({ frames := 1, cells := 0, slots := 0, locals := 24 } : Room) s m args below meth c H locs 0 0 (MQ below (Q_M_holds D ca ad L r F9 B9 A) args s 0 0 A) (F0 m 105 ls [])) {l8 : Int} {l7 : Int} {l6 : Int} {l5 : Int} {l4 : Int} {l3 : Int} {l1 : Int} {l2 : Int} {F : zF} {B : zB} {H : Heap} {locs : List Loc} {ls : Array Slot} (hf : f_M_holds_163 rec2 rec105 K l8 l7 l6 l5 l4 l3 l1 l2 F B = some (r, F9, B9)) (hZ : zH D ca ad lnM nM L F B A H) (hS : va_S A s.heap H locs) (hl : lv_has ls 10 [(8, .int (iI l8)), (7, .int (iI l7)), (6, .int (iI l6)), (5, .int (iI l5)), (4, .int (iI l4)), (3, .int (iI l3)), (1, .ref (ad 13 l1 0)), (2, .int (iI l2))]) : W p l e ({ frames := 1, cells := 0, slots := 0, locals := 24 } : Room) s m args below meth c H locs 0 0 (MQ below (Q_M_holds D ca ad L r F9 B9 A) args s 0 0 A) (F0 m 163 ls []) := by
  obtain ⟨hx, hb, hr, hml, hown, hts, hlk, hK, hA, hL, hX⟩ := id X
  replace hf : (f_M_holds_164 rec2 rec105 K l8 l7 l6 l5 l4 l3 l1 l2 0 F B) = some (r, F9, B9) := hf
  refine lv_iconst (v := iI 0) hx hb (D_3 W_prog_15_method_92_code_160 3 rfl rfl) rfl ?_
  exact b_M_holds_164 X hrec2 hrec105 hf hZ hS (lv_sub hl [0, 1, 2, 3, 4, 5, 6, 7] rfl)

def f_M_holds_105 (rec2 : Int → Int → Int → zF → zB → zO) (K : Nat) : Nat → Int → Int → Int → Int → Int → Int → Int → Int → zF → zB → zO
  | 0, _, _, _, _, _, _, _, _, _, _ => none
  | n + 1, l8, l7, l6, l5, l4, l3, l1, l2, F, B => if 0 ≤ l1 ∧ l1 < 3 then if 0 ≤ l5 ∧ l5 < 4000 then if r32 l8 then if r32 (B 13 l1 21 l5) then (if (B 13 l1 21 l5) ≤ l8 then f_M_holds_196 rec2 K l3 l1 l2 F B else if r32 l7 then (if l7 = 0 then f_M_holds_163 rec2 (f_M_holds_105 rec2 K n) K l8 l7 l6 l5 l4 l3 l1 l2 F B else if 0 ≤ ((6 * l5) + l8) ∧ ((6 * l5) + l8) < 24000 then zbind (f_M_has K l1 (l5 + 1) (B 13 l1 28 ((6 * l5) + l8)) (B 13 l1 29 ((6 * l5) + l8)) F B) (fun r30 F30 B30 => if r32 r30 then (if r30 < 0 then f_M_holds_163 rec2 (f_M_holds_105 rec2 K n) K l8 l7 l6 l5 l4 l3 l1 l2 F30 B30 else f_M_holds_164 rec2 (f_M_holds_105 rec2 K n) K l8 l7 l6 l5 l4 l3 l1 l2 1 F30 B30) else none) else none) else none) else none else none else none else none
set_option maxHeartbeats 4000000 in
set_option maxRecDepth 100000 in
theorem b_M_holds_105 {D : va_G} {ca : Nat → ClassId} {ad : Nat → Int → Nat → Nat} {L : List Nat} {aS vS : Nat → Nat} {A : Nat → Prop} {p : Program} {l : Launch} {e : Env} {s : State} {m : MethodId} {args : Array Value} {below : List Frame} {meth : Method} {c : Code} {K : Nat} {r : Int} {F9 : zF} {B9 : zB} (X : zX D ca L aS vS A p s m args meth c prog_15_method_92_code 10 (Option.none : Option Jvm.ClassFile.FieldType) "StaveHouseModel") {rec2 : Int → Int → Int → zF → zB → zO} (hrec2 : ∀ {l3 : Int} {l1 : Int} {l2 : Int} {F : zF} {B : zB} {H : Heap} {locs : List Loc} {ls : Array Slot}, rec2 l3 l1 l2 F B = some (r, F9, B9) → zH D ca ad lnM nM L F B A H → va_S A s.heap H locs → lv_has ls 10 [(3, .int (iI l3)), (1, .ref (ad 13 l1 0)), (2, .int (iI l2))] → W p l e ({ frames := 1, cells := 0, slots := 0, locals := 24 } : Room) s m args below meth c H locs 0 0 (MQ below (Q_M_holds D ca ad L r F9 B9 A) args s 0 0 A) (F0 m 2 ls [])) : ∀ {n : Nat} {l8 : Int} {l7 : Int} {l6 : Int} {l5 : Int} {l4 : Int} {l3 : Int} {l1 : Int} {l2 : Int} {F : zF} {B : zB} {H : Heap} {locs : List Loc} {ls : Array Slot}, f_M_holds_105 rec2 K n l8 l7 l6 l5 l4 l3 l1 l2 F B = some (r, F9, B9) → zH D ca ad lnM nM L F B A H → va_S A s.heap H locs → lv_has ls 10 [(8, .int (iI l8)), (7, .int (iI l7)), (6, .int (iI l6)), (5, .int (iI l5)), (4, .int (iI l4)), (3, .int (iI l3)), (1, .ref (ad 13 l1 0)), (2, .int (iI l2))] → W p l e ({ frames := 1, cells := 0, slots := 0, locals := 24 } : Room) s m args below meth c H locs 0 0 (MQ below (Q_M_holds D ca ad L r F9 B9 A) args s 0 0 A) (F0 m 105 ls []) := by
  obtain ⟨hx, hb, hr, hml, hown, hts, hlk, hK, hA, hL, hX⟩ := id X
  intro n
  induction n with
  | zero =>
    intros
    rename_i hf _ _ _
    cases hf
  | succ n ih =>
    intro l8 l7 l6 l5 l4 l3 l1 l2 F B H locs ls hf hZ hS hl
    replace hf : (if 0 ≤ l1 ∧ l1 < 3 then if 0 ≤ l5 ∧ l5 < 4000 then if r32 l8 then if r32 (B 13 l1 21 l5) then (if (B 13 l1 21 l5) ≤ l8 then f_M_holds_196 rec2 K l3 l1 l2 F B else if r32 l7 then (if l7 = 0 then f_M_holds_163 rec2 (f_M_holds_105 rec2 K n) K l8 l7 l6 l5 l4 l3 l1 l2 F B else if 0 ≤ ((6 * l5) + l8) ∧ ((6 * l5) + l8) < 24000 then zbind (f_M_has K l1 (l5 + 1) (B 13 l1 28 ((6 * l5) + l8)) (B 13 l1 29 ((6 * l5) + l8)) F B) (fun r30 F30 B30 => if r32 r30 then (if r30 < 0 then f_M_holds_163 rec2 (f_M_holds_105 rec2 K n) K l8 l7 l6 l5 l4 l3 l1 l2 F30 B30 else f_M_holds_164 rec2 (f_M_holds_105 rec2 K n) K l8 l7 l6 l5 l4 l3 l1 l2 1 F30 B30) else none) else none) else none) else none else none else none else none) = some (r, F9, B9) := hf
    refine lv_iload hx hb (D_21 W_prog_15_method_92_code_96 9 rfl rfl) (lv_at hl 0 rfl) ?_
    refine lv_aload_n hx hb (D_43 W_prog_15_method_92_code_96 11 rfl rfl) rfl (lv_at hl 6 rfl) ?_
    obtain ⟨g22, hf⟩ := gif hf
    refine zget (ci := 13) (C := RX13) (T := TX13) (v := .ref (ad 13 l1 (21 + 1))) (k := 21) hx hb hts inW_13 hown hK hZ g22.1 g22.2 rfl (by decide) k_9_160 rfl (D_180 W_prog_15_method_92_code_96 12 rfl rfl rfl) ?_
    refine lv_iload hx hb (D_21 W_prog_15_method_92_code_96 15 rfl rfl) (lv_at hl 3 rfl) ?_
    obtain ⟨g23, hf⟩ := gif hf
    refine zald (ci := 13) (k := 21) hx hb hK rfl hZ g22.1 g22.2 rfl (Nat.le_of_ble_eq_true rfl) g23.1 g23.2 (D_46 W_prog_15_method_92_code_96 17 rfl rfl) ?_
    obtain ⟨g24, hf⟩ := gif hf
    obtain ⟨g25, hf⟩ := gif hf
    refine zge (tgt := 196) hx hb g24 g25 (D_162 W_prog_15_method_92_code_96 18 rfl rfl rfl) (by decide) (fun h26 => ?_) (fun h26 => ?_)
    · replace hf := gpos hf h26
      exact b_M_holds_196 X hrec2 hf hZ hS (lv_sub hl [5, 6, 7] rfl)
    · replace hf := gneg hf h26
      refine lv_iload hx hb (D_21 W_prog_15_method_92_code_96 21 rfl rfl) (lv_at hl 1 rfl) ?_
      obtain ⟨g27, hf⟩ := gif hf
      refine z0eq (tgt := 163) hx hb g27 (D_153 W_prog_15_method_92_code_96 23 rfl rfl rfl) (by decide) (fun h28 => ?_) (fun h28 => ?_)
      · replace hf := gpos hf h28
        exact b_M_holds_163 X hrec2 ih hf hZ hS (lv_sub hl [0, 1, 2, 3, 4, 5, 6, 7] rfl)
      · replace hf := gneg hf h28
        refine lv_aload_n hx hb (D_43 W_prog_15_method_92_code_96 26 rfl rfl) rfl (lv_at hl 6 rfl) ?_
        refine lv_iload hx hb (D_21 W_prog_15_method_92_code_96 27 rfl rfl) (lv_at hl 3 rfl) ?_
        refine lv_iconst (v := iI 1) hx hb (D_4 W_prog_15_method_92_code_96 29 rfl rfl) rfl ?_
        refine zadd hx hb (D_96 W_prog_15_method_92_code_96 30 rfl rfl) ?_
        refine lv_aload_n hx hb (D_43 W_prog_15_method_92_code_96 31 rfl rfl) rfl (lv_at hl 6 rfl) ?_
        refine zget (ci := 13) (C := RX13) (T := TX13) (v := .ref (ad 13 l1 (28 + 1))) (k := 28) hx hb hts inW_13 hown hK hZ g22.1 g22.2 rfl (by decide) k_9_174 rfl (D_180 W_prog_15_method_92_code_128 0 rfl rfl rfl) ?_
        refine lv_bipush (v := iI 6) hx hb (D_16 W_prog_15_method_92_code_128 3 rfl rfl rfl) (by decide) ?_
        refine lv_iload hx hb (D_21 W_prog_15_method_92_code_128 5 rfl rfl) (lv_at hl 3 rfl) ?_
        refine zmul hx hb (D_104 W_prog_15_method_92_code_128 7 rfl rfl) ?_
        refine lv_iload hx hb (D_21 W_prog_15_method_92_code_128 8 rfl rfl) (lv_at hl 0 rfl) ?_
        refine zadd hx hb (D_96 W_prog_15_method_92_code_128 10 rfl rfl) ?_
        obtain ⟨g29, hf⟩ := gif hf
        refine zald (ci := 13) (k := 28) hx hb hK rfl hZ g22.1 g22.2 rfl (Nat.le_of_ble_eq_true rfl) g29.1 g29.2 (D_46 W_prog_15_method_92_code_128 11 rfl rfl) ?_
        refine lv_aload_n hx hb (D_43 W_prog_15_method_92_code_128 12 rfl rfl) rfl (lv_at hl 6 rfl) ?_
        refine zget (ci := 13) (C := RX13) (T := TX13) (v := .ref (ad 13 l1 (29 + 1))) (k := 29) hx hb hts inW_13 hown hK hZ g22.1 g22.2 rfl (by decide) k_9_176 rfl (D_180 W_prog_15_method_92_code_128 13 rfl rfl rfl) ?_
        refine lv_bipush (v := iI 6) hx hb (D_16 W_prog_15_method_92_code_128 16 rfl rfl rfl) (by decide) ?_
        refine lv_iload hx hb (D_21 W_prog_15_method_92_code_128 18 rfl rfl) (lv_at hl 3 rfl) ?_
        refine zmul hx hb (D_104 W_prog_15_method_92_code_128 20 rfl rfl) ?_
        refine lv_iload hx hb (D_21 W_prog_15_method_92_code_128 21 rfl rfl) (lv_at hl 0 rfl) ?_
        refine zadd hx hb (D_96 W_prog_15_method_92_code_128 23 rfl rfl) ?_
        refine zald (ci := 13) (k := 29) hx hb hK rfl hZ g22.1 g22.2 rfl (Nat.le_of_ble_eq_true rfl) g29.1 g29.2 (D_46 W_prog_15_method_92_code_128 24 rfl rfl) ?_
        obtain ⟨r30, F30, B30, hc30, hf⟩ := gbind hf
        refine va_calli (va_runS (As := [.ref (ad 13 l1 0), .int (iI (l5 + 1)), .int (iI (B 13 l1 28 ((6 * l5) + l8))), .int (iI (B 13 l1 29 ((6 * l5) + l8)))]) (rest := []) ⟨hx, hb, hml, hown, hts⟩ (c_M_has (l := l) hc30) (va_cwS 4 hts (gdS k_12_132 k_12_133 k_1_9 k_12_134) rfl rfl rfl (by decide +kernel) ⟨Nat.le_of_ble_eq_true rfl, Nat.le_of_ble_eq_true rfl⟩) (zPS X hZ hS [.ref (ad 13 l1 0), .int (iI (l5 + 1)), .int (iI (B 13 l1 28 ((6 * l5) + l8))), .int (iI (B 13 l1 29 ((6 * l5) + l8)))]) rfl rfl hl.1 rfl (lv_room (Nat.le_of_ble_eq_true rfl)) (D_184 W_prog_15_method_92_code_128 25 rfl rfl rfl) ⟨Nat.le_of_ble_eq_true rfl, Nat.le_of_ble_eq_true rfl⟩) hS (fun q _ h => zAin X hS q h) (zAin X hS) (fun p30 u30 t30 H30 locs30 ht30 hv30 hw30 hB30 hz30 hk30 hS30 => ?_)
        have hZ30 := zBack X ht30 hB30
        subst hw30
        obtain ⟨g31, hf⟩ := gif hf
        refine z0lt (tgt := 163) hx hb g31 (D_155 W_prog_15_method_92_code_128 28 rfl rfl rfl) (by decide) (fun h33 => ?_) (fun h33 => ?_)
        · replace hf := gpos hf h33
          exact b_M_holds_163 X hrec2 ih hf hZ30 hS30 (lv_sub hl [0, 1, 2, 3, 4, 5, 6, 7] rfl)
        · replace hf := gneg hf h33
          refine lv_iconst (v := iI 1) hx hb (D_4 W_prog_15_method_92_code_128 31 rfl rfl) rfl ?_
          refine lv_goto (tgt := 164) hx hb (D_167 W_prog_15_method_92_code_160 0 rfl rfl rfl) (by decide) ?_
          exact b_M_holds_164 X hrec2 ih hf hZ30 hS30 (lv_sub hl [0, 1, 2, 3, 4, 5, 6, 7] rfl)

def f_M_holds_100 (rec2 : Int → Int → Int → zF → zB → zO) (K : Nat) (l6 : Int) (l5 : Int) (l4 : Int) (l3 : Int) (l1 : Int) (l2 : Int) (s0 : Int) (F : zF) (B : zB) : zO := f_M_holds_105 rec2 K K 0 s0 l6 l5 l4 l3 l1 l2 F B
set_option maxHeartbeats 4000000 in
set_option maxRecDepth 100000 in
theorem b_M_holds_100 {D : va_G} {ca : Nat → ClassId} {ad : Nat → Int → Nat → Nat} {L : List Nat} {aS vS : Nat → Nat} {A : Nat → Prop} {p : Program} {l : Launch} {e : Env} {s : State} {m : MethodId} {args : Array Value} {below : List Frame} {meth : Method} {c : Code} {K : Nat} {r : Int} {F9 : zF} {B9 : zB} (X : zX D ca L aS vS A p s m args meth c prog_15_method_92_code 10 (Option.none : Option Jvm.ClassFile.FieldType) "StaveHouseModel") {rec2 : Int → Int → Int → zF → zB → zO} (hrec2 : ∀ {l3 : Int} {l1 : Int} {l2 : Int} {F : zF} {B : zB} {H : Heap} {locs : List Loc} {ls : Array Slot}, rec2 l3 l1 l2 F B = some (r, F9, B9) → zH D ca ad lnM nM L F B A H → va_S A s.heap H locs → lv_has ls 10 [(3, .int (iI l3)), (1, .ref (ad 13 l1 0)), (2, .int (iI l2))] → W p l e ({ frames := 1, cells := 0, slots := 0, locals := 24 } : Room) s m args below meth c H locs 0 0 (MQ below (Q_M_holds D ca ad L r F9 B9 A) args s 0 0 A) (F0 m 2 ls [])) {l6 : Int} {l5 : Int} {l4 : Int} {l3 : Int} {l1 : Int} {l2 : Int} {s0 : Int} {F : zF} {B : zB} {H : Heap} {locs : List Loc} {ls : Array Slot} (hf : f_M_holds_100 rec2 K l6 l5 l4 l3 l1 l2 s0 F B = some (r, F9, B9)) (hZ : zH D ca ad lnM nM L F B A H) (hS : va_S A s.heap H locs) (hl : lv_has ls 10 [(6, .int (iI l6)), (5, .int (iI l5)), (4, .int (iI l4)), (3, .int (iI l3)), (1, .ref (ad 13 l1 0)), (2, .int (iI l2))]) : W p l e ({ frames := 1, cells := 0, slots := 0, locals := 24 } : Room) s m args below meth c H locs 0 0 (MQ below (Q_M_holds D ca ad L r F9 B9 A) args s 0 0 A) (F0 m 100 ls [.int (iI s0)]) := by
  obtain ⟨hx, hb, hr, hml, hown, hts, hlk, hK, hA, hL, hX⟩ := id X
  replace hf : (f_M_holds_105 rec2 K K 0 s0 l6 l5 l4 l3 l1 l2 F B) = some (r, F9, B9) := hf
  refine lv_istore (lv' := [(7, .int (iI s0)), (6, .int (iI l6)), (5, .int (iI l5)), (4, .int (iI l4)), (3, .int (iI l3)), (1, .ref (ad 13 l1 0)), (2, .int (iI l2))]) hx hb (D_54 W_prog_15_method_92_code_96 4 rfl rfl) hl (by decide) rfl (fun ls hl => ?_)
  refine lv_iconst (v := iI 0) hx hb (D_3 W_prog_15_method_92_code_96 6 rfl rfl) rfl ?_
  refine lv_istore (lv' := [(8, .int (iI 0)), (7, .int (iI s0)), (6, .int (iI l6)), (5, .int (iI l5)), (4, .int (iI l4)), (3, .int (iI l3)), (1, .ref (ad 13 l1 0)), (2, .int (iI l2))]) hx hb (D_54 W_prog_15_method_92_code_96 7 rfl rfl) hl (by decide) rfl (fun ls hl => ?_)
  exact b_M_holds_105 X hrec2 hf hZ hS (lv_sub hl [0, 1, 2, 3, 4, 5, 6, 7] rfl)

def f_M_holds_81 (rec2 : Int → Int → Int → zF → zB → zO) (K : Nat) (l5 : Int) (l4 : Int) (l3 : Int) (l1 : Int) (l2 : Int) (s0 : Int) (F : zF) (B : zB) : zO := if 0 ≤ l1 ∧ l1 < 3 then if 0 ≤ l5 ∧ l5 < 4000 then if r32 (zand (B 13 l1 18 l5) 1) then (if (zand (B 13 l1 18 l5) 1) ≤ 0 then f_M_holds_100 rec2 K s0 l5 l4 l3 l1 l2 0 F B else f_M_holds_100 rec2 K s0 l5 l4 l3 l1 l2 1 F B) else none else none else none
set_option maxHeartbeats 4000000 in
set_option maxRecDepth 100000 in
theorem b_M_holds_81 {D : va_G} {ca : Nat → ClassId} {ad : Nat → Int → Nat → Nat} {L : List Nat} {aS vS : Nat → Nat} {A : Nat → Prop} {p : Program} {l : Launch} {e : Env} {s : State} {m : MethodId} {args : Array Value} {below : List Frame} {meth : Method} {c : Code} {K : Nat} {r : Int} {F9 : zF} {B9 : zB} (X : zX D ca L aS vS A p s m args meth c prog_15_method_92_code 10 (Option.none : Option Jvm.ClassFile.FieldType) "StaveHouseModel") {rec2 : Int → Int → Int → zF → zB → zO} (hrec2 : ∀ {l3 : Int} {l1 : Int} {l2 : Int} {F : zF} {B : zB} {H : Heap} {locs : List Loc} {ls : Array Slot}, rec2 l3 l1 l2 F B = some (r, F9, B9) → zH D ca ad lnM nM L F B A H → va_S A s.heap H locs → lv_has ls 10 [(3, .int (iI l3)), (1, .ref (ad 13 l1 0)), (2, .int (iI l2))] → W p l e ({ frames := 1, cells := 0, slots := 0, locals := 24 } : Room) s m args below meth c H locs 0 0 (MQ below (Q_M_holds D ca ad L r F9 B9 A) args s 0 0 A) (F0 m 2 ls [])) {l5 : Int} {l4 : Int} {l3 : Int} {l1 : Int} {l2 : Int} {s0 : Int} {F : zF} {B : zB} {H : Heap} {locs : List Loc} {ls : Array Slot} (hf : f_M_holds_81 rec2 K l5 l4 l3 l1 l2 s0 F B = some (r, F9, B9)) (hZ : zH D ca ad lnM nM L F B A H) (hS : va_S A s.heap H locs) (hl : lv_has ls 10 [(5, .int (iI l5)), (4, .int (iI l4)), (3, .int (iI l3)), (1, .ref (ad 13 l1 0)), (2, .int (iI l2))]) : W p l e ({ frames := 1, cells := 0, slots := 0, locals := 24 } : Room) s m args below meth c H locs 0 0 (MQ below (Q_M_holds D ca ad L r F9 B9 A) args s 0 0 A) (F0 m 81 ls [.int (iI s0)]) := by
  obtain ⟨hx, hb, hr, hml, hown, hts, hlk, hK, hA, hL, hX⟩ := id X
  replace hf : (if 0 ≤ l1 ∧ l1 < 3 then if 0 ≤ l5 ∧ l5 < 4000 then if r32 (zand (B 13 l1 18 l5) 1) then (if (zand (B 13 l1 18 l5) 1) ≤ 0 then f_M_holds_100 rec2 K s0 l5 l4 l3 l1 l2 0 F B else f_M_holds_100 rec2 K s0 l5 l4 l3 l1 l2 1 F B) else none else none else none) = some (r, F9, B9) := hf
  refine lv_istore (lv' := [(6, .int (iI s0)), (5, .int (iI l5)), (4, .int (iI l4)), (3, .int (iI l3)), (1, .ref (ad 13 l1 0)), (2, .int (iI l2))]) hx hb (D_54 W_prog_15_method_92_code_64 17 rfl rfl) hl (by decide) rfl (fun ls hl => ?_)
  refine lv_aload_n hx hb (D_43 W_prog_15_method_92_code_64 19 rfl rfl) rfl (lv_at hl 4 rfl) ?_
  obtain ⟨g18, hf⟩ := gif hf
  refine zget (ci := 13) (C := RX13) (T := TX13) (v := .ref (ad 13 l1 (18 + 1))) (k := 18) hx hb hts inW_13 hown hK hZ g18.1 g18.2 rfl (by decide) k_9_154 rfl (D_180 W_prog_15_method_92_code_64 20 rfl rfl rfl) ?_
  refine lv_iload hx hb (D_21 W_prog_15_method_92_code_64 23 rfl rfl) (lv_at hl 1 rfl) ?_
  obtain ⟨g19, hf⟩ := gif hf
  refine zald (ci := 13) (k := 18) hx hb hK rfl hZ g18.1 g18.2 rfl (Nat.le_of_ble_eq_true rfl) g19.1 g19.2 (D_46 W_prog_15_method_92_code_64 25 rfl rfl) ?_
  refine lv_iconst (v := iI 1) hx hb (D_4 W_prog_15_method_92_code_64 26 rfl rfl) rfl ?_
  refine zand_r hx hb (D_126 W_prog_15_method_92_code_64 27 rfl rfl) ?_
  obtain ⟨g20, hf⟩ := gif hf
  refine z0le (tgt := 99) hx hb g20 (D_158 W_prog_15_method_92_code_64 28 rfl rfl rfl) (by decide) (fun h21 => ?_) (fun h21 => ?_)
  · replace hf := gpos hf h21
    refine lv_iconst (v := iI 0) hx hb (D_3 W_prog_15_method_92_code_96 3 rfl rfl) rfl ?_
    exact b_M_holds_100 X hrec2 hf hZ hS (lv_sub hl [0, 1, 2, 3, 4, 5] rfl)
  · replace hf := gneg hf h21
    refine lv_iconst (v := iI 1) hx hb (D_4 W_prog_15_method_92_code_64 31 rfl rfl) rfl ?_
    refine lv_goto (tgt := 100) hx hb (D_167 W_prog_15_method_92_code_96 0 rfl rfl rfl) (by decide) ?_
    exact b_M_holds_100 X hrec2 hf hZ hS (lv_sub hl [0, 1, 2, 3, 4, 5] rfl)

def f_M_holds_80 (rec2 : Int → Int → Int → zF → zB → zO) (K : Nat) (l5 : Int) (l4 : Int) (l3 : Int) (l1 : Int) (l2 : Int) (F : zF) (B : zB) : zO := f_M_holds_81 rec2 K l5 l4 l3 l1 l2 0 F B
set_option maxHeartbeats 4000000 in
set_option maxRecDepth 100000 in
theorem b_M_holds_80 {D : va_G} {ca : Nat → ClassId} {ad : Nat → Int → Nat → Nat} {L : List Nat} {aS vS : Nat → Nat} {A : Nat → Prop} {p : Program} {l : Launch} {e : Env} {s : State} {m : MethodId} {args : Array Value} {below : List Frame} {meth : Method} {c : Code} {K : Nat} {r : Int} {F9 : zF} {B9 : zB} (X : zX D ca L aS vS A p s m args meth c prog_15_method_92_code 10 (Option.none : Option Jvm.ClassFile.FieldType) "StaveHouseModel") {rec2 : Int → Int → Int → zF → zB → zO} (hrec2 : ∀ {l3 : Int} {l1 : Int} {l2 : Int} {F : zF} {B : zB} {H : Heap} {locs : List Loc} {ls : Array Slot}, rec2 l3 l1 l2 F B = some (r, F9, B9) → zH D ca ad lnM nM L F B A H → va_S A s.heap H locs → lv_has ls 10 [(3, .int (iI l3)), (1, .ref (ad 13 l1 0)), (2, .int (iI l2))] → W p l e ({ frames := 1, cells := 0, slots := 0, locals := 24 } : Room) s m args below meth c H locs 0 0 (MQ below (Q_M_holds D ca ad L r F9 B9 A) args s 0 0 A) (F0 m 2 ls [])) {l5 : Int} {l4 : Int} {l3 : Int} {l1 : Int} {l2 : Int} {F : zF} {B : zB} {H : Heap} {locs : List Loc} {ls : Array Slot} (hf : f_M_holds_80 rec2 K l5 l4 l3 l1 l2 F B = some (r, F9, B9)) (hZ : zH D ca ad lnM nM L F B A H) (hS : va_S A s.heap H locs) (hl : lv_has ls 10 [(5, .int (iI l5)), (4, .int (iI l4)), (3, .int (iI l3)), (1, .ref (ad 13 l1 0)), (2, .int (iI l2))]) : W p l e ({ frames := 1, cells := 0, slots := 0, locals := 24 } : Room) s m args below meth c H locs 0 0 (MQ below (Q_M_holds D ca ad L r F9 B9 A) args s 0 0 A) (F0 m 80 ls []) := by
  obtain ⟨hx, hb, hr, hml, hown, hts, hlk, hK, hA, hL, hX⟩ := id X
  replace hf : (f_M_holds_81 rec2 K l5 l4 l3 l1 l2 0 F B) = some (r, F9, B9) := hf
  refine lv_iconst (v := iI 0) hx hb (D_3 W_prog_15_method_92_code_64 16 rfl rfl) rfl ?_
  exact b_M_holds_81 X hrec2 hf hZ hS (lv_sub hl [0, 1, 2, 3, 4] rfl)

def f_M_holds_2 (K : Nat) : Nat → Int → Int → Int → zF → zB → zO
  | 0, _, _, _, _, _ => none
  | n + 1, l3, l1, l2, F, B => if 0 ≤ l1 ∧ l1 < 3 then if 0 ≤ l2 ∧ l2 < 4 then if r32 l3 then if r32 (B 13 l1 13 l2) then (if (B 13 l1 13 l2) ≤ l3 then some (0, F, B) else zbind (f_M_sounding K l1 l2 l3 F B) (fun r6 F6 B6 => if 0 ≤ ((800 * l2) + l3) ∧ ((800 * l2) + l3) < 3200 then if r32 r6 then (if 0 ≤ r6 then if r32 (l3 + 1) then if r32 ((zup4 B6 13 l1 36 ((800 * l2) + l3) 0) 13 l1 13 l2) then (if ((zup4 B6 13 l1 36 ((800 * l2) + l3) 0) 13 l1 13 l2) ≤ (l3 + 1) then f_M_holds_80 (f_M_holds_2 K n) K r6 ((800 * l2) + l3) l3 l1 l2 F6 (zup4 B6 13 l1 36 ((800 * l2) + l3) 0) else if 0 ≤ (((800 * l2) + l3) + 1) ∧ (((800 * l2) + l3) + 1) < 3200 then if r32 ((zup4 B6 13 l1 36 ((800 * l2) + l3) 0) 13 l1 30 (((800 * l2) + l3) + 1)) then if r32 ((zup4 B6 13 l1 36 ((800 * l2) + l3) 0) 13 l1 30 ((800 * l2) + l3)) then (if ((zup4 B6 13 l1 36 ((800 * l2) + l3) 0) 13 l1 30 (((800 * l2) + l3) + 1)) = ((zup4 B6 13 l1 36 ((800 * l2) + l3) 0) 13 l1 30 ((800 * l2) + l3)) then f_M_holds_81 (f_M_holds_2 K n) K r6 ((800 * l2) + l3) l3 l1 l2 1 F6 (zup4 B6 13 l1 36 ((800 * l2) + l3) 0) else f_M_holds_80 (f_M_holds_2 K n) K r6 ((800 * l2) + l3) l3 l1 l2 F6 (zup4 B6 13 l1 36 ((800 * l2) + l3) 0)) else none else none else none) else none else none else f_M_holds_196 (f_M_holds_2 K n) K l3 l1 l2 F6 (zup4 B6 13 l1 36 ((800 * l2) + l3) 0)) else none else none)) else none else none else none else none
set_option maxHeartbeats 4000000 in
set_option maxRecDepth 100000 in
theorem b_M_holds_2 {D : va_G} {ca : Nat → ClassId} {ad : Nat → Int → Nat → Nat} {L : List Nat} {aS vS : Nat → Nat} {A : Nat → Prop} {p : Program} {l : Launch} {e : Env} {s : State} {m : MethodId} {args : Array Value} {below : List Frame} {meth : Method} {c : Code} {K : Nat} {r : Int} {F9 : zF} {B9 : zB} (X : zX D ca L aS vS A p s m args meth c prog_15_method_92_code 10 (Option.none : Option Jvm.ClassFile.FieldType) "StaveHouseModel") : ∀ {n : Nat} {l3 : Int} {l1 : Int} {l2 : Int} {F : zF} {B : zB} {H : Heap} {locs : List Loc} {ls : Array Slot}, f_M_holds_2 K n l3 l1 l2 F B = some (r, F9, B9) → zH D ca ad lnM nM L F B A H → va_S A s.heap H locs → lv_has ls 10 [(3, .int (iI l3)), (1, .ref (ad 13 l1 0)), (2, .int (iI l2))] → W p l e ({ frames := 1, cells := 0, slots := 0, locals := 24 } : Room) s m args below meth c H locs 0 0 (MQ below (Q_M_holds D ca ad L r F9 B9 A) args s 0 0 A) (F0 m 2 ls []) := by
  obtain ⟨hx, hb, hr, hml, hown, hts, hlk, hK, hA, hL, hX⟩ := id X
  intro n
  induction n with
  | zero =>
    intros
    rename_i hf _ _ _
    cases hf
  | succ n ih =>
    intro l3 l1 l2 F B H locs ls hf hZ hS hl
    replace hf : (if 0 ≤ l1 ∧ l1 < 3 then if 0 ≤ l2 ∧ l2 < 4 then if r32 l3 then if r32 (B 13 l1 13 l2) then (if (B 13 l1 13 l2) ≤ l3 then some (0, F, B) else zbind (f_M_sounding K l1 l2 l3 F B) (fun r6 F6 B6 => if 0 ≤ ((800 * l2) + l3) ∧ ((800 * l2) + l3) < 3200 then if r32 r6 then (if 0 ≤ r6 then if r32 (l3 + 1) then if r32 ((zup4 B6 13 l1 36 ((800 * l2) + l3) 0) 13 l1 13 l2) then (if ((zup4 B6 13 l1 36 ((800 * l2) + l3) 0) 13 l1 13 l2) ≤ (l3 + 1) then f_M_holds_80 (f_M_holds_2 K n) K r6 ((800 * l2) + l3) l3 l1 l2 F6 (zup4 B6 13 l1 36 ((800 * l2) + l3) 0) else if 0 ≤ (((800 * l2) + l3) + 1) ∧ (((800 * l2) + l3) + 1) < 3200 then if r32 ((zup4 B6 13 l1 36 ((800 * l2) + l3) 0) 13 l1 30 (((800 * l2) + l3) + 1)) then if r32 ((zup4 B6 13 l1 36 ((800 * l2) + l3) 0) 13 l1 30 ((800 * l2) + l3)) then (if ((zup4 B6 13 l1 36 ((800 * l2) + l3) 0) 13 l1 30 (((800 * l2) + l3) + 1)) = ((zup4 B6 13 l1 36 ((800 * l2) + l3) 0) 13 l1 30 ((800 * l2) + l3)) then f_M_holds_81 (f_M_holds_2 K n) K r6 ((800 * l2) + l3) l3 l1 l2 1 F6 (zup4 B6 13 l1 36 ((800 * l2) + l3) 0) else f_M_holds_80 (f_M_holds_2 K n) K r6 ((800 * l2) + l3) l3 l1 l2 F6 (zup4 B6 13 l1 36 ((800 * l2) + l3) 0)) else none else none else none) else none else none else f_M_holds_196 (f_M_holds_2 K n) K l3 l1 l2 F6 (zup4 B6 13 l1 36 ((800 * l2) + l3) 0)) else none else none)) else none else none else none else none) = some (r, F9, B9) := hf
    refine lv_iload_n hx hb (D_29 W_prog_15_method_92_code_0 2 rfl rfl) rfl (lv_at hl 0 rfl) ?_
    refine lv_aload_n hx hb (D_43 W_prog_15_method_92_code_0 3 rfl rfl) rfl (lv_at hl 1 rfl) ?_
    obtain ⟨g1, hf⟩ := gif hf
    refine zget (ci := 13) (C := RX13) (T := TX13) (v := .ref (ad 13 l1 (13 + 1))) (k := 13) hx hb hts inW_13 hown hK hZ g1.1 g1.2 rfl (by decide) k_9_144 rfl (D_180 W_prog_15_method_92_code_0 4 rfl rfl rfl) ?_
    refine lv_iload_n hx hb (D_28 W_prog_15_method_92_code_0 7 rfl rfl) rfl (lv_at hl 2 rfl) ?_
    obtain ⟨g2, hf⟩ := gif hf
    refine zald (ci := 13) (k := 13) hx hb hK rfl hZ g1.1 g1.2 rfl (Nat.le_of_ble_eq_true rfl) g2.1 g2.2 (D_46 W_prog_15_method_92_code_0 8 rfl rfl) ?_
    obtain ⟨g3, hf⟩ := gif hf
    obtain ⟨g4, hf⟩ := gif hf
    refine zge (tgt := 202) hx hb g3 g4 (D_162 W_prog_15_method_92_code_0 9 rfl rfl rfl) (by decide) (fun h5 => ?_) (fun h5 => ?_)
    · replace hf := gpos hf h5
      cases hf
      exact W.vret hx hb hr (fun t ht hW => ⟨⟨(), rfl, trivial, by rw [ht]; exact hZ, va_K.moved hW.alike hK⟩, hS.F ht⟩) hS.2.2 (D_177 W_prog_15_method_92_code_192 10 rfl rfl) hlk
    · replace hf := gneg hf h5
      refine lv_sipush (v := iI 800) hx hb (D_17 W_prog_15_method_92_code_0 12 rfl rfl rfl) (by decide) ?_
      refine lv_iload_n hx hb (D_28 W_prog_15_method_92_code_0 15 rfl rfl) rfl (lv_at hl 2 rfl) ?_
      refine zmul hx hb (D_104 W_prog_15_method_92_code_0 16 rfl rfl) ?_
      refine lv_iload_n hx hb (D_29 W_prog_15_method_92_code_0 17 rfl rfl) rfl (lv_at hl 0 rfl) ?_
      refine zadd hx hb (D_96 W_prog_15_method_92_code_0 18 rfl rfl) ?_
      refine lv_istore (lv' := [(4, .int (iI ((800 * l2) + l3))), (3, .int (iI l3)), (1, .ref (ad 13 l1 0)), (2, .int (iI l2))]) hx hb (D_54 W_prog_15_method_92_code_0 19 rfl rfl) hl (by decide) rfl (fun ls hl => ?_)
      refine lv_aload_n hx hb (D_43 W_prog_15_method_92_code_0 21 rfl rfl) rfl (lv_at hl 2 rfl) ?_
      refine lv_iload_n hx hb (D_28 W_prog_15_method_92_code_0 22 rfl rfl) rfl (lv_at hl 3 rfl) ?_
      refine lv_iload_n hx hb (D_29 W_prog_15_method_92_code_0 23 rfl rfl) rfl (lv_at hl 1 rfl) ?_
      obtain ⟨r6, F6, B6, hc6, hf⟩ := gbind hf
      refine va_calli (va_runS (As := [.ref (ad 13 l1 0), .int (iI l2), .int (iI l3)]) (rest := []) ⟨hx, hb, hml, hown, hts⟩ (c_M_sounding (l := l) hc6) (va_cwS 3 hts (gdS k_13_199 k_13_200 k_1_9 k_13_201) rfl rfl rfl (by decide +kernel) ⟨Nat.le_of_ble_eq_true rfl, Nat.le_of_ble_eq_true rfl⟩) (zPS X hZ hS [.ref (ad 13 l1 0), .int (iI l2), .int (iI l3)]) rfl rfl hl.1 rfl (lv_room (Nat.le_of_ble_eq_true rfl)) (D_184 W_prog_15_method_92_code_0 24 rfl rfl rfl) ⟨Nat.le_of_ble_eq_true rfl, Nat.le_of_ble_eq_true rfl⟩) hS (fun q _ h => zAin X hS q h) (zAin X hS) (fun p6 u6 t6 H6 locs6 ht6 hv6 hw6 hB6 hz6 hk6 hS6 => ?_)
      have hZ6 := zBack X ht6 hB6
      subst hw6
      refine lv_istore (lv' := [(5, .int (iI r6)), (4, .int (iI ((800 * l2) + l3))), (3, .int (iI l3)), (1, .ref (ad 13 l1 0)), (2, .int (iI l2))]) hx hb (D_54 W_prog_15_method_92_code_0 27 rfl rfl) hl (by decide) rfl (fun ls hl => ?_)
      refine lv_aload_n hx hb (D_43 W_prog_15_method_92_code_0 29 rfl rfl) rfl (lv_at hl 3 rfl) ?_
      refine zget (ci := 13) (C := RX13) (T := TX13) (v := .ref (ad 13 l1 (36 + 1))) (k := 36) hx hb hts inW_13 hown hK hZ6 g1.1 g1.2 rfl (by decide) k_9_190 rfl (D_180 W_prog_15_method_92_code_0 30 rfl rfl rfl) ?_
      refine lv_iload hx hb (D_21 W_prog_15_method_92_code_32 1 rfl rfl) (lv_at hl 1 rfl) ?_
      refine lv_iconst (v := iI 0) hx hb (D_3 W_prog_15_method_92_code_32 3 rfl rfl) rfl ?_
      obtain ⟨g7, hf⟩ := gif hf
      refine zast (ci := 13) (k := 36) hx hb hK rfl hZ6 hS6 g1.1 g1.2 rfl (Nat.le_of_ble_eq_true rfl) g7.1 g7.2 (D_79 W_prog_15_method_92_code_32 4 rfl rfl) (fun H8 locs8 hZ8 hS8 => ?_)
      refine lv_iload hx hb (D_21 W_prog_15_method_92_code_32 5 rfl rfl) (lv_at hl 0 rfl) ?_
      obtain ⟨g9, hf⟩ := gif hf
      refine z0ge (tgt := 45) hx hb g9 (D_156 W_prog_15_method_92_code_32 7 rfl rfl rfl) (by decide) (fun h10 => ?_) (fun h10 => ?_)
      · replace hf := gpos hf h10
        refine lv_iload_n hx hb (D_29 W_prog_15_method_92_code_32 13 rfl rfl) rfl (lv_at hl 2 rfl) ?_
        refine lv_iconst (v := iI 1) hx hb (D_4 W_prog_15_method_92_code_32 14 rfl rfl) rfl ?_
        refine zadd hx hb (D_96 W_prog_15_method_92_code_32 15 rfl rfl) ?_
        refine lv_aload_n hx hb (D_43 W_prog_15_method_92_code_32 16 rfl rfl) rfl (lv_at hl 3 rfl) ?_
        refine zget (ci := 13) (C := RX13) (T := TX13) (v := .ref (ad 13 l1 (13 + 1))) (k := 13) hx hb hts inW_13 hown hK hZ8 g1.1 g1.2 rfl (by decide) k_9_144 rfl (D_180 W_prog_15_method_92_code_32 17 rfl rfl rfl) ?_
        refine lv_iload_n hx hb (D_28 W_prog_15_method_92_code_32 20 rfl rfl) rfl (lv_at hl 4 rfl) ?_
        refine zald (ci := 13) (k := 13) hx hb hK rfl hZ8 g1.1 g1.2 rfl (Nat.le_of_ble_eq_true rfl) g2.1 g2.2 (D_46 W_prog_15_method_92_code_32 21 rfl rfl) ?_
        obtain ⟨g11, hf⟩ := gif hf
        obtain ⟨g12, hf⟩ := gif hf
        refine zge (tgt := 80) hx hb g11 g12 (D_162 W_prog_15_method_92_code_32 22 rfl rfl rfl) (by decide) (fun h13 => ?_) (fun h13 => ?_)
        · replace hf := gpos hf h13
          exact b_M_holds_80 X ih hf hZ8 hS8 (lv_sub hl [0, 1, 2, 3, 4] rfl)
        · replace hf := gneg hf h13
          refine lv_aload_n hx hb (D_43 W_prog_15_method_92_code_32 25 rfl rfl) rfl (lv_at hl 3 rfl) ?_
          refine zget (ci := 13) (C := RX13) (T := TX13) (v := .ref (ad 13 l1 (30 + 1))) (k := 30) hx hb hts inW_13 hown hK hZ8 g1.1 g1.2 rfl (by decide) k_9_178 rfl (D_180 W_prog_15_method_92_code_32 26 rfl rfl rfl) ?_
          refine lv_iload hx hb (D_21 W_prog_15_method_92_code_32 29 rfl rfl) (lv_at hl 1 rfl) ?_
          refine lv_iconst (v := iI 1) hx hb (D_4 W_prog_15_method_92_code_32 31 rfl rfl) rfl ?_
          refine zadd hx hb (D_96 W_prog_15_method_92_code_64 0 rfl rfl) ?_
          obtain ⟨g14, hf⟩ := gif hf
          refine zald (ci := 13) (k := 30) hx hb hK rfl hZ8 g1.1 g1.2 rfl (Nat.le_of_ble_eq_true rfl) g14.1 g14.2 (D_46 W_prog_15_method_92_code_64 1 rfl rfl) ?_
          refine lv_aload_n hx hb (D_43 W_prog_15_method_92_code_64 2 rfl rfl) rfl (lv_at hl 3 rfl) ?_
          refine zget (ci := 13) (C := RX13) (T := TX13) (v := .ref (ad 13 l1 (30 + 1))) (k := 30) hx hb hts inW_13 hown hK hZ8 g1.1 g1.2 rfl (by decide) k_9_178 rfl (D_180 W_prog_15_method_92_code_64 3 rfl rfl rfl) ?_
          refine lv_iload hx hb (D_21 W_prog_15_method_92_code_64 6 rfl rfl) (lv_at hl 1 rfl) ?_
          refine zald (ci := 13) (k := 30) hx hb hK rfl hZ8 g1.1 g1.2 rfl (Nat.le_of_ble_eq_true rfl) g7.1 g7.2 (D_46 W_prog_15_method_92_code_64 8 rfl rfl) ?_
          obtain ⟨g15, hf⟩ := gif hf
          obtain ⟨g16, hf⟩ := gif hf
          refine zne (tgt := 80) hx hb g15 g16 (D_160 W_prog_15_method_92_code_64 9 rfl rfl rfl) (by decide) (fun h17 => ?_) (fun h17 => ?_)
          · replace hf := gneg hf h17
            exact b_M_holds_80 X ih hf hZ8 hS8 (lv_sub hl [0, 1, 2, 3, 4] rfl)
          · replace hf := gpos hf h17
            refine lv_iconst (v := iI 1) hx hb (D_4 W_prog_15_method_92_code_64 12 rfl rfl) rfl ?_
            refine lv_goto (tgt := 81) hx hb (D_167 W_prog_15_method_92_code_64 13 rfl rfl rfl) (by decide) ?_
            exact b_M_holds_81 X ih hf hZ8 hS8 (lv_sub hl [0, 1, 2, 3, 4] rfl)
      · replace hf := gneg hf h10
        refine lv_goto (tgt := 196) hx hb (D_167 W_prog_15_method_92_code_32 10 rfl rfl rfl) (by decide) ?_
        exact b_M_holds_196 X ih hf hZ8 hS8 (lv_sub hl [2, 3, 4] rfl)

def f_M_holds (K : Nat) (l1 : Int) (l2 : Int) (F : zF) (B : zB) : zO := f_M_holds_2 K K 0 l1 l2 F B
set_option maxHeartbeats 4000000 in
set_option maxRecDepth 100000 in
theorem c_M_holds {l : Launch} {D : va_G} {ca : Nat → ClassId} {ad : Nat → Int → Nat → Nat} {L : List Nat} {aS vS : Nat → Nat} {sz K : Nat}  {l1 : Int} {l2 : Int} {F F9 : zF} {B B9 : zB} {r : Int} (hf : f_M_holds K l1 l2 F B = some (r, F9, B9)) : Met l ({ cls := "StaveHouseModel", name := "holds", desc := "(LStaveHouseModel$Piece;I)V" } : Jvm.MethodName) (Cond.code ({ cls := "StaveHouseModel", name := "holds", desc := "(LStaveHouseModel$Piece;I)V" } : Jvm.MethodName) prog_15_method_92_code 10 (Option.none : Option Jvm.ClassFile.FieldType) :: wAll) ({ frames := 1, cells := 0, slots := 0, locals := 24 } : Room) (va_Pc [.ref (ad 14 0 0), .ref (ad 13 l1 0), .int (iI l2)] (zPre D ca ad lnM nM L aS vS F B sz)) (Q_M_holds D ca ad L r F9 B9 (zA L sz)) 0 0 (zA L sz) := by
  refine zMet (Qc := Q_M_holds D ca ad L r F9 B9) (lv := [(0, .ref (ad 14 0 0)), (1, .ref (ad 13 l1 0)), (2, .int (iI l2))]) (by decide) (Nat.le_of_ble_eq_true rfl) rfl (fun A p e s m below meth c ls X hZ hS hl => ?_)
  obtain ⟨hx, hb, hr, hml, hown, hts, hlk, hK, hA, hL, hX⟩ := id X
  replace hf : (f_M_holds_2 K K 0 l1 l2 F B) = some (r, F9, B9) := hf
  refine lv_iconst (v := iI 0) hx hb (D_3 W_prog_15_method_92_code_0 0 rfl rfl) rfl ?_
  refine lv_istore_n (lv' := [(3, .int (iI 0)), (0, .ref (ad 14 0 0)), (1, .ref (ad 13 l1 0)), (2, .int (iI l2))]) hx hb (D_62 W_prog_15_method_92_code_0 1 rfl rfl) rfl hl (by decide) rfl (fun ls hl => ?_)
  exact b_M_holds_2 X hf hZ hS (lv_sub hl [0, 2, 3] rfl)

