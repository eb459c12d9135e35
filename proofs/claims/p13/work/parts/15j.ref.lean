theorem k_15_139 : (Jvm.Cond.methodLink "StaveHouseModel" (1275 : Nat) ({ cls := "StaveHouseModel", name := "perfect", desc := "(LStaveHouseModel$Piece;II)I" } : Jvm.MethodName)) ∈ wAll := wA_15 (j := 139) rfl rfl
theorem k_15_140 : (Jvm.Cond.static ({ cls := "StaveHouseModel", name := "perfect", desc := "(LStaveHouseModel$Piece;II)I" } : Jvm.MethodName)) ∈ wAll := wA_15 (j := 140) rfl rfl
theorem k_15_141 : (Jvm.Cond.code ({ cls := "StaveHouseModel", name := "perfect", desc := "(LStaveHouseModel$Piece;II)I" } : Jvm.MethodName) prog_15_method_188_code (8 : Nat) (Option.some Jvm.ClassFile.FieldType.int)) ∈ wAll := wA_15 (j := 141) rfl rfl
theorem k_11_57 : (Jvm.Cond.fieldLink "StaveHouseModel" (196 : Nat) "StaveHouseModel" "least" "[J") ∈ wAll := wA_11 (j := 57) rfl rfl
theorem k_11_58 : (Jvm.Cond.fieldLink "StaveHouseModel" (199 : Nat) "StaveHouseModel" "most" "[I") ∈ wAll := wA_11 (j := 58) rfl rfl
theorem k_12_96 : (Jvm.Cond.methodLink "StaveHouseModel" (855 : Nat) ({ cls := "StaveHouseModel", name := "price", desc := "(LStaveHouseModel$Piece;III)J" } : Jvm.MethodName)) ∈ wAll := wA_12 (j := 96) rfl rfl
theorem k_12_97 : (Jvm.Cond.static ({ cls := "StaveHouseModel", name := "price", desc := "(LStaveHouseModel$Piece;III)J" } : Jvm.MethodName)) ∈ wAll := wA_12 (j := 97) rfl rfl
theorem k_12_98 : (Jvm.Cond.code ({ cls := "StaveHouseModel", name := "price", desc := "(LStaveHouseModel$Piece;III)J" } : Jvm.MethodName) prog_15_method_107_code (6 : Nat) (Option.some Jvm.ClassFile.FieldType.long)) ∈ wAll := wA_12 (j := 98) rfl rfl
theorem k_13_7 : (Jvm.Cond.methodLink "StaveHouseModel" (1036 : Nat) ({ cls := "StaveHouseModel", name := "expect", desc := "(Ljava/lang/String;)V" } : Jvm.MethodName)) ∈ wAll := wA_13 (j := 7) rfl rfl
theorem k_13_9 : (Jvm.Cond.instanceMethod ({ cls := "StaveHouseModel", name := "expect", desc := "(Ljava/lang/String;)V" } : Jvm.MethodName)) ∈ wAll := wA_13 (j := 9) rfl rfl
theorem ks_150 : (Jvm.Cond.selects "StaveHouseModel" ({ cls := "StaveHouseModel", name := "expect", desc := "(Ljava/lang/String;)V" } : Jvm.MethodName) ({ cls := "StaveHouseModel", name := "expect", desc := "(Ljava/lang/String;)V" } : Jvm.MethodName)) ∈ wAll := wA_s (j := 150) rfl rfl
theorem k_13_10 : (Jvm.Cond.code ({ cls := "StaveHouseModel", name := "expect", desc := "(Ljava/lang/String;)V" } : Jvm.MethodName) prog_15_method_137_code (4 : Nat) (Option.none : Option Jvm.ClassFile.FieldType)) ∈ wAll := wA_13 (j := 10) rfl rfl
theorem k_13_31 : (Jvm.Cond.constantLong "StaveHouseModel" (1039 : Nat) (6 : Int64)) ∈ wAll := wA_13 (j := 31) rfl rfl
theorem k_13_32 : (Jvm.Cond.methodLink "StaveHouseModel" (1041 : Nat) ({ cls := "StaveHouseModel", name := "within", desc := "(III)I" } : Jvm.MethodName)) ∈ wAll := wA_13 (j := 32) rfl rfl
theorem k_13_34 : (Jvm.Cond.instanceMethod ({ cls := "StaveHouseModel", name := "within", desc := "(III)I" } : Jvm.MethodName)) ∈ wAll := wA_13 (j := 34) rfl rfl
theorem ks_156 : (Jvm.Cond.selects "StaveHouseModel" ({ cls := "StaveHouseModel", name := "within", desc := "(III)I" } : Jvm.MethodName) ({ cls := "StaveHouseModel", name := "within", desc := "(III)I" } : Jvm.MethodName)) ∈ wAll := wA_s (j := 156) rfl rfl
theorem k_13_35 : (Jvm.Cond.code ({ cls := "StaveHouseModel", name := "within", desc := "(III)I" } : Jvm.MethodName) prog_15_method_139_code (7 : Nat) (Option.some Jvm.ClassFile.FieldType.int)) ∈ wAll := wA_13 (j := 35) rfl rfl
theorem k_13_48 : (Jvm.Cond.methodLink "StaveHouseModel" (1051 : Nat) ({ cls := "StaveHouseModel", name := "meta", desc := "()Z" } : Jvm.MethodName)) ∈ wAll := wA_13 (j := 48) rfl rfl
theorem k_13_50 : (Jvm.Cond.instanceMethod ({ cls := "StaveHouseModel", name := "meta", desc := "()Z" } : Jvm.MethodName)) ∈ wAll := wA_13 (j := 50) rfl rfl
theorem ks_160 : (Jvm.Cond.selects "StaveHouseModel" ({ cls := "StaveHouseModel", name := "meta", desc := "()Z" } : Jvm.MethodName) ({ cls := "StaveHouseModel", name := "meta", desc := "()Z" } : Jvm.MethodName)) ∈ wAll := wA_s (j := 160) rfl rfl
theorem k_13_51 : (Jvm.Cond.code ({ cls := "StaveHouseModel", name := "meta", desc := "()Z" } : Jvm.MethodName) prog_15_method_148_code (8 : Nat) (Option.some Jvm.ClassFile.FieldType.boolean)) ∈ wAll := wA_13 (j := 51) rfl rfl
theorem k_13_56 : (Jvm.Cond.methodLink "StaveHouseModel" (1057 : Nat) ({ cls := "StaveHouseModel", name := "event", desc := "(IIIIIJI)V" } : Jvm.MethodName)) ∈ wAll := wA_13 (j := 56) rfl rfl
theorem k_13_58 : (Jvm.Cond.instanceMethod ({ cls := "StaveHouseModel", name := "event", desc := "(IIIIIJI)V" } : Jvm.MethodName)) ∈ wAll := wA_13 (j := 58) rfl rfl
theorem ks_162 : (Jvm.Cond.selects "StaveHouseModel" ({ cls := "StaveHouseModel", name := "event", desc := "(IIIIIJI)V" } : Jvm.MethodName) ({ cls := "StaveHouseModel", name := "event", desc := "(IIIIIJI)V" } : Jvm.MethodName)) ∈ wAll := wA_s (j := 162) rfl rfl
theorem k_13_59 : (Jvm.Cond.code ({ cls := "StaveHouseModel", name := "event", desc := "(IIIIIJI)V" } : Jvm.MethodName) prog_15_method_147_code (11 : Nat) (Option.none : Option Jvm.ClassFile.FieldType)) ∈ wAll := wA_13 (j := 59) rfl rfl
theorem k_13_85 : (Jvm.Cond.methodLink "StaveHouseModel" (1077 : Nat) ({ cls := "StaveHouseModel", name := "gridPlace", desc := "(JI)J" } : Jvm.MethodName)) ∈ wAll := wA_13 (j := 85) rfl rfl
theorem k_13_87 : (Jvm.Cond.instanceMethod ({ cls := "StaveHouseModel", name := "gridPlace", desc := "(JI)J" } : Jvm.MethodName)) ∈ wAll := wA_13 (j := 87) rfl rfl
theorem ks_166 : (Jvm.Cond.selects "StaveHouseModel" ({ cls := "StaveHouseModel", name := "gridPlace", desc := "(JI)J" } : Jvm.MethodName) ({ cls := "StaveHouseModel", name := "gridPlace", desc := "(JI)J" } : Jvm.MethodName)) ∈ wAll := wA_s (j := 166) rfl rfl
theorem k_13_88 : (Jvm.Cond.code ({ cls := "StaveHouseModel", name := "gridPlace", desc := "(JI)J" } : Jvm.MethodName) prog_15_method_151_code (4 : Nat) (Option.some Jvm.ClassFile.FieldType.long)) ∈ wAll := wA_13 (j := 88) rfl rfl
theorem k_13_91 : (Jvm.Cond.methodLink "StaveHouseModel" (1081 : Nat) ({ cls := "StaveHouseModel", name := "downEvent", desc := "(IJII)V" } : Jvm.MethodName)) ∈ wAll := wA_13 (j := 91) rfl rfl
theorem k_13_93 : (Jvm.Cond.instanceMethod ({ cls := "StaveHouseModel", name := "downEvent", desc := "(IJII)V" } : Jvm.MethodName)) ∈ wAll := wA_13 (j := 93) rfl rfl
theorem ks_167 : (Jvm.Cond.selects "StaveHouseModel" ({ cls := "StaveHouseModel", name := "downEvent", desc := "(IJII)V" } : Jvm.MethodName) ({ cls := "StaveHouseModel", name := "downEvent", desc := "(IJII)V" } : Jvm.MethodName)) ∈ wAll := wA_s (j := 167) rfl rfl
theorem k_13_94 : (Jvm.Cond.code ({ cls := "StaveHouseModel", name := "downEvent", desc := "(IJII)V" } : Jvm.MethodName) prog_15_method_156_code (8 : Nat) (Option.none : Option Jvm.ClassFile.FieldType)) ∈ wAll := wA_13 (j := 94) rfl rfl
theorem k_13_99 : (Jvm.Cond.methodLink "StaveHouseModel" (1085 : Nat) ({ cls := "StaveHouseModel", name := "six", desc := "(II)I" } : Jvm.MethodName)) ∈ wAll := wA_13 (j := 99) rfl rfl
theorem k_13_101 : (Jvm.Cond.instanceMethod ({ cls := "StaveHouseModel", name := "six", desc := "(II)I" } : Jvm.MethodName)) ∈ wAll := wA_13 (j := 101) rfl rfl
theorem ks_169 : (Jvm.Cond.selects "StaveHouseModel" ({ cls := "StaveHouseModel", name := "six", desc := "(II)I" } : Jvm.MethodName) ({ cls := "StaveHouseModel", name := "six", desc := "(II)I" } : Jvm.MethodName)) ∈ wAll := wA_s (j := 169) rfl rfl
theorem k_13_102 : (Jvm.Cond.code ({ cls := "StaveHouseModel", name := "six", desc := "(II)I" } : Jvm.MethodName) prog_15_method_155_code (7 : Nat) (Option.some Jvm.ClassFile.FieldType.int)) ∈ wAll := wA_13 (j := 102) rfl rfl
theorem W_prog_15_method_189_code_0 : chW prog_15_method_189_code 0 [42, 27, 29, 184, 4, 245, 54, 5, 42, 27, 21, 4, 184, 4, 245, 54, 6, 42, 27, 4, 100, 29, 184, 4, 245, 54, 7, 42, 27, 4, 100, 21, 4, 184, 4, 245] := chW_of (by decide +kernel)
theorem W_prog_15_method_189_code_32 : chW prog_15_method_189_code 32 [4, 184, 4, 245, 54, 8, 21, 5, 155, 0, 37, 21, 6, 155, 0, 32, 21, 7, 155, 0, 27, 21, 8, 155, 0, 22, 42, 27, 29, 184, 4, 248, 153, 0, 13, 42] := chW_of (by decide +kernel)
theorem W_prog_15_method_189_code_64 : chW prog_15_method_189_code 64 [153, 0, 13, 42, 27, 21, 4, 184, 4, 248, 154, 0, 5, 3, 172, 42, 21, 5, 184, 4, 242, 42, 21, 7, 184, 4, 242, 100, 54, 9, 42, 21, 6, 184, 4, 242] := chW_of (by decide +kernel)
theorem W_prog_15_method_189_code_96 : chW prog_15_method_189_code 96 [6, 184, 4, 242, 42, 21, 8, 184, 4, 242, 100, 54, 10, 21, 9, 158, 0, 8, 21, 10, 157, 0, 13, 21, 9, 156, 0, 12, 21, 10, 156, 0, 7, 4, 167, 0] := chW_of (by decide +kernel)
theorem W_prog_15_method_189_code_128 : chW prog_15_method_189_code 128 [7, 4, 167, 0, 4, 3, 54, 11, 21, 11, 154, 0, 5, 3, 172, 42, 21, 5, 21, 6, 184, 4, 251, 54, 12, 42, 21, 7, 21, 8, 184, 4, 251, 54, 13, 28] := chW_of (by decide +kernel)
theorem W_prog_15_method_189_code_160 : chW prog_15_method_189_code 160 [251, 54, 13, 28, 6, 162, 0, 21, 21, 12, 28, 160, 0, 13, 21, 13, 28, 160, 0, 7, 4, 167, 0, 4, 3, 172, 42, 21, 5, 184, 4, 242, 42, 21, 6, 184] := chW_of (by decide +kernel)
theorem W_prog_15_method_189_code_192 : chW prog_15_method_189_code 192 [42, 21, 6, 184, 4, 242, 161, 0, 21, 42, 180, 2, 103, 21, 5, 46, 42, 180, 2, 103, 21, 7, 46, 100, 167, 0, 18, 42, 180, 2, 103, 21, 6, 46, 42, 180] := chW_of (by decide +kernel)
theorem W_prog_15_method_189_code_224 : chW prog_15_method_189_code 224 [6, 46, 42, 180, 2, 103, 21, 8, 46, 100, 54, 14, 21, 12, 158, 0, 27, 21, 13, 21, 12, 159, 0, 20, 21, 14, 5, 163, 0, 10, 21, 14, 16, 254, 162, 0] := chW_of (by decide +kernel)
theorem W_prog_15_method_189_code_256 : chW prog_15_method_189_code 256 [16, 254, 162, 0, 7, 4, 167, 0, 4, 3, 172] := chW_of (by decide +kernel)
theorem W_prog_15_method_108_code_0 : chW prog_15_method_108_code 0 [42, 27, 182, 3, 83, 78, 45, 198, 0, 17, 28, 17, 0, 200, 161, 0, 10, 28, 17, 7, 208, 164, 0, 5, 2, 172, 42, 180, 0, 196, 45, 180, 2, 216, 9, 80] := chW_of (by decide +kernel)
theorem W_prog_15_method_108_code_32 : chW prog_15_method_108_code 32 [2, 216, 9, 80, 45, 180, 2, 216, 4, 100, 54, 4, 21, 4, 155, 0, 118, 42, 180, 0, 199, 21, 4, 3, 79, 4, 54, 5, 21, 4, 21, 5, 96, 45, 180, 2] := chW_of (by decide +kernel)
theorem W_prog_15_method_108_code_160 : chW prog_15_method_108_code 160 [255, 167, 255, 139, 45, 3, 181, 3, 91, 45, 28, 181, 3, 94, 3, 54, 4, 21, 4, 45, 180, 2, 216, 162, 0, 100, 45, 180, 3, 97, 45, 180, 3, 91, 21, 4] := chW_of (by decide +kernel)
theorem W_prog_15_method_108_code_64 : chW prog_15_method_108_code 64 [96, 45, 180, 2, 216, 163, 0, 89, 45, 21, 4, 21, 5, 28, 184, 3, 87, 55, 6, 22, 6, 9, 148, 156, 0, 6, 167, 0, 62, 22, 6, 42, 180, 0, 196, 21] := chW_of (by decide +kernel)
theorem W_prog_15_method_108_code_128 : chW prog_15_method_108_code 128 [158, 0, 6, 167, 0, 21, 42, 180, 0, 196, 21, 4, 22, 8, 80, 42, 180, 0, 199, 21, 4, 21, 5, 79, 132, 5, 1, 167, 255, 161, 132, 4, 255, 167, 255, 139] := chW_of (by decide +kernel)
theorem d_15_108_158 : decode prog_15_method_108_code 158 = .ok (.iinc 4 (-1), 3) := D_132 W_prog_15_method_108_code_128 30 rfl rfl rfl
theorem W_prog_15_method_108_code_96 : chW prog_15_method_108_code 96 [180, 0, 196, 21, 4, 21, 5, 96, 47, 97, 55, 8, 42, 180, 0, 199, 21, 4, 46, 158, 0, 19, 22, 8, 42, 180, 0, 196, 21, 4, 47, 148, 158, 0, 6, 167] := chW_of (by decide +kernel)
theorem d_15_108_152 : decode prog_15_method_108_code 152 = .ok (.iinc 5 1, 3) := D_132 W_prog_15_method_108_code_128 24 rfl rfl rfl
theorem W_prog_15_method_108_code_256 : chW prog_15_method_108_code 256 [87, 80, 45, 89, 180, 3, 91, 4, 96, 181, 3, 91, 21, 4, 42, 180, 0, 199, 21, 4, 46, 96, 54, 4, 167, 255, 153, 45, 180, 3, 91, 172] := chW_of (by decide +kernel)
theorem W_prog_15_method_108_code_192 : chW prog_15_method_108_code 192 [3, 91, 21, 4, 79, 45, 180, 3, 100, 45, 180, 3, 91, 42, 180, 0, 199, 21, 4, 46, 79, 45, 180, 3, 103, 45, 180, 3, 91, 45, 21, 4, 42, 180, 0, 199] := chW_of (by decide +kernel)
theorem W_prog_15_method_108_code_224 : chW prog_15_method_108_code 224 [42, 180, 0, 199, 21, 4, 46, 184, 3, 76, 79, 45, 180, 3, 105, 45, 180, 3, 91, 45, 21, 4, 42, 180, 0, 199, 21, 4, 46, 28, 184, 3, 87, 80, 45, 89] := chW_of (by decide +kernel)
theorem W_prog_15_method_119_code_0 : chW prog_15_method_119_code 0 [17, 3, 232, 28, 104, 29, 96, 54, 6, 43, 180, 2, 9, 21, 6, 47, 43, 180, 2, 12, 21, 6, 47, 184, 3, 117, 54, 7, 42, 43, 21, 6, 182, 3, 134, 54] := chW_of (by decide +kernel)
theorem W_prog_15_method_119_code_32 : chW prog_15_method_119_code 32 [182, 3, 134, 54, 8, 21, 4, 21, 5, 184, 2, 63, 54, 9, 21, 4, 16, 62, 160, 0, 8, 21, 9, 167, 0, 24, 21, 4, 4, 96, 43, 180, 1, 54, 21, 4] := chW_of (by decide +kernel)
theorem W_prog_15_method_119_code_64 : chW prog_15_method_119_code 64 [1, 54, 21, 4, 4, 96, 16, 7, 112, 184, 3, 16, 184, 2, 63, 54, 10, 3, 54, 11, 21, 7, 54, 12, 21, 12, 21, 8, 162, 0, 68, 42, 21, 12, 21, 12] := chW_of (by decide +kernel)
theorem W_prog_15_method_119_code_160 : chW prog_15_method_119_code 160 [177] := chW_of (by decide +kernel)
theorem W_prog_15_method_119_code_96 : chW prog_15_method_119_code 96 [21, 12, 21, 12, 16, 12, 96, 21, 8, 162, 0, 11, 21, 12, 16, 12, 96, 167, 0, 5, 21, 8, 21, 11, 153, 0, 8, 21, 10, 167, 0, 5, 21, 9, 42, 43] := chW_of (by decide +kernel)
theorem W_prog_15_method_119_code_128 : chW prog_15_method_119_code 128 [21, 9, 42, 43, 21, 6, 182, 3, 137, 28, 29, 182, 3, 140, 21, 11, 154, 0, 7, 4, 167, 0, 4, 3, 54, 11, 132, 12, 12, 167, 255, 187, 177] := chW_of (by decide +kernel)
theorem d_15_119_154 : decode prog_15_method_119_code 154 = .ok (.iinc 12 12, 3) := D_132 W_prog_15_method_119_code_128 26 rfl rfl rfl
theorem W_prog_15_method_141_code_0 : chW prog_15_method_141_code 0 [42, 19, 3, 201, 182, 4, 12, 42, 180, 3, 227, 60, 42, 7, 182, 3, 238, 65, 42, 182, 1, 120, 153, 0, 17, 32, 20, 4, 15, 148, 156, 0, 9, 42, 6, 27] := chW_of (by decide +kernel)
theorem W_prog_15_method_141_code_32 : chW prog_15_method_141_code 32 [9, 42, 6, 27, 182, 3, 232, 42, 180, 3, 227, 133, 32, 97, 55, 4, 42, 182, 3, 235, 153, 0, 21, 42, 182, 1, 120, 153, 0, 14, 42, 4, 42, 180, 3, 227] := chW_of (by decide +kernel)
theorem W_prog_15_method_141_code_64 : chW prog_15_method_141_code 64 [42, 180, 3, 227, 4, 100, 182, 3, 232, 42, 182, 3, 235, 4, 164, 0, 21, 42, 182, 1, 120, 153, 0, 14, 42, 4, 42, 180, 3, 227, 4, 100, 182, 3, 232, 42] := chW_of (by decide +kernel)
theorem W_prog_15_method_141_code_96 : chW prog_15_method_141_code 96 [182, 3, 232, 42, 180, 0, 233, 3, 42, 5, 4, 16, 8, 182, 4, 17, 79, 42, 180, 0, 233, 4, 42, 5, 4, 17, 3, 192, 182, 4, 17, 79, 22, 4, 173] := chW_of (by decide +kernel)
theorem W_prog_15_method_141_code_128 : chW prog_15_method_141_code 128 [22, 4, 173] := chW_of (by decide +kernel)
theorem W_prog_15_method_145_code_0 : chW prog_15_method_145_code 0 [9, 65, 3, 54, 4, 3, 54, 5, 42, 180, 3, 243, 54, 6, 42, 180, 1, 19, 27, 2, 79, 42, 182, 1, 120, 153, 0, 241, 21, 5, 154, 0, 236, 42, 180, 3] := chW_of (by decide +kernel)
theorem W_prog_15_method_145_code_32 : chW prog_15_method_145_code 32 [236, 42, 180, 3, 227, 133, 42, 180, 3, 229, 148, 156, 0, 223, 32, 42, 182, 4, 24, 133, 97, 65, 42, 180, 3, 227, 54, 7, 42, 182, 3, 235, 54, 8, 42, 182] := chW_of (by decide +kernel)
theorem W_prog_15_method_145_code_64 : chW prog_15_method_145_code 64 [54, 8, 42, 182, 1, 120, 154, 0, 6, 167, 0, 193, 21, 8, 17, 0, 255, 160, 0, 15, 42, 182, 4, 27, 54, 5, 3, 54, 4, 167, 0, 170, 21, 8, 17, 0] := chW_of (by decide +kernel)
theorem W_prog_15_method_145_code_96 : chW prog_15_method_145_code 96 [21, 8, 17, 0, 240, 159, 0, 11, 21, 8, 17, 0, 247, 160, 0, 43, 42, 182, 4, 24, 54, 9, 3, 54, 10, 21, 10, 21, 9, 162, 0, 21, 42, 182, 1, 120] := chW_of (by decide +kernel)
theorem W_prog_15_method_145_code_128 : chW prog_15_method_145_code 128 [42, 182, 1, 120, 153, 0, 14, 42, 182, 3, 235, 87, 132, 10, 1, 167, 255, 234, 3, 54, 4, 167, 0, 114, 21, 8, 17, 0, 240, 162, 0, 16, 21, 8, 17, 0] := chW_of (by decide +kernel)
theorem W_prog_15_method_145_code_160 : chW prog_15_method_145_code 160 [21, 8, 17, 0, 128, 162, 0, 18, 21, 4, 154, 0, 13, 42, 4, 21, 7, 182, 3, 232, 167, 0, 83, 21, 8, 17, 0, 128, 161, 0, 7, 21, 8, 54, 4, 21] := chW_of (by decide +kernel)
theorem W_prog_15_method_145_code_256 : chW prog_15_method_145_code 256 [10, 32, 21, 7, 182, 4, 33, 167, 255, 14, 21, 6, 54, 7, 21, 7, 42, 180, 3, 243, 162, 0, 29, 42, 180, 1, 16, 21, 7, 47, 9, 148, 156, 0, 11, 42] := chW_of (by decide +kernel)
theorem W_prog_15_method_145_code_288 : chW prog_15_method_145_code 288 [156, 0, 11, 42, 180, 1, 16, 21, 7, 32, 80, 132, 7, 1, 167, 255, 224, 42, 180, 1, 19, 27, 46, 156, 0, 10, 42, 180, 1, 19, 27, 3, 79, 177] := chW_of (by decide +kernel)
theorem W_prog_15_method_145_code_320 : chW prog_15_method_145_code 320 [79, 177] := chW_of (by decide +kernel)
theorem d_15_145_299 : decode prog_15_method_145_code 299 = .ok (.iinc 7 1, 3) := D_132 W_prog_15_method_145_code_288 11 rfl rfl rfl
theorem d_15_145_140 : decode prog_15_method_145_code 140 = .ok (.iinc 10 1, 3) := D_132 W_prog_15_method_145_code_128 12 rfl rfl rfl
theorem W_prog_15_method_145_code_192 : chW prog_15_method_145_code 192 [8, 54, 4, 21, 8, 17, 0, 128, 162, 0, 8, 21, 8, 167, 0, 7, 42, 182, 4, 30, 54, 9, 21, 4, 17, 0, 192, 161, 0, 15, 21, 4, 17, 0, 224, 162] := chW_of (by decide +kernel)
theorem W_prog_15_method_145_code_224 : chW prog_15_method_145_code 224 [17, 0, 224, 162, 0, 7, 3, 167, 0, 7, 42, 182, 4, 30, 54, 10, 42, 182, 1, 120, 153, 0, 19, 42, 27, 21, 6, 21, 4, 21, 9, 21, 10, 32, 21, 7] := chW_of (by decide +kernel)
theorem W_prog_15_method_154_code_0 : chW prog_15_method_154_code 0 [9, 55, 4, 9, 55, 6, 3, 54, 8, 42, 180, 0, 44, 180, 2, 3, 28, 3, 79, 42, 180, 0, 44, 180, 1, 198, 28, 42, 180, 0, 254, 27, 46, 79, 3, 54] := chW_of (by decide +kernel)
theorem W_prog_15_method_154_code_32 : chW prog_15_method_154_code 32 [46, 79, 3, 54, 9, 21, 9, 42, 180, 0, 230, 16, 7, 46, 162, 0, 42, 42, 180, 0, 236, 21, 9, 46, 27, 159, 0, 6, 167, 0, 22, 22, 6, 42, 180, 0] := chW_of (by decide +kernel)
theorem W_prog_15_method_154_code_64 : chW prog_15_method_154_code 64 [6, 42, 180, 0, 242, 21, 9, 46, 16, 60, 100, 133, 97, 55, 6, 132, 8, 1, 132, 9, 1, 167, 255, 208, 42, 180, 0, 44, 180, 1, 195, 28, 22, 6, 9, 148] := chW_of (by decide +kernel)
theorem W_prog_15_method_154_code_96 : chW prog_15_method_154_code 96 [22, 6, 9, 148, 155, 0, 7, 3, 167, 0, 4, 4, 79, 3, 54, 9, 42, 180, 0, 236, 21, 9, 46, 27, 159, 0, 9, 132, 9, 1, 167, 255, 242, 21, 9, 21] := chW_of (by decide +kernel)
theorem d_15_154_79 : decode prog_15_method_154_code 79 = .ok (.iinc 8 1, 3) := D_132 W_prog_15_method_154_code_64 15 rfl rfl rfl
theorem d_15_154_82 : decode prog_15_method_154_code 82 = .ok (.iinc 9 1, 3) := D_132 W_prog_15_method_154_code_64 18 rfl rfl rfl
theorem W_prog_15_method_154_code_128 : chW prog_15_method_154_code 128 [242, 21, 9, 21, 8, 96, 54, 10, 21, 9, 21, 10, 162, 0, 200, 42, 42, 180, 0, 248, 21, 9, 47, 29, 182, 4, 53, 55, 11, 21, 9, 54, 13, 21, 13, 21] := chW_of (by decide +kernel)
theorem d_15_154_123 : decode prog_15_method_154_code 123 = .ok (.iinc 9 1, 3) := D_132 W_prog_15_method_154_code_96 27 rfl rfl rfl
theorem W_prog_15_method_154_code_320 : chW prog_15_method_154_code 320 [22, 11, 101, 29, 21, 14, 182, 4, 57, 22, 15, 55, 4, 21, 13, 54, 9, 167, 255, 55, 22, 4, 173] := chW_of (by decide +kernel)
theorem W_prog_15_method_154_code_160 : chW prog_15_method_154_code 160 [13, 21, 13, 21, 10, 162, 0, 27, 42, 42, 180, 0, 248, 21, 13, 47, 29, 182, 4, 53, 22, 11, 148, 154, 0, 9, 132, 13, 1, 167, 255, 228, 22, 11, 22, 4] := chW_of (by decide +kernel)
theorem d_15_154_186 : decode prog_15_method_154_code 186 = .ok (.iinc 13 1, 3) := D_132 W_prog_15_method_154_code_160 26 rfl rfl rfl
theorem W_prog_15_method_154_code_192 : chW prog_15_method_154_code 192 [22, 11, 22, 4, 148, 158, 0, 15, 42, 28, 22, 11, 22, 4, 101, 29, 3, 182, 4, 57, 42, 21, 9, 21, 13, 182, 4, 61, 54, 14, 22, 11, 10, 97, 55, 15] := chW_of (by decide +kernel)
theorem W_prog_15_method_154_code_224 : chW prog_15_method_154_code 224 [10, 97, 55, 15, 21, 9, 54, 17, 21, 17, 21, 13, 162, 0, 41, 42, 42, 180, 0, 251, 21, 17, 47, 29, 182, 4, 53, 22, 15, 148, 158, 0, 17, 42, 42, 180] := chW_of (by decide +kernel)
theorem W_prog_15_method_154_code_256 : chW prog_15_method_154_code 256 [17, 42, 42, 180, 0, 251, 21, 17, 47, 29, 182, 4, 53, 55, 15, 132, 17, 1, 167, 255, 214, 21, 13, 21, 10, 162, 0, 35, 22, 15, 42, 42, 180, 0, 248, 21] := chW_of (by decide +kernel)
theorem W_prog_15_method_154_code_288 : chW prog_15_method_154_code 288 [180, 0, 248, 21, 13, 47, 29, 182, 4, 53, 148, 158, 0, 17, 42, 42, 180, 0, 248, 21, 13, 47, 29, 182, 4, 53, 55, 15, 42, 28, 22, 15, 22, 11, 101, 29] := chW_of (by decide +kernel)
theorem d_15_154_271 : decode prog_15_method_154_code 271 = .ok (.iinc 17 1, 3) := D_132 W_prog_15_method_154_code_256 15 rfl rfl rfl
abbrev Q_M_isParallel (D : va_G) (ca : Nat → ClassId) (ad : Nat → Int → Nat → Nat) (L : List Nat) (r : Int) (F : zF) (B : zB) (A : Nat → Prop) : Array Value → State → Outcome → State → Prop := va_Qi (S := Unit) (fun p _ => p = iI r) (fun _ => zPo D ca ad lnM nM L F B A) A
def f_M_isParallel_266 (K : Nat) (s0 : Int) (F : zF) (B : zB) : zO := if (s0 = 0 ∨ s0 = 1) then some (s0, F, B) else none
set_option maxHeartbeats 4000000 in
set_option maxRecDepth 100000 in
theorem b_M_isParallel_266 {D : va_G} {ca : Nat → ClassId} {ad : Nat → Int → Nat → Nat} {L : List Nat} {aS vS : Nat → Nat} {A : Nat → Prop} {p : Program} {l : Launch} {e : Env} {s : State} {m : MethodId} {args : Array Value} {below : List Frame} {meth : Method} {c : Code} {K : Nat} {r : Int} {F9 : zF} {B9 : zB} (X : zX D ca L aS vS A p s m args meth c prog_15_method_189_code 15 (Option.some Jvm.ClassFile.FieldType.boolean) "StaveHouseModel") {s0 : Int} {F : zF} {B : zB} {H : Heap} {locs : List Loc} {ls : Array Slot} (hf : f_M_isParallel_266 K s0 F B = some (r, F9, B9)) (hZ : zH D ca ad lnM nM L F B A H) (hS : va_S A s.heap H locs) (hl : lv_has ls 15 []) : W p l e ({ frames := 3, cells := 0, slots := 0, locals := 71 } : Room) s m args below meth c H locs 0 0 (MQ below (Q_M_isParallel D ca ad L r F9 B9 A) args s 0 0 A) (F0 m 266 ls [.int (iI s0)]) := by
  obtain ⟨hx, hb, hr, hml, hown, hts, hlk, hK, hA, hL, hX⟩ := id X
  replace hf : (if (s0 = 0 ∨ s0 = 1) then some (s0, F, B) else none) = some (r, F9, B9) := hf
  obtain ⟨g61, hf⟩ := gif hf
  cases hf
  exact W.zret hx hb hr (zbool g61) (fun t ht hW => ⟨⟨_, (), rfl, rfl, by rw [ht]; exact hZ, va_K.moved hW.alike hK⟩, hS.F ht⟩) hS.2.2 (D_172 W_prog_15_method_189_code_256 10 rfl rfl) hlk

def f_M_isParallel_265 (K : Nat)  (F : zF) (B : zB) : zO := f_M_isParallel_266 K 0 F B
set_option maxHeartbeats 4000000 in
set_option maxRecDepth 100000 in
theorem b_M_isParallel_265 {D : va_G} {ca : Nat → ClassId} {ad : Nat → Int → Nat → Nat} {L : List Nat} {aS vS : Nat → Nat} {A : Nat → Prop} {p : Program} {l : Launch} {e : Env} {s : State} {m : MethodId} {args : Array Value} {below : List Frame} {meth : Method} {c : Code} {K : Nat} {r : Int} {F9 : zF} {B9 : zB} (X : zX D ca L aS vS A p s m args meth c prog_15_method_189_code 15 (Option.some Jvm.ClassFile.FieldType.boolean) "StaveHouseModel")  {F : zF} {B : zB} {H : Heap} {locs : List Loc} {ls : Array Slot} (hf : f_M_isParallel_265 K  F B = some (r, F9, B9)) (hZ : zH D ca ad lnM nM L F B A H) (hS : va_S A s.heap H locs) (hl : lv_has ls 15 []) : W p l e ({ frames := 3, cells := 0, slots := 0, locals := 71 } : Room) s m args below meth c H locs 0 0 (MQ below (Q_M_isParallel D ca ad L r F9 B9 A) args s 0 0 A) (F0 m 265 ls []) := by
  obtain ⟨hx, hb, hr, hml, hown, hts, hlk, hK, hA, hL, hX⟩ := id X
  replace hf : (f_M_isParallel_266 K 0 F B) = some (r, F9, B9) := hf
  refine lv_iconst (v := iI 0) hx hb (D_3 W_prog_15_method_189_code_256 9 rfl rfl) rfl ?_
  exact b_M_isParallel_266 X hf hZ hS (lv_sub hl [] rfl)

def f_M_isParallel_261 (K : Nat)  (F : zF) (B : zB) : zO := f_M_isParallel_266 K 1 F B
set_option maxHeartbeats 4000000 in
set_option maxRecDepth 100000 in
theorem b_M_isParallel_261 {D : va_G} {ca : Nat → ClassId} {ad : Nat → Int → Nat → Nat} {L : List Nat} {aS vS : Nat → Nat} {A : Nat → Prop} {p : Program} {l : Launch} {e : Env} {s : State} {m : MethodId} {args : Array Value} {below : List Frame} {meth : Method} {c : Code} {K : Nat} {r : Int} {F9 : zF} {B9 : zB} (X : zX D ca L aS vS A p s m args meth c prog_15_method_189_code 15 (Option.some Jvm.ClassFile.FieldType.boolean) "StaveHouseModel")  {F : zF} {B : zB} {H : Heap} {locs : List Loc} {ls : Array Slot} (hf : f_M_isParallel_261 K  F B = some (r, F9, B9)) (hZ : zH D ca ad lnM nM L F B A H) (hS : va_S A s.heap H locs) (hl : lv_has ls 15 []) : W p l e ({ frames := 3, cells := 0, slots := 0, locals := 71 } : Room) s m args below meth c H locs 0 0 (MQ below (Q_M_isParallel D ca ad L r F9 B9 A) args s 0 0 A) (F0 m 261 ls []) := by
  obtain ⟨hx, hb, hr, hml, hown, hts, hlk, hK, hA, hL, hX⟩ := id X
  replace hf : (f_M_isParallel_266 K 1 F B) = some (r, F9, B9) := hf
  refine lv_iconst (v := iI 1) hx hb (D_4 W_prog_15_method_189_code_256 5 rfl rfl) rfl ?_
  refine lv_goto (tgt := 266) hx hb (D_167 W_prog_15_method_189_code_256 6 rfl rfl rfl) (by decide) ?_
  exact b_M_isParallel_266 X hf hZ hS (lv_sub hl [] rfl)

def f_M_isParallel_234 (K : Nat) (l13 : Int) (l12 : Int) (s0 : Int) (F : zF) (B : zB) : zO := if r32 l12 then (if l12 ≤ 0 then f_M_isParallel_265 K F B else if r32 l13 then (if l13 = l12 then f_M_isParallel_265 K F B else if r32 s0 then (if 2 < s0 then f_M_isParallel_261 K F B else (if (-2) ≤ s0 then f_M_isParallel_265 K F B else f_M_isParallel_261 K F B)) else none) else none) else none
set_option maxHeartbeats 4000000 in
set_option maxRecDepth 100000 in
theorem b_M_isParallel_234 {D : va_G} {ca : Nat → ClassId} {ad : Nat → Int → Nat → Nat} {L : List Nat} {aS vS : Nat → Nat} {A : Nat → Prop} {p : Program} {l : Launch} {e : Env} {s : State} {m : MethodId} {args : Array Value} {below : List Frame} {meth : Method} {c : Code} {K : Nat} {r : Int} {F9 : zF} {B9 : zB} (X : zX D ca L aS vS A p s m args meth c prog_15_method_189_code 15 (Option.some Jvm.ClassFile.FieldType.boolean) "StaveHouseModel") {l13 : Int} {l12 : Int} {s0 : Int} {F : zF} {B : zB} {H : Heap} {locs : List Loc} {ls : Array Slot} (hf : f_M_isParallel_234 K l13 l12 s0 F B = some (r, F9, B9)) (hZ : zH D ca ad lnM nM L F B A H) (hS : va_S A s.heap H locs) (hl : lv_has ls 15 [(13, .int (iI l13)), (12, .int (iI l12))]) : W p l e ({ frames := 3, cells := 0, slots := 0, locals := 71 } : Room) s m args below meth c H locs 0 0 (MQ below (Q_M_isParallel D ca ad L r F9 B9 A) args s 0 0 A) (F0 m 234 ls [.int (iI s0)]) := by
  obtain ⟨hx, hb, hr, hml, hown, hts, hlk, hK, hA, hL, hX⟩ := id X
  replace hf : (if r32 l12 then (if l12 ≤ 0 then f_M_isParallel_265 K F B else if r32 l13 then (if l13 = l12 then f_M_isParallel_265 K F B else if r32 s0 then (if 2 < s0 then f_M_isParallel_261 K F B else (if (-2) ≤ s0 then f_M_isParallel_265 K F B else f_M_isParallel_261 K F B)) else none) else none) else none) = some (r, F9, B9) := hf
  refine lv_istore (lv' := [(14, .int (iI s0)), (13, .int (iI l13)), (12, .int (iI l12))]) hx hb (D_54 W_prog_15_method_189_code_224 10 rfl rfl) hl (by decide) rfl (fun ls hl => ?_)
  refine lv_iload hx hb (D_21 W_prog_15_method_189_code_224 12 rfl rfl) (lv_at hl 2 rfl) ?_
  obtain ⟨g54, hf⟩ := gif hf
  refine z0le (tgt := 265) hx hb g54 (D_158 W_prog_15_method_189_code_224 14 rfl rfl rfl) (by decide) (fun h55 => ?_) (fun h55 => ?_)
  · replace hf := gpos hf h55
    exact b_M_isParallel_265 X hf hZ hS (lv_sub hl [] rfl)
  · replace hf := gneg hf h55
    refine lv_iload hx hb (D_21 W_prog_15_method_189_code_224 17 rfl rfl) (lv_at hl 1 rfl) ?_
    refine lv_iload hx hb (D_21 W_prog_15_method_189_code_224 19 rfl rfl) (lv_at hl 2 rfl) ?_
    obtain ⟨g56, hf⟩ := gif hf
    refine zeq (tgt := 265) hx hb g56 g54 (D_159 W_prog_15_method_189_code_224 21 rfl rfl rfl) (by decide) (fun h57 => ?_) (fun h57 => ?_)
    · replace hf := gpos hf h57
      exact b_M_isParallel_265 X hf hZ hS (lv_sub hl [] rfl)
    · replace hf := gneg hf h57
      refine lv_iload hx hb (D_21 W_prog_15_method_189_code_224 24 rfl rfl) (lv_at hl 0 rfl) ?_
      refine lv_iconst (v := iI 2) hx hb (D_5 W_prog_15_method_189_code_224 26 rfl rfl) rfl ?_
      obtain ⟨g58, hf⟩ := gif hf
      refine zgt (tgt := 261) hx hb g58 (by decide) (D_163 W_prog_15_method_189_code_224 27 rfl rfl rfl) (by decide) (fun h59 => ?_) (fun h59 => ?_)
      · replace hf := gpos hf h59
        exact b_M_isParallel_261 X hf hZ hS (lv_sub hl [] rfl)
      · replace hf := gneg hf h59
        refine lv_iload hx hb (D_21 W_prog_15_method_189_code_224 30 rfl rfl) (lv_at hl 0 rfl) ?_
        refine lv_bipush (v := iI (-2)) hx hb (D_16 W_prog_15_method_189_code_256 0 rfl rfl rfl) (by decide) ?_
        refine zge (tgt := 265) hx hb g58 (by decide) (D_162 W_prog_15_method_189_code_256 2 rfl rfl rfl) (by decide) (fun h60 => ?_) (fun h60 => ?_)
        · replace hf := gpos hf h60
          exact b_M_isParallel_265 X hf hZ hS (lv_sub hl [] rfl)
        · replace hf := gneg hf h60
          exact b_M_isParallel_261 X hf hZ hS (lv_sub hl [] rfl)

def f_M_isParallel_185 (K : Nat) (s0 : Int) (F : zF) (B : zB) : zO := if (s0 = 0 ∨ s0 = 1) then some (s0, F, B) else none
set_option maxHeartbeats 4000000 in
set_option maxRecDepth 100000 in
theorem b_M_isParallel_185 {D : va_G} {ca : Nat → ClassId} {ad : Nat → Int → Nat → Nat} {L : List Nat} {aS vS : Nat → Nat} {A : Nat → Prop} {p : Program} {l : Launch} {e : Env} {s : State} {m : MethodId} {args : Array Value} {below : List Frame} {meth : Method} {c : Code} {K : Nat} {r : Int} {F9 : zF} {B9 : zB} (X : zX D ca L aS vS A p s m args meth c prog_15_method_189_code 15 (Option.some Jvm.ClassFile.FieldType.boolean) "StaveHouseModel") {s0 : Int} {F : zF} {B : zB} {H : Heap} {locs : List Loc} {ls : Array Slot} (hf : f_M_isParallel_185 K s0 F B = some (r, F9, B9)) (hZ : zH D ca ad lnM nM L F B A H) (hS : va_S A s.heap H locs) (hl : lv_has ls 15 []) : W p l e ({ frames := 3, cells := 0, slots := 0, locals := 71 } : Room) s m args below meth c H locs 0 0 (MQ below (Q_M_isParallel D ca ad L r F9 B9 A) args s 0 0 A) (F0 m 185 ls [.int (iI s0)]) := by
  obtain ⟨hx, hb, hr, hml, hown, hts, hlk, hK, hA, hL, hX⟩ := id X
  replace hf : (if (s0 = 0 ∨ s0 = 1) then some (s0, F, B) else none) = some (r, F9, B9) := hf
  obtain ⟨g53, hf⟩ := gif hf
  cases hf
  exact W.zret hx hb hr (zbool g53) (fun t ht hW => ⟨⟨_, (), rfl, rfl, by rw [ht]; exact hZ, va_K.moved hW.alike hK⟩, hS.F ht⟩) hS.2.2 (D_172 W_prog_15_method_189_code_160 25 rfl rfl) hlk

def f_M_isParallel_184 (K : Nat)  (F : zF) (B : zB) : zO := f_M_isParallel_185 K 0 F B
set_option maxHeartbeats 4000000 in
set_option maxRecDepth 100000 in
theorem b_M_isParallel_184 {D : va_G} {ca : Nat → ClassId} {ad : Nat → Int → Nat → Nat} {L : List Nat} {aS vS : Nat → Nat} {A : Nat → Prop} {p : Program} {l : Launch} {e : Env} {s : State} {m : MethodId} {args : Array Value} {below : List Frame} {meth : Method} {c : Code} {K : Nat} {r : Int} {F9 : zF} {B9 : zB} (X : zX D ca L aS vS A p s m args meth c prog_15_method_189_code 15 (Option.some Jvm.ClassFile.FieldType.boolean) "StaveHouseModel")  {F : zF} {B : zB} {H : Heap} {locs : List Loc} {ls : Array Slot} (hf : f_M_isParallel_184 K  F B = some (r, F9, B9)) (hZ : zH D ca ad lnM nM L F B A H) (hS : va_S A s.heap H locs) (hl : lv_has ls 15 []) : W p l e ({ frames := 3, cells := 0, slots := 0, locals := 71 } : Room) s m args below meth c H locs 0 0 (MQ below (Q_M_isParallel D ca ad L r F9 B9 A) args s 0 0 A) (F0 m 184 ls []) := by
  obtain ⟨hx, hb, hr, hml, hown, hts, hlk, hK, hA, hL, hX⟩ := id X
  replace hf : (f_M_isParallel_185 K 0 F B) = some (r, F9, B9) := hf
  refine lv_iconst (v := iI 0) hx hb (D_3 W_prog_15_method_189_code_160 24 rfl rfl) rfl ?_
  exact b_M_isParallel_185 X hf hZ hS (lv_sub hl [] rfl)

def f_M_isParallel_134 (K : Nat) (l8 : Int) (l7 : Int) (l6 : Int) (l5 : Int) (l0 : Int) (l2 : Int) (s0 : Int) (F : zF) (B : zB) : zO := if r32 s0 then (if s0 = 0 then some (0, F, B) else zbind (f_M_perfect K l0 l5 l6 F B) (fun r34 F34 B34 => zbind (f_M_perfect K l0 l7 l8 F34 B34) (fun r35 F35 B35 => if r32 l2 then (if 3 ≤ l2 then zbind (f_M_toneAt K l0 l5 F35 B35) (fun r38 F38 B38 => zbind (f_M_toneAt K l0 l6 F38 B38) (fun r39 F39 B39 => if r32 r38 then if r32 r39 then (if r38 < r39 then if 0 ≤ l0 ∧ l0 < 3 then if 0 ≤ l6 ∧ l6 < 24000 then if 0 ≤ l8 ∧ l8 < 24000 then f_M_isParallel_234 K r35 r34 ((B39 13 l0 28 l6) - (B39 13 l0 28 l8)) F39 B39 else none else none else none else if 0 ≤ l0 ∧ l0 < 3 then if 0 ≤ l5 ∧ l5 < 24000 then if 0 ≤ l7 ∧ l7 < 24000 then f_M_isParallel_234 K r35 r34 ((B39 13 l0 28 l5) - (B39 13 l0 28 l7)) F39 B39 else none else none else none) else none else none)) else if r32 r34 then (if r34 = l2 then if r32 r35 then (if r35 = l2 then f_M_isParallel_185 K 1 F35 B35 else f_M_isParallel_184 K F35 B35) else none else f_M_isParallel_184 K F35 B35) else none) else none))) else none
set_option maxHeartbeats 4000000 in
set_option maxRecDepth 100000 in
theorem b_M_isParallel_134 {D : va_G} {ca : Nat → ClassId} {ad : Nat → Int → Nat → Nat} {L : List Nat} {aS vS : Nat → Nat} {A : Nat → Prop} {p : Program} {l : Launch} {e : Env} {s : State} {m : MethodId} {args : Array Value} {below : List Frame} {meth : Method} {c : Code} {K : Nat} {r : Int} {F9 : zF} {B9 : zB} (X : zX D ca L aS vS A p s m args meth c prog_15_method_189_code 15 (Option.some Jvm.ClassFile.FieldType.boolean) "StaveHouseModel") {l8 : Int} {l7 : Int} {l6 : Int} {l5 : Int} {l0 : Int} {l2 : Int} {s0 : Int} {F : zF} {B : zB} {H : Heap} {locs : List Loc} {ls : Array Slot} (hf : f_M_isParallel_134 K l8 l7 l6 l5 l0 l2 s0 F B = some (r, F9, B9)) (hZ : zH D ca ad lnM nM L F B A H) (hS : va_S A s.heap H locs) (hl : lv_has ls 15 [(8, .int (iI l8)), (7, .int (iI l7)), (6, .int (iI l6)), (5, .int (iI l5)), (0, .ref (ad 13 l0 0)), (2, .int (iI l2))]) : W p l e ({ frames := 3, cells := 0, slots := 0, locals := 71 } : Room) s m args below meth c H locs 0 0 (MQ below (Q_M_isParallel D ca ad L r F9 B9 A) args s 0 0 A) (F0 m 134 ls [.int (iI s0)]) := by
  obtain ⟨hx, hb, hr, hml, hown, hts, hlk, hK, hA, hL, hX⟩ := id X
  replace hf : (if r32 s0 then (if s0 = 0 then some (0, F, B) else zbind (f_M_perfect K l0 l5 l6 F B) (fun r34 F34 B34 => zbind (f_M_perfect K l0 l7 l8 F34 B34) (fun r35 F35 B35 => if r32 l2 then (if 3 ≤ l2 then zbind (f_M_toneAt K l0 l5 F35 B35) (fun r38 F38 B38 => zbind (f_M_toneAt K l0 l6 F38 B38) (fun r39 F39 B39 => if r32 r38 then if r32 r39 then (if r38 < r39 then if 0 ≤ l0 ∧ l0 < 3 then if 0 ≤ l6 ∧ l6 < 24000 then if 0 ≤ l8 ∧ l8 < 24000 then f_M_isParallel_234 K r35 r34 ((B39 13 l0 28 l6) - (B39 13 l0 28 l8)) F39 B39 else none else none else none else if 0 ≤ l0 ∧ l0 < 3 then if 0 ≤ l5 ∧ l5 < 24000 then if 0 ≤ l7 ∧ l7 < 24000 then f_M_isParallel_234 K r35 r34 ((B39 13 l0 28 l5) - (B39 13 l0 28 l7)) F39 B39 else none else none else none) else none else none)) else if r32 r34 then (if r34 = l2 then if r32 r35 then (if r35 = l2 then f_M_isParallel_185 K 1 F35 B35 else f_M_isParallel_184 K F35 B35) else none else f_M_isParallel_184 K F35 B35) else none) else none))) else none) = some (r, F9, B9) := hf
  refine lv_istore (lv' := [(11, .int (iI s0)), (8, .int (iI l8)), (7, .int (iI l7)), (6, .int (iI l6)), (5, .int (iI l5)), (0, .ref (ad 13 l0 0)), (2, .int (iI l2))]) hx hb (D_54 W_prog_15_method_189_code_128 6 rfl rfl) hl (by decide) rfl (fun ls hl => ?_)
  refine lv_iload hx hb (D_21 W_prog_15_method_189_code_128 8 rfl rfl) (lv_at hl 0 rfl) ?_
  obtain ⟨g31, hf⟩ := gif hf
  refine z0ne (tgt := 143) hx hb g31 (D_154 W_prog_15_method_189_code_128 10 rfl rfl rfl) (by decide) (fun h33 => ?_) (fun h33 => ?_)
  · replace hf := gneg hf h33
    refine lv_aload_n hx hb (D_42 W_prog_15_method_189_code_128 15 rfl rfl) rfl (lv_at hl 5 rfl) ?_
    refine lv_iload hx hb (D_21 W_prog_15_method_189_code_128 16 rfl rfl) (lv_at hl 4 rfl) ?_
    refine lv_iload hx hb (D_21 W_prog_15_method_189_code_128 18 rfl rfl) (lv_at hl 3 rfl) ?_
    obtain ⟨r34, F34, B34, hc34, hf⟩ := gbind hf
    refine va_calli (va_runS (As := [.ref (ad 13 l0 0), .int (iI l5), .int (iI l6)]) (rest := []) ⟨hx, hb, hml, hown, hts⟩ (c_M_perfect (l := l) hc34) (va_cwS 3 hts (gdS k_15_139 k_15_140 k_1_9 k_15_141) rfl rfl rfl (by decide +kernel) ⟨Nat.le_of_ble_eq_true rfl, Nat.le_of_ble_eq_true rfl⟩) (zPS X hZ hS [.ref (ad 13 l0 0), .int (iI l5), .int (iI l6)]) rfl rfl hl.1 rfl (lv_room (Nat.le_of_ble_eq_true rfl)) (D_184 W_prog_15_method_189_code_128 20 rfl rfl rfl) ⟨Nat.le_of_ble_eq_true rfl, Nat.le_of_ble_eq_true rfl⟩) hS (fun q _ h => zAin X hS q h) (zAin X hS) (fun p34 u34 t34 H34 locs34 ht34 hv34 hw34 hB34 hz34 hk34 hS34 => ?_)
    have hZ34 := zBack X ht34 hB34
    subst hw34
    refine lv_istore (lv' := [(12, .int (iI r34)), (11, .int (iI s0)), (8, .int (iI l8)), (7, .int (iI l7)), (6, .int (iI l6)), (5, .int (iI l5)), (0, .ref (ad 13 l0 0)), (2, .int (iI l2))]) hx hb (D_54 W_prog_15_method_189_code_128 23 rfl rfl) hl (by decide) rfl (fun ls hl => ?_)
    refine lv_aload_n hx hb (D_42 W_prog_15_method_189_code_128 25 rfl rfl) rfl (lv_at hl 6 rfl) ?_
    refine lv_iload hx hb (D_21 W_prog_15_method_189_code_128 26 rfl rfl) (lv_at hl 3 rfl) ?_
    refine lv_iload hx hb (D_21 W_prog_15_method_189_code_128 28 rfl rfl) (lv_at hl 2 rfl) ?_
    obtain ⟨r35, F35, B35, hc35, hf⟩ := gbind hf
    refine va_calli (va_runS (As := [.ref (ad 13 l0 0), .int (iI l7), .int (iI l8)]) (rest := []) ⟨hx, hb, hml, hown, hts⟩ (c_M_perfect (l := l) hc35) (va_cwS 3 hts (gdS k_15_139 k_15_140 k_1_9 k_15_141) rfl rfl rfl (by decide +kernel) ⟨Nat.le_of_ble_eq_true rfl, Nat.le_of_ble_eq_true rfl⟩) (zPS X hZ34 hS34 [.ref (ad 13 l0 0), .int (iI l7), .int (iI l8)]) rfl rfl hl.1 rfl (lv_room (Nat.le_of_ble_eq_true rfl)) (D_184 W_prog_15_method_189_code_128 30 rfl rfl rfl) ⟨Nat.le_of_ble_eq_true rfl, Nat.le_of_ble_eq_true rfl⟩) hS34 (fun q _ h => zAin X hS34 q h) (zAin X hS34) (fun p35 u35 t35 H35 locs35 ht35 hv35 hw35 hB35 hz35 hk35 hS35 => ?_)
    have hZ35 := zBack X ht35 hB35
    subst hw35
    refine lv_istore (lv' := [(13, .int (iI r35)), (12, .int (iI r34)), (11, .int (iI s0)), (8, .int (iI l8)), (7, .int (iI l7)), (6, .int (iI l6)), (5, .int (iI l5)), (0, .ref (ad 13 l0 0)), (2, .int (iI l2))]) hx hb (D_54 W_prog_15_method_189_code_160 1 rfl rfl) hl (by decide) rfl (fun ls hl => ?_)
    refine lv_iload_n hx hb (D_28 W_prog_15_method_189_code_160 3 rfl rfl) rfl (lv_at hl 8 rfl) ?_
    refine lv_iconst (v := iI 3) hx hb (D_6 W_prog_15_method_189_code_160 4 rfl rfl) rfl ?_
    obtain ⟨g36, hf⟩ := gif hf
    refine zge (tgt := 186) hx hb g36 (by decide) (D_162 W_prog_15_method_189_code_160 5 rfl rfl rfl) (by decide) (fun h37 => ?_) (fun h37 => ?_)
    · replace hf := gpos hf h37
      refine lv_aload_n hx hb (D_42 W_prog_15_method_189_code_160 26 rfl rfl) rfl (lv_at hl 7 rfl) ?_
      refine lv_iload hx hb (D_21 W_prog_15_method_189_code_160 27 rfl rfl) (lv_at hl 6 rfl) ?_
      obtain ⟨r38, F38, B38, hc38, hf⟩ := gbind hf
      refine va_calli (va_runS (As := [.ref (ad 13 l0 0), .int (iI l5)]) (rest := []) ⟨hx, hb, hml, hown, hts⟩ (c_M_toneAt (l := l) hc38) (va_cwS 2 hts (gdS k_15_121 k_15_122 k_1_9 k_15_123) rfl rfl rfl (by decide +kernel) ⟨Nat.le_of_ble_eq_true rfl, Nat.le_of_ble_eq_true rfl⟩) (zPS X hZ35 hS35 [.ref (ad 13 l0 0), .int (iI l5)]) rfl rfl hl.1 rfl (lv_room (Nat.le_of_ble_eq_true rfl)) (D_184 W_prog_15_method_189_code_160 29 rfl rfl rfl) ⟨Nat.le_of_ble_eq_true rfl, Nat.le_of_ble_eq_true rfl⟩) hS35 (fun q _ h => zAin X hS35 q h) (zAin X hS35) (fun p38 u38 t38 H38 locs38 ht38 hv38 hw38 hB38 hz38 hk38 hS38 => ?_)
      have hZ38 := zBack X ht38 hB38
      subst hw38
      refine lv_aload_n hx hb (D_42 W_prog_15_method_189_code_192 0 rfl rfl) rfl (lv_at hl 7 rfl) ?_
      refine lv_iload hx hb (D_21 W_prog_15_method_189_code_192 1 rfl rfl) (lv_at hl 5 rfl) ?_
      obtain ⟨r39, F39, B39, hc39, hf⟩ := gbind hf
      refine va_calli (va_runS (As := [.ref (ad 13 l0 0), .int (iI l6)]) (rest := [.int (iI r38)]) ⟨hx, hb, hml, hown, hts⟩ (c_M_toneAt (l := l) hc39) (va_cwS 2 hts (gdS k_15_121 k_15_122 k_1_9 k_15_123) rfl rfl rfl (by decide +kernel) ⟨Nat.le_of_ble_eq_true rfl, Nat.le_of_ble_eq_true rfl⟩) (zPS X hZ38 hS38 [.ref (ad 13 l0 0), .int (iI l6)]) rfl rfl hl.1 rfl (lv_room (Nat.le_of_ble_eq_true rfl)) (D_184 W_prog_15_method_189_code_192 3 rfl rfl rfl) ⟨Nat.le_of_ble_eq_true rfl, Nat.le_of_ble_eq_true rfl⟩) hS38 (fun q _ h => zAin X hS38 q h) (zAin X hS38) (fun p39 u39 t39 H39 locs39 ht39 hv39 hw39 hB39 hz39 hk39 hS39 => ?_)
      have hZ39 := zBack X ht39 hB39
      subst hw39
      obtain ⟨g40, hf⟩ := gif hf
      obtain ⟨g41, hf⟩ := gif hf
      refine zlt (tgt := 219) hx hb g40 g41 (D_161 W_prog_15_method_189_code_192 6 rfl rfl rfl) (by decide) (fun h42 => ?_) (fun h42 => ?_)
      · replace hf := gpos hf h42
        refine lv_aload_n hx hb (D_42 W_prog_15_method_189_code_192 27 rfl rfl) rfl (lv_at hl 7 rfl) ?_
        obtain ⟨g43, hf⟩ := gif hf
        refine zget (ci := 13) (C := RX13) (T := TX13) (v := .ref (ad 13 l0 (28 + 1))) (k := 28) hx hb hts inW_13 hown hK hZ39 g43.1 g43.2 rfl (by decide) k_9_174 rfl (D_180 W_prog_15_method_189_code_192 28 rfl rfl rfl) ?_
        refine lv_iload hx hb (D_21 W_prog_15_method_189_code_192 31 rfl rfl) (lv_at hl 5 rfl) ?_
        obtain ⟨g44, hf⟩ := gif hf
        refine zald (ci := 13) (k := 28) hx hb hK rfl hZ39 g43.1 g43.2 rfl (Nat.le_of_ble_eq_true rfl) g44.1 g44.2 (D_46 W_prog_15_method_189_code_224 1 rfl rfl) ?_
        refine lv_aload_n hx hb (D_42 W_prog_15_method_189_code_224 2 rfl rfl) rfl (lv_at hl 7 rfl) ?_
        refine zget (ci := 13) (C := RX13) (T := TX13) (v := .ref (ad 13 l0 (28 + 1))) (k := 28) hx hb hts inW_13 hown hK hZ39 g43.1 g43.2 rfl (by decide) k_9_174 rfl (D_180 W_prog_15_method_189_code_224 3 rfl rfl rfl) ?_
        refine lv_iload hx hb (D_21 W_prog_15_method_189_code_224 6 rfl rfl) (lv_at hl 3 rfl) ?_
        obtain ⟨g45, hf⟩ := gif hf
        refine zald (ci := 13) (k := 28) hx hb hK rfl hZ39 g43.1 g43.2 rfl (Nat.le_of_ble_eq_true rfl) g45.1 g45.2 (D_46 W_prog_15_method_189_code_224 8 rfl rfl) ?_
        refine zsub hx hb (D_100 W_prog_15_method_189_code_224 9 rfl rfl) ?_
        exact b_M_isParallel_234 X hf hZ39 hS39 (lv_sub hl [0, 1] rfl)
      · replace hf := gneg hf h42
        refine lv_aload_n hx hb (D_42 W_prog_15_method_189_code_192 9 rfl rfl) rfl (lv_at hl 7 rfl) ?_
        obtain ⟨g46, hf⟩ := gif hf
        refine zget (ci := 13) (C := RX13) (T := TX13) (v := .ref (ad 13 l0 (28 + 1))) (k := 28) hx hb hts inW_13 hown hK hZ39 g46.1 g46.2 rfl (by decide) k_9_174 rfl (D_180 W_prog_15_method_189_code_192 10 rfl rfl rfl) ?_
        refine lv_iload hx hb (D_21 W_prog_15_method_189_code_192 13 rfl rfl) (lv_at hl 6 rfl) ?_
        obtain ⟨g47, hf⟩ := gif hf
        refine zald (ci := 13) (k := 28) hx hb hK rfl hZ39 g46.1 g46.2 rfl (Nat.le_of_ble_eq_true rfl) g47.1 g47.2 (D_46 W_prog_15_method_189_code_192 15 rfl rfl) ?_
        refine lv_aload_n hx hb (D_42 W_prog_15_method_189_code_192 16 rfl rfl) rfl (lv_at hl 7 rfl) ?_
        refine zget (ci := 13) (C := RX13) (T := TX13) (v := .ref (ad 13 l0 (28 + 1))) (k := 28) hx hb hts inW_13 hown hK hZ39 g46.1 g46.2 rfl (by decide) k_9_174 rfl (D_180 W_prog_15_method_189_code_192 17 rfl rfl rfl) ?_
        refine lv_iload hx hb (D_21 W_prog_15_method_189_code_192 20 rfl rfl) (lv_at hl 4 rfl) ?_
        obtain ⟨g48, hf⟩ := gif hf
        refine zald (ci := 13) (k := 28) hx hb hK rfl hZ39 g46.1 g46.2 rfl (Nat.le_of_ble_eq_true rfl) g48.1 g48.2 (D_46 W_prog_15_method_189_code_192 22 rfl rfl) ?_
        refine zsub hx hb (D_100 W_prog_15_method_189_code_192 23 rfl rfl) ?_
        refine lv_goto (tgt := 234) hx hb (D_167 W_prog_15_method_189_code_192 24 rfl rfl rfl) (by decide) ?_
        exact b_M_isParallel_234 X hf hZ39 hS39 (lv_sub hl [0, 1] rfl)
    · replace hf := gneg hf h37
      refine lv_iload hx hb (D_21 W_prog_15_method_189_code_160 8 rfl rfl) (lv_at hl 1 rfl) ?_
      refine lv_iload_n hx hb (D_28 W_prog_15_method_189_code_160 10 rfl rfl) rfl (lv_at hl 8 rfl) ?_
      obtain ⟨g49, hf⟩ := gif hf
      refine zne (tgt := 184) hx hb g49 g36 (D_160 W_prog_15_method_189_code_160 11 rfl rfl rfl) (by decide) (fun h50 => ?_) (fun h50 => ?_)
      · replace hf := gneg hf h50
        exact b_M_isParallel_184 X hf hZ35 hS35 (lv_sub hl [] rfl)
      · replace hf := gpos hf h50
        refine lv_iload hx hb (D_21 W_prog_15_method_189_code_160 14 rfl rfl) (lv_at hl 0 rfl) ?_
        refine lv_iload_n hx hb (D_28 W_prog_15_method_189_code_160 16 rfl rfl) rfl (lv_at hl 8 rfl) ?_
        obtain ⟨g51, hf⟩ := gif hf
        refine zne (tgt := 184) hx hb g51 g36 (D_160 W_prog_15_method_189_code_160 17 rfl rfl rfl) (by decide) (fun h52 => ?_) (fun h52 => ?_)
        · replace hf := gneg hf h52
          exact b_M_isParallel_184 X hf hZ35 hS35 (lv_sub hl [] rfl)
        · replace hf := gpos hf h52
          refine lv_iconst (v := iI 1) hx hb (D_4 W_prog_15_method_189_code_160 20 rfl rfl) rfl ?_
          refine lv_goto (tgt := 185) hx hb (D_167 W_prog_15_method_189_code_160 21 rfl rfl rfl) (by decide) ?_
          exact b_M_isParallel_185 X hf hZ35 hS35 (lv_sub hl [] rfl)
  · replace hf := gpos hf h33
    refine lv_iconst (v := iI 0) hx hb (D_3 W_prog_15_method_189_code_128 13 rfl rfl) rfl ?_
    cases hf
    exact W.zret hx hb hr rfl (fun t ht hW => ⟨⟨_, (), rfl, rfl, by rw [ht]; exact hZ, va_K.moved hW.alike hK⟩, hS.F ht⟩) hS.2.2 (D_172 W_prog_15_method_189_code_128 14 rfl rfl) hlk

def f_M_isParallel_133 (K : Nat) (l8 : Int) (l7 : Int) (l6 : Int) (l5 : Int) (l0 : Int) (l2 : Int) (F : zF) (B : zB) : zO := f_M_isParallel_134 K l8 l7 l6 l5 l0 l2 0 F B
set_option maxHeartbeats 4000000 in
set_option maxRecDepth 100000 in
theorem b_M_isParallel_133 {D : va_G} {ca : Nat → ClassId} {ad : Nat → Int → Nat → Nat} {L : List Nat} {aS vS : Nat → Nat} {A : Nat → Prop} {p : Program} {l : Launch} {e : Env} {s : State} {m : MethodId} {args : Array Value} {below : List Frame} {meth : Method} {c : Code} {K : Nat} {r : Int} {F9 : zF} {B9 : zB} (X : zX D ca L aS vS A p s m args meth c prog_15_method_189_code 15 (Option.some Jvm.ClassFile.FieldType.boolean) "StaveHouseModel") {l8 : Int} {l7 : Int} {l6 : Int} {l5 : Int} {l0 : Int} {l2 : Int} {F : zF} {B : zB} {H : Heap} {locs : List Loc} {ls : Array Slot} (hf : f_M_isParallel_133 K l8 l7 l6 l5 l0 l2 F B = some (r, F9, B9)) (hZ : zH D ca ad lnM nM L F B A H) (hS : va_S A s.heap H locs) (hl : lv_has ls 15 [(8, .int (iI l8)), (7, .int (iI l7)), (6, .int (iI l6)), (5, .int (iI l5)), (0, .ref (ad 13 l0 0)), (2, .int (iI l2))]) : W p l e ({ frames := 3, cells := 0, slots := 0, locals := 71 } : Room) s m args below meth c H locs 0 0 (MQ below (Q_M_isParallel D ca ad L r F9 B9 A) args s 0 0 A) (F0 m 133 ls []) := by
  obtain ⟨hx, hb, hr, hml, hown, hts, hlk, hK, hA, hL, hX⟩ := id X
  replace hf : (f_M_isParallel_134 K l8 l7 l6 l5 l0 l2 0 F B) = some (r, F9, B9) := hf
  refine lv_iconst (v := iI 0) hx hb (D_3 W_prog_15_method_189_code_128 5 rfl rfl) rfl ?_
  exact b_M_isParallel_134 X hf hZ hS (lv_sub hl [0, 1, 2, 3, 4, 5] rfl)

def f_M_isParallel_129 (K : Nat) (l8 : Int) (l7 : Int) (l6 : Int) (l5 : Int) (l0 : Int) (l2 : Int) (F : zF) (B : zB) : zO := f_M_isParallel_134 K l8 l7 l6 l5 l0 l2 1 F B
set_option maxHeartbeats 4000000 in
set_option maxRecDepth 100000 in
theorem b_M_isParallel_129 {D : va_G} {ca : Nat → ClassId} {ad : Nat → Int → Nat → Nat} {L : List Nat} {aS vS : Nat → Nat} {A : Nat → Prop} {p : Program} {l : Launch} {e : Env} {s : State} {m : MethodId} {args : Array Value} {below : List Frame} {meth : Method} {c : Code} {K : Nat} {r : Int} {F9 : zF} {B9 : zB} (X : zX D ca L aS vS A p s m args meth c prog_15_method_189_code 15 (Option.some Jvm.ClassFile.FieldType.boolean) "StaveHouseModel") {l8 : Int} {l7 : Int} {l6 : Int} {l5 : Int} {l0 : Int} {l2 : Int} {F : zF} {B : zB} {H : Heap} {locs : List Loc} {ls : Array Slot} (hf : f_M_isParallel_129 K l8 l7 l6 l5 l0 l2 F B = some (r, F9, B9)) (hZ : zH D ca ad lnM nM L F B A H) (hS : va_S A s.heap H locs) (hl : lv_has ls 15 [(8, .int (iI l8)), (7, .int (iI l7)), (6, .int (iI l6)), (5, .int (iI l5)), (0, .ref (ad 13 l0 0)), (2, .int (iI l2))]) : W p l e ({ frames := 3, cells := 0, slots := 0, locals := 71 } : Room) s m args below meth c H locs 0 0 (MQ below (Q_M_isParallel D ca ad L r F9 B9 A) args s 0 0 A) (F0 m 129 ls []) := by
  obtain ⟨hx, hb, hr, hml, hown, hts, hlk, hK, hA, hL, hX⟩ := id X
  replace hf : (f_M_isParallel_134 K l8 l7 l6 l5 l0 l2 1 F B) = some (r, F9, B9) := hf
  refine lv_iconst (v := iI 1) hx hb (D_4 W_prog_15_method_189_code_128 1 rfl rfl) rfl ?_
  refine lv_goto (tgt := 134) hx hb (D_167 W_prog_15_method_189_code_128 2 rfl rfl rfl) (by decide) ?_
  exact b_M_isParallel_134 X hf hZ hS (lv_sub hl [0, 1, 2, 3, 4, 5] rfl)

def f_M_isParallel_119 (K : Nat) (l10 : Int) (l9 : Int) (l8 : Int) (l7 : Int) (l6 : Int) (l5 : Int) (l0 : Int) (l2 : Int) (F : zF) (B : zB) : zO := if r32 l9 then (if 0 ≤ l9 then f_M_isParallel_133 K l8 l7 l6 l5 l0 l2 F B else if r32 l10 then (if 0 ≤ l10 then f_M_isParallel_133 K l8 l7 l6 l5 l0 l2 F B else f_M_isParallel_129 K l8 l7 l6 l5 l0 l2 F B) else none) else none
set_option maxHeartbeats 4000000 in
set_option maxRecDepth 100000 in
theorem b_M_isParallel_119 {D : va_G} {ca : Nat → ClassId} {ad : Nat → Int → Nat → Nat} {L : List Nat} {aS vS : Nat → Nat} {A : Nat → Prop} {p : Program} {l : Launch} {e : Env} {s : State} {m : MethodId} {args : Array Value} {below : List Frame} {meth : Method} {c : Code} {K : Nat} {r : Int} {F9 : zF} {B9 : zB} (X : zX D ca L aS vS A p s m args meth c prog_15_method_189_code 15 (Option.some Jvm.ClassFile.FieldType.boolean) "StaveHouseModel") {l10 : Int} {l9 : Int} {l8 : Int} {l7 : Int} {l6 : Int} {l5 : Int} {l0 : Int} {l2 : Int} {F : zF} {B : zB} {H : Heap} {locs : List Loc} {ls : Array Slot} (hf : f_M_isParallel_119 K l10 l9 l8 l7 l6 l5 l0 l2 F B = some (r, F9, B9)) (hZ : zH D ca ad lnM nM L F B A H) (hS : va_S A s.heap H locs) (hl : lv_has ls 15 [(10, .int (iI l10)), (9, .int (iI l9)), (8, .int (iI l8)), (7, .int (iI l7)), (6, .int (iI l6)), (5, .int (iI l5)), (0, .ref (ad 13 l0 0)), (2, .int (iI l2))]) : W p l e ({ frames := 3, cells := 0, slots := 0, locals := 71 } : Room) s m args below meth c H locs 0 0 (MQ below (Q_M_isParallel D ca ad L r F9 B9 A) args s 0 0 A) (F0 m 119 ls []) := by
  obtain ⟨hx, hb, hr, hml, hown, hts, hlk, hK, hA, hL, hX⟩ := id X
  replace hf : (if r32 l9 then (if 0 ≤ l9 then f_M_isParallel_133 K l8 l7 l6 l5 l0 l2 F B else if r32 l10 then (if 0 ≤ l10 then f_M_isParallel_133 K l8 l7 l6 l5 l0 l2 F B else f_M_isParallel_129 K l8 l7 l6 l5 l0 l2 F B) else none) else none) = some (r, F9, B9) := hf
  refine lv_iload hx hb (D_21 W_prog_15_method_189_code_96 23 rfl rfl) (lv_at hl 1 rfl) ?_
  obtain ⟨g27, hf⟩ := gif hf
  refine z0ge (tgt := 133) hx hb g27 (D_156 W_prog_15_method_189_code_96 25 rfl rfl rfl) (by decide) (fun h28 => ?_) (fun h28 => ?_)
  · replace hf := gpos hf h28
    exact b_M_isParallel_133 X hf hZ hS (lv_sub hl [2, 3, 4, 5, 6, 7] rfl)
  · replace hf := gneg hf h28
    refine lv_iload hx hb (D_21 W_prog_15_method_189_code_96 28 rfl rfl) (lv_at hl 0 rfl) ?_
    obtain ⟨g29, hf⟩ := gif hf
    refine z0ge (tgt := 133) hx hb g29 (D_156 W_prog_15_method_189_code_96 30 rfl rfl rfl) (by decide) (fun h30 => ?_) (fun h30 => ?_)
    · replace hf := gpos hf h30
      exact b_M_isParallel_133 X hf hZ hS (lv_sub hl [2, 3, 4, 5, 6, 7] rfl)
    · replace hf := gneg hf h30
      exact b_M_isParallel_129 X hf hZ hS (lv_sub hl [2, 3, 4, 5, 6, 7] rfl)

def f_M_isParallel_77 (K : Nat)  (F : zF) (B : zB) : zO := some (0, F, B)
set_option maxHeartbeats 4000000 in
set_option maxRecDepth 100000 in
theorem b_M_isParallel_77 {D : va_G} {ca : Nat → ClassId} {ad : Nat → Int → Nat → Nat} {L : List Nat} {aS vS : Nat → Nat} {A : Nat → Prop} {p : Program} {l : Launch} {e : Env} {s : State} {m : MethodId} {args : Array Value} {below : List Frame} {meth : Method} {c : Code} {K : Nat} {r : Int} {F9 : zF} {B9 : zB} (X : zX D ca L aS vS A p s m args meth c prog_15_method_189_code 15 (Option.some Jvm.ClassFile.FieldType.boolean) "StaveHouseModel")  {F : zF} {B : zB} {H : Heap} {locs : List Loc} {ls : Array Slot} (hf : f_M_isParallel_77 K  F B = some (r, F9, B9)) (hZ : zH D ca ad lnM nM L F B A H) (hS : va_S A s.heap H locs) (hl : lv_has ls 15 []) : W p l e ({ frames := 3, cells := 0, slots := 0, locals := 71 } : Room) s m args below meth c H locs 0 0 (MQ below (Q_M_isParallel D ca ad L r F9 B9 A) args s 0 0 A) (F0 m 77 ls []) := by
  obtain ⟨hx, hb, hr, hml, hown, hts, hlk, hK, hA, hL, hX⟩ := id X
  replace hf : (some (0, F, B)) = some (r, F9, B9) := hf
  refine lv_iconst (v := iI 0) hx hb (D_3 W_prog_15_method_189_code_64 13 rfl rfl) rfl ?_
  cases hf
  exact W.zret hx hb hr rfl (fun t ht hW => ⟨⟨_, (), rfl, rfl, by rw [ht]; exact hZ, va_K.moved hW.alike hK⟩, hS.F ht⟩) hS.2.2 (D_172 W_prog_15_method_189_code_64 14 rfl rfl) hlk

def f_M_isParallel (K : Nat) (l0 : Int) (l1 : Int) (l2 : Int) (l3 : Int) (l4 : Int) (F : zF) (B : zB) : zO := zbind (f_M_lineAt K l0 l1 l3 F B) (fun r1 F1 B1 => zbind (f_M_lineAt K l0 l1 l4 F1 B1) (fun r2 F2 B2 => zbind (f_M_lineAt K l0 (l1 - 1) l3 F2 B2) (fun r3 F3 B3 => zbind (f_M_lineAt K l0 (l1 - 1) l4 F3 B3) (fun r4 F4 B4 => if r32 r1 then (if r1 < 0 then f_M_isParallel_77 K F4 B4 else if r32 r2 then (if r2 < 0 then f_M_isParallel_77 K F4 B4 else if r32 r3 then (if r3 < 0 then f_M_isParallel_77 K F4 B4 else if r32 r4 then (if r4 < 0 then f_M_isParallel_77 K F4 B4 else zbind (f_M_beginsAt K l0 l1 l3 F4 B4) (fun r13 F13 B13 => if r32 r13 then (if r13 = 0 then f_M_isParallel_77 K F13 B13 else zbind (f_M_beginsAt K l0 l1 l4 F13 B13) (fun r16 F16 B16 => if r32 r16 then (if r16 = 0 then f_M_isParallel_77 K F16 B16 else zbind (f_M_toneAt K l0 r1 F16 B16) (fun r19 F19 B19 => zbind (f_M_toneAt K l0 r3 F19 B19) (fun r20 F20 B20 => zbind (f_M_toneAt K l0 r2 F20 B20) (fun r21 F21 B21 => zbind (f_M_toneAt K l0 r4 F21 B21) (fun r22 F22 B22 => if r32 (r19 - r20) then (if (r19 - r20) ≤ 0 then f_M_isParallel_119 K (r21 - r22) (r19 - r20) r4 r3 r2 r1 l0 l2 F22 B22 else if r32 (r21 - r22) then (if 0 < (r21 - r22) then f_M_isParallel_129 K r4 r3 r2 r1 l0 l2 F22 B22 else f_M_isParallel_119 K (r21 - r22) (r19 - r20) r4 r3 r2 r1 l0 l2 F22 B22) else none) else none))))) else none)) else none)) else none) else none) else none) else none))))
set_option maxHeartbeats 4000000 in
set_option maxRecDepth 100000 in
theorem c_M_isParallel {l : Launch} {D : va_G} {ca : Nat → ClassId} {ad : Nat → Int → Nat → Nat} {L : List Nat} {aS vS : Nat → Nat} {sz K : Nat}  {l0 : Int} {l1 : Int} {l2 : Int} {l3 : Int} {l4 : Int} {F F9 : zF} {B B9 : zB} {r : Int} (hf : f_M_isParallel K l0 l1 l2 l3 l4 F B = some (r, F9, B9)) : Met l ({ cls := "StaveHouseModel", name := "isParallel", desc := "(LStaveHouseModel$Piece;IIII)Z" } : Jvm.MethodName) (Cond.code ({ cls := "StaveHouseModel", name := "isParallel", desc := "(LStaveHouseModel$Piece;IIII)Z" } : Jvm.MethodName) prog_15_method_189_code 15 (Option.some Jvm.ClassFile.FieldType.boolean) :: wAll) ({ frames := 3, cells := 0, slots := 0, locals := 71 } : Room) (va_Pc [.ref (ad 13 l0 0), .int (iI l1), .int (iI l2), .int (iI l3), .int (iI l4)] (zPre D ca ad lnM nM L aS vS F B sz)) (Q_M_isParallel D ca ad L r F9 B9 (zA L sz)) 0 0 (zA L sz) := by
  refine zMet (Qc := Q_M_isParallel D ca ad L r F9 B9) (lv := [(0, .ref (ad 13 l0 0)), (1, .int (iI l1)), (2, .int (iI l2)), (3, .int (iI l3)), (4, .int (iI l4))]) (by decide) (Nat.le_of_ble_eq_true rfl) rfl (fun A p e s m below meth c ls X hZ hS hl => ?_)
  obtain ⟨hx, hb, hr, hml, hown, hts, hlk, hK, hA, hL, hX⟩ := id X
  replace hf : (zbind (f_M_lineAt K l0 l1 l3 F B) (fun r1 F1 B1 => zbind (f_M_lineAt K l0 l1 l4 F1 B1) (fun r2 F2 B2 => zbind (f_M_lineAt K l0 (l1 - 1) l3 F2 B2) (fun r3 F3 B3 => zbind (f_M_lineAt K l0 (l1 - 1) l4 F3 B3) (fun r4 F4 B4 => if r32 r1 then (if r1 < 0 then f_M_isParallel_77 K F4 B4 else if r32 r2 then (if r2 < 0 then f_M_isParallel_77 K F4 B4 else if r32 r3 then (if r3 < 0 then f_M_isParallel_77 K F4 B4 else if r32 r4 then (if r4 < 0 then f_M_isParallel_77 K F4 B4 else zbind (f_M_beginsAt K l0 l1 l3 F4 B4) (fun r13 F13 B13 => if r32 r13 then (if r13 = 0 then f_M_isParallel_77 K F13 B13 else zbind (f_M_beginsAt K l0 l1 l4 F13 B13) (fun r16 F16 B16 => if r32 r16 then (if r16 = 0 then f_M_isParallel_77 K F16 B16 else zbind (f_M_toneAt K l0 r1 F16 B16) (fun r19 F19 B19 => zbind (f_M_toneAt K l0 r3 F19 B19) (fun r20 F20 B20 => zbind (f_M_toneAt K l0 r2 F20 B20) (fun r21 F21 B21 => zbind (f_M_toneAt K l0 r4 F21 B21) (fun r22 F22 B22 => if r32 (r19 - r20) then (if (r19 - r20) ≤ 0 then f_M_isParallel_119 K (r21 - r22) (r19 - r20) r4 r3 r2 r1 l0 l2 F22 B22 else if r32 (r21 - r22) then (if 0 < (r21 - r22) then f_M_isParallel_129 K r4 r3 r2 r1 l0 l2 F22 B22 else f_M_isParallel_119 K (r21 - r22) (r19 - r20) r4 r3 r2 r1 l0 l2 F22 B22) else none) else none))))) else none)) else none)) else none) else none) else none) else none))))) = some (r, F9, B9) := hf
  refine lv_aload_n hx hb (D_42 W_prog_15_method_189_code_0 0 rfl rfl) rfl (lv_at hl 0 rfl) ?_
  refine lv_iload_n hx hb (D_27 W_prog_15_method_189_code_0 1 rfl rfl) rfl (lv_at hl 1 rfl) ?_
  refine lv_iload_n hx hb (D_29 W_prog_15_method_189_code_0 2 rfl rfl) rfl (lv_at hl 3 rfl) ?_
  obtain ⟨r1, F1, B1, hc1, hf⟩ := gbind hf
  refine va_calli (va_runS (As := [.ref (ad 13 l0 0), .int (iI l1), .int (iI l3)]) (rest := []) ⟨hx, hb, hml, hown, hts⟩ (c_M_lineAt (l := l) hc1) (va_cwS 3 hts (gdS k_15_115 k_15_116 k_1_9 k_15_117) rfl rfl rfl (by decide +kernel) ⟨Nat.le_of_ble_eq_true rfl, Nat.le_of_ble_eq_true rfl⟩) (zPS X hZ hS [.ref (ad 13 l0 0), .int (iI l1), .int (iI l3)]) rfl rfl hl.1 rfl (lv_room (Nat.le_of_ble_eq_true rfl)) (D_184 W_prog_15_method_189_code_0 3 rfl rfl rfl) ⟨Nat.le_of_ble_eq_true rfl, Nat.le_of_ble_eq_true rfl⟩) hS (fun q _ h => zAin X hS q h) (zAin X hS) (fun p1 u1 t1 H1 locs1 ht1 hv1 hw1 hB1 hz1 hk1 hS1 => ?_)
  have hZ1 := zBack X ht1 hB1
  subst hw1
  refine lv_istore (lv' := [(5, .int (iI r1)), (0, .ref (ad 13 l0 0)), (1, .int (iI l1)), (2, .int (iI l2)), (3, .int (iI l3)), (4, .int (iI l4))]) hx hb (D_54 W_prog_15_method_189_code_0 6 rfl rfl) hl (by decide) rfl (fun ls hl => ?_)
  refine lv_aload_n hx hb (D_42 W_prog_15_method_189_code_0 8 rfl rfl) rfl (lv_at hl 1 rfl) ?_
  refine lv_iload_n hx hb (D_27 W_prog_15_method_189_code_0 9 rfl rfl) rfl (lv_at hl 2 rfl) ?_
  refine lv_iload hx hb (D_21 W_prog_15_method_189_code_0 10 rfl rfl) (lv_at hl 5 rfl) ?_
  obtain ⟨r2, F2, B2, hc2, hf⟩ := gbind hf
  refine va_calli (va_runS (As := [.ref (ad 13 l0 0), .int (iI l1), .int (iI l4)]) (rest := []) ⟨hx, hb, hml, hown, hts⟩ (c_M_lineAt (l := l) hc2) (va_cwS 3 hts (gdS k_15_115 k_15_116 k_1_9 k_15_117) rfl rfl rfl (by decide +kernel) ⟨Nat.le_of_ble_eq_true rfl, Nat.le_of_ble_eq_true rfl⟩) (zPS X hZ1 hS1 [.ref (ad 13 l0 0), .int (iI l1), .int (iI l4)]) rfl rfl hl.1 rfl (lv_room (Nat.le_of_ble_eq_true rfl)) (D_184 W_prog_15_method_189_code_0 12 rfl rfl rfl) ⟨Nat.le_of_ble_eq_true rfl, Nat.le_of_ble_eq_true rfl⟩) hS1 (fun q _ h => zAin X hS1 q h) (zAin X hS1) (fun p2 u2 t2 H2 locs2 ht2 hv2 hw2 hB2 hz2 hk2 hS2 => ?_)
  have hZ2 := zBack X ht2 hB2
  subst hw2
  refine lv_istore (lv' := [(6, .int (iI r2)), (5, .int (iI r1)), (0, .ref (ad 13 l0 0)), (1, .int (iI l1)), (2, .int (iI l2)), (3, .int (iI l3)), (4, .int (iI l4))]) hx hb (D_54 W_prog_15_method_189_code_0 15 rfl rfl) hl (by decide) rfl (fun ls hl => ?_)
  refine lv_aload_n hx hb (D_42 W_prog_15_method_189_code_0 17 rfl rfl) rfl (lv_at hl 2 rfl) ?_
  refine lv_iload_n hx hb (D_27 W_prog_15_method_189_code_0 18 rfl rfl) rfl (lv_at hl 3 rfl) ?_
  refine lv_iconst (v := iI 1) hx hb (D_4 W_prog_15_method_189_code_0 19 rfl rfl) rfl ?_
  refine zsub hx hb (D_100 W_prog_15_method_189_code_0 20 rfl rfl) ?_
  refine lv_iload_n hx hb (D_29 W_prog_15_method_189_code_0 21 rfl rfl) rfl (lv_at hl 5 rfl) ?_
  obtain ⟨r3, F3, B3, hc3, hf⟩ := gbind hf
  refine va_calli (va_runS (As := [.ref (ad 13 l0 0), .int (iI (l1 - 1)), .int (iI l3)]) (rest := []) ⟨hx, hb, hml, hown, hts⟩ (c_M_lineAt (l := l) hc3) (va_cwS 3 hts (gdS k_15_115 k_15_116 k_1_9 k_15_117) rfl rfl rfl (by decide +kernel) ⟨Nat.le_of_ble_eq_true rfl, Nat.le_of_ble_eq_true rfl⟩) (zPS X hZ2 hS2 [.ref (ad 13 l0 0), .int (iI (l1 - 1)), .int (iI l3)]) rfl rfl hl.1 rfl (lv_room (Nat.le_of_ble_eq_true rfl)) (D_184 W_prog_15_method_189_code_0 22 rfl rfl rfl) ⟨Nat.le_of_ble_eq_true rfl, Nat.le_of_ble_eq_true rfl⟩) hS2 (fun q _ h => zAin X hS2 q h) (zAin X hS2) (fun p3 u3 t3 H3 locs3 ht3 hv3 hw3 hB3 hz3 hk3 hS3 => ?_)
  have hZ3 := zBack X ht3 hB3
  subst hw3
  refine lv_istore (lv' := [(7, .int (iI r3)), (6, .int (iI r2)), (5, .int (iI r1)), (0, .ref (ad 13 l0 0)), (1, .int (iI l1)), (2, .int (iI l2)), (3, .int (iI l3)), (4, .int (iI l4))]) hx hb (D_54 W_prog_15_method_189_code_0 25 rfl rfl) hl (by decide) rfl (fun ls hl => ?_)
  refine lv_aload_n hx hb (D_42 W_prog_15_method_189_code_0 27 rfl rfl) rfl (lv_at hl 3 rfl) ?_
  refine lv_iload_n hx hb (D_27 W_prog_15_method_189_code_0 28 rfl rfl) rfl (lv_at hl 4 rfl) ?_
  refine lv_iconst (v := iI 1) hx hb (D_4 W_prog_15_method_189_code_0 29 rfl rfl) rfl ?_
  refine zsub hx hb (D_100 W_prog_15_method_189_code_0 30 rfl rfl) ?_
  refine lv_iload hx hb (D_21 W_prog_15_method_189_code_0 31 rfl rfl) (lv_at hl 7 rfl) ?_
  obtain ⟨r4, F4, B4, hc4, hf⟩ := gbind hf
  refine va_calli (va_runS (As := [.ref (ad 13 l0 0), .int (iI (l1 - 1)), .int (iI l4)]) (rest := []) ⟨hx, hb, hml, hown, hts⟩ (c_M_lineAt (l := l) hc4) (va_cwS 3 hts (gdS k_15_115 k_15_116 k_1_9 k_15_117) rfl rfl rfl (by decide +kernel) ⟨Nat.le_of_ble_eq_true rfl, Nat.le_of_ble_eq_true rfl⟩) (zPS X hZ3 hS3 [.ref (ad 13 l0 0), .int (iI (l1 - 1)), .int (iI l4)]) rfl rfl hl.1 rfl (lv_room (Nat.le_of_ble_eq_true rfl)) (D_184 W_prog_15_method_189_code_32 1 rfl rfl rfl) ⟨Nat.le_of_ble_eq_true rfl, Nat.le_of_ble_eq_true rfl⟩) hS3 (fun q _ h => zAin X hS3 q h) (zAin X hS3) (fun p4 u4 t4 H4 locs4 ht4 hv4 hw4 hB4 hz4 hk4 hS4 => ?_)
  have hZ4 := zBack X ht4 hB4
  subst hw4
  refine lv_istore (lv' := [(8, .int (iI r4)), (7, .int (iI r3)), (6, .int (iI r2)), (5, .int (iI r1)), (0, .ref (ad 13 l0 0)), (1, .int (iI l1)), (2, .int (iI l2)), (3, .int (iI l3)), (4, .int (iI l4))]) hx hb (D_54 W_prog_15_method_189_code_32 4 rfl rfl) hl (by decide) rfl (fun ls hl => ?_)
  refine lv_iload hx hb (D_21 W_prog_15_method_189_code_32 6 rfl rfl) (lv_at hl 3 rfl) ?_
  obtain ⟨g5, hf⟩ := gif hf
  refine z0lt (tgt := 77) hx hb g5 (D_155 W_prog_15_method_189_code_32 8 rfl rfl rfl) (by decide) (fun h6 => ?_) (fun h6 => ?_)
  · replace hf := gpos hf h6
    exact b_M_isParallel_77 X hf hZ4 hS4 (lv_sub hl [] rfl)
  · replace hf := gneg hf h6
    refine lv_iload hx hb (D_21 W_prog_15_method_189_code_32 11 rfl rfl) (lv_at hl 2 rfl) ?_
    obtain ⟨g7, hf⟩ := gif hf
    refine z0lt (tgt := 77) hx hb g7 (D_155 W_prog_15_method_189_code_32 13 rfl rfl rfl) (by decide) (fun h8 => ?_) (fun h8 => ?_)
    · replace hf := gpos hf h8
      exact b_M_isParallel_77 X hf hZ4 hS4 (lv_sub hl [] rfl)
    · replace hf := gneg hf h8
      refine lv_iload hx hb (D_21 W_prog_15_method_189_code_32 16 rfl rfl) (lv_at hl 1 rfl) ?_
      obtain ⟨g9, hf⟩ := gif hf
      refine z0lt (tgt := 77) hx hb g9 (D_155 W_prog_15_method_189_code_32 18 rfl rfl rfl) (by decide) (fun h10 => ?_) (fun h10 => ?_)
      · replace hf := gpos hf h10
        exact b_M_isParallel_77 X hf hZ4 hS4 (lv_sub hl [] rfl)
      · replace hf := gneg hf h10
        refine lv_iload hx hb (D_21 W_prog_15_method_189_code_32 21 rfl rfl) (lv_at hl 0 rfl) ?_
        obtain ⟨g11, hf⟩ := gif hf
        refine z0lt (tgt := 77) hx hb g11 (D_155 W_prog_15_method_189_code_32 23 rfl rfl rfl) (by decide) (fun h12 => ?_) (fun h12 => ?_)
        · replace hf := gpos hf h12
          exact b_M_isParallel_77 X hf hZ4 hS4 (lv_sub hl [] rfl)
        · replace hf := gneg hf h12
          refine lv_aload_n hx hb (D_42 W_prog_15_method_189_code_32 26 rfl rfl) rfl (lv_at hl 4 rfl) ?_
          refine lv_iload_n hx hb (D_27 W_prog_15_method_189_code_32 27 rfl rfl) rfl (lv_at hl 5 rfl) ?_
          refine lv_iload_n hx hb (D_29 W_prog_15_method_189_code_32 28 rfl rfl) rfl (lv_at hl 7 rfl) ?_
          obtain ⟨r13, F13, B13, hc13, hf⟩ := gbind hf
          refine va_calli (va_runS (As := [.ref (ad 13 l0 0), .int (iI l1), .int (iI l3)]) (rest := []) ⟨hx, hb, hml, hown, hts⟩ (c_M_beginsAt (l := l) hc13) (va_cwS 3 hts (gdS k_15_118 k_15_119 k_1_9 k_15_120) rfl rfl rfl (by decide +kernel) ⟨Nat.le_of_ble_eq_true rfl, Nat.le_of_ble_eq_true rfl⟩) (zPS X hZ4 hS4 [.ref (ad 13 l0 0), .int (iI l1), .int (iI l3)]) rfl rfl hl.1 rfl (lv_room (Nat.le_of_ble_eq_true rfl)) (D_184 W_prog_15_method_189_code_32 29 rfl rfl rfl) ⟨Nat.le_of_ble_eq_true rfl, Nat.le_of_ble_eq_true rfl⟩) hS4 (fun q _ h => zAin X hS4 q h) (zAin X hS4) (fun p13 u13 t13 H13 locs13 ht13 hv13 hw13 hB13 hz13 hk13 hS13 => ?_)
          have hZ13 := zBack X ht13 hB13
          subst hw13
          obtain ⟨g14, hf⟩ := gif hf
          refine z0eq (tgt := 77) hx hb g14 (D_153 W_prog_15_method_189_code_64 0 rfl rfl rfl) (by decide) (fun h15 => ?_) (fun h15 => ?_)
          · replace hf := gpos hf h15
            exact b_M_isParallel_77 X hf hZ13 hS13 (lv_sub hl [] rfl)
          · replace hf := gneg hf h15
            refine lv_aload_n hx hb (D_42 W_prog_15_method_189_code_64 3 rfl rfl) rfl (lv_at hl 4 rfl) ?_
            refine lv_iload_n hx hb (D_27 W_prog_15_method_189_code_64 4 rfl rfl) rfl (lv_at hl 5 rfl) ?_
            refine lv_iload hx hb (D_21 W_prog_15_method_189_code_64 5 rfl rfl) (lv_at hl 8 rfl) ?_
            obtain ⟨r16, F16, B16, hc16, hf⟩ := gbind hf
            refine va_calli (va_runS (As := [.ref (ad 13 l0 0), .int (iI l1), .int (iI l4)]) (rest := []) ⟨hx, hb, hml, hown, hts⟩ (c_M_beginsAt (l := l) hc16) (va_cwS 3 hts (gdS k_15_118 k_15_119 k_1_9 k_15_120) rfl rfl rfl (by decide +kernel) ⟨Nat.le_of_ble_eq_true rfl, Nat.le_of_ble_eq_true rfl⟩) (zPS X hZ13 hS13 [.ref (ad 13 l0 0), .int (iI l1), .int (iI l4)]) rfl rfl hl.1 rfl (lv_room (Nat.le_of_ble_eq_true rfl)) (D_184 W_prog_15_method_189_code_64 7 rfl rfl rfl) ⟨Nat.le_of_ble_eq_true rfl, Nat.le_of_ble_eq_true rfl⟩) hS13 (fun q _ h => zAin X hS13 q h) (zAin X hS13) (fun p16 u16 t16 H16 locs16 ht16 hv16 hw16 hB16 hz16 hk16 hS16 => ?_)
            have hZ16 := zBack X ht16 hB16
            subst hw16
            obtain ⟨g17, hf⟩ := gif hf
            refine z0ne (tgt := 79) hx hb g17 (D_154 W_prog_15_method_189_code_64 10 rfl rfl rfl) (by decide) (fun h18 => ?_) (fun h18 => ?_)
            · replace hf := gneg hf h18
              refine lv_aload_n hx hb (D_42 W_prog_15_method_189_code_64 15 rfl rfl) rfl (lv_at hl 4 rfl) ?_
              refine lv_iload hx hb (D_21 W_prog_15_method_189_code_64 16 rfl rfl) (lv_at hl 3 rfl) ?_
              obtain ⟨r19, F19, B19, hc19, hf⟩ := gbind hf
              refine va_calli (va_runS (As := [.ref (ad 13 l0 0), .int (iI r1)]) (rest := []) ⟨hx, hb, hml, hown, hts⟩ (c_M_toneAt (l := l) hc19) (va_cwS 2 hts (gdS k_15_121 k_15_122 k_1_9 k_15_123) rfl rfl rfl (by decide +kernel) ⟨Nat.le_of_ble_eq_true rfl, Nat.le_of_ble_eq_true rfl⟩) (zPS X hZ16 hS16 [.ref (ad 13 l0 0), .int (iI r1)]) rfl rfl hl.1 rfl (lv_room (Nat.le_of_ble_eq_true rfl)) (D_184 W_prog_15_method_189_code_64 18 rfl rfl rfl) ⟨Nat.le_of_ble_eq_true rfl, Nat.le_of_ble_eq_true rfl⟩) hS16 (fun q _ h => zAin X hS16 q h) (zAin X hS16) (fun p19 u19 t19 H19 locs19 ht19 hv19 hw19 hB19 hz19 hk19 hS19 => ?_)
              have hZ19 := zBack X ht19 hB19
              subst hw19
              refine lv_aload_n hx hb (D_42 W_prog_15_method_189_code_64 21 rfl rfl) rfl (lv_at hl 4 rfl) ?_
              refine lv_iload hx hb (D_21 W_prog_15_method_189_code_64 22 rfl rfl) (lv_at hl 1 rfl) ?_
              obtain ⟨r20, F20, B20, hc20, hf⟩ := gbind hf
              refine va_calli (va_runS (As := [.ref (ad 13 l0 0), .int (iI r3)]) (rest := [.int (iI r19)]) ⟨hx, hb, hml, hown, hts⟩ (c_M_toneAt (l := l) hc20) (va_cwS 2 hts (gdS k_15_121 k_15_122 k_1_9 k_15_123) rfl rfl rfl (by decide +kernel) ⟨Nat.le_of_ble_eq_true rfl, Nat.le_of_ble_eq_true rfl⟩) (zPS X hZ19 hS19 [.ref (ad 13 l0 0), .int (iI r3)]) rfl rfl hl.1 rfl (lv_room (Nat.le_of_ble_eq_true rfl)) (D_184 W_prog_15_method_189_code_64 24 rfl rfl rfl) ⟨Nat.le_of_ble_eq_true rfl, Nat.le_of_ble_eq_true rfl⟩) hS19 (fun q _ h => zAin X hS19 q h) (zAin X hS19) (fun p20 u20 t20 H20 locs20 ht20 hv20 hw20 hB20 hz20 hk20 hS20 => ?_)
              have hZ20 := zBack X ht20 hB20
              subst hw20
              refine zsub hx hb (D_100 W_prog_15_method_189_code_64 27 rfl rfl) ?_
              refine lv_istore (lv' := [(9, .int (iI (r19 - r20))), (8, .int (iI r4)), (7, .int (iI r3)), (6, .int (iI r2)), (5, .int (iI r1)), (0, .ref (ad 13 l0 0)), (1, .int (iI l1)), (2, .int (iI l2)), (3, .int (iI l3)), (4, .int (iI l4))]) hx hb (D_54 W_prog_15_method_189_code_64 28 rfl rfl) hl (by decide) rfl (fun ls hl => ?_)
              refine lv_aload_n hx hb (D_42 W_prog_15_method_189_code_64 30 rfl rfl) rfl (lv_at hl 5 rfl) ?_
              refine lv_iload hx hb (D_21 W_prog_15_method_189_code_64 31 rfl rfl) (lv_at hl 3 rfl) ?_
              obtain ⟨r21, F21, B21, hc21, hf⟩ := gbind hf
              refine va_calli (va_runS (As := [.ref (ad 13 l0 0), .int (iI r2)]) (rest := []) ⟨hx, hb, hml, hown, hts⟩ (c_M_toneAt (l := l) hc21) (va_cwS 2 hts (gdS k_15_121 k_15_122 k_1_9 k_15_123) rfl rfl rfl (by decide +kernel) ⟨Nat.le_of_ble_eq_true rfl, Nat.le_of_ble_eq_true rfl⟩) (zPS X hZ20 hS20 [.ref (ad 13 l0 0), .int (iI r2)]) rfl rfl hl.1 rfl (lv_room (Nat.le_of_ble_eq_true rfl)) (D_184 W_prog_15_method_189_code_96 1 rfl rfl rfl) ⟨Nat.le_of_ble_eq_true rfl, Nat.le_of_ble_eq_true rfl⟩) hS20 (fun q _ h => zAin X hS20 q h) (zAin X hS20) (fun p21 u21 t21 H21 locs21 ht21 hv21 hw21 hB21 hz21 hk21 hS21 => ?_)
              have hZ21 := zBack X ht21 hB21
              subst hw21
              refine lv_aload_n hx hb (D_42 W_prog_15_method_189_code_96 4 rfl rfl) rfl (lv_at hl 5 rfl) ?_
              refine lv_iload hx hb (D_21 W_prog_15_method_189_code_96 5 rfl rfl) (lv_at hl 1 rfl) ?_
              obtain ⟨r22, F22, B22, hc22, hf⟩ := gbind hf
              refine va_calli (va_runS (As := [.ref (ad 13 l0 0), .int (iI r4)]) (rest := [.int (iI r21)]) ⟨hx, hb, hml, hown, hts⟩ (c_M_toneAt (l := l) hc22) (va_cwS 2 hts (gdS k_15_121 k_15_122 k_1_9 k_15_123) rfl rfl rfl (by decide +kernel) ⟨Nat.le_of_ble_eq_true rfl, Nat.le_of_ble_eq_true rfl⟩) (zPS X hZ21 hS21 [.ref (ad 13 l0 0), .int (iI r4)]) rfl rfl hl.1 rfl (lv_room (Nat.le_of_ble_eq_true rfl)) (D_184 W_prog_15_method_189_code_96 7 rfl rfl rfl) ⟨Nat.le_of_ble_eq_true rfl, Nat.le_of_ble_eq_true rfl⟩) hS21 (fun q _ h => zAin X hS21 q h) (zAin X hS21) (fun p22 u22 t22 H22 locs22 ht22 hv22 hw22 hB22 hz22 hk22 hS22 => ?_)
              have hZ22 := zBack X ht22 hB22
              subst hw22
              refine zsub hx hb (D_100 W_prog_15_method_189_code_96 10 rfl rfl) ?_
              refine lv_istore (lv' := [(10, .int (iI (r21 - r22))), (9, .int (iI (r19 - r20))), (8, .int (iI r4)), (7, .int (iI r3)), (6, .int (iI r2)), (5, .int (iI r1)), (0, .ref (ad 13 l0 0)), (1, .int (iI l1)), (2, .int (iI l2)), (3, .int (iI l3)), (4, .int (iI l4))]) hx hb (D_54 W_prog_15_method_189_code_96 11 rfl rfl) hl (by decide) rfl (fun ls hl => ?_)
              refine lv_iload hx hb (D_21 W_prog_15_method_189_code_96 13 rfl rfl) (lv_at hl 1 rfl) ?_
              obtain ⟨g23, hf⟩ := gif hf
              refine z0le (tgt := 119) hx hb g23 (D_158 W_prog_15_method_189_code_96 15 rfl rfl rfl) (by decide) (fun h24 => ?_) (fun h24 => ?_)
              · replace hf := gpos hf h24
                exact b_M_isParallel_119 X hf hZ22 hS22 (lv_sub hl [0, 1, 2, 3, 4, 5, 6, 8] rfl)
              · replace hf := gneg hf h24
                refine lv_iload hx hb (D_21 W_prog_15_method_189_code_96 18 rfl rfl) (lv_at hl 0 rfl) ?_
                obtain ⟨g25, hf⟩ := gif hf
                refine z0gt (tgt := 129) hx hb g25 (D_157 W_prog_15_method_189_code_96 20 rfl rfl rfl) (by decide) (fun h26 => ?_) (fun h26 => ?_)
                · replace hf := gpos hf h26
                  exact b_M_isParallel_129 X hf hZ22 hS22 (lv_sub hl [2, 3, 4, 5, 6, 8] rfl)
                · replace hf := gneg hf h26
                  exact b_M_isParallel_119 X hf hZ22 hS22 (lv_sub hl [0, 1, 2, 3, 4, 5, 6, 8] rfl)
            · replace hf := gpos hf h18
              exact b_M_isParallel_77 X hf hZ16 hS16 (lv_sub hl [] rfl)

abbrev Q_M_lines (D : va_G) (ca : Nat → ClassId) (ad : Nat → Int → Nat → Nat) (L : List Nat) (r : Int) (F : zF) (B : zB) (A : Nat → Prop) : Array Value → State → Outcome → State → Prop := va_Qi (S := Unit) (fun p _ => p = iI r) (fun _ => zPo D ca ad lnM nM L F B A) A
def f_M_lines_177 (K : Nat) : Nat → Int → Int → Int → zF → zB → zO
  | 0, _, _, _, _, _ => none
  | n + 1, l4, l3, l2, F, B => if 0 ≤ l3 ∧ l3 < 3 then if r32 l4 then if r32 (F 13 l3 7) then (if (F 13 l3 7) ≤ l4 then some (F 13 l3 48, F, B) else if 0 ≤ (F 13 l3 48) ∧ (F 13 l3 48) < 100 then if 0 ≤ l4 ∧ l4 < 101 then zbind (f_M_lineWide K l3 l4 ((zup4 (zup4 B 13 l3 49 (F 13 l3 48) l4) 13 l3 50 (F 13 l3 48) ((zup4 B 13 l3 49 (F 13 l3 48) l4) 14 0 60 l4)) 14 0 60 l4) F (zup4 (zup4 B 13 l3 49 (F 13 l3 48) l4) 13 l3 50 (F 13 l3 48) ((zup4 B 13 l3 49 (F 13 l3 48) l4) 14 0 60 l4))) (fun r42 F42 B42 => zbind (f_M_price K l3 l4 ((zup4 B42 13 l3 51 (F 13 l3 48) r42) 14 0 60 l4) l2 F42 (zup4 B42 13 l3 51 (F 13 l3 48) r42)) (fun r44 F44 B44 => if 0 ≤ (F42 13 l3 48) ∧ (F42 13 l3 48) < 100 then f_M_lines_177 K n (l4 + ((zup4 B44 13 l3 52 (F42 13 l3 48) r44) 14 0 60 l4)) l3 l2 (zup3 F44 13 l3 48 ((F44 13 l3 48) + 1)) (zup4 B44 13 l3 52 (F42 13 l3 48) r44) else none)) else none else none) else none else none else none
set_option maxHeartbeats 4000000 in
set_option maxRecDepth 100000 in
theorem b_M_lines_177 {D : va_G} {ca : Nat → ClassId} {ad : Nat → Int → Nat → Nat} {L : List Nat} {aS vS : Nat → Nat} {A : Nat → Prop} {p : Program} {l : Launch} {e : Env} {s : State} {m : MethodId} {args : Array Value} {below : List Frame} {meth : Method} {c : Code} {K : Nat} {r : Int} {F9 : zF} {B9 : zB} (X : zX D ca L aS vS A p s m args meth c prog_15_method_108_code 10 (Option.some Jvm.ClassFile.FieldType.int) "StaveHouseModel") : ∀ {n : Nat} {l4 : Int} {l3 : Int} {l2 : Int} {F : zF} {B : zB} {H : Heap} {locs : List Loc} {ls : Array Slot}, f_M_lines_177 K n l4 l3 l2 F B = some (r, F9, B9) → zH D ca ad lnM nM L F B A H → va_S A s.heap H locs → lv_has ls 10 [(4, .int (iI l4)), (3, va_rf (zrf ad 13 l3)), (0, .ref (ad 14 0 0)), (2, .int (iI l2))] → W p l e ({ frames := 3, cells := 0, slots := 0, locals := 70 } : Room) s m args below meth c H locs 0 0 (MQ below (Q_M_lines D ca ad L r F9 B9 A) args s 0 0 A) (F0 m 177 ls []) := by
  obtain ⟨hx, hb, hr, hml, hown, hts, hlk, hK, hA, hL, hX⟩ := id X
  intro n
  induction n with
  | zero =>
    intros
    rename_i hf _ _ _
    cases hf
  | succ n ih =>
    intro l4 l3 l2 F B H locs ls hf hZ hS hl
    replace hf : (if 0 ≤ l3 ∧ l3 < 3 then if r32 l4 then if r32 (F 13 l3 7) then (if (F 13 l3 7) ≤ l4 then some (F 13 l3 48, F, B) else if 0 ≤ (F 13 l3 48) ∧ (F 13 l3 48) < 100 then if 0 ≤ l4 ∧ l4 < 101 then zbind (f_M_lineWide K l3 l4 ((zup4 (zup4 B 13 l3 49 (F 13 l3 48) l4) 13 l3 50 (F 13 l3 48) ((zup4 B 13 l3 49 (F 13 l3 48) l4) 14 0 60 l4)) 14 0 60 l4) F (zup4 (zup4 B 13 l3 49 (F 13 l3 48) l4) 13 l3 50 (F 13 l3 48) ((zup4 B 13 l3 49 (F 13 l3 48) l4) 14 0 60 l4))) (fun r42 F42 B42 => zbind (f_M_price K l3 l4 ((zup4 B42 13 l3 51 (F 13 l3 48) r42) 14 0 60 l4) l2 F42 (zup4 B42 13 l3 51 (F 13 l3 48) r42)) (fun r44 F44 B44 => if 0 ≤ (F42 13 l3 48) ∧ (F42 13 l3 48) < 100 then f_M_lines_177 K n (l4 + ((zup4 B44 13 l3 52 (F42 13 l3 48) r44) 14 0 60 l4)) l3 l2 (zup3 F44 13 l3 48 ((F44 13 l3 48) + 1)) (zup4 B44 13 l3 52 (F42 13 l3 48) r44) else none)) else none else none) else none else none else none) = some (r, F9, B9) := hf
    refine lv_iload hx hb (D_21 W_prog_15_method_108_code_160 17 rfl rfl) (lv_at hl 0 rfl) ?_
    refine zaload_n hx hb (D_45 W_prog_15_method_108_code_160 19 rfl rfl) rfl (lv_at hl 1 rfl) ?_
    obtain ⟨g34, hf⟩ := gif hf
    refine zunrf g34.1 ?_
    refine zget (ci := 13) (C := RX13) (T := TX13) (v := .int (iI (F 13 l3 7))) (k := 7) hx hb hts inW_13 hown hK hZ g34.1 g34.2 rfl (by decide) k_9_132 rfl (D_180 W_prog_15_method_108_code_160 20 rfl rfl rfl) ?_
    obtain ⟨g35, hf⟩ := gif hf
    obtain ⟨g36, hf⟩ := gif hf
    refine zge (tgt := 283) hx hb g35 g36 (D_162 W_prog_15_method_108_code_160 23 rfl rfl rfl) (by decide) (fun h37 => ?_) (fun h37 => ?_)
    · replace hf := gpos hf h37
      refine zaload_n hx hb (D_45 W_prog_15_method_108_code_256 27 rfl rfl) rfl (lv_at hl 1 rfl) ?_
      refine zunrf g34.1 ?_
      refine zget (ci := 13) (C := RX13) (T := TX13) (v := .int (iI (F 13 l3 48))) (k := 48) hx hb hts inW_13 hown hK hZ g34.1 g34.2 rfl (by decide) k_9_212 rfl (D_180 W_prog_15_method_108_code_256 28 rfl rfl rfl) ?_
      cases hf
      exact W.iret hx hb hr (fun t ht hW => ⟨⟨_, (), rfl, rfl, by rw [ht]; exact hZ, va_K.moved hW.alike hK⟩, hS.F ht⟩) hS.2.2 (D_172 W_prog_15_method_108_code_256 31 rfl rfl) hlk
    · replace hf := gneg hf h37
      refine zaload_n hx hb (D_45 W_prog_15_method_108_code_160 26 rfl rfl) rfl (lv_at hl 1 rfl) ?_
      refine zunrf g34.1 ?_
      refine zget (ci := 13) (C := RX13) (T := TX13) (v := .ref (ad 13 l3 (49 + 1))) (k := 49) hx hb hts inW_13 hown hK hZ g34.1 g34.2 rfl (by decide) k_9_214 rfl (D_180 W_prog_15_method_108_code_160 27 rfl rfl rfl) ?_
      refine zaload_n hx hb (D_45 W_prog_15_method_108_code_160 30 rfl rfl) rfl (lv_at hl 1 rfl) ?_
      refine zunrf g34.1 ?_
      refine zget (ci := 13) (C := RX13) (T := TX13) (v := .int (iI (F 13 l3 48))) (k := 48) hx hb hts inW_13 hown hK hZ g34.1 g34.2 rfl (by decide) k_9_212 rfl (D_180 W_prog_15_method_108_code_160 31 rfl rfl rfl) ?_
      refine lv_iload hx hb (D_21 W_prog_15_method_108_code_192 2 rfl rfl) (lv_at hl 0 rfl) ?_
      obtain ⟨g38, hf⟩ := gif hf
      refine zast (ci := 13) (k := 49) hx hb hK rfl hZ hS g34.1 g34.2 rfl (Nat.le_of_ble_eq_true rfl) g38.1 g38.2 (D_79 W_prog_15_method_108_code_192 4 rfl rfl) (fun H39 locs39 hZ39 hS39 => ?_)
      refine zaload_n hx hb (D_45 W_prog_15_method_108_code_192 5 rfl rfl) rfl (lv_at hl 1 rfl) ?_
      refine zunrf g34.1 ?_
      refine zget (ci := 13) (C := RX13) (T := TX13) (v := .ref (ad 13 l3 (50 + 1))) (k := 50) hx hb hts inW_13 hown hK hZ39 g34.1 g34.2 rfl (by decide) k_9_216 rfl (D_180 W_prog_15_method_108_code_192 6 rfl rfl rfl) ?_
      refine zaload_n hx hb (D_45 W_prog_15_method_108_code_192 9 rfl rfl) rfl (lv_at hl 1 rfl) ?_
      refine zunrf g34.1 ?_
      refine zget (ci := 13) (C := RX13) (T := TX13) (v := .int (iI (F 13 l3 48))) (k := 48) hx hb hts inW_13 hown hK hZ39 g34.1 g34.2 rfl (by decide) k_9_212 rfl (D_180 W_prog_15_method_108_code_192 10 rfl rfl rfl) ?_
      refine lv_aload_n hx hb (D_42 W_prog_15_method_108_code_192 13 rfl rfl) rfl (lv_at hl 2 rfl) ?_
      refine zget (ci := 14) (C := RX14) (T := TX14) (v := .ref (ad 14 0 (60 + 1))) (k := 60) hx hb hts inW_14 hown hK hZ39 (by decide) (by decide) rfl (by decide) k_11_58 rfl (D_180 W_prog_15_method_108_code_192 14 rfl rfl rfl) ?_
      refine lv_iload hx hb (D_21 W_prog_15_method_108_code_192 17 rfl rfl) (lv_at hl 0 rfl) ?_
      obtain ⟨g40, hf⟩ := gif hf
      refine zald (ci := 14) (k := 60) hx hb hK rfl hZ39 (by decide) (by decide) rfl (Nat.le_of_ble_eq_true rfl) g40.1 g40.2 (D_46 W_prog_15_method_108_code_192 19 rfl rfl) ?_
      refine zast (ci := 13) (k := 50) hx hb hK rfl hZ39 hS39 g34.1 g34.2 rfl (Nat.le_of_ble_eq_true rfl) g38.1 g38.2 (D_79 W_prog_15_method_108_code_192 20 rfl rfl) (fun H41 locs41 hZ41 hS41 => ?_)
      refine zaload_n hx hb (D_45 W_prog_15_method_108_code_192 21 rfl rfl) rfl (lv_at hl 1 rfl) ?_
      refine zunrf g34.1 ?_
      refine zget (ci := 13) (C := RX13) (T := TX13) (v := .ref (ad 13 l3 (51 + 1))) (k := 51) hx hb hts inW_13 hown hK hZ41 g34.1 g34.2 rfl (by decide) k_9_218 rfl (D_180 W_prog_15_method_108_code_192 22 rfl rfl rfl) ?_
      refine zaload_n hx hb (D_45 W_prog_15_method_108_code_192 25 rfl rfl) rfl (lv_at hl 1 rfl) ?_
      refine zunrf g34.1 ?_
      refine zget (ci := 13) (C := RX13) (T := TX13) (v := .int (iI (F 13 l3 48))) (k := 48) hx hb hts inW_13 hown hK hZ41 g34.1 g34.2 rfl (by decide) k_9_212 rfl (D_180 W_prog_15_method_108_code_192 26 rfl rfl rfl) ?_
      refine zaload_n hx hb (D_45 W_prog_15_method_108_code_192 29 rfl rfl) rfl (lv_at hl 1 rfl) ?_
      refine lv_iload hx hb (D_21 W_prog_15_method_108_code_192 30 rfl rfl) (lv_at hl 0 rfl) ?_
      refine lv_aload_n hx hb (D_42 W_prog_15_method_108_code_224 0 rfl rfl) rfl (lv_at hl 2 rfl) ?_
      refine zget (ci := 14) (C := RX14) (T := TX14) (v := .ref (ad 14 0 (60 + 1))) (k := 60) hx hb hts inW_14 hown hK hZ41 (by decide) (by decide) rfl (by decide) k_11_58 rfl (D_180 W_prog_15_method_108_code_224 1 rfl rfl rfl) ?_
      refine lv_iload hx hb (D_21 W_prog_15_method_108_code_224 4 rfl rfl) (lv_at hl 0 rfl) ?_
      refine zald (ci := 14) (k := 60) hx hb hK rfl hZ41 (by decide) (by decide) rfl (Nat.le_of_ble_eq_true rfl) g40.1 g40.2 (D_46 W_prog_15_method_108_code_224 6 rfl rfl) ?_
      refine W.eq (g2 := F0 m 231 ls [.int (iI ((zup4 (zup4 B 13 l3 49 (F 13 l3 48) l4) 13 l3 50 (F 13 l3 48) ((zup4 B 13 l3 49 (F 13 l3 48) l4) 14 0 60 l4)) 14 0 60 l4)), .int (iI l4), .ref (ad 13 l3 0), .int (iI (F 13 l3 48)), .ref (ad 13 l3 (51 + 1))]) (by rw [zrf_pos (ad := ad) (t := 13) g34.1]; try rfl) ?_
      obtain ⟨r42, F42, B42, hc42, hf⟩ := gbind hf
      refine va_calli (va_runS (As := [.ref (ad 13 l3 0), .int (iI l4), .int (iI ((zup4 (zup4 B 13 l3 49 (F 13 l3 48) l4) 13 l3 50 (F 13 l3 48) ((zup4 B 13 l3 49 (F 13 l3 48) l4) 14 0 60 l4)) 14 0 60 l4))]) (rest := [.int (iI (F 13 l3 48)), .ref (ad 13 l3 (51 + 1))]) ⟨hx, hb, hml, hown, hts⟩ (c_M_lineWide (l := l) hc42) (va_cwS 3 hts (gdS k_12_99 k_12_100 k_1_9 k_12_101) rfl rfl rfl (by decide +kernel) ⟨Nat.le_of_ble_eq_true rfl, Nat.le_of_ble_eq_true rfl⟩) (zPS X hZ41 hS41 [.ref (ad 13 l3 0), .int (iI l4), .int (iI ((zup4 (zup4 B 13 l3 49 (F 13 l3 48) l4) 13 l3 50 (F 13 l3 48) ((zup4 B 13 l3 49 (F 13 l3 48) l4) 14 0 60 l4)) 14 0 60 l4))]) rfl rfl hl.1 rfl (lv_room (Nat.le_of_ble_eq_true rfl)) (D_184 W_prog_15_method_108_code_224 7 rfl rfl rfl) ⟨Nat.le_of_ble_eq_true rfl, Nat.le_of_ble_eq_true rfl⟩) hS41 (fun q _ h => zAin X hS41 q h) (zAin X hS41) (fun p42 u42 t42 H42 locs42 ht42 hv42 hw42 hB42 hz42 hk42 hS42 => ?_)
      have hZ42 := zBack X ht42 hB42
      subst hw42
      refine zast (ci := 13) (k := 51) hx hb hK rfl hZ42 hS42 g34.1 g34.2 rfl (Nat.le_of_ble_eq_true rfl) g38.1 g38.2 (D_79 W_prog_15_method_108_code_224 10 rfl rfl) (fun H43 locs43 hZ43 hS43 => ?_)
      refine zaload_n hx hb (D_45 W_prog_15_method_108_code_224 11 rfl rfl) rfl (lv_at hl 1 rfl) ?_
      refine zunrf g34.1 ?_
      refine zget (ci := 13) (C := RX13) (T := TX13) (v := .ref (ad 13 l3 (52 + 1))) (k := 52) hx hb hts inW_13 hown hK hZ43 g34.1 g34.2 rfl (by decide) k_9_220 rfl (D_180 W_prog_15_method_108_code_224 12 rfl rfl rfl) ?_
      refine zaload_n hx hb (D_45 W_prog_15_method_108_code_224 15 rfl rfl) rfl (lv_at hl 1 rfl) ?_
      refine zunrf g34.1 ?_
      refine zget (ci := 13) (C := RX13) (T := TX13) (v := .int (iI (F42 13 l3 48))) (k := 48) hx hb hts inW_13 hown hK hZ43 g34.1 g34.2 rfl (by decide) k_9_212 rfl (D_180 W_prog_15_method_108_code_224 16 rfl rfl rfl) ?_
      refine zaload_n hx hb (D_45 W_prog_15_method_108_code_224 19 rfl rfl) rfl (lv_at hl 1 rfl) ?_
      refine lv_iload hx hb (D_21 W_prog_15_method_108_code_224 20 rfl rfl) (lv_at hl 0 rfl) ?_
      refine lv_aload_n hx hb (D_42 W_prog_15_method_108_code_224 22 rfl rfl) rfl (lv_at hl 2 rfl) ?_
      refine zget (ci := 14) (C := RX14) (T := TX14) (v := .ref (ad 14 0 (60 + 1))) (k := 60) hx hb hts inW_14 hown hK hZ43 (by decide) (by decide) rfl (by decide) k_11_58 rfl (D_180 W_prog_15_method_108_code_224 23 rfl rfl rfl) ?_
      refine lv_iload hx hb (D_21 W_prog_15_method_108_code_224 26 rfl rfl) (lv_at hl 0 rfl) ?_
      refine zald (ci := 14) (k := 60) hx hb hK rfl hZ43 (by decide) (by decide) rfl (Nat.le_of_ble_eq_true rfl) g40.1 g40.2 (D_46 W_prog_15_method_108_code_224 28 rfl rfl) ?_
      refine lv_iload_n hx hb (D_28 W_prog_15_method_108_code_224 29 rfl rfl) rfl (lv_at hl 3 rfl) ?_
      refine W.eq (g2 := F0 m 254 ls [.int (iI l2), .int (iI ((zup4 B42 13 l3 51 (F 13 l3 48) r42) 14 0 60 l4)), .int (iI l4), .ref (ad 13 l3 0), .int (iI (F42 13 l3 48)), .ref (ad 13 l3 (52 + 1))]) (by rw [zrf_pos (ad := ad) (t := 13) g34.1]; try rfl) ?_
      obtain ⟨r44, F44, B44, hc44, hf⟩ := gbind hf
      refine va_calll (va_runS (As := [.ref (ad 13 l3 0), .int (iI l4), .int (iI ((zup4 B42 13 l3 51 (F 13 l3 48) r42) 14 0 60 l4)), .int (iI l2)]) (rest := [.int (iI (F42 13 l3 48)), .ref (ad 13 l3 (52 + 1))]) ⟨hx, hb, hml, hown, hts⟩ (c_M_price (l := l) hc44) (va_cwS 4 hts (gdS k_12_96 k_12_97 k_1_9 k_12_98) rfl rfl rfl (by decide +kernel) ⟨Nat.le_of_ble_eq_true rfl, Nat.le_of_ble_eq_true rfl⟩) (zPS X hZ43 hS43 [.ref (ad 13 l3 0), .int (iI l4), .int (iI ((zup4 B42 13 l3 51 (F 13 l3 48) r42) 14 0 60 l4)), .int (iI l2)]) rfl rfl hl.1 rfl (lv_room (Nat.le_of_ble_eq_true rfl)) (D_184 W_prog_15_method_108_code_224 30 rfl rfl rfl) ⟨Nat.le_of_ble_eq_true rfl, Nat.le_of_ble_eq_true rfl⟩) hS43 (fun q _ h => zAin X hS43 q h) (zAin X hS43) (fun p44 u44 t44 H44 locs44 ht44 hv44 hw44 hB44 hz44 hk44 hS44 => ?_)
      have hZ44 := zBack X ht44 hB44
      subst hw44
      obtain ⟨g45, hf⟩ := gif hf
      refine zlast (ci := 13) (k := 52) hx hb hK rfl hZ44 hS44 g34.1 g34.2 rfl (Nat.le_of_ble_eq_true rfl) g45.1 g45.2 (D_80 W_prog_15_method_108_code_256 1 rfl rfl) (fun H46 locs46 hZ46 hS46 => ?_)
      refine zaload_n hx hb (D_45 W_prog_15_method_108_code_256 2 rfl rfl) rfl (lv_at hl 1 rfl) ?_
      refine lv_dup hx hb (D_89 W_prog_15_method_108_code_256 3 rfl rfl) (zcat _) ?_
      refine zunrf g34.1 ?_
      refine zget (ci := 13) (C := RX13) (T := TX13) (v := .int (iI (F44 13 l3 48))) (k := 48) hx hb hts inW_13 hown hK hZ46 g34.1 g34.2 rfl (by decide) k_9_212 rfl (D_180 W_prog_15_method_108_code_256 4 rfl rfl rfl) ?_
      refine lv_iconst (v := iI 1) hx hb (D_4 W_prog_15_method_108_code_256 7 rfl rfl) rfl ?_
      refine zadd hx hb (D_96 W_prog_15_method_108_code_256 8 rfl rfl) ?_
      refine W.eq (g2 := F0 m 265 ls [.int (iI ((F44 13 l3 48) + 1)), .ref (ad 13 l3 0)]) (by rw [zrf_pos (ad := ad) (t := 13) g34.1]; try rfl) ?_
      refine zput (ci := 13) (C := RX13) (T := TX13) (k := 48) (v := ((F44 13 l3 48) + 1)) (w := .int (iI ((F44 13 l3 48) + 1))) hx hb hts inW_13 tyX13 tyX13_ok nmX13 hown hK hZ46 hS46 g34.1 g34.2 rfl (by decide) k_9_212 rfl (fun G h => congrArg (fun q => Value.int (iI q)) h) rfl rfl (zno (by decide)) (D_181 W_prog_15_method_108_code_256 9 rfl rfl rfl) (fun H47 locs47 hZ47 hS47 => ?_)
      refine lv_iload hx hb (D_21 W_prog_15_method_108_code_256 12 rfl rfl) (lv_at hl 0 rfl) ?_
      refine lv_aload_n hx hb (D_42 W_prog_15_method_108_code_256 14 rfl rfl) rfl (lv_at hl 2 rfl) ?_
      refine zget (ci := 14) (C := RX14) (T := TX14) (v := .ref (ad 14 0 (60 + 1))) (k := 60) hx hb hts inW_14 hown hK hZ47 (by decide) (by decide) rfl (by decide) k_11_58 rfl (D_180 W_prog_15_method_108_code_256 15 rfl rfl rfl) ?_
      refine lv_iload hx hb (D_21 W_prog_15_method_108_code_256 18 rfl rfl) (lv_at hl 0 rfl) ?_
      refine zald (ci := 14) (k := 60) hx hb hK rfl hZ47 (by decide) (by decide) rfl (Nat.le_of_ble_eq_true rfl) g40.1 g40.2 (D_46 W_prog_15_method_108_code_256 20 rfl rfl) ?_
      refine zadd hx hb (D_96 W_prog_15_method_108_code_256 21 rfl rfl) ?_
      refine lv_istore (lv' := [(4, .int (iI (l4 + ((zup4 B44 13 l3 52 (F42 13 l3 48) r44) 14 0 60 l4)))), (3, va_rf (zrf ad 13 l3)), (0, .ref (ad 14 0 0)), (2, .int (iI l2))]) hx hb (D_54 W_prog_15_method_108_code_256 22 rfl rfl) hl (by decide) (by cases zrf ad 13 l3 <;> rfl) (fun ls hl => ?_)
      refine lv_goto (tgt := 177) hx hb (D_167 W_prog_15_method_108_code_256 24 rfl rfl rfl) (by decide) ?_
      exact ih hf hZ47 hS47 (lv_sub hl [0, 1, 2, 3] rfl)

def f_M_lines_152 (rec44 : Int → Int → Int → zF → zB → zO) (rec60 : Int → Int → Int → Int → zF → zB → zO) (K : Nat) (l5 : Int) (l4 : Int) (l3 : Int) (l2 : Int) (F : zF) (B : zB) : zO := rec60 (l5 + 1) l4 l3 l2 F B
set_option maxHeartbeats 4000000 in
set_option maxRecDepth 100000 in
theorem b_M_lines_152 {D : va_G} {ca : Nat → ClassId} {ad : Nat → Int → Nat → Nat} {L : List Nat} {aS vS : Nat → Nat} {A : Nat → Prop} {p : Program} {l : Launch} {e : Env} {s : State} {m : MethodId} {args : Array Value} {below : List Frame} {meth : Method} {c : Code} {K : Nat} {r : Int} {F9 : zF} {B9 : zB} (X : zX D ca L aS vS A p s m args meth c prog_15_method_108_code 10 (Option.some Jvm.ClassFile.FieldType.int) "StaveHouseModel") {rec44 : Int → Int → Int → zF → zB → zO} {rec60 : Int → Int → Int → Int → zF → zB → zO} (hrec44 : ∀ {l4 : Int} {l3 : Int} {l2 : Int} {F : zF} {B : zB} {H : Heap} {locs : List Loc} {ls : Array Slot}, rec44 l4 l3 l2 F B = some (r, F9, B9) → zH D ca ad lnM nM L F B A H → va_S A s.heap H locs → lv_has ls 10 [(4, .int (iI l4)), (3, va_rf (zrf ad 13 l3)), (0, .ref (ad 14 0 0)), (2, .int (iI l2))] → W p l e ({ frames := 3, cells := 0, slots := 0, locals := 70 } : Room) s m args below meth c H locs 0 0 (MQ below (Q_M_lines D ca ad L r F9 B9 A) args s 0 0 A) (F0 m 44 ls [])) (hrec60 : ∀ {l5 : Int} {l4 : Int} {l3 : Int} {l2 : Int} {F : zF} {B : zB} {H : Heap} {locs : List Loc} {ls : Array Slot}, rec60 l5 l4 l3 l2 F B = some (r, F9, B9) → zH D ca ad lnM nM L F B A H → va_S A s.heap H locs → lv_has ls 10 [(5, .int (iI l5)), (4, .int (iI l4)), (3, va_rf (zrf ad 13 l3)), (0, .ref (ad 14 0 0)), (2, .int (iI l2))] → W p l e ({ frames := 3, cells := 0, slots := 0, locals := 70 } : Room) s m args below meth c H locs 0 0 (MQ below (Q_M_lines D ca ad L r F9 B9 A) args s 0 0 A) (F0 m 60 ls [])) {l5 : Int} {l4 : Int} {l3 : Int} {l2 : Int} {F : zF} {B : zB} {H : Heap} {locs : List Loc} {ls : Array Slot} (hf : f_M_lines_152 rec44 rec60 K l5 l4 l3 l2 F B = some (r, F9, B9)) (hZ : zH D ca ad lnM nM L F B A H) (hS : va_S A s.heap H locs) (hl : lv_has ls 10 [(5, .int (iI l5)), (4, .int (iI l4)), (3, va_rf (zrf ad 13 l3)), (0, .ref (ad 14 0 0)), (2, .int (iI l2))]) : W p l e ({ frames := 3, cells := 0, slots := 0, locals := 70 } : Room) s m args below meth c H locs 0 0 (MQ below (Q_M_lines D ca ad L r F9 B9 A) args s 0 0 A) (F0 m 152 ls []) := by
  obtain ⟨hx, hb, hr, hml, hown, hts, hlk, hK, hA, hL, hX⟩ := id X
  replace hf : (rec60 (l5 + 1) l4 l3 l2 F B) = some (r, F9, B9) := hf
  refine lv_iinc (v := iI (l5 + 1)) (lv' := [(5, .int (iI (l5 + 1))), (4, .int (iI l4)), (3, va_rf (zrf ad 13 l3)), (0, .ref (ad 14 0 0)), (2, .int (iI l2))]) hx hb d_15_108_152 hl (k := 0) rfl (iI_add _ 1) (by decide) rfl (fun ls hl => ?_)
  refine lv_goto (tgt := 60) hx hb (D_167 W_prog_15_method_108_code_128 27 rfl rfl rfl) (by decide) ?_
  exact hrec60 hf hZ hS (lv_sub hl [0, 1, 2, 3, 4] rfl)

def f_M_lines_134 (rec44 : Int → Int → Int → zF → zB → zO) (rec60 : Int → Int → Int → Int → zF → zB → zO) (K : Nat) (l8 : Int) (l5 : Int) (l4 : Int) (l3 : Int) (l2 : Int) (F : zF) (B : zB) : zO := if 0 ≤ l4 ∧ l4 < 101 then f_M_lines_152 rec44 rec60 K l5 l4 l3 l2 F (zup4 (zup4 B 14 0 59 l4 l8) 14 0 60 l4 l5) else none
set_option maxHeartbeats 4000000 in
set_option maxRecDepth 100000 in
theorem b_M_lines_134 {D : va_G} {ca : Nat → ClassId} {ad : Nat → Int → Nat → Nat} {L : List Nat} {aS vS : Nat → Nat} {A : Nat → Prop} {p : Program} {l : Launch} {e : Env} {s : State} {m : MethodId} {args : Array Value} {below : List Frame} {meth : Method} {c : Code} {K : Nat} {r : Int} {F9 : zF} {B9 : zB} (X : zX D ca L aS vS A p s m args meth c prog_15_method_108_code 10 (Option.some Jvm.ClassFile.FieldType.int) "StaveHouseModel") {rec44 : Int → Int → Int → zF → zB → zO} {rec60 : Int → Int → Int → Int → zF → zB → zO} (hrec44 : ∀ {l4 : Int} {l3 : Int} {l2 : Int} {F : zF} {B : zB} {H : Heap} {locs : List Loc} {ls : Array Slot}, rec44 l4 l3 l2 F B = some (r, F9, B9) → zH D ca ad lnM nM L F B A H → va_S A s.heap H locs → lv_has ls 10 [(4, .int (iI l4)), (3, va_rf (zrf ad 13 l3)), (0, .ref (ad 14 0 0)), (2, .int (iI l2))] → W p l e ({ frames := 3, cells := 0, slots := 0, locals := 70 } : Room) s m args below meth c H locs 0 0 (MQ below (Q_M_lines D ca ad L r F9 B9 A) args s 0 0 A) (F0 m 44 ls [])) (hrec60 : ∀ {l5 : Int} {l4 : Int} {l3 : Int} {l2 : Int} {F : zF} {B : zB} {H : Heap} {locs : List Loc} {ls : Array Slot}, rec60 l5 l4 l3 l2 F B = some (r, F9, B9) → zH D ca ad lnM nM L F B A H → va_S A s.heap H locs → lv_has ls 10 [(5, .int (iI l5)), (4, .int (iI l4)), (3, va_rf (zrf ad 13 l3)), (0, .ref (ad 14 0 0)), (2, .int (iI l2))] → W p l e ({ frames := 3, cells := 0, slots := 0, locals := 70 } : Room) s m args below meth c H locs 0 0 (MQ below (Q_M_lines D ca ad L r F9 B9 A) args s 0 0 A) (F0 m 60 ls [])) {l8 : Int} {l5 : Int} {l4 : Int} {l3 : Int} {l2 : Int} {F : zF} {B : zB} {H : Heap} {locs : List Loc} {ls : Array Slot} (hf : f_M_lines_134 rec44 rec60 K l8 l5 l4 l3 l2 F B = some (r, F9, B9)) (hZ : zH D ca ad lnM nM L F B A H) (hS : va_S A s.heap H locs) (hl : lv_has ls 10 [(8, .long (lI l8)), (5, .int (iI l5)), (4, .int (iI l4)), (3, va_rf (zrf ad 13 l3)), (0, .ref (ad 14 0 0)), (2, .int (iI l2))]) : W p l e ({ frames := 3, cells := 0, slots := 0, locals := 70 } : Room) s m args below meth c H locs 0 0 (MQ below (Q_M_lines D ca ad L r F9 B9 A) args s 0 0 A) (F0 m 134 ls []) := by
  obtain ⟨hx, hb, hr, hml, hown, hts, hlk, hK, hA, hL, hX⟩ := id X
  replace hf : (if 0 ≤ l4 ∧ l4 < 101 then f_M_lines_152 rec44 rec60 K l5 l4 l3 l2 F (zup4 (zup4 B 14 0 59 l4 l8) 14 0 60 l4 l5) else none) = some (r, F9, B9) := hf
  refine lv_aload_n hx hb (D_42 W_prog_15_method_108_code_128 6 rfl rfl) rfl (lv_at hl 4 rfl) ?_
  refine zget (ci := 14) (C := RX14) (T := TX14) (v := .ref (ad 14 0 (59 + 1))) (k := 59) hx hb hts inW_14 hown hK hZ (by decide) (by decide) rfl (by decide) k_11_57 rfl (D_180 W_prog_15_method_108_code_128 7 rfl rfl rfl) ?_
  refine lv_iload hx hb (D_21 W_prog_15_method_108_code_128 10 rfl rfl) (lv_at hl 2 rfl) ?_
  refine lv_lload hx hb (D_22 W_prog_15_method_108_code_128 12 rfl rfl) (lv_at hl 0 rfl) ?_
  obtain ⟨g30, hf⟩ := gif hf
  refine zlast (ci := 14) (k := 59) hx hb hK rfl hZ hS (by decide) (by decide) rfl (Nat.le_of_ble_eq_true rfl) g30.1 g30.2 (D_80 W_prog_15_method_108_code_128 14 rfl rfl) (fun H31 locs31 hZ31 hS31 => ?_)
  refine lv_aload_n hx hb (D_42 W_prog_15_method_108_code_128 15 rfl rfl) rfl (lv_at hl 4 rfl) ?_
  refine zget (ci := 14) (C := RX14) (T := TX14) (v := .ref (ad 14 0 (60 + 1))) (k := 60) hx hb hts inW_14 hown hK hZ31 (by decide) (by decide) rfl (by decide) k_11_58 rfl (D_180 W_prog_15_method_108_code_128 16 rfl rfl rfl) ?_
  refine lv_iload hx hb (D_21 W_prog_15_method_108_code_128 19 rfl rfl) (lv_at hl 2 rfl) ?_
  refine lv_iload hx hb (D_21 W_prog_15_method_108_code_128 21 rfl rfl) (lv_at hl 1 rfl) ?_
  refine zast (ci := 14) (k := 60) hx hb hK rfl hZ31 hS31 (by decide) (by decide) rfl (Nat.le_of_ble_eq_true rfl) g30.1 g30.2 (D_79 W_prog_15_method_108_code_128 23 rfl rfl) (fun H33 locs33 hZ33 hS33 => ?_)
  exact b_M_lines_152 X hrec44 hrec60 hf hZ33 hS33 (lv_sub hl [1, 2, 3, 4, 5] rfl)

def f_M_lines_60 (rec44 : Int → Int → Int → zF → zB → zO) (K : Nat) : Nat → Int → Int → Int → Int → zF → zB → zO
  | 0, _, _, _, _, _, _ => none
  | n + 1, l5, l4, l3, l2, F, B => if 0 ≤ l3 ∧ l3 < 3 then if r32 (l4 + l5) then if r32 (F 13 l3 7) then (if (F 13 l3 7) < (l4 + l5) then rec44 (l4 - 1) l3 l2 F B else zbind (f_M_price K l3 l4 l5 l2 F B) (fun r20 F20 B20 => if r64 r20 then (if 0 ≤ (zcmp r20 0) then if 0 ≤ (l4 + l5) ∧ (l4 + l5) < 101 then if 0 ≤ l4 ∧ l4 < 101 then if r32 (B20 14 0 60 l4) then (if (B20 14 0 60 l4) ≤ 0 then f_M_lines_134 rec44 (f_M_lines_60 rec44 K n) K (r20 + (B20 14 0 59 (l4 + l5))) l5 l4 l3 l2 F20 B20 else if r64 (r20 + (B20 14 0 59 (l4 + l5))) then if r64 (B20 14 0 59 l4) then (if (zcmp (r20 + (B20 14 0 59 (l4 + l5))) (B20 14 0 59 l4)) ≤ 0 then f_M_lines_134 rec44 (f_M_lines_60 rec44 K n) K (r20 + (B20 14 0 59 (l4 + l5))) l5 l4 l3 l2 F20 B20 else f_M_lines_152 rec44 (f_M_lines_60 rec44 K n) K l5 l4 l3 l2 F20 B20) else none else none) else none else none else none else f_M_lines_152 rec44 (f_M_lines_60 rec44 K n) K l5 l4 l3 l2 F20 B20) else none)) else none else none else none
set_option maxHeartbeats 4000000 in
set_option maxRecDepth 100000 in
theorem b_M_lines_60 {D : va_G} {ca : Nat → ClassId} {ad : Nat → Int → Nat → Nat} {L : List Nat} {aS vS : Nat → Nat} {A : Nat → Prop} {p : Program} {l : Launch} {e : Env} {s : State} {m : MethodId} {args : Array Value} {below : List Frame} {meth : Method} {c : Code} {K : Nat} {r : Int} {F9 : zF} {B9 : zB} (X : zX D ca L aS vS A p s m args meth c prog_15_method_108_code 10 (Option.some Jvm.ClassFile.FieldType.int) "StaveHouseModel") {rec44 : Int → Int → Int → zF → zB → zO} (hrec44 : ∀ {l4 : Int} {l3 : Int} {l2 : Int} {F : zF} {B : zB} {H : Heap} {locs : List Loc} {ls : Array Slot}, rec44 l4 l3 l2 F B = some (r, F9, B9) → zH D ca ad lnM nM L F B A H → va_S A s.heap H locs → lv_has ls 10 [(4, .int (iI l4)), (3, va_rf (zrf ad 13 l3)), (0, .ref (ad 14 0 0)), (2, .int (iI l2))] → W p l e ({ frames := 3, cells := 0, slots := 0, locals := 70 } : Room) s m args below meth c H locs 0 0 (MQ below (Q_M_lines D ca ad L r F9 B9 A) args s 0 0 A) (F0 m 44 ls [])) : ∀ {n : Nat} {l5 : Int} {l4 : Int} {l3 : Int} {l2 : Int} {F : zF} {B : zB} {H : Heap} {locs : List Loc} {ls : Array Slot}, f_M_lines_60 rec44 K n l5 l4 l3 l2 F B = some (r, F9, B9) → zH D ca ad lnM nM L F B A H → va_S A s.heap H locs → lv_has ls 10 [(5, .int (iI l5)), (4, .int (iI l4)), (3, va_rf (zrf ad 13 l3)), (0, .ref (ad 14 0 0)), (2, .int (iI l2))] → W p l e ({ frames := 3, cells := 0, slots := 0, locals := 70 } : Room) s m args below meth c H locs 0 0 (MQ below (Q_M_lines D ca ad L r F9 B9 A) args s 0 0 A) (F0 m 60 ls []) := by
  obtain ⟨hx, hb, hr, hml, hown, hts, hlk, hK, hA, hL, hX⟩ := id X
  intro n
  induction n with
  | zero =>
    intros
    rename_i hf _ _ _
    cases hf
  | succ n ih =>
    intro l5 l4 l3 l2 F B H locs ls hf hZ hS hl
    replace hf : (if 0 ≤ l3 ∧ l3 < 3 then if r32 (l4 + l5) then if r32 (F 13 l3 7) then (if (F 13 l3 7) < (l4 + l5) then rec44 (l4 - 1) l3 l2 F B else zbind (f_M_price K l3 l4 l5 l2 F B) (fun r20 F20 B20 => if r64 r20 then (if 0 ≤ (zcmp r20 0) then if 0 ≤ (l4 + l5) ∧ (l4 + l5) < 101 then if 0 ≤ l4 ∧ l4 < 101 then if r32 (B20 14 0 60 l4) then (if (B20 14 0 60 l4) ≤ 0 then f_M_lines_134 rec44 (f_M_lines_60 rec44 K n) K (r20 + (B20 14 0 59 (l4 + l5))) l5 l4 l3 l2 F20 B20 else if r64 (r20 + (B20 14 0 59 (l4 + l5))) then if r64 (B20 14 0 59 l4) then (if (zcmp (r20 + (B20 14 0 59 (l4 + l5))) (B20 14 0 59 l4)) ≤ 0 then f_M_lines_134 rec44 (f_M_lines_60 rec44 K n) K (r20 + (B20 14 0 59 (l4 + l5))) l5 l4 l3 l2 F20 B20 else f_M_lines_152 rec44 (f_M_lines_60 rec44 K n) K l5 l4 l3 l2 F20 B20) else none else none) else none else none else none else f_M_lines_152 rec44 (f_M_lines_60 rec44 K n) K l5 l4 l3 l2 F20 B20) else none)) else none else none else none) = some (r, F9, B9) := hf
    refine lv_iload hx hb (D_21 W_prog_15_method_108_code_32 28 rfl rfl) (lv_at hl 1 rfl) ?_
    refine lv_iload hx hb (D_21 W_prog_15_method_108_code_32 30 rfl rfl) (lv_at hl 0 rfl) ?_
    refine zadd hx hb (D_96 W_prog_15_method_108_code_64 0 rfl rfl) ?_
    refine zaload_n hx hb (D_45 W_prog_15_method_108_code_64 1 rfl rfl) rfl (lv_at hl 2 rfl) ?_
    obtain ⟨g16, hf⟩ := gif hf
    refine zunrf g16.1 ?_
    refine zget (ci := 13) (C := RX13) (T := TX13) (v := .int (iI (F 13 l3 7))) (k := 7) hx hb hts inW_13 hown hK hZ g16.1 g16.2 rfl (by decide) k_9_132 rfl (D_180 W_prog_15_method_108_code_64 2 rfl rfl rfl) ?_
    obtain ⟨g17, hf⟩ := gif hf
    obtain ⟨g18, hf⟩ := gif hf
    refine zgt (tgt := 158) hx hb g17 g18 (D_163 W_prog_15_method_108_code_64 5 rfl rfl rfl) (by decide) (fun h19 => ?_) (fun h19 => ?_)
    · replace hf := gpos hf h19
      refine lv_iinc (v := iI (l4 - 1)) (lv' := [(4, .int (iI (l4 - 1))), (5, .int (iI l5)), (3, va_rf (zrf ad 13 l3)), (0, .ref (ad 14 0 0)), (2, .int (iI l2))]) hx hb d_15_108_158 hl (k := 1) rfl (by rw [show Int32.ofInt (-1) = iI (-1) from rfl, iI_add]; congr 1) (by decide) (by cases zrf ad 13 l3 <;> rfl) (fun ls hl => ?_)
      refine lv_goto (tgt := 44) hx hb (D_167 W_prog_15_method_108_code_160 1 rfl rfl rfl) (by decide) ?_
      exact hrec44 hf hZ hS (lv_sub hl [0, 2, 3, 4] rfl)
    · replace hf := gneg hf h19
      refine zaload_n hx hb (D_45 W_prog_15_method_108_code_64 8 rfl rfl) rfl (lv_at hl 2 rfl) ?_
      refine lv_iload hx hb (D_21 W_prog_15_method_108_code_64 9 rfl rfl) (lv_at hl 1 rfl) ?_
      refine lv_iload hx hb (D_21 W_prog_15_method_108_code_64 11 rfl rfl) (lv_at hl 0 rfl) ?_
      refine lv_iload_n hx hb (D_28 W_prog_15_method_108_code_64 13 rfl rfl) rfl (lv_at hl 4 rfl) ?_
      refine W.eq (g2 := F0 m 78 ls [.int (iI l2), .int (iI l5), .int (iI l4), .ref (ad 13 l3 0)]) (by rw [zrf_pos (ad := ad) (t := 13) g16.1]; try rfl) ?_
      obtain ⟨r20, F20, B20, hc20, hf⟩ := gbind hf
      refine va_calll (va_runS (As := [.ref (ad 13 l3 0), .int (iI l4), .int (iI l5), .int (iI l2)]) (rest := []) ⟨hx, hb, hml, hown, hts⟩ (c_M_price (l := l) hc20) (va_cwS 4 hts (gdS k_12_96 k_12_97 k_1_9 k_12_98) rfl rfl rfl (by decide +kernel) ⟨Nat.le_of_ble_eq_true rfl, Nat.le_of_ble_eq_true rfl⟩) (zPS X hZ hS [.ref (ad 13 l3 0), .int (iI l4), .int (iI l5), .int (iI l2)]) rfl rfl hl.1 rfl (lv_room (Nat.le_of_ble_eq_true rfl)) (D_184 W_prog_15_method_108_code_64 14 rfl rfl rfl) ⟨Nat.le_of_ble_eq_true rfl, Nat.le_of_ble_eq_true rfl⟩) hS (fun q _ h => zAin X hS q h) (zAin X hS) (fun p20 u20 t20 H20 locs20 ht20 hv20 hw20 hB20 hz20 hk20 hS20 => ?_)
      have hZ20 := zBack X ht20 hB20
      subst hw20
      refine lv_lstore (lv' := [(6, .long (lI r20)), (5, .int (iI l5)), (4, .int (iI l4)), (3, va_rf (zrf ad 13 l3)), (0, .ref (ad 14 0 0)), (2, .int (iI l2))]) hx hb (D_55 W_prog_15_method_108_code_64 17 rfl rfl) hl (by decide) rfl (fun ls hl => ?_)
      refine lv_lload hx hb (D_22 W_prog_15_method_108_code_64 19 rfl rfl) (lv_at hl 0 rfl) ?_
      refine lv_lconst (v := lI 0) hx hb (D_9 W_prog_15_method_108_code_64 21 rfl rfl) (by decide) ?_
      obtain ⟨g21, hf⟩ := gif hf
      refine zcmp_r hx hb g21 (by decide) (D_148 W_prog_15_method_108_code_64 22 rfl rfl) ?_
      refine z0ge (tgt := 93) hx hb zcmp_32 (D_156 W_prog_15_method_108_code_64 23 rfl rfl rfl) (by decide) (fun h22 => ?_) (fun h22 => ?_)
      · replace hf := gpos hf h22
        refine lv_lload hx hb (D_22 W_prog_15_method_108_code_64 29 rfl rfl) (lv_at hl 0 rfl) ?_
        refine lv_aload_n hx hb (D_42 W_prog_15_method_108_code_64 31 rfl rfl) rfl (lv_at hl 4 rfl) ?_
        refine zget (ci := 14) (C := RX14) (T := TX14) (v := .ref (ad 14 0 (59 + 1))) (k := 59) hx hb hts inW_14 hown hK hZ20 (by decide) (by decide) rfl (by decide) k_11_57 rfl (D_180 W_prog_15_method_108_code_96 0 rfl rfl rfl) ?_
        refine lv_iload hx hb (D_21 W_prog_15_method_108_code_96 3 rfl rfl) (lv_at hl 2 rfl) ?_
        refine lv_iload hx hb (D_21 W_prog_15_method_108_code_96 5 rfl rfl) (lv_at hl 1 rfl) ?_
        refine zadd hx hb (D_96 W_prog_15_method_108_code_96 7 rfl rfl) ?_
        obtain ⟨g23, hf⟩ := gif hf
        refine zlald (ci := 14) (k := 59) hx hb hK rfl hZ20 (by decide) (by decide) rfl (Nat.le_of_ble_eq_true rfl) g23.1 g23.2 (D_47 W_prog_15_method_108_code_96 8 rfl rfl) ?_
        refine zladd hx hb (D_97 W_prog_15_method_108_code_96 9 rfl rfl) ?_
        refine lv_lstore (lv' := [(8, .long (lI (r20 + (B20 14 0 59 (l4 + l5))))), (6, .long (lI r20)), (5, .int (iI l5)), (4, .int (iI l4)), (3, va_rf (zrf ad 13 l3)), (0, .ref (ad 14 0 0)), (2, .int (iI l2))]) hx hb (D_55 W_prog_15_method_108_code_96 10 rfl rfl) hl (by decide) rfl (fun ls hl => ?_)
        refine lv_aload_n hx hb (D_42 W_prog_15_method_108_code_96 12 rfl rfl) rfl (lv_at hl 5 rfl) ?_
        refine zget (ci := 14) (C := RX14) (T := TX14) (v := .ref (ad 14 0 (60 + 1))) (k := 60) hx hb hts inW_14 hown hK hZ20 (by decide) (by decide) rfl (by decide) k_11_58 rfl (D_180 W_prog_15_method_108_code_96 13 rfl rfl rfl) ?_
        refine lv_iload hx hb (D_21 W_prog_15_method_108_code_96 16 rfl rfl) (lv_at hl 3 rfl) ?_
        obtain ⟨g24, hf⟩ := gif hf
        refine zald (ci := 14) (k := 60) hx hb hK rfl hZ20 (by decide) (by decide) rfl (Nat.le_of_ble_eq_true rfl) g24.1 g24.2 (D_46 W_prog_15_method_108_code_96 18 rfl rfl) ?_
        obtain ⟨g25, hf⟩ := gif hf
        refine z0le (tgt := 134) hx hb g25 (D_158 W_prog_15_method_108_code_96 19 rfl rfl rfl) (by decide) (fun h26 => ?_) (fun h26 => ?_)
        · replace hf := gpos hf h26
          exact b_M_lines_134 X hrec44 ih hf hZ20 hS20 (lv_sub hl [0, 2, 3, 4, 5, 6] rfl)
        · replace hf := gneg hf h26
          refine lv_lload hx hb (D_22 W_prog_15_method_108_code_96 22 rfl rfl) (lv_at hl 0 rfl) ?_
          refine lv_aload_n hx hb (D_42 W_prog_15_method_108_code_96 24 rfl rfl) rfl (lv_at hl 5 rfl) ?_
          refine zget (ci := 14) (C := RX14) (T := TX14) (v := .ref (ad 14 0 (59 + 1))) (k := 59) hx hb hts inW_14 hown hK hZ20 (by decide) (by decide) rfl (by decide) k_11_57 rfl (D_180 W_prog_15_method_108_code_96 25 rfl rfl rfl) ?_
          refine lv_iload hx hb (D_21 W_prog_15_method_108_code_96 28 rfl rfl) (lv_at hl 3 rfl) ?_
          refine zlald (ci := 14) (k := 59) hx hb hK rfl hZ20 (by decide) (by decide) rfl (Nat.le_of_ble_eq_true rfl) g24.1 g24.2 (D_47 W_prog_15_method_108_code_96 30 rfl rfl) ?_
          obtain ⟨g27, hf⟩ := gif hf
          obtain ⟨g28, hf⟩ := gif hf
          refine zcmp_r hx hb g27 g28 (D_148 W_prog_15_method_108_code_96 31 rfl rfl) ?_
          refine z0le (tgt := 134) hx hb zcmp_32 (D_158 W_prog_15_method_108_code_128 0 rfl rfl rfl) (by decide) (fun h29 => ?_) (fun h29 => ?_)
          · replace hf := gpos hf h29
            exact b_M_lines_134 X hrec44 ih hf hZ20 hS20 (lv_sub hl [0, 2, 3, 4, 5, 6] rfl)
          · replace hf := gneg hf h29
            refine lv_goto (tgt := 152) hx hb (D_167 W_prog_15_method_108_code_128 3 rfl rfl rfl) (by decide) ?_
            exact b_M_lines_152 X hrec44 ih hf hZ20 hS20 (lv_sub hl [2, 3, 4, 5, 6] rfl)
      · replace hf := gneg hf h22
        refine lv_goto (tgt := 152) hx hb (D_167 W_prog_15_method_108_code_64 26 rfl rfl rfl) (by decide) ?_
        exact b_M_lines_152 X hrec44 ih hf hZ20 hS20 (lv_sub hl [1, 2, 3, 4, 5] rfl)

def f_M_lines_44 (K : Nat) : Nat → Int → Int → Int → zF → zB → zO
  | 0, _, _, _, _, _ => none
  | n + 1, l4, l3, l2, F, B => if r32 l4 then (if l4 < 0 then if 0 ≤ l3 ∧ l3 < 3 then f_M_lines_177 K K 0 l3 l2 (zup3 (zup3 F 13 l3 48 0) 13 l3 47 l2) B else none else if 0 ≤ l4 ∧ l4 < 101 then f_M_lines_60 (f_M_lines_44 K n) K K 1 l4 l3 l2 F (zup4 B 14 0 60 l4 0) else none) else none
set_option maxHeartbeats 4000000 in
set_option maxRecDepth 100000 in
theorem b_M_lines_44 {D : va_G} {ca : Nat → ClassId} {ad : Nat → Int → Nat → Nat} {L : List Nat} {aS vS : Nat → Nat} {A : Nat → Prop} {p : Program} {l : Launch} {e : Env} {s : State} {m : MethodId} {args : Array Value} {below : List Frame} {meth : Method} {c : Code} {K : Nat} {r : Int} {F9 : zF} {B9 : zB} (X : zX D ca L aS vS A p s m args meth c prog_15_method_108_code 10 (Option.some Jvm.ClassFile.FieldType.int) "StaveHouseModel") : ∀ {n : Nat} {l4 : Int} {l3 : Int} {l2 : Int} {F : zF} {B : zB} {H : Heap} {locs : List Loc} {ls : Array Slot}, f_M_lines_44 K n l4 l3 l2 F B = some (r, F9, B9) → zH D ca ad lnM nM L F B A H → va_S A s.heap H locs → lv_has ls 10 [(4, .int (iI l4)), (3, va_rf (zrf ad 13 l3)), (0, .ref (ad 14 0 0)), (2, .int (iI l2))] → W p l e ({ frames := 3, cells := 0, slots := 0, locals := 70 } : Room) s m args below meth c H locs 0 0 (MQ below (Q_M_lines D ca ad L r F9 B9 A) args s 0 0 A) (F0 m 44 ls []) := by
  obtain ⟨hx, hb, hr, hml, hown, hts, hlk, hK, hA, hL, hX⟩ := id X
  intro n
  induction n with
  | zero =>
    intros
    rename_i hf _ _ _
    cases hf
  | succ n ih =>
    intro l4 l3 l2 F B H locs ls hf hZ hS hl
    replace hf : (if r32 l4 then (if l4 < 0 then if 0 ≤ l3 ∧ l3 < 3 then f_M_lines_177 K K 0 l3 l2 (zup3 (zup3 F 13 l3 48 0) 13 l3 47 l2) B else none else if 0 ≤ l4 ∧ l4 < 101 then f_M_lines_60 (f_M_lines_44 K n) K K 1 l4 l3 l2 F (zup4 B 14 0 60 l4 0) else none) else none) = some (r, F9, B9) := hf
    refine lv_iload hx hb (D_21 W_prog_15_method_108_code_32 12 rfl rfl) (lv_at hl 0 rfl) ?_
    obtain ⟨g9, hf⟩ := gif hf
    refine z0lt (tgt := 164) hx hb g9 (D_155 W_prog_15_method_108_code_32 14 rfl rfl rfl) (by decide) (fun h10 => ?_) (fun h10 => ?_)
    · replace hf := gpos hf h10
      refine zaload_n hx hb (D_45 W_prog_15_method_108_code_160 4 rfl rfl) rfl (lv_at hl 1 rfl) ?_
      refine lv_iconst (v := iI 0) hx hb (D_3 W_prog_15_method_108_code_160 5 rfl rfl) rfl ?_
      obtain ⟨g11, hf⟩ := gif hf
      refine W.eq (g2 := F0 m 166 ls [.int (iI 0), .ref (ad 13 l3 0)]) (by rw [zrf_pos (ad := ad) (t := 13) g11.1]; try rfl) ?_
      refine zput (ci := 13) (C := RX13) (T := TX13) (k := 48) (v := 0) (w := .int (iI 0)) hx hb hts inW_13 tyX13 tyX13_ok nmX13 hown hK hZ hS g11.1 g11.2 rfl (by decide) k_9_212 rfl (fun G h => congrArg (fun q => Value.int (iI q)) h) rfl rfl (zno (by decide)) (D_181 W_prog_15_method_108_code_160 6 rfl rfl rfl) (fun H12 locs12 hZ12 hS12 => ?_)
      refine zaload_n hx hb (D_45 W_prog_15_method_108_code_160 9 rfl rfl) rfl (lv_at hl 1 rfl) ?_
      refine lv_iload_n hx hb (D_28 W_prog_15_method_108_code_160 10 rfl rfl) rfl (lv_at hl 3 rfl) ?_
      refine W.eq (g2 := F0 m 171 ls [.int (iI l2), .ref (ad 13 l3 0)]) (by rw [zrf_pos (ad := ad) (t := 13) g11.1]; try rfl) ?_
      refine zput (ci := 13) (C := RX13) (T := TX13) (k := 47) (v := l2) (w := .int (iI l2)) hx hb hts inW_13 tyX13 tyX13_ok nmX13 hown hK hZ12 hS12 g11.1 g11.2 rfl (by decide) k_9_211 rfl (fun G h => congrArg (fun q => Value.int (iI q)) h) rfl rfl (zno (by decide)) (D_181 W_prog_15_method_108_code_160 11 rfl rfl rfl) (fun H13 locs13 hZ13 hS13 => ?_)
      refine lv_iconst (v := iI 0) hx hb (D_3 W_prog_15_method_108_code_160 14 rfl rfl) rfl ?_
      refine lv_istore (lv' := [(4, .int (iI 0)), (3, va_rf (zrf ad 13 l3)), (0, .ref (ad 14 0 0)), (2, .int (iI l2))]) hx hb (D_54 W_prog_15_method_108_code_160 15 rfl rfl) hl (by decide) (by cases zrf ad 13 l3 <;> rfl) (fun ls hl => ?_)
      exact b_M_lines_177 X hf hZ13 hS13 (lv_sub hl [0, 1, 2, 3] rfl)
    · replace hf := gneg hf h10
      refine lv_aload_n hx hb (D_42 W_prog_15_method_108_code_32 17 rfl rfl) rfl (lv_at hl 2 rfl) ?_
      refine zget (ci := 14) (C := RX14) (T := TX14) (v := .ref (ad 14 0 (60 + 1))) (k := 60) hx hb hts inW_14 hown hK hZ (by decide) (by decide) rfl (by decide) k_11_58 rfl (D_180 W_prog_15_method_108_code_32 18 rfl rfl rfl) ?_
      refine lv_iload hx hb (D_21 W_prog_15_method_108_code_32 21 rfl rfl) (lv_at hl 0 rfl) ?_
      refine lv_iconst (v := iI 0) hx hb (D_3 W_prog_15_method_108_code_32 23 rfl rfl) rfl ?_
      obtain ⟨g14, hf⟩ := gif hf
      refine zast (ci := 14) (k := 60) hx hb hK rfl hZ hS (by decide) (by decide) rfl (Nat.le_of_ble_eq_true rfl) g14.1 g14.2 (D_79 W_prog_15_method_108_code_32 24 rfl rfl) (fun H15 locs15 hZ15 hS15 => ?_)
      refine lv_iconst (v := iI 1) hx hb (D_4 W_prog_15_method_108_code_32 25 rfl rfl) rfl ?_
      refine lv_istore (lv' := [(5, .int (iI 1)), (4, .int (iI l4)), (3, va_rf (zrf ad 13 l3)), (0, .ref (ad 14 0 0)), (2, .int (iI l2))]) hx hb (D_54 W_prog_15_method_108_code_32 26 rfl rfl) hl (by decide) rfl (fun ls hl => ?_)
      exact b_M_lines_60 X ih hf hZ15 hS15 (lv_sub hl [0, 1, 2, 3, 4] rfl)

def f_M_lines_24 (K : Nat)  (F : zF) (B : zB) : zO := some ((-1), F, B)
set_option maxHeartbeats 4000000 in
set_option maxRecDepth 100000 in
theorem b_M_lines_24 {D : va_G} {ca : Nat → ClassId} {ad : Nat → Int → Nat → Nat} {L : List Nat} {aS vS : Nat → Nat} {A : Nat → Prop} {p : Program} {l : Launch} {e : Env} {s : State} {m : MethodId} {args : Array Value} {below : List Frame} {meth : Method} {c : Code} {K : Nat} {r : Int} {F9 : zF} {B9 : zB} (X : zX D ca L aS vS A p s m args meth c prog_15_method_108_code 10 (Option.some Jvm.ClassFile.FieldType.int) "StaveHouseModel")  {F : zF} {B : zB} {H : Heap} {locs : List Loc} {ls : Array Slot} (hf : f_M_lines_24 K  F B = some (r, F9, B9)) (hZ : zH D ca ad lnM nM L F B A H) (hS : va_S A s.heap H locs) (hl : lv_has ls 10 []) : W p l e ({ frames := 3, cells := 0, slots := 0, locals := 70 } : Room) s m args below meth c H locs 0 0 (MQ below (Q_M_lines D ca ad L r F9 B9 A) args s 0 0 A) (F0 m 24 ls []) := by
  obtain ⟨hx, hb, hr, hml, hown, hts, hlk, hK, hA, hL, hX⟩ := id X
  replace hf : (some ((-1), F, B)) = some (r, F9, B9) := hf
  refine lv_iconst (v := iI (-1)) hx hb (D_2 W_prog_15_method_108_code_0 24 rfl rfl) rfl ?_
  cases hf
  exact W.iret hx hb hr (fun t ht hW => ⟨⟨_, (), rfl, rfl, by rw [ht]; exact hZ, va_K.moved hW.alike hK⟩, hS.F ht⟩) hS.2.2 (D_172 W_prog_15_method_108_code_0 25 rfl rfl) hlk

def f_M_lines (K : Nat) (l1 : Int) (l2 : Int) (F : zF) (B : zB) : zO := zbind (f_M_piece K l1 F B) (fun r1 F1 B1 => (if r1 < 0 then f_M_lines_24 K F1 B1 else if r32 l2 then (if l2 < 200 then f_M_lines_24 K F1 B1 else (if l2 ≤ 2000 then if 0 ≤ r1 ∧ r1 < 3 then if 0 ≤ (F1 13 r1 7) ∧ (F1 13 r1 7) < 101 then f_M_lines_44 K K ((F1 13 r1 7) - 1) r1 l2 F1 (zup4 B1 14 0 59 (F1 13 r1 7) 0) else none else none else f_M_lines_24 K F1 B1)) else none))
set_option maxHeartbeats 4000000 in
set_option maxRecDepth 100000 in
theorem c_M_lines {l : Launch} {D : va_G} {ca : Nat → ClassId} {ad : Nat → Int → Nat → Nat} {L : List Nat} {aS vS : Nat → Nat} {sz K : Nat}  {l1 : Int} {l2 : Int} {F F9 : zF} {B B9 : zB} {r : Int} (hf : f_M_lines K l1 l2 F B = some (r, F9, B9)) : Met l ({ cls := "StaveHouseModel", name := "lines", desc := "(II)I" } : Jvm.MethodName) (Cond.code ({ cls := "StaveHouseModel", name := "lines", desc := "(II)I" } : Jvm.MethodName) prog_15_method_108_code 10 (Option.some Jvm.ClassFile.FieldType.int) :: wAll) ({ frames := 3, cells := 0, slots := 0, locals := 70 } : Room) (va_Pc [.ref (ad 14 0 0), .int (iI l1), .int (iI l2)] (zPre D ca ad lnM nM L aS vS F B sz)) (Q_M_lines D ca ad L r F9 B9 (zA L sz)) 0 0 (zA L sz) := by
  refine zMet (Qc := Q_M_lines D ca ad L r F9 B9) (lv := [(0, .ref (ad 14 0 0)), (1, .int (iI l1)), (2, .int (iI l2))]) (by decide) (Nat.le_of_ble_eq_true rfl) rfl (fun A p e s m below meth c ls X hZ hS hl => ?_)
  obtain ⟨hx, hb, hr, hml, hown, hts, hlk, hK, hA, hL, hX⟩ := id X
  replace hf : (zbind (f_M_piece K l1 F B) (fun r1 F1 B1 => (if r1 < 0 then f_M_lines_24 K F1 B1 else if r32 l2 then (if l2 < 200 then f_M_lines_24 K F1 B1 else (if l2 ≤ 2000 then if 0 ≤ r1 ∧ r1 < 3 then if 0 ≤ (F1 13 r1 7) ∧ (F1 13 r1 7) < 101 then f_M_lines_44 K K ((F1 13 r1 7) - 1) r1 l2 F1 (zup4 B1 14 0 59 (F1 13 r1 7) 0) else none else none else f_M_lines_24 K F1 B1)) else none))) = some (r, F9, B9) := hf
  refine lv_aload_n hx hb (D_42 W_prog_15_method_108_code_0 0 rfl rfl) rfl (lv_at hl 0 rfl) ?_
  refine lv_iload_n hx hb (D_27 W_prog_15_method_108_code_0 1 rfl rfl) rfl (lv_at hl 1 rfl) ?_
  obtain ⟨r1, F1, B1, hc1, hf⟩ := gbind hf
  refine va_callq (va_runV (As := [.int (iI l1)]) (rest := []) ⟨hx, hb, hml, hown, hts⟩ (c_M_piece (l := l) hc1) (cwV 1 hts (gdV k_12_92 k_12_94 ks_131 k_1_9 k_12_95) rfl rfl rfl (by decide +kernel) ⟨Nat.le_of_ble_eq_true rfl, Nat.le_of_ble_eq_true rfl⟩) (zPV X hZ hS (ci := 14) (by decide) (by decide) (r := (RX14, TX14, 107)) rfl [.int (iI l1)]) rfl rfl hl.1 rfl (lv_room (Nat.le_of_ble_eq_true rfl)) (D_182 W_prog_15_method_108_code_0 2 rfl rfl rfl) ⟨Nat.le_of_ble_eq_true rfl, Nat.le_of_ble_eq_true rfl⟩) hS (fun q _ h => zAin X hS q h) (zAin X hS) (fun p1 u1 t1 H1 locs1 ht1 hv1 hw1 hB1 hz1 hk1 hS1 => ?_)
  have hZ1 := zBack X ht1 hB1
  subst hw1
  refine zastore_n (lv' := [(0, .ref (ad 14 0 0)), (1, .int (iI l1)), (2, .int (iI l2))]) hx hb (D_78 W_prog_15_method_108_code_0 5 rfl rfl) rfl hl (by decide) (fun _ _ => rfl) (fun ls hl => ?_)
  refine zaload_n hx hb (D_45 W_prog_15_method_108_code_0 6 rfl rfl) rfl (lv_at hl 0 rfl) ?_
  refine zifnull (tgt := 24) hx hb (D_198 W_prog_15_method_108_code_0 7 rfl rfl rfl) (by decide) (fun h2 => ?_) (fun h2 => ?_)
  · replace hf := gpos hf h2
    exact b_M_lines_24 X hf hZ1 hS1 (lv_sub hl [] rfl)
  · replace hf := gneg hf h2
    refine lv_iload_n hx hb (D_28 W_prog_15_method_108_code_0 10 rfl rfl) rfl (lv_at hl 3 rfl) ?_
    refine lv_sipush (v := iI 200) hx hb (D_17 W_prog_15_method_108_code_0 11 rfl rfl rfl) (by decide) ?_
    obtain ⟨g3, hf⟩ := gif hf
    refine zlt (tgt := 24) hx hb g3 (by decide) (D_161 W_prog_15_method_108_code_0 14 rfl rfl rfl) (by decide) (fun h4 => ?_) (fun h4 => ?_)
    · replace hf := gpos hf h4
      exact b_M_lines_24 X hf hZ1 hS1 (lv_sub hl [] rfl)
    · replace hf := gneg hf h4
      refine lv_iload_n hx hb (D_28 W_prog_15_method_108_code_0 17 rfl rfl) rfl (lv_at hl 3 rfl) ?_
      refine lv_sipush (v := iI 2000) hx hb (D_17 W_prog_15_method_108_code_0 18 rfl rfl rfl) (by decide) ?_
      refine zle (tgt := 26) hx hb g3 (by decide) (D_164 W_prog_15_method_108_code_0 21 rfl rfl rfl) (by decide) (fun h5 => ?_) (fun h5 => ?_)
      · replace hf := gpos hf h5
        refine lv_aload_n hx hb (D_42 W_prog_15_method_108_code_0 26 rfl rfl) rfl (lv_at hl 1 rfl) ?_
        refine zget (ci := 14) (C := RX14) (T := TX14) (v := .ref (ad 14 0 (59 + 1))) (k := 59) hx hb hts inW_14 hown hK hZ1 (by decide) (by decide) rfl (by decide) k_11_57 rfl (D_180 W_prog_15_method_108_code_0 27 rfl rfl rfl) ?_
        refine zaload_n hx hb (D_45 W_prog_15_method_108_code_0 30 rfl rfl) rfl (lv_at hl 0 rfl) ?_
        obtain ⟨g6, hf⟩ := gif hf
        refine zunrf g6.1 ?_
        refine zget (ci := 13) (C := RX13) (T := TX13) (v := .int (iI (F1 13 r1 7))) (k := 7) hx hb hts inW_13 hown hK hZ1 g6.1 g6.2 rfl (by decide) k_9_132 rfl (D_180 W_prog_15_method_108_code_0 31 rfl rfl rfl) ?_
        refine lv_lconst (v := lI 0) hx hb (D_9 W_prog_15_method_108_code_32 2 rfl rfl) (by decide) ?_
        obtain ⟨g7, hf⟩ := gif hf
        refine zlast (ci := 14) (k := 59) hx hb hK rfl hZ1 hS1 (by decide) (by decide) rfl (Nat.le_of_ble_eq_true rfl) g7.1 g7.2 (D_80 W_prog_15_method_108_code_32 3 rfl rfl) (fun H8 locs8 hZ8 hS8 => ?_)
        refine zaload_n hx hb (D_45 W_prog_15_method_108_code_32 4 rfl rfl) rfl (lv_at hl 0 rfl) ?_
        refine zunrf g6.1 ?_
        refine zget (ci := 13) (C := RX13) (T := TX13) (v := .int (iI (F1 13 r1 7))) (k := 7) hx hb hts inW_13 hown hK hZ8 g6.1 g6.2 rfl (by decide) k_9_132 rfl (D_180 W_prog_15_method_108_code_32 5 rfl rfl rfl) ?_
        refine lv_iconst (v := iI 1) hx hb (D_4 W_prog_15_method_108_code_32 8 rfl rfl) rfl ?_
        refine zsub hx hb (D_100 W_prog_15_method_108_code_32 9 rfl rfl) ?_
        refine lv_istore (lv' := [(4, .int (iI ((F1 13 r1 7) - 1))), (3, va_rf (zrf ad 13 r1)), (0, .ref (ad 14 0 0)), (1, .int (iI l1)), (2, .int (iI l2))]) hx hb (D_54 W_prog_15_method_108_code_32 10 rfl rfl) hl (by decide) (by cases zrf ad 13 r1 <;> rfl) (fun ls hl => ?_)
        exact b_M_lines_44 X hf hZ8 hS8 (lv_sub hl [0, 1, 2, 4] rfl)
      · replace hf := gneg hf h5
        exact b_M_lines_24 X hf hZ1 hS1 (lv_sub hl [] rfl)

abbrev Q_M_trill (D : va_G) (ca : Nat → ClassId) (ad : Nat → Int → Nat → Nat) (L : List Nat) (r : Int) (F : zF) (B : zB) (A : Nat → Prop) : Array Value → State → Outcome → State → Prop := va_Qv (S := Unit) (fun _ => True) (fun _ => zPo D ca ad lnM nM L F B A) A
def f_M_trill_152 (rec88 : Int → Int → Int → Int → Int → Int → Int → Int → Int → zF → zB → zO) (K : Nat) (l12 : Int) (l10 : Int) (l9 : Int) (l8 : Int) (l6 : Int) (l1 : Int) (l2 : Int) (l3 : Int) (s0 : Int) (F : zF) (B : zB) : zO := rec88 (l12 + 12) s0 l10 l9 l8 l6 l1 l2 l3 F B
set_option maxHeartbeats 4000000 in
set_option maxRecDepth 100000 in
theorem b_M_trill_152 {D : va_G} {ca : Nat → ClassId} {ad : Nat → Int → Nat → Nat} {L : List Nat} {aS vS : Nat → Nat} {A : Nat → Prop} {p : Program} {l : Launch} {e : Env} {s : State} {m : MethodId} {args : Array Value} {below : List Frame} {meth : Method} {c : Code} {K : Nat} {r : Int} {F9 : zF} {B9 : zB} (X : zX D ca L aS vS A p s m args meth c prog_15_method_119_code 13 (Option.none : Option Jvm.ClassFile.FieldType) "StaveHouseModel") {rec88 : Int → Int → Int → Int → Int → Int → Int → Int → Int → zF → zB → zO} (hrec88 : ∀ {l12 : Int} {l11 : Int} {l10 : Int} {l9 : Int} {l8 : Int} {l6 : Int} {l1 : Int} {l2 : Int} {l3 : Int} {F : zF} {B : zB} {H : Heap} {locs : List Loc} {ls : Array Slot}, rec88 l12 l11 l10 l9 l8 l6 l1 l2 l3 F B = some (r, F9, B9) → zH D ca ad lnM nM L F B A H → va_S A s.heap H locs → lv_has ls 13 [(12, .int (iI l12)), (11, .int (iI l11)), (10, .int (iI l10)), (9, .int (iI l9)), (8, .int (iI l8)), (6, .int (iI l6)), (0, .ref (ad 14 0 0)), (1, .ref (ad 13 l1 0)), (2, .int (iI l2)), (3, .int (iI l3))] → W p l e ({ frames := 4, cells := 0, slots := 0, locals := 107 } : Room) s m args below meth c H locs 0 0 (MQ below (Q_M_trill D ca ad L r F9 B9 A) args s 0 0 A) (F0 m 88 ls [])) {l12 : Int} {l10 : Int} {l9 : Int} {l8 : Int} {l6 : Int} {l1 : Int} {l2 : Int} {l3 : Int} {s0 : Int} {F : zF} {B : zB} {H : Heap} {locs : List Loc} {ls : Array Slot} (hf : f_M_trill_152 rec88 K l12 l10 l9 l8 l6 l1 l2 l3 s0 F B = some (r, F9, B9)) (hZ : zH D ca ad lnM nM L F B A H) (hS : va_S A s.heap H locs) (hl : lv_has ls 13 [(12, .int (iI l12)), (10, .int (iI l10)), (9, .int (iI l9)), (8, .int (iI l8)), (6, .int (iI l6)), (0, .ref (ad 14 0 0)), (1, .ref (ad 13 l1 0)), (2, .int (iI l2)), (3, .int (iI l3))]) : W p l e ({ frames := 4, cells := 0, slots := 0, locals := 107 } : Room) s m args below meth c H locs 0 0 (MQ below (Q_M_trill D ca ad L r F9 B9 A) args s 0 0 A) (F0 m 152 ls [.int (iI s0)]) := by
  obtain ⟨hx, hb, hr, hml, hown, hts, hlk, hK, hA, hL, hX⟩ := id X
  replace hf : (rec88 (l12 + 12) s0 l10 l9 l8 l6 l1 l2 l3 F B) = some (r, F9, B9) := hf
  refine lv_istore (lv' := [(11, .int (iI s0)), (12, .int (iI l12)), (10, .int (iI l10)), (9, .int (iI l9)), (8, .int (iI l8)), (6, .int (iI l6)), (0, .ref (ad 14 0 0)), (1, .ref (ad 13 l1 0)), (2, .int (iI l2)), (3, .int (iI l3))]) hx hb (D_54 W_prog_15_method_119_code_128 24 rfl rfl) hl (by decide) rfl (fun ls hl => ?_)
  refine lv_iinc (v := iI (l12 + 12)) (lv' := [(12, .int (iI (l12 + 12))), (11, .int (iI s0)), (10, .int (iI l10)), (9, .int (iI l9)), (8, .int (iI l8)), (6, .int (iI l6)), (0, .ref (ad 14 0 0)), (1, .ref (ad 13 l1 0)), (2, .int (iI l2)), (3, .int (iI l3))]) hx hb d_15_119_154 hl (k := 1) rfl (iI_add _ 12) (by decide) rfl (fun ls hl => ?_)
  refine lv_goto (tgt := 88) hx hb (D_167 W_prog_15_method_119_code_128 29 rfl rfl rfl) (by decide) ?_
  exact hrec88 hf hZ hS (lv_sub hl [0, 1, 2, 3, 4, 5, 6, 7, 8, 9] rfl)

def f_M_trill_130 (rec88 : Int → Int → Int → Int → Int → Int → Int → Int → Int → zF → zB → zO) (K : Nat) (l12 : Int) (l11 : Int) (l10 : Int) (l9 : Int) (l8 : Int) (l6 : Int) (l1 : Int) (l2 : Int) (l3 : Int) (s1 : Int) (s2 : Int) (s3 : Int) (F : zF) (B : zB) : zO := zbind (f_M_forceOf K l1 l6 F B) (fun r17 F17 B17 => zbind (f_M_sound_1 K s1 s2 s3 r17 l2 l3 F17 B17) (fun r18 F18 B18 => if r32 l11 then (if l11 = 0 then f_M_trill_152 rec88 K l12 l10 l9 l8 l6 l1 l2 l3 1 F18 B18 else f_M_trill_152 rec88 K l12 l10 l9 l8 l6 l1 l2 l3 0 F18 B18) else none))
set_option maxHeartbeats 4000000 in
set_option maxRecDepth 100000 in
theorem b_M_trill_130 {D : va_G} {ca : Nat → ClassId} {ad : Nat → Int → Nat → Nat} {L : List Nat} {aS vS : Nat → Nat} {A : Nat → Prop} {p : Program} {l : Launch} {e : Env} {s : State} {m : MethodId} {args : Array Value} {below : List Frame} {meth : Method} {c : Code} {K : Nat} {r : Int} {F9 : zF} {B9 : zB} (X : zX D ca L aS vS A p s m args meth c prog_15_method_119_code 13 (Option.none : Option Jvm.ClassFile.FieldType) "StaveHouseModel") {rec88 : Int → Int → Int → Int → Int → Int → Int → Int → Int → zF → zB → zO} (hrec88 : ∀ {l12 : Int} {l11 : Int} {l10 : Int} {l9 : Int} {l8 : Int} {l6 : Int} {l1 : Int} {l2 : Int} {l3 : Int} {F : zF} {B : zB} {H : Heap} {locs : List Loc} {ls : Array Slot}, rec88 l12 l11 l10 l9 l8 l6 l1 l2 l3 F B = some (r, F9, B9) → zH D ca ad lnM nM L F B A H → va_S A s.heap H locs → lv_has ls 13 [(12, .int (iI l12)), (11, .int (iI l11)), (10, .int (iI l10)), (9, .int (iI l9)), (8, .int (iI l8)), (6, .int (iI l6)), (0, .ref (ad 14 0 0)), (1, .ref (ad 13 l1 0)), (2, .int (iI l2)), (3, .int (iI l3))] → W p l e ({ frames := 4, cells := 0, slots := 0, locals := 107 } : Room) s m args below meth c H locs 0 0 (MQ below (Q_M_trill D ca ad L r F9 B9 A) args s 0 0 A) (F0 m 88 ls [])) {l12 : Int} {l11 : Int} {l10 : Int} {l9 : Int} {l8 : Int} {l6 : Int} {l1 : Int} {l2 : Int} {l3 : Int} {s1 : Int} {s2 : Int} {s3 : Int} {F : zF} {B : zB} {H : Heap} {locs : List Loc} {ls : Array Slot} (hf : f_M_trill_130 rec88 K l12 l11 l10 l9 l8 l6 l1 l2 l3 s1 s2 s3 F B = some (r, F9, B9)) (hZ : zH D ca ad lnM nM L F B A H) (hS : va_S A s.heap H locs) (hl : lv_has ls 13 [(12, .int (iI l12)), (11, .int (iI l11)), (10, .int (iI l10)), (9, .int (iI l9)), (8, .int (iI l8)), (6, .int (iI l6)), (0, .ref (ad 14 0 0)), (1, .ref (ad 13 l1 0)), (2, .int (iI l2)), (3, .int (iI l3))]) : W p l e ({ frames := 4, cells := 0, slots := 0, locals := 107 } : Room) s m args below meth c H locs 0 0 (MQ below (Q_M_trill D ca ad L r F9 B9 A) args s 0 0 A) (F0 m 130 ls [.int (iI s3), .int (iI s2), .int (iI s1), .ref (ad 14 0 0)]) := by
  obtain ⟨hx, hb, hr, hml, hown, hts, hlk, hK, hA, hL, hX⟩ := id X
  replace hf : (zbind (f_M_forceOf K l1 l6 F B) (fun r17 F17 B17 => zbind (f_M_sound_1 K s1 s2 s3 r17 l2 l3 F17 B17) (fun r18 F18 B18 => if r32 l11 then (if l11 = 0 then f_M_trill_152 rec88 K l12 l10 l9 l8 l6 l1 l2 l3 1 F18 B18 else f_M_trill_152 rec88 K l12 l10 l9 l8 l6 l1 l2 l3 0 F18 B18) else none))) = some (r, F9, B9) := hf
  refine lv_aload_n hx hb (D_42 W_prog_15_method_119_code_128 2 rfl rfl) rfl (lv_at hl 6 rfl) ?_
  refine lv_aload_n hx hb (D_43 W_prog_15_method_119_code_128 3 rfl rfl) rfl (lv_at hl 7 rfl) ?_
  refine lv_iload hx hb (D_21 W_prog_15_method_119_code_128 4 rfl rfl) (lv_at hl 5 rfl) ?_
  obtain ⟨r17, F17, B17, hc17, hf⟩ := gbind hf
  refine va_calli (va_runV (As := [.ref (ad 13 l1 0), .int (iI l6)]) (rest := [.int (iI s3), .int (iI s2), .int (iI s1), .ref (ad 14 0 0)]) ⟨hx, hb, hml, hown, hts⟩ (c_M_forceOf (l := l) hc17) (cwV 2 hts (gdV k_12_170 k_12_172 ks_137 k_1_9 k_12_173) rfl rfl rfl (by decide +kernel) ⟨Nat.le_of_ble_eq_true rfl, Nat.le_of_ble_eq_true rfl⟩) (zPV X hZ hS (ci := 14) (by decide) (by decide) (r := (RX14, TX14, 107)) rfl [.ref (ad 13 l1 0), .int (iI l6)]) rfl rfl hl.1 rfl (lv_room (Nat.le_of_ble_eq_true rfl)) (D_182 W_prog_15_method_119_code_128 6 rfl rfl rfl) ⟨Nat.le_of_ble_eq_true rfl, Nat.le_of_ble_eq_true rfl⟩) hS (fun q _ h => zAin X hS q h) (zAin X hS) (fun p17 u17 t17 H17 locs17 ht17 hv17 hw17 hB17 hz17 hk17 hS17 => ?_)
  have hZ17 := zBack X ht17 hB17
  subst hw17
  refine lv_iload_n hx hb (D_28 W_prog_15_method_119_code_128 9 rfl rfl) rfl (lv_at hl 8 rfl) ?_
  refine lv_iload_n hx hb (D_29 W_prog_15_method_119_code_128 10 rfl rfl) rfl (lv_at hl 9 rfl) ?_
  obtain ⟨r18, F18, B18, hc18, hf⟩ := gbind hf
  refine va_callv (va_runV (As := [.int (iI s1), .int (iI s2), .int (iI s3), .int (iI r17), .int (iI l2), .int (iI l3)]) (rest := []) ⟨hx, hb, hml, hown, hts⟩ (c_M_sound_1 (l := l) hc18) (cwV 6 hts (gdV k_12_174 k_12_176 ks_138 k_1_9 k_12_177) rfl rfl rfl (by decide +kernel) ⟨Nat.le_of_ble_eq_true rfl, Nat.le_of_ble_eq_true rfl⟩) (zPV X hZ17 hS17 (ci := 14) (by decide) (by decide) (r := (RX14, TX14, 107)) rfl [.int (iI s1), .int (iI s2), .int (iI s3), .int (iI r17), .int (iI l2), .int (iI l3)]) rfl rfl hl.1 rfl (lv_room (Nat.le_of_ble_eq_true rfl)) (D_182 W_prog_15_method_119_code_128 11 rfl rfl rfl) ⟨Nat.le_of_ble_eq_true rfl, Nat.le_of_ble_eq_true rfl⟩) hS17 (fun q _ h => zAin X hS17 q h) (zAin X hS17) (fun u18 t18 H18 locs18 ht18 hv18 hw18 hB18 hz18 hk18 hS18 => ?_)
  have hZ18 := zBack X ht18 hB18
  refine lv_iload hx hb (D_21 W_prog_15_method_119_code_128 14 rfl rfl) (lv_at hl 1 rfl) ?_
  obtain ⟨g19, hf⟩ := gif hf
  refine z0ne (tgt := 151) hx hb g19 (D_154 W_prog_15_method_119_code_128 16 rfl rfl rfl) (by decide) (fun h20 => ?_) (fun h20 => ?_)
  · replace hf := gneg hf h20
    refine lv_iconst (v := iI 0) hx hb (D_3 W_prog_15_method_119_code_128 23 rfl rfl) rfl ?_
    exact b_M_trill_152 X hrec88 hf hZ18 hS18 (lv_sub hl [0, 2, 3, 4, 5, 6, 7, 8, 9] rfl)
  · replace hf := gpos hf h20
    refine lv_iconst (v := iI 1) hx hb (D_4 W_prog_15_method_119_code_128 19 rfl rfl) rfl ?_
    refine lv_goto (tgt := 152) hx hb (D_167 W_prog_15_method_119_code_128 20 rfl rfl rfl) (by decide) ?_
    exact b_M_trill_152 X hrec88 hf hZ18 hS18 (lv_sub hl [0, 2, 3, 4, 5, 6, 7, 8, 9] rfl)

def f_M_trill_118 (rec88 : Int → Int → Int → Int → Int → Int → Int → Int → Int → zF → zB → zO) (K : Nat) (l12 : Int) (l11 : Int) (l10 : Int) (l9 : Int) (l8 : Int) (l6 : Int) (l1 : Int) (l2 : Int) (l3 : Int) (s1 : Int) (s2 : Int) (F : zF) (B : zB) : zO := if r32 l11 then (if l11 = 0 then f_M_trill_130 rec88 K l12 l11 l10 l9 l8 l6 l1 l2 l3 s1 s2 l9 F B else f_M_trill_130 rec88 K l12 l11 l10 l9 l8 l6 l1 l2 l3 s1 s2 l10 F B) else none
set_option maxHeartbeats 4000000 in
set_option maxRecDepth 100000 in
theorem b_M_trill_118 {D : va_G} {ca : Nat → ClassId} {ad : Nat → Int → Nat → Nat} {L : List Nat} {aS vS : Nat → Nat} {A : Nat → Prop} {p : Program} {l : Launch} {e : Env} {s : State} {m : MethodId} {args : Array Value} {below : List Frame} {meth : Method} {c : Code} {K : Nat} {r : Int} {F9 : zF} {B9 : zB} (X : zX D ca L aS vS A p s m args meth c prog_15_method_119_code 13 (Option.none : Option Jvm.ClassFile.FieldType) "StaveHouseModel") {rec88 : Int → Int → Int → Int → Int → Int → Int → Int → Int → zF → zB → zO} (hrec88 : ∀ {l12 : Int} {l11 : Int} {l10 : Int} {l9 : Int} {l8 : Int} {l6 : Int} {l1 : Int} {l2 : Int} {l3 : Int} {F : zF} {B : zB} {H : Heap} {locs : List Loc} {ls : Array Slot}, rec88 l12 l11 l10 l9 l8 l6 l1 l2 l3 F B = some (r, F9, B9) → zH D ca ad lnM nM L F B A H → va_S A s.heap H locs → lv_has ls 13 [(12, .int (iI l12)), (11, .int (iI l11)), (10, .int (iI l10)), (9, .int (iI l9)), (8, .int (iI l8)), (6, .int (iI l6)), (0, .ref (ad 14 0 0)), (1, .ref (ad 13 l1 0)), (2, .int (iI l2)), (3, .int (iI l3))] → W p l e ({ frames := 4, cells := 0, slots := 0, locals := 107 } : Room) s m args below meth c H locs 0 0 (MQ below (Q_M_trill D ca ad L r F9 B9 A) args s 0 0 A) (F0 m 88 ls [])) {l12 : Int} {l11 : Int} {l10 : Int} {l9 : Int} {l8 : Int} {l6 : Int} {l1 : Int} {l2 : Int} {l3 : Int} {s1 : Int} {s2 : Int} {F : zF} {B : zB} {H : Heap} {locs : List Loc} {ls : Array Slot} (hf : f_M_trill_118 rec88 K l12 l11 l10 l9 l8 l6 l1 l2 l3 s1 s2 F B = some (r, F9, B9)) (hZ : zH D ca ad lnM nM L F B A H) (hS : va_S A s.heap H locs) (hl : lv_has ls 13 [(12, .int (iI l12)), (11, .int (iI l11)), (10, .int (iI l10)), (9, .int (iI l9)), (8, .int (iI l8)), (6, .int (iI l6)), (0, .ref (ad 14 0 0)), (1, .ref (ad 13 l1 0)), (2, .int (iI l2)), (3, .int (iI l3))]) : W p l e ({ frames := 4, cells := 0, slots := 0, locals := 107 } : Room) s m args below meth c H locs 0 0 (MQ below (Q_M_trill D ca ad L r F9 B9 A) args s 0 0 A) (F0 m 118 ls [.int (iI s2), .int (iI s1), .ref (ad 14 0 0)]) := by
  obtain ⟨hx, hb, hr, hml, hown, hts, hlk, hK, hA, hL, hX⟩ := id X
  replace hf : (if r32 l11 then (if l11 = 0 then f_M_trill_130 rec88 K l12 l11 l10 l9 l8 l6 l1 l2 l3 s1 s2 l9 F B else f_M_trill_130 rec88 K l12 l11 l10 l9 l8 l6 l1 l2 l3 s1 s2 l10 F B) else none) = some (r, F9, B9) := hf
  refine lv_iload hx hb (D_21 W_prog_15_method_119_code_96 22 rfl rfl) (lv_at hl 1 rfl) ?_
  obtain ⟨g15, hf⟩ := gif hf
  refine z0eq (tgt := 128) hx hb g15 (D_153 W_prog_15_method_119_code_96 24 rfl rfl rfl) (by decide) (fun h16 => ?_) (fun h16 => ?_)
  · replace hf := gpos hf h16
    refine lv_iload hx hb (D_21 W_prog_15_method_119_code_128 0 rfl rfl) (lv_at hl 3 rfl) ?_
    exact b_M_trill_130 X hrec88 hf hZ hS (lv_sub hl [0, 1, 2, 3, 4, 5, 6, 7, 8, 9] rfl)
  · replace hf := gneg hf h16
    refine lv_iload hx hb (D_21 W_prog_15_method_119_code_96 27 rfl rfl) (lv_at hl 2 rfl) ?_
    refine lv_goto (tgt := 130) hx hb (D_167 W_prog_15_method_119_code_96 29 rfl rfl rfl) (by decide) ?_
    exact b_M_trill_130 X hrec88 hf hZ hS (lv_sub hl [0, 1, 2, 3, 4, 5, 6, 7, 8, 9] rfl)

def f_M_trill_88 (K : Nat) : Nat → Int → Int → Int → Int → Int → Int → Int → Int → Int → zF → zB → zO
  | 0, _, _, _, _, _, _, _, _, _, _, _ => none
  | n + 1, l12, l11, l10, l9, l8, l6, l1, l2, l3, F, B => if r32 l12 then if r32 l8 then (if l8 ≤ l12 then some (0, F, B) else if r32 (l12 + 12) then (if l8 ≤ (l12 + 12) then f_M_trill_118 (f_M_trill_88 K n) K l12 l11 l10 l9 l8 l6 l1 l2 l3 l12 l8 F B else f_M_trill_118 (f_M_trill_88 K n) K l12 l11 l10 l9 l8 l6 l1 l2 l3 l12 (l12 + 12) F B) else none) else none else none
set_option maxHeartbeats 4000000 in
set_option maxRecDepth 100000 in
theorem b_M_trill_88 {D : va_G} {ca : Nat → ClassId} {ad : Nat → Int → Nat → Nat} {L : List Nat} {aS vS : Nat → Nat} {A : Nat → Prop} {p : Program} {l : Launch} {e : Env} {s : State} {m : MethodId} {args : Array Value} {below : List Frame} {meth : Method} {c : Code} {K : Nat} {r : Int} {F9 : zF} {B9 : zB} (X : zX D ca L aS vS A p s m args meth c prog_15_method_119_code 13 (Option.none : Option Jvm.ClassFile.FieldType) "StaveHouseModel") : ∀ {n : Nat} {l12 : Int} {l11 : Int} {l10 : Int} {l9 : Int} {l8 : Int} {l6 : Int} {l1 : Int} {l2 : Int} {l3 : Int} {F : zF} {B : zB} {H : Heap} {locs : List Loc} {ls : Array Slot}, f_M_trill_88 K n l12 l11 l10 l9 l8 l6 l1 l2 l3 F B = some (r, F9, B9) → zH D ca ad lnM nM L F B A H → va_S A s.heap H locs → lv_has ls 13 [(12, .int (iI l12)), (11, .int (iI l11)), (10, .int (iI l10)), (9, .int (iI l9)), (8, .int (iI l8)), (6, .int (iI l6)), (0, .ref (ad 14 0 0)), (1, .ref (ad 13 l1 0)), (2, .int (iI l2)), (3, .int (iI l3))] → W p l e ({ frames := 4, cells := 0, slots := 0, locals := 107 } : Room) s m args below meth c H locs 0 0 (MQ below (Q_M_trill D ca ad L r F9 B9 A) args s 0 0 A) (F0 m 88 ls []) := by
  obtain ⟨hx, hb, hr, hml, hown, hts, hlk, hK, hA, hL, hX⟩ := id X
  intro n
  induction n with
  | zero =>
    intros
    rename_i hf _ _ _
    cases hf
  | succ n ih =>
    intro l12 l11 l10 l9 l8 l6 l1 l2 l3 F B H locs ls hf hZ hS hl
    replace hf : (if r32 l12 then if r32 l8 then (if l8 ≤ l12 then some (0, F, B) else if r32 (l12 + 12) then (if l8 ≤ (l12 + 12) then f_M_trill_118 (f_M_trill_88 K n) K l12 l11 l10 l9 l8 l6 l1 l2 l3 l12 l8 F B else f_M_trill_118 (f_M_trill_88 K n) K l12 l11 l10 l9 l8 l6 l1 l2 l3 l12 (l12 + 12) F B) else none) else none else none) = some (r, F9, B9) := hf
    refine lv_iload hx hb (D_21 W_prog_15_method_119_code_64 24 rfl rfl) (lv_at hl 0 rfl) ?_
    refine lv_iload hx hb (D_21 W_prog_15_method_119_code_64 26 rfl rfl) (lv_at hl 4 rfl) ?_
    obtain ⟨g10, hf⟩ := gif hf
    obtain ⟨g11, hf⟩ := gif hf
    refine zge (tgt := 160) hx hb g10 g11 (D_162 W_prog_15_method_119_code_64 28 rfl rfl rfl) (by decide) (fun h12 => ?_) (fun h12 => ?_)
    · replace hf := gpos hf h12
      cases hf
      exact W.vret hx hb hr (fun t ht hW => ⟨⟨(), rfl, trivial, by rw [ht]; exact hZ, va_K.moved hW.alike hK⟩, hS.F ht⟩) hS.2.2 (D_177 W_prog_15_method_119_code_160 0 rfl rfl) hlk
    · replace hf := gneg hf h12
      refine lv_aload_n hx hb (D_42 W_prog_15_method_119_code_64 31 rfl rfl) rfl (lv_at hl 6 rfl) ?_
      refine lv_iload hx hb (D_21 W_prog_15_method_119_code_96 0 rfl rfl) (lv_at hl 0 rfl) ?_
      refine lv_iload hx hb (D_21 W_prog_15_method_119_code_96 2 rfl rfl) (lv_at hl 0 rfl) ?_
      refine lv_bipush (v := iI 12) hx hb (D_16 W_prog_15_method_119_code_96 4 rfl rfl rfl) (by decide) ?_
      refine zadd hx hb (D_96 W_prog_15_method_119_code_96 6 rfl rfl) ?_
      refine lv_iload hx hb (D_21 W_prog_15_method_119_code_96 7 rfl rfl) (lv_at hl 4 rfl) ?_
      obtain ⟨g13, hf⟩ := gif hf
      refine zge (tgt := 116) hx hb g13 g11 (D_162 W_prog_15_method_119_code_96 9 rfl rfl rfl) (by decide) (fun h14 => ?_) (fun h14 => ?_)
      · replace hf := gpos hf h14
        refine lv_iload hx hb (D_21 W_prog_15_method_119_code_96 20 rfl rfl) (lv_at hl 4 rfl) ?_
        exact b_M_trill_118 X ih hf hZ hS (lv_sub hl [0, 1, 2, 3, 4, 5, 6, 7, 8, 9] rfl)
      · replace hf := gneg hf h14
        refine lv_iload hx hb (D_21 W_prog_15_method_119_code_96 12 rfl rfl) (lv_at hl 0 rfl) ?_
        refine lv_bipush (v := iI 12) hx hb (D_16 W_prog_15_method_119_code_96 14 rfl rfl rfl) (by decide) ?_
        refine zadd hx hb (D_96 W_prog_15_method_119_code_96 16 rfl rfl) ?_
        refine lv_goto (tgt := 118) hx hb (D_167 W_prog_15_method_119_code_96 17 rfl rfl rfl) (by decide) ?_
        exact b_M_trill_118 X ih hf hZ hS (lv_sub hl [0, 1, 2, 3, 4, 5, 6, 7, 8, 9] rfl)

def f_M_trill_79 (K : Nat) (l9 : Int) (l8 : Int) (l7 : Int) (l6 : Int) (l1 : Int) (l2 : Int) (l3 : Int) (s0 : Int) (F : zF) (B : zB) : zO := f_M_trill_88 K K l7 0 s0 l9 l8 l6 l1 l2 l3 F B
set_option maxHeartbeats 4000000 in
set_option maxRecDepth 100000 in
theorem b_M_trill_79 {D : va_G} {ca : Nat → ClassId} {ad : Nat → Int → Nat → Nat} {L : List Nat} {aS vS : Nat → Nat} {A : Nat → Prop} {p : Program} {l : Launch} {e : Env} {s : State} {m : MethodId} {args : Array Value} {below : List Frame} {meth : Method} {c : Code} {K : Nat} {r : Int} {F9 : zF} {B9 : zB} (X : zX D ca L aS vS A p s m args meth c prog_15_method_119_code 13 (Option.none : Option Jvm.ClassFile.FieldType) "StaveHouseModel") {l9 : Int} {l8 : Int} {l7 : Int} {l6 : Int} {l1 : Int} {l2 : Int} {l3 : Int} {s0 : Int} {F : zF} {B : zB} {H : Heap} {locs : List Loc} {ls : Array Slot} (hf : f_M_trill_79 K l9 l8 l7 l6 l1 l2 l3 s0 F B = some (r, F9, B9)) (hZ : zH D ca ad lnM nM L F B A H) (hS : va_S A s.heap H locs) (hl : lv_has ls 13 [(9, .int (iI l9)), (8, .int (iI l8)), (7, .int (iI l7)), (6, .int (iI l6)), (0, .ref (ad 14 0 0)), (1, .ref (ad 13 l1 0)), (2, .int (iI l2)), (3, .int (iI l3))]) : W p l e ({ frames := 4, cells := 0, slots := 0, locals := 107 } : Room) s m args below meth c H locs 0 0 (MQ below (Q_M_trill D ca ad L r F9 B9 A) args s 0 0 A) (F0 m 79 ls [.int (iI s0)]) := by
  obtain ⟨hx, hb, hr, hml, hown, hts, hlk, hK, hA, hL, hX⟩ := id X
  replace hf : (f_M_trill_88 K K l7 0 s0 l9 l8 l6 l1 l2 l3 F B) = some (r, F9, B9) := hf
  refine lv_istore (lv' := [(10, .int (iI s0)), (9, .int (iI l9)), (8, .int (iI l8)), (7, .int (iI l7)), (6, .int (iI l6)), (0, .ref (ad 14 0 0)), (1, .ref (ad 13 l1 0)), (2, .int (iI l2)), (3, .int (iI l3))]) hx hb (D_54 W_prog_15_method_119_code_64 15 rfl rfl) hl (by decide) rfl (fun ls hl => ?_)
  refine lv_iconst (v := iI 0) hx hb (D_3 W_prog_15_method_119_code_64 17 rfl rfl) rfl ?_
  refine lv_istore (lv' := [(11, .int (iI 0)), (10, .int (iI s0)), (9, .int (iI l9)), (8, .int (iI l8)), (7, .int (iI l7)), (6, .int (iI l6)), (0, .ref (ad 14 0 0)), (1, .ref (ad 13 l1 0)), (2, .int (iI l2)), (3, .int (iI l3))]) hx hb (D_54 W_prog_15_method_119_code_64 18 rfl rfl) hl (by decide) rfl (fun ls hl => ?_)
  refine lv_iload hx hb (D_21 W_prog_15_method_119_code_64 20 rfl rfl) (lv_at hl 4 rfl) ?_
  refine lv_istore (lv' := [(12, .int (iI l7)), (11, .int (iI 0)), (10, .int (iI s0)), (9, .int (iI l9)), (8, .int (iI l8)), (7, .int (iI l7)), (6, .int (iI l6)), (0, .ref (ad 14 0 0)), (1, .ref (ad 13 l1 0)), (2, .int (iI l2)), (3, .int (iI l3))]) hx hb (D_54 W_prog_15_method_119_code_64 22 rfl rfl) hl (by decide) rfl (fun ls hl => ?_)
  exact b_M_trill_88 X hf hZ hS (lv_sub hl [0, 1, 2, 3, 4, 6, 7, 8, 9, 10] rfl)

def f_M_trill (K : Nat) (l1 : Int) (l2 : Int) (l3 : Int) (l4 : Int) (l5 : Int) (F : zF) (B : zB) : zO := if 0 ≤ l1 ∧ l1 < 3 then if 0 ≤ ((1000 * l2) + l3) ∧ ((1000 * l2) + l3) < 4000 then zbind (f_M_tick K (B 13 l1 14 ((1000 * l2) + l3)) (B 13 l1 15 ((1000 * l2) + l3)) F B) (fun r3 F3 B3 => zbind (f_M_endTick K l1 ((1000 * l2) + l3) F3 B3) (fun r4 F4 B4 => zbind (f_M_tone K l4 l5 F4 B4) (fun r5 F5 B5 => if r32 l4 then (if l4 = 62 then f_M_trill_79 K r5 r4 r3 ((1000 * l2) + l3) l1 l2 l3 r5 F5 B5 else zbind (f_M_inKey K (F5 13 l1 2) (zrm (l4 + 1) 7) F5 B5) (fun r8 F8 B8 => zbind (f_M_tone K (l4 + 1) r8 F8 B8) (fun r9 F9 B9 => f_M_trill_79 K r5 r4 r3 ((1000 * l2) + l3) l1 l2 l3 r9 F9 B9))) else none))) else none else none
set_option maxHeartbeats 4000000 in
set_option maxRecDepth 100000 in
theorem c_M_trill {l : Launch} {D : va_G} {ca : Nat → ClassId} {ad : Nat → Int → Nat → Nat} {L : List Nat} {aS vS : Nat → Nat} {sz K : Nat}  {l1 : Int} {l2 : Int} {l3 : Int} {l4 : Int} {l5 : Int} {F F9 : zF} {B B9 : zB} {r : Int} (hf : f_M_trill K l1 l2 l3 l4 l5 F B = some (r, F9, B9)) : Met l ({ cls := "StaveHouseModel", name := "trill", desc := "(LStaveHouseModel$Piece;IIII)V" } : Jvm.MethodName) (Cond.code ({ cls := "StaveHouseModel", name := "trill", desc := "(LStaveHouseModel$Piece;IIII)V" } : Jvm.MethodName) prog_15_method_119_code 13 (Option.none : Option Jvm.ClassFile.FieldType) :: wAll) ({ frames := 4, cells := 0, slots := 0, locals := 107 } : Room) (va_Pc [.ref (ad 14 0 0), .ref (ad 13 l1 0), .int (iI l2), .int (iI l3), .int (iI l4), .int (iI l5)] (zPre D ca ad lnM nM L aS vS F B sz)) (Q_M_trill D ca ad L r F9 B9 (zA L sz)) 0 0 (zA L sz) := by
  refine zMet (Qc := Q_M_trill D ca ad L r F9 B9) (lv := [(0, .ref (ad 14 0 0)), (1, .ref (ad 13 l1 0)), (2, .int (iI l2)), (3, .int (iI l3)), (4, .int (iI l4)), (5, .int (iI l5))]) (by decide) (Nat.le_of_ble_eq_true rfl) rfl (fun A p e s m below meth c ls X hZ hS hl => ?_)
  obtain ⟨hx, hb, hr, hml, hown, hts, hlk, hK, hA, hL, hX⟩ := id X
  replace hf : (if 0 ≤ l1 ∧ l1 < 3 then if 0 ≤ ((1000 * l2) + l3) ∧ ((1000 * l2) + l3) < 4000 then zbind (f_M_tick K (B 13 l1 14 ((1000 * l2) + l3)) (B 13 l1 15 ((1000 * l2) + l3)) F B) (fun r3 F3 B3 => zbind (f_M_endTick K l1 ((1000 * l2) + l3) F3 B3) (fun r4 F4 B4 => zbind (f_M_tone K l4 l5 F4 B4) (fun r5 F5 B5 => if r32 l4 then (if l4 = 62 then f_M_trill_79 K r5 r4 r3 ((1000 * l2) + l3) l1 l2 l3 r5 F5 B5 else zbind (f_M_inKey K (F5 13 l1 2) (zrm (l4 + 1) 7) F5 B5) (fun r8 F8 B8 => zbind (f_M_tone K (l4 + 1) r8 F8 B8) (fun r9 F9 B9 => f_M_trill_79 K r5 r4 r3 ((1000 * l2) + l3) l1 l2 l3 r9 F9 B9))) else none))) else none else none) = some (r, F9, B9) := hf
  refine lv_sipush (v := iI 1000) hx hb (D_17 W_prog_15_method_119_code_0 0 rfl rfl rfl) (by decide) ?_
  refine lv_iload_n hx hb (D_28 W_prog_15_method_119_code_0 3 rfl rfl) rfl (lv_at hl 2 rfl) ?_
  refine zmul hx hb (D_104 W_prog_15_method_119_code_0 4 rfl rfl) ?_
  refine lv_iload_n hx hb (D_29 W_prog_15_method_119_code_0 5 rfl rfl) rfl (lv_at hl 3 rfl) ?_
  refine zadd hx hb (D_96 W_prog_15_method_119_code_0 6 rfl rfl) ?_
  refine lv_istore (lv' := [(6, .int (iI ((1000 * l2) + l3))), (0, .ref (ad 14 0 0)), (1, .ref (ad 13 l1 0)), (2, .int (iI l2)), (3, .int (iI l3)), (4, .int (iI l4)), (5, .int (iI l5))]) hx hb (D_54 W_prog_15_method_119_code_0 7 rfl rfl) hl (by decide) rfl (fun ls hl => ?_)
  refine lv_aload_n hx hb (D_43 W_prog_15_method_119_code_0 9 rfl rfl) rfl (lv_at hl 2 rfl) ?_
  obtain ⟨g1, hf⟩ := gif hf
  refine zget (ci := 13) (C := RX13) (T := TX13) (v := .ref (ad 13 l1 (14 + 1))) (k := 14) hx hb hts inW_13 hown hK hZ g1.1 g1.2 rfl (by decide) k_9_146 rfl (D_180 W_prog_15_method_119_code_0 10 rfl rfl rfl) ?_
  refine lv_iload hx hb (D_21 W_prog_15_method_119_code_0 13 rfl rfl) (lv_at hl 0 rfl) ?_
  obtain ⟨g2, hf⟩ := gif hf
  refine zlald (ci := 13) (k := 14) hx hb hK rfl hZ g1.1 g1.2 rfl (Nat.le_of_ble_eq_true rfl) g2.1 g2.2 (D_47 W_prog_15_method_119_code_0 15 rfl rfl) ?_
  refine lv_aload_n hx hb (D_43 W_prog_15_method_119_code_0 16 rfl rfl) rfl (lv_at hl 2 rfl) ?_
  refine zget (ci := 13) (C := RX13) (T := TX13) (v := .ref (ad 13 l1 (15 + 1))) (k := 15) hx hb hts inW_13 hown hK hZ g1.1 g1.2 rfl (by decide) k_9_148 rfl (D_180 W_prog_15_method_119_code_0 17 rfl rfl rfl) ?_
  refine lv_iload hx hb (D_21 W_prog_15_method_119_code_0 20 rfl rfl) (lv_at hl 0 rfl) ?_
  refine zlald (ci := 13) (k := 15) hx hb hK rfl hZ g1.1 g1.2 rfl (Nat.le_of_ble_eq_true rfl) g2.1 g2.2 (D_47 W_prog_15_method_119_code_0 22 rfl rfl) ?_
  obtain ⟨r3, F3, B3, hc3, hf⟩ := gbind hf
  refine va_calli (va_runS (As := [.long (lI (B 13 l1 14 ((1000 * l2) + l3))), .long (lI (B 13 l1 15 ((1000 * l2) + l3)))]) (rest := []) ⟨hx, hb, hml, hown, hts⟩ (c_M_tick (l := l) hc3) (va_cwS 2 hts (gdS k_12_139 k_12_140 k_1_9 k_12_141) rfl rfl rfl (by decide +kernel) ⟨Nat.le_of_ble_eq_true rfl, Nat.le_of_ble_eq_true rfl⟩) (zPS X hZ hS [.long (lI (B 13 l1 14 ((1000 * l2) + l3))), .long (lI (B 13 l1 15 ((1000 * l2) + l3)))]) rfl rfl hl.1 rfl (lv_room (Nat.le_of_ble_eq_true rfl)) (D_184 W_prog_15_method_119_code_0 23 rfl rfl rfl) ⟨Nat.le_of_ble_eq_true rfl, Nat.le_of_ble_eq_true rfl⟩) hS (fun q _ h => zAin X hS q h) (zAin X hS) (fun p3 u3 t3 H3 locs3 ht3 hv3 hw3 hB3 hz3 hk3 hS3 => ?_)
  have hZ3 := zBack X ht3 hB3
  subst hw3
  refine lv_istore (lv' := [(7, .int (iI r3)), (6, .int (iI ((1000 * l2) + l3))), (0, .ref (ad 14 0 0)), (1, .ref (ad 13 l1 0)), (2, .int (iI l2)), (3, .int (iI l3)), (4, .int (iI l4)), (5, .int (iI l5))]) hx hb (D_54 W_prog_15_method_119_code_0 26 rfl rfl) hl (by decide) rfl (fun ls hl => ?_)
  refine lv_aload_n hx hb (D_42 W_prog_15_method_119_code_0 28 rfl rfl) rfl (lv_at hl 2 rfl) ?_
  refine lv_aload_n hx hb (D_43 W_prog_15_method_119_code_0 29 rfl rfl) rfl (lv_at hl 3 rfl) ?_
  refine lv_iload hx hb (D_21 W_prog_15_method_119_code_0 30 rfl rfl) (lv_at hl 1 rfl) ?_
  obtain ⟨r4, F4, B4, hc4, hf⟩ := gbind hf
  refine va_calli (va_runV (As := [.ref (ad 13 l1 0), .int (iI ((1000 * l2) + l3))]) (rest := []) ⟨hx, hb, hml, hown, hts⟩ (c_M_endTick (l := l) hc4) (cwV 2 hts (gdV k_12_143 k_12_145 ks_134 k_1_9 k_12_146) rfl rfl rfl (by decide +kernel) ⟨Nat.le_of_ble_eq_true rfl, Nat.le_of_ble_eq_true rfl⟩) (zPV X hZ3 hS3 (ci := 14) (by decide) (by decide) (r := (RX14, TX14, 107)) rfl [.ref (ad 13 l1 0), .int (iI ((1000 * l2) + l3))]) rfl rfl hl.1 rfl (lv_room (Nat.le_of_ble_eq_true rfl)) (D_182 W_prog_15_method_119_code_32 0 rfl rfl rfl) ⟨Nat.le_of_ble_eq_true rfl, Nat.le_of_ble_eq_true rfl⟩) hS3 (fun q _ h => zAin X hS3 q h) (zAin X hS3) (fun p4 u4 t4 H4 locs4 ht4 hv4 hw4 hB4 hz4 hk4 hS4 => ?_)
  have hZ4 := zBack X ht4 hB4
  subst hw4
  refine lv_istore (lv' := [(8, .int (iI r4)), (7, .int (iI r3)), (6, .int (iI ((1000 * l2) + l3))), (0, .ref (ad 14 0 0)), (1, .ref (ad 13 l1 0)), (2, .int (iI l2)), (3, .int (iI l3)), (4, .int (iI l4)), (5, .int (iI l5))]) hx hb (D_54 W_prog_15_method_119_code_32 3 rfl rfl) hl (by decide) rfl (fun ls hl => ?_)
  refine lv_iload hx hb (D_21 W_prog_15_method_119_code_32 5 rfl rfl) (lv_at hl 7 rfl) ?_
  refine lv_iload hx hb (D_21 W_prog_15_method_119_code_32 7 rfl rfl) (lv_at hl 8 rfl) ?_
  obtain ⟨r5, F5, B5, hc5, hf⟩ := gbind hf
  refine va_calli (va_runS (As := [.int (iI l4), .int (iI l5)]) (rest := []) ⟨hx, hb, hml, hown, hts⟩ (c_M_tone (l := l) hc5) (va_cwS 2 hts (gdS k_12_158 k_12_159 k_1_9 k_12_160) rfl rfl rfl (by decide +kernel) ⟨Nat.le_of_ble_eq_true rfl, Nat.le_of_ble_eq_true rfl⟩) (zPS X hZ4 hS4 [.int (iI l4), .int (iI l5)]) rfl rfl hl.1 rfl (lv_room (Nat.le_of_ble_eq_true rfl)) (D_184 W_prog_15_method_119_code_32 9 rfl rfl rfl) ⟨Nat.le_of_ble_eq_true rfl, Nat.le_of_ble_eq_true rfl⟩) hS4 (fun q _ h => zAin X hS4 q h) (zAin X hS4) (fun p5 u5 t5 H5 locs5 ht5 hv5 hw5 hB5 hz5 hk5 hS5 => ?_)
  have hZ5 := zBack X ht5 hB5
  subst hw5
  refine lv_istore (lv' := [(9, .int (iI r5)), (8, .int (iI r4)), (7, .int (iI r3)), (6, .int (iI ((1000 * l2) + l3))), (0, .ref (ad 14 0 0)), (1, .ref (ad 13 l1 0)), (2, .int (iI l2)), (3, .int (iI l3)), (4, .int (iI l4)), (5, .int (iI l5))]) hx hb (D_54 W_prog_15_method_119_code_32 12 rfl rfl) hl (by decide) rfl (fun ls hl => ?_)
  refine lv_iload hx hb (D_21 W_prog_15_method_119_code_32 14 rfl rfl) (lv_at hl 8 rfl) ?_
  refine lv_bipush (v := iI 62) hx hb (D_16 W_prog_15_method_119_code_32 16 rfl rfl rfl) (by decide) ?_
  obtain ⟨g6, hf⟩ := gif hf
  refine zne (tgt := 58) hx hb g6 (by decide) (D_160 W_prog_15_method_119_code_32 18 rfl rfl rfl) (by decide) (fun h7 => ?_) (fun h7 => ?_)
  · replace hf := gneg hf h7
    refine lv_iload hx hb (D_21 W_prog_15_method_119_code_32 26 rfl rfl) (lv_at hl 8 rfl) ?_
    refine lv_iconst (v := iI 1) hx hb (D_4 W_prog_15_method_119_code_32 28 rfl rfl) rfl ?_
    refine zadd hx hb (D_96 W_prog_15_method_119_code_32 29 rfl rfl) ?_
    refine lv_aload_n hx hb (D_43 W_prog_15_method_119_code_32 30 rfl rfl) rfl (lv_at hl 5 rfl) ?_
    refine zget (ci := 13) (C := RX13) (T := TX13) (v := .int (iI (F5 13 l1 2))) (k := 2) hx hb hts inW_13 hown hK hZ5 g1.1 g1.2 rfl (by decide) k_9_127 rfl (D_180 W_prog_15_method_119_code_32 31 rfl rfl rfl) ?_
    refine lv_iload hx hb (D_21 W_prog_15_method_119_code_64 2 rfl rfl) (lv_at hl 8 rfl) ?_
    refine lv_iconst (v := iI 1) hx hb (D_4 W_prog_15_method_119_code_64 4 rfl rfl) rfl ?_
    refine zadd hx hb (D_96 W_prog_15_method_119_code_64 5 rfl rfl) ?_
    refine lv_bipush (v := iI 7) hx hb (D_16 W_prog_15_method_119_code_64 6 rfl rfl rfl) (by decide) ?_
    refine zrm_r hx hb (by decide) (D_112 W_prog_15_method_119_code_64 8 rfl rfl) ?_
    obtain ⟨r8, F8, B8, hc8, hf⟩ := gbind hf
    refine va_calli (va_runS (As := [.int (iI (F5 13 l1 2)), .int (iI (zrm (l4 + 1) 7))]) (rest := [.int (iI (l4 + 1))]) ⟨hx, hb, hml, hown, hts⟩ (c_M_inKey (l := l) hc8) (va_cwS 2 hts (gdS k_12_161 k_12_162 k_1_9 k_12_163) rfl rfl rfl (by decide +kernel) ⟨Nat.le_of_ble_eq_true rfl, Nat.le_of_ble_eq_true rfl⟩) (zPS X hZ5 hS5 [.int (iI (F5 13 l1 2)), .int (iI (zrm (l4 + 1) 7))]) rfl rfl hl.1 rfl (lv_room (Nat.le_of_ble_eq_true rfl)) (D_184 W_prog_15_method_119_code_64 9 rfl rfl rfl) ⟨Nat.le_of_ble_eq_true rfl, Nat.le_of_ble_eq_true rfl⟩) hS5 (fun q _ h => zAin X hS5 q h) (zAin X hS5) (fun p8 u8 t8 H8 locs8 ht8 hv8 hw8 hB8 hz8 hk8 hS8 => ?_)
    have hZ8 := zBack X ht8 hB8
    subst hw8
    obtain ⟨r9, F9, B9, hc9, hf⟩ := gbind hf
    refine va_calli (va_runS (As := [.int (iI (l4 + 1)), .int (iI r8)]) (rest := []) ⟨hx, hb, hml, hown, hts⟩ (c_M_tone (l := l) hc9) (va_cwS 2 hts (gdS k_12_158 k_12_159 k_1_9 k_12_160) rfl rfl rfl (by decide +kernel) ⟨Nat.le_of_ble_eq_true rfl, Nat.le_of_ble_eq_true rfl⟩) (zPS X hZ8 hS8 [.int (iI (l4 + 1)), .int (iI r8)]) rfl rfl hl.1 rfl (lv_room (Nat.le_of_ble_eq_true rfl)) (D_184 W_prog_15_method_119_code_64 12 rfl rfl rfl) ⟨Nat.le_of_ble_eq_true rfl, Nat.le_of_ble_eq_true rfl⟩) hS8 (fun q _ h => zAin X hS8 q h) (zAin X hS8) (fun p9 u9 t9 H9 locs9 ht9 hv9 hw9 hB9 hz9 hk9 hS9 => ?_)
    have hZ9 := zBack X ht9 hB9
    subst hw9
    exact b_M_trill_79 X hf hZ9 hS9 (lv_sub hl [0, 1, 2, 3, 4, 5, 6, 7] rfl)
  · replace hf := gpos hf h7
    refine lv_iload hx hb (D_21 W_prog_15_method_119_code_32 21 rfl rfl) (lv_at hl 0 rfl) ?_
    refine lv_goto (tgt := 79) hx hb (D_167 W_prog_15_method_119_code_32 23 rfl rfl rfl) (by decide) ?_
    exact b_M_trill_79 X hf hZ5 hS5 (lv_sub hl [0, 1, 2, 3, 4, 5, 6, 7] rfl)

abbrev Q_M_header (D : va_G) (ca : Nat → ClassId) (ad : Nat → Int → Nat → Nat) (L : List Nat) (r : Int) (F : zF) (B : zB) (A : Nat → Prop) : Array Value → State → Outcome → State → Prop := va_Ql (S := Unit) (fun p _ => p = lI r) (fun _ => zPo D ca ad lnM nM L F B A) A
def f_M_header_99 (K : Nat) (l4 : Int) (F : zF) (B : zB) : zO := zbind (f_M_within K 2 1 8 F B) (fun r24 F24 B24 => zbind (f_M_within K 2 1 960 F24 (zup4 B24 14 0 74 0 r24)) (fun r26 F26 B26 => some (l4, F26, (zup4 B26 14 0 74 1 r26))))
set_option maxHeartbeats 4000000 in
set_option maxRecDepth 100000 in
theorem b_M_header_99 {D : va_G} {ca : Nat → ClassId} {ad : Nat → Int → Nat → Nat} {L : List Nat} {aS vS : Nat → Nat} {A : Nat → Prop} {p : Program} {l : Launch} {e : Env} {s : State} {m : MethodId} {args : Array Value} {below : List Frame} {meth : Method} {c : Code} {K : Nat} {r : Int} {F9 : zF} {B9 : zB} (X : zX D ca L aS vS A p s m args meth c prog_15_method_141_code 6 (Option.some Jvm.ClassFile.FieldType.long) "StaveHouseModel") {l4 : Int} {F : zF} {B : zB} {H : Heap} {locs : List Loc} {ls : Array Slot} (hf : f_M_header_99 K l4 F B = some (r, F9, B9)) (hZ : zH D ca ad lnM nM L F B A H) (hS : va_S A s.heap H locs) (hl : lv_has ls 6 [(4, .long (lI l4)), (0, .ref (ad 14 0 0))]) : W p l e ({ frames := 5, cells := 0, slots := 0, locals := 108 } : Room) s m args below meth c H locs 0 0 (MQ below (Q_M_header D ca ad L r F9 B9 A) args s 0 0 A) (F0 m 99 ls []) := by
  obtain ⟨hx, hb, hr, hml, hown, hts, hlk, hK, hA, hL, hX⟩ := id X
  replace hf : (zbind (f_M_within K 2 1 8 F B) (fun r24 F24 B24 => zbind (f_M_within K 2 1 960 F24 (zup4 B24 14 0 74 0 r24)) (fun r26 F26 B26 => some (l4, F26, (zup4 B26 14 0 74 1 r26))))) = some (r, F9, B9) := hf
  refine lv_aload_n hx hb (D_42 W_prog_15_method_141_code_96 3 rfl rfl) rfl (lv_at hl 1 rfl) ?_
  refine zget (ci := 14) (C := RX14) (T := TX14) (v := .ref (ad 14 0 (74 + 1))) (k := 74) hx hb hts inW_14 hown hK hZ (by decide) (by decide) rfl (by decide) k_11_72 rfl (D_180 W_prog_15_method_141_code_96 4 rfl rfl rfl) ?_
  refine lv_iconst (v := iI 0) hx hb (D_3 W_prog_15_method_141_code_96 7 rfl rfl) rfl ?_
  refine lv_aload_n hx hb (D_42 W_prog_15_method_141_code_96 8 rfl rfl) rfl (lv_at hl 1 rfl) ?_
  refine lv_iconst (v := iI 2) hx hb (D_5 W_prog_15_method_141_code_96 9 rfl rfl) rfl ?_
  refine lv_iconst (v := iI 1) hx hb (D_4 W_prog_15_method_141_code_96 10 rfl rfl) rfl ?_
  refine lv_bipush (v := iI 8) hx hb (D_16 W_prog_15_method_141_code_96 11 rfl rfl rfl) (by decide) ?_
  obtain ⟨r24, F24, B24, hc24, hf⟩ := gbind hf
  refine va_calli (va_runV (As := [.int (iI 2), .int (iI 1), .int (iI 8)]) (rest := [.int (iI 0), .ref (ad 14 0 (74 + 1))]) ⟨hx, hb, hml, hown, hts⟩ (c_M_within (l := l) hc24) (cwV 3 hts (gdV k_13_32 k_13_34 ks_156 k_1_9 k_13_35) rfl rfl rfl (by decide +kernel) ⟨Nat.le_of_ble_eq_true rfl, Nat.le_of_ble_eq_true rfl⟩) (zPV X hZ hS (ci := 14) (by decide) (by decide) (r := (RX14, TX14, 107)) rfl [.int (iI 2), .int (iI 1), .int (iI 8)]) rfl rfl hl.1 rfl (lv_room (Nat.le_of_ble_eq_true rfl)) (D_182 W_prog_15_method_141_code_96 13 rfl rfl rfl) ⟨Nat.le_of_ble_eq_true rfl, Nat.le_of_ble_eq_true rfl⟩) hS (fun q _ h => zAin X hS q h) (zAin X hS) (fun p24 u24 t24 H24 locs24 ht24 hv24 hw24 hB24 hz24 hk24 hS24 => ?_)
  have hZ24 := zBack X ht24 hB24
  subst hw24
  refine zast (ci := 14) (k := 74) hx hb hK rfl hZ24 hS24 (by decide) (by decide) rfl (Nat.le_of_ble_eq_true rfl) (by decide) (by decide) (D_79 W_prog_15_method_141_code_96 16 rfl rfl) (fun H25 locs25 hZ25 hS25 => ?_)
  refine lv_aload_n hx hb (D_42 W_prog_15_method_141_code_96 17 rfl rfl) rfl (lv_at hl 1 rfl) ?_
  refine zget (ci := 14) (C := RX14) (T := TX14) (v := .ref (ad 14 0 (74 + 1))) (k := 74) hx hb hts inW_14 hown hK hZ25 (by decide) (by decide) rfl (by decide) k_11_72 rfl (D_180 W_prog_15_method_141_code_96 18 rfl rfl rfl) ?_
  refine lv_iconst (v := iI 1) hx hb (D_4 W_prog_15_method_141_code_96 21 rfl rfl) rfl ?_
  refine lv_aload_n hx hb (D_42 W_prog_15_method_141_code_96 22 rfl rfl) rfl (lv_at hl 1 rfl) ?_
  refine lv_iconst (v := iI 2) hx hb (D_5 W_prog_15_method_141_code_96 23 rfl rfl) rfl ?_
  refine lv_iconst (v := iI 1) hx hb (D_4 W_prog_15_method_141_code_96 24 rfl rfl) rfl ?_
  refine lv_sipush (v := iI 960) hx hb (D_17 W_prog_15_method_141_code_96 25 rfl rfl rfl) (by decide) ?_
  obtain ⟨r26, F26, B26, hc26, hf⟩ := gbind hf
  refine va_calli (va_runV (As := [.int (iI 2), .int (iI 1), .int (iI 960)]) (rest := [.int (iI 1), .ref (ad 14 0 (74 + 1))]) ⟨hx, hb, hml, hown, hts⟩ (c_M_within (l := l) hc26) (cwV 3 hts (gdV k_13_32 k_13_34 ks_156 k_1_9 k_13_35) rfl rfl rfl (by decide +kernel) ⟨Nat.le_of_ble_eq_true rfl, Nat.le_of_ble_eq_true rfl⟩) (zPV X hZ25 hS25 (ci := 14) (by decide) (by decide) (r := (RX14, TX14, 107)) rfl [.int (iI 2), .int (iI 1), .int (iI 960)]) rfl rfl hl.1 rfl (lv_room (Nat.le_of_ble_eq_true rfl)) (D_182 W_prog_15_method_141_code_96 28 rfl rfl rfl) ⟨Nat.le_of_ble_eq_true rfl, Nat.le_of_ble_eq_true rfl⟩) hS25 (fun q _ h => zAin X hS25 q h) (zAin X hS25) (fun p26 u26 t26 H26 locs26 ht26 hv26 hw26 hB26 hz26 hk26 hS26 => ?_)
  have hZ26 := zBack X ht26 hB26
  subst hw26
  refine zast (ci := 14) (k := 74) hx hb hK rfl hZ26 hS26 (by decide) (by decide) rfl (Nat.le_of_ble_eq_true rfl) (by decide) (by decide) (D_79 W_prog_15_method_141_code_96 31 rfl rfl) (fun H27 locs27 hZ27 hS27 => ?_)
  refine lv_lload hx hb (D_22 W_prog_15_method_141_code_128 0 rfl rfl) (lv_at hl 0 rfl) ?_
  cases hf
  exact W.lret hx hb hr (fun t ht hW => ⟨⟨_, (), rfl, rfl, by rw [ht]; exact hZ27, va_K.moved hW.alike hK⟩, hS27.F ht⟩) hS27.2.2 (D_173 W_prog_15_method_141_code_128 2 rfl rfl) hlk

def f_M_header_73 (K : Nat) (l4 : Int) (F : zF) (B : zB) : zO := zbind (f_M_next K F B) (fun r17 F17 B17 => if r32 r17 then (if r17 ≤ 1 then f_M_header_99 K l4 F17 B17 else zbind (f_M_good K F17 B17) (fun r20 F20 B20 => if r32 r20 then (if r20 = 0 then f_M_header_99 K l4 F20 B20 else zbind (f_M_failByte K 1 ((F20 14 0 89) - 1) F20 B20) (fun r23 F23 B23 => f_M_header_99 K l4 F23 B23)) else none)) else none)
set_option maxHeartbeats 4000000 in
set_option maxRecDepth 100000 in
theorem b_M_header_73 {D : va_G} {ca : Nat → ClassId} {ad : Nat → Int → Nat → Nat} {L : List Nat} {aS vS : Nat → Nat} {A : Nat → Prop} {p : Program} {l : Launch} {e : Env} {s : State} {m : MethodId} {args : Array Value} {below : List Frame} {meth : Method} {c : Code} {K : Nat} {r : Int} {F9 : zF} {B9 : zB} (X : zX D ca L aS vS A p s m args meth c prog_15_method_141_code 6 (Option.some Jvm.ClassFile.FieldType.long) "StaveHouseModel") {l4 : Int} {F : zF} {B : zB} {H : Heap} {locs : List Loc} {ls : Array Slot} (hf : f_M_header_73 K l4 F B = some (r, F9, B9)) (hZ : zH D ca ad lnM nM L F B A H) (hS : va_S A s.heap H locs) (hl : lv_has ls 6 [(4, .long (lI l4)), (0, .ref (ad 14 0 0))]) : W p l e ({ frames := 5, cells := 0, slots := 0, locals := 108 } : Room) s m args below meth c H locs 0 0 (MQ below (Q_M_header D ca ad L r F9 B9 A) args s 0 0 A) (F0 m 73 ls []) := by
  obtain ⟨hx, hb, hr, hml, hown, hts, hlk, hK, hA, hL, hX⟩ := id X
  replace hf : (zbind (f_M_next K F B) (fun r17 F17 B17 => if r32 r17 then (if r17 ≤ 1 then f_M_header_99 K l4 F17 B17 else zbind (f_M_good K F17 B17) (fun r20 F20 B20 => if r32 r20 then (if r20 = 0 then f_M_header_99 K l4 F20 B20 else zbind (f_M_failByte K 1 ((F20 14 0 89) - 1) F20 B20) (fun r23 F23 B23 => f_M_header_99 K l4 F23 B23)) else none)) else none)) = some (r, F9, B9) := hf
  refine lv_aload_n hx hb (D_42 W_prog_15_method_141_code_64 9 rfl rfl) rfl (lv_at hl 1 rfl) ?_
  obtain ⟨r17, F17, B17, hc17, hf⟩ := gbind hf
  refine va_calli (va_runV (As := []) (rest := []) ⟨hx, hb, hml, hown, hts⟩ (c_M_next (l := l) hc17) (cwV 0 hts (gdV k_13_11 k_13_13 ks_151 k_1_9 k_13_14) rfl rfl rfl (by decide +kernel) ⟨Nat.le_of_ble_eq_true rfl, Nat.le_of_ble_eq_true rfl⟩) (zPV X hZ hS (ci := 14) (by decide) (by decide) (r := (RX14, TX14, 107)) rfl []) rfl rfl hl.1 rfl (lv_room (Nat.le_of_ble_eq_true rfl)) (D_182 W_prog_15_method_141_code_64 10 rfl rfl rfl) ⟨Nat.le_of_ble_eq_true rfl, Nat.le_of_ble_eq_true rfl⟩) hS (fun q _ h => zAin X hS q h) (zAin X hS) (fun p17 u17 t17 H17 locs17 ht17 hv17 hw17 hB17 hz17 hk17 hS17 => ?_)
  have hZ17 := zBack X ht17 hB17
  subst hw17
  refine lv_iconst (v := iI 1) hx hb (D_4 W_prog_15_method_141_code_64 13 rfl rfl) rfl ?_
  obtain ⟨g18, hf⟩ := gif hf
  refine zle (tgt := 99) hx hb g18 (by decide) (D_164 W_prog_15_method_141_code_64 14 rfl rfl rfl) (by decide) (fun h19 => ?_) (fun h19 => ?_)
  · replace hf := gpos hf h19
    exact b_M_header_99 X hf hZ17 hS17 (lv_sub hl [0, 1] rfl)
  · replace hf := gneg hf h19
    refine lv_aload_n hx hb (D_42 W_prog_15_method_141_code_64 17 rfl rfl) rfl (lv_at hl 1 rfl) ?_
    obtain ⟨r20, F20, B20, hc20, hf⟩ := gbind hf
    refine va_calli (va_runV (As := []) (rest := []) ⟨hx, hb, hml, hown, hts⟩ (c_M_good (l := l) hc20) (cwV 0 hts (gdV k_13_15 k_13_17 ks_152 k_1_9 k_13_18) rfl rfl rfl (by decide +kernel) ⟨Nat.le_of_ble_eq_true rfl, Nat.le_of_ble_eq_true rfl⟩) (zPV X hZ17 hS17 (ci := 14) (by decide) (by decide) (r := (RX14, TX14, 107)) rfl []) rfl rfl hl.1 rfl (lv_room (Nat.le_of_ble_eq_true rfl)) (D_182 W_prog_15_method_141_code_64 18 rfl rfl rfl) ⟨Nat.le_of_ble_eq_true rfl, Nat.le_of_ble_eq_true rfl⟩) hS17 (fun q _ h => zAin X hS17 q h) (zAin X hS17) (fun p20 u20 t20 H20 locs20 ht20 hv20 hw20 hB20 hz20 hk20 hS20 => ?_)
    have hZ20 := zBack X ht20 hB20
    subst hw20
    obtain ⟨g21, hf⟩ := gif hf
    refine z0eq (tgt := 99) hx hb g21 (D_153 W_prog_15_method_141_code_64 21 rfl rfl rfl) (by decide) (fun h22 => ?_) (fun h22 => ?_)
    · replace hf := gpos hf h22
      exact b_M_header_99 X hf hZ20 hS20 (lv_sub hl [0, 1] rfl)
    · replace hf := gneg hf h22
      refine lv_aload_n hx hb (D_42 W_prog_15_method_141_code_64 24 rfl rfl) rfl (lv_at hl 1 rfl) ?_
      refine lv_iconst (v := iI 1) hx hb (D_4 W_prog_15_method_141_code_64 25 rfl rfl) rfl ?_
      refine lv_aload_n hx hb (D_42 W_prog_15_method_141_code_64 26 rfl rfl) rfl (lv_at hl 1 rfl) ?_
      refine zget (ci := 14) (C := RX14) (T := TX14) (v := .int (iI (F20 14 0 89))) (k := 89) hx hb hts inW_14 hown hK hZ20 (by decide) (by decide) rfl (by decide) k_11_87 rfl (D_180 W_prog_15_method_141_code_64 27 rfl rfl rfl) ?_
      refine lv_iconst (v := iI 1) hx hb (D_4 W_prog_15_method_141_code_64 30 rfl rfl) rfl ?_
      refine zsub hx hb (D_100 W_prog_15_method_141_code_64 31 rfl rfl) ?_
      obtain ⟨r23, F23, B23, hc23, hf⟩ := gbind hf
      refine va_callv (va_runV (As := [.int (iI 1), .int (iI ((F20 14 0 89) - 1))]) (rest := []) ⟨hx, hb, hml, hown, hts⟩ (c_M_failByte (l := l) hc23) (cwV 2 hts (gdV k_13_19 k_13_21 ks_153 k_1_9 k_13_22) rfl rfl rfl (by decide +kernel) ⟨Nat.le_of_ble_eq_true rfl, Nat.le_of_ble_eq_true rfl⟩) (zPV X hZ20 hS20 (ci := 14) (by decide) (by decide) (r := (RX14, TX14, 107)) rfl [.int (iI 1), .int (iI ((F20 14 0 89) - 1))]) rfl rfl hl.1 rfl (lv_room (Nat.le_of_ble_eq_true rfl)) (D_182 W_prog_15_method_141_code_96 0 rfl rfl rfl) ⟨Nat.le_of_ble_eq_true rfl, Nat.le_of_ble_eq_true rfl⟩) hS20 (fun q _ h => zAin X hS20 q h) (zAin X hS20) (fun u23 t23 H23 locs23 ht23 hv23 hw23 hB23 hz23 hk23 hS23 => ?_)
      have hZ23 := zBack X ht23 hB23
      exact b_M_header_99 X hf hZ23 hS23 (lv_sub hl [0, 1] rfl)

def f_M_header_39 (K : Nat) (l2 : Int) (F : zF) (B : zB) : zO := if r32 (F 14 0 89) then zbind (f_M_next K F B) (fun r10 F10 B10 => if r32 r10 then (if r10 = 0 then f_M_header_73 K ((F 14 0 89) + l2) F10 B10 else zbind (f_M_good K F10 B10) (fun r13 F13 B13 => if r32 r13 then (if r13 = 0 then f_M_header_73 K ((F 14 0 89) + l2) F13 B13 else zbind (f_M_failByte K 1 ((F13 14 0 89) - 1) F13 B13) (fun r16 F16 B16 => f_M_header_73 K ((F 14 0 89) + l2) F16 B16)) else none)) else none) else none
set_option maxHeartbeats 4000000 in
set_option maxRecDepth 100000 in
theorem b_M_header_39 {D : va_G} {ca : Nat → ClassId} {ad : Nat → Int → Nat → Nat} {L : List Nat} {aS vS : Nat → Nat} {A : Nat → Prop} {p : Program} {l : Launch} {e : Env} {s : State} {m : MethodId} {args : Array Value} {below : List Frame} {meth : Method} {c : Code} {K : Nat} {r : Int} {F9 : zF} {B9 : zB} (X : zX D ca L aS vS A p s m args meth c prog_15_method_141_code 6 (Option.some Jvm.ClassFile.FieldType.long) "StaveHouseModel") {l2 : Int} {F : zF} {B : zB} {H : Heap} {locs : List Loc} {ls : Array Slot} (hf : f_M_header_39 K l2 F B = some (r, F9, B9)) (hZ : zH D ca ad lnM nM L F B A H) (hS : va_S A s.heap H locs) (hl : lv_has ls 6 [(2, .long (lI l2)), (0, .ref (ad 14 0 0))]) : W p l e ({ frames := 5, cells := 0, slots := 0, locals := 108 } : Room) s m args below meth c H locs 0 0 (MQ below (Q_M_header D ca ad L r F9 B9 A) args s 0 0 A) (F0 m 39 ls []) := by
  obtain ⟨hx, hb, hr, hml, hown, hts, hlk, hK, hA, hL, hX⟩ := id X
  replace hf : (if r32 (F 14 0 89) then zbind (f_M_next K F B) (fun r10 F10 B10 => if r32 r10 then (if r10 = 0 then f_M_header_73 K ((F 14 0 89) + l2) F10 B10 else zbind (f_M_good K F10 B10) (fun r13 F13 B13 => if r32 r13 then (if r13 = 0 then f_M_header_73 K ((F 14 0 89) + l2) F13 B13 else zbind (f_M_failByte K 1 ((F13 14 0 89) - 1) F13 B13) (fun r16 F16 B16 => f_M_header_73 K ((F 14 0 89) + l2) F16 B16)) else none)) else none) else none) = some (r, F9, B9) := hf
  refine lv_aload_n hx hb (D_42 W_prog_15_method_141_code_32 7 rfl rfl) rfl (lv_at hl 1 rfl) ?_
  refine zget (ci := 14) (C := RX14) (T := TX14) (v := .int (iI (F 14 0 89))) (k := 89) hx hb hts inW_14 hown hK hZ (by decide) (by decide) rfl (by decide) k_11_87 rfl (D_180 W_prog_15_method_141_code_32 8 rfl rfl rfl) ?_
  obtain ⟨g9, hf⟩ := gif hf
  refine zi2l hx hb g9 (D_133 W_prog_15_method_141_code_32 11 rfl rfl) ?_
  refine lv_lload_n hx hb (D_32 W_prog_15_method_141_code_32 12 rfl rfl) rfl (lv_at hl 0 rfl) ?_
  refine zladd hx hb (D_97 W_prog_15_method_141_code_32 13 rfl rfl) ?_
  refine lv_lstore (lv' := [(4, .long (lI ((F 14 0 89) + l2))), (2, .long (lI l2)), (0, .ref (ad 14 0 0))]) hx hb (D_55 W_prog_15_method_141_code_32 14 rfl rfl) hl (by decide) rfl (fun ls hl => ?_)
  refine lv_aload_n hx hb (D_42 W_prog_15_method_141_code_32 16 rfl rfl) rfl (lv_at hl 2 rfl) ?_
  obtain ⟨r10, F10, B10, hc10, hf⟩ := gbind hf
  refine va_calli (va_runV (As := []) (rest := []) ⟨hx, hb, hml, hown, hts⟩ (c_M_next (l := l) hc10) (cwV 0 hts (gdV k_13_11 k_13_13 ks_151 k_1_9 k_13_14) rfl rfl rfl (by decide +kernel) ⟨Nat.le_of_ble_eq_true rfl, Nat.le_of_ble_eq_true rfl⟩) (zPV X hZ hS (ci := 14) (by decide) (by decide) (r := (RX14, TX14, 107)) rfl []) rfl rfl hl.1 rfl (lv_room (Nat.le_of_ble_eq_true rfl)) (D_182 W_prog_15_method_141_code_32 17 rfl rfl rfl) ⟨Nat.le_of_ble_eq_true rfl, Nat.le_of_ble_eq_true rfl⟩) hS (fun q _ h => zAin X hS q h) (zAin X hS) (fun p10 u10 t10 H10 locs10 ht10 hv10 hw10 hB10 hz10 hk10 hS10 => ?_)
  have hZ10 := zBack X ht10 hB10
  subst hw10
  obtain ⟨g11, hf⟩ := gif hf
  refine z0eq (tgt := 73) hx hb g11 (D_153 W_prog_15_method_141_code_32 20 rfl rfl rfl) (by decide) (fun h12 => ?_) (fun h12 => ?_)
  · replace hf := gpos hf h12
    exact b_M_header_73 X hf hZ10 hS10 (lv_sub hl [0, 2] rfl)
  · replace hf := gneg hf h12
    refine lv_aload_n hx hb (D_42 W_prog_15_method_141_code_32 23 rfl rfl) rfl (lv_at hl 2 rfl) ?_
    obtain ⟨r13, F13, B13, hc13, hf⟩ := gbind hf
    refine va_calli (va_runV (As := []) (rest := []) ⟨hx, hb, hml, hown, hts⟩ (c_M_good (l := l) hc13) (cwV 0 hts (gdV k_13_15 k_13_17 ks_152 k_1_9 k_13_18) rfl rfl rfl (by decide +kernel) ⟨Nat.le_of_ble_eq_true rfl, Nat.le_of_ble_eq_true rfl⟩) (zPV X hZ10 hS10 (ci := 14) (by decide) (by decide) (r := (RX14, TX14, 107)) rfl []) rfl rfl hl.1 rfl (lv_room (Nat.le_of_ble_eq_true rfl)) (D_182 W_prog_15_method_141_code_32 24 rfl rfl rfl) ⟨Nat.le_of_ble_eq_true rfl, Nat.le_of_ble_eq_true rfl⟩) hS10 (fun q _ h => zAin X hS10 q h) (zAin X hS10) (fun p13 u13 t13 H13 locs13 ht13 hv13 hw13 hB13 hz13 hk13 hS13 => ?_)
    have hZ13 := zBack X ht13 hB13
    subst hw13
    obtain ⟨g14, hf⟩ := gif hf
    refine z0eq (tgt := 73) hx hb g14 (D_153 W_prog_15_method_141_code_32 27 rfl rfl rfl) (by decide) (fun h15 => ?_) (fun h15 => ?_)
    · replace hf := gpos hf h15
      exact b_M_header_73 X hf hZ13 hS13 (lv_sub hl [0, 2] rfl)
    · replace hf := gneg hf h15
      refine lv_aload_n hx hb (D_42 W_prog_15_method_141_code_32 30 rfl rfl) rfl (lv_at hl 2 rfl) ?_
      refine lv_iconst (v := iI 1) hx hb (D_4 W_prog_15_method_141_code_32 31 rfl rfl) rfl ?_
      refine lv_aload_n hx hb (D_42 W_prog_15_method_141_code_64 0 rfl rfl) rfl (lv_at hl 2 rfl) ?_
      refine zget (ci := 14) (C := RX14) (T := TX14) (v := .int (iI (F13 14 0 89))) (k := 89) hx hb hts inW_14 hown hK hZ13 (by decide) (by decide) rfl (by decide) k_11_87 rfl (D_180 W_prog_15_method_141_code_64 1 rfl rfl rfl) ?_
      refine lv_iconst (v := iI 1) hx hb (D_4 W_prog_15_method_141_code_64 4 rfl rfl) rfl ?_
      refine zsub hx hb (D_100 W_prog_15_method_141_code_64 5 rfl rfl) ?_
      obtain ⟨r16, F16, B16, hc16, hf⟩ := gbind hf
      refine va_callv (va_runV (As := [.int (iI 1), .int (iI ((F13 14 0 89) - 1))]) (rest := []) ⟨hx, hb, hml, hown, hts⟩ (c_M_failByte (l := l) hc16) (cwV 2 hts (gdV k_13_19 k_13_21 ks_153 k_1_9 k_13_22) rfl rfl rfl (by decide +kernel) ⟨Nat.le_of_ble_eq_true rfl, Nat.le_of_ble_eq_true rfl⟩) (zPV X hZ13 hS13 (ci := 14) (by decide) (by decide) (r := (RX14, TX14, 107)) rfl [.int (iI 1), .int (iI ((F13 14 0 89) - 1))]) rfl rfl hl.1 rfl (lv_room (Nat.le_of_ble_eq_true rfl)) (D_182 W_prog_15_method_141_code_64 6 rfl rfl rfl) ⟨Nat.le_of_ble_eq_true rfl, Nat.le_of_ble_eq_true rfl⟩) hS13 (fun q _ h => zAin X hS13 q h) (zAin X hS13) (fun u16 t16 H16 locs16 ht16 hv16 hw16 hB16 hz16 hk16 hS16 => ?_)
      have hZ16 := zBack X ht16 hB16
      exact b_M_header_73 X hf hZ16 hS16 (lv_sub hl [0, 2] rfl)

def f_M_header (K : Nat)  (F : zF) (B : zB) : zO := zbind (f_M_expect K 36 F B) (fun r1 F1 B1 => zbind (f_M_whole K 4 F1 B1) (fun r2 F2 B2 => zbind (f_M_good K F2 B2) (fun r3 F3 B3 => if r32 r3 then (if r3 = 0 then f_M_header_39 K r2 F3 B3 else if r64 r2 then (if 0 ≤ (zcmp r2 6) then f_M_header_39 K r2 F3 B3 else zbind (f_M_failByte K 3 (F1 14 0 89) F3 B3) (fun r8 F8 B8 => f_M_header_39 K r2 F8 B8)) else none) else none)))
set_option maxHeartbeats 4000000 in
set_option maxRecDepth 100000 in
theorem c_M_header {l : Launch} {D : va_G} {ca : Nat → ClassId} {ad : Nat → Int → Nat → Nat} {L : List Nat} {aS vS : Nat → Nat} {sz K : Nat}   {F F9 : zF} {B B9 : zB} {r : Int} (hf : f_M_header K  F B = some (r, F9, B9)) : Met l ({ cls := "StaveHouseModel", name := "header", desc := "()J" } : Jvm.MethodName) (Cond.code ({ cls := "StaveHouseModel", name := "header", desc := "()J" } : Jvm.MethodName) prog_15_method_141_code 6 (Option.some Jvm.ClassFile.FieldType.long) :: wAll) ({ frames := 5, cells := 0, slots := 0, locals := 108 } : Room) (va_Pc [.ref (ad 14 0 0)] (zPre D ca ad lnM nM L aS vS F B sz)) (Q_M_header D ca ad L r F9 B9 (zA L sz)) 0 0 (zA L sz) := by
  refine zMet (Qc := Q_M_header D ca ad L r F9 B9) (lv := [(0, .ref (ad 14 0 0))]) (by decide) (Nat.le_of_ble_eq_true rfl) rfl (fun A p e s m below meth c ls X hZ hS hl => ?_)
  obtain ⟨hx, hb, hr, hml, hown, hts, hlk, hK, hA, hL, hX⟩ := id X
  replace hf : (zbind (f_M_expect K 36 F B) (fun r1 F1 B1 => zbind (f_M_whole K 4 F1 B1) (fun r2 F2 B2 => zbind (f_M_good K F2 B2) (fun r3 F3 B3 => if r32 r3 then (if r3 = 0 then f_M_header_39 K r2 F3 B3 else if r64 r2 then (if 0 ≤ (zcmp r2 6) then f_M_header_39 K r2 F3 B3 else zbind (f_M_failByte K 3 (F1 14 0 89) F3 B3) (fun r8 F8 B8 => f_M_header_39 K r2 F8 B8)) else none) else none)))) = some (r, F9, B9) := hf
  refine lv_aload_n hx hb (D_42 W_prog_15_method_141_code_0 0 rfl rfl) rfl (lv_at hl 0 rfl) ?_
  refine gldcwS hx hb hown (hX.2.2.2.2.1 36 _ rfl).1 (D_19 W_prog_15_method_141_code_0 1 rfl rfl rfl) ?_
  obtain ⟨r1, F1, B1, hc1, hf⟩ := gbind hf
  refine va_callv (va_runV (As := [.ref (aS 36)]) (rest := []) ⟨hx, hb, hml, hown, hts⟩ (c_M_expect (l := l) hc1) (cwV 1 hts (gdV k_13_7 k_13_9 ks_150 k_1_9 k_13_10) rfl rfl rfl (by decide +kernel) ⟨Nat.le_of_ble_eq_true rfl, Nat.le_of_ble_eq_true rfl⟩) (zPV X hZ hS (ci := 14) (by decide) (by decide) (r := (RX14, TX14, 107)) rfl [.ref (aS 36)]) rfl rfl hl.1 rfl (lv_room (Nat.le_of_ble_eq_true rfl)) (D_182 W_prog_15_method_141_code_0 4 rfl rfl rfl) ⟨Nat.le_of_ble_eq_true rfl, Nat.le_of_ble_eq_true rfl⟩) hS (fun q _ h => zAin X hS q h) (zAin X hS) (fun u1 t1 H1 locs1 ht1 hv1 hw1 hB1 hz1 hk1 hS1 => ?_)
  have hZ1 := zBack X ht1 hB1
  refine lv_aload_n hx hb (D_42 W_prog_15_method_141_code_0 7 rfl rfl) rfl (lv_at hl 0 rfl) ?_
  refine zget (ci := 14) (C := RX14) (T := TX14) (v := .int (iI (F1 14 0 89))) (k := 89) hx hb hts inW_14 hown hK hZ1 (by decide) (by decide) rfl (by decide) k_11_87 rfl (D_180 W_prog_15_method_141_code_0 8 rfl rfl rfl) ?_
  refine lv_istore_n (lv' := [(1, .int (iI (F1 14 0 89))), (0, .ref (ad 14 0 0))]) hx hb (D_60 W_prog_15_method_141_code_0 11 rfl rfl) rfl hl (by decide) rfl (fun ls hl => ?_)
  refine lv_aload_n hx hb (D_42 W_prog_15_method_141_code_0 12 rfl rfl) rfl (lv_at hl 1 rfl) ?_
  refine lv_iconst (v := iI 4) hx hb (D_7 W_prog_15_method_141_code_0 13 rfl rfl) rfl ?_
  obtain ⟨r2, F2, B2, hc2, hf⟩ := gbind hf
  refine va_calll (va_runV (As := [.int (iI 4)]) (rest := []) ⟨hx, hb, hml, hown, hts⟩ (c_M_whole (l := l) hc2) (cwV 1 hts (gdV k_13_27 k_13_29 ks_155 k_1_9 k_13_30) rfl rfl rfl (by decide +kernel) ⟨Nat.le_of_ble_eq_true rfl, Nat.le_of_ble_eq_true rfl⟩) (zPV X hZ1 hS1 (ci := 14) (by decide) (by decide) (r := (RX14, TX14, 107)) rfl [.int (iI 4)]) rfl rfl hl.1 rfl (lv_room (Nat.le_of_ble_eq_true rfl)) (D_182 W_prog_15_method_141_code_0 14 rfl rfl rfl) ⟨Nat.le_of_ble_eq_true rfl, Nat.le_of_ble_eq_true rfl⟩) hS1 (fun q _ h => zAin X hS1 q h) (zAin X hS1) (fun p2 u2 t2 H2 locs2 ht2 hv2 hw2 hB2 hz2 hk2 hS2 => ?_)
  have hZ2 := zBack X ht2 hB2
  subst hw2
  refine lv_lstore_n (lv' := [(2, .long (lI r2)), (1, .int (iI (F1 14 0 89))), (0, .ref (ad 14 0 0))]) hx hb (D_65 W_prog_15_method_141_code_0 17 rfl rfl) rfl hl (by decide) rfl (fun ls hl => ?_)
  refine lv_aload_n hx hb (D_42 W_prog_15_method_141_code_0 18 rfl rfl) rfl (lv_at hl 2 rfl) ?_
  obtain ⟨r3, F3, B3, hc3, hf⟩ := gbind hf
  refine va_calli (va_runV (As := []) (rest := []) ⟨hx, hb, hml, hown, hts⟩ (c_M_good (l := l) hc3) (cwV 0 hts (gdV k_13_15 k_13_17 ks_152 k_1_9 k_13_18) rfl rfl rfl (by decide +kernel) ⟨Nat.le_of_ble_eq_true rfl, Nat.le_of_ble_eq_true rfl⟩) (zPV X hZ2 hS2 (ci := 14) (by decide) (by decide) (r := (RX14, TX14, 107)) rfl []) rfl rfl hl.1 rfl (lv_room (Nat.le_of_ble_eq_true rfl)) (D_182 W_prog_15_method_141_code_0 19 rfl rfl rfl) ⟨Nat.le_of_ble_eq_true rfl, Nat.le_of_ble_eq_true rfl⟩) hS2 (fun q _ h => zAin X hS2 q h) (zAin X hS2) (fun p3 u3 t3 H3 locs3 ht3 hv3 hw3 hB3 hz3 hk3 hS3 => ?_)
  have hZ3 := zBack X ht3 hB3
  subst hw3
  obtain ⟨g4, hf⟩ := gif hf
  refine z0eq (tgt := 39) hx hb g4 (D_153 W_prog_15_method_141_code_0 22 rfl rfl rfl) (by decide) (fun h5 => ?_) (fun h5 => ?_)
  · replace hf := gpos hf h5
    exact b_M_header_39 X hf hZ3 hS3 (lv_sub hl [0, 2] rfl)
  · replace hf := gneg hf h5
    refine lv_lload_n hx hb (D_32 W_prog_15_method_141_code_0 25 rfl rfl) rfl (lv_at hl 0 rfl) ?_
    refine lv_ldc2 hx hb hown (hts _ k_13_31) (D_20 W_prog_15_method_141_code_0 26 rfl rfl rfl) ?_
    refine W.eq (g2 := F0 m 29 ls [.long (lI 6), .long (lI r2)]) rfl ?_
    obtain ⟨g6, hf⟩ := gif hf
    refine zcmp_r hx hb g6 (by decide) (D_148 W_prog_15_method_141_code_0 29 rfl rfl) ?_
    refine z0ge (tgt := 39) hx hb zcmp_32 (D_156 W_prog_15_method_141_code_0 30 rfl rfl rfl) (by decide) (fun h7 => ?_) (fun h7 => ?_)
    · replace hf := gpos hf h7
      exact b_M_header_39 X hf hZ3 hS3 (lv_sub hl [0, 2] rfl)
    · replace hf := gneg hf h7
      refine lv_aload_n hx hb (D_42 W_prog_15_method_141_code_32 1 rfl rfl) rfl (lv_at hl 2 rfl) ?_
      refine lv_iconst (v := iI 3) hx hb (D_6 W_prog_15_method_141_code_32 2 rfl rfl) rfl ?_
      refine lv_iload_n hx hb (D_27 W_prog_15_method_141_code_32 3 rfl rfl) rfl (lv_at hl 1 rfl) ?_
      obtain ⟨r8, F8, B8, hc8, hf⟩ := gbind hf
      refine va_callv (va_runV (As := [.int (iI 3), .int (iI (F1 14 0 89))]) (rest := []) ⟨hx, hb, hml, hown, hts⟩ (c_M_failByte (l := l) hc8) (cwV 2 hts (gdV k_13_19 k_13_21 ks_153 k_1_9 k_13_22) rfl rfl rfl (by decide +kernel) ⟨Nat.le_of_ble_eq_true rfl, Nat.le_of_ble_eq_true rfl⟩) (zPV X hZ3 hS3 (ci := 14) (by decide) (by decide) (r := (RX14, TX14, 107)) rfl [.int (iI 3), .int (iI (F1 14 0 89))]) rfl rfl hl.1 rfl (lv_room (Nat.le_of_ble_eq_true rfl)) (D_182 W_prog_15_method_141_code_32 4 rfl rfl rfl) ⟨Nat.le_of_ble_eq_true rfl, Nat.le_of_ble_eq_true rfl⟩) hS3 (fun q _ h => zAin X hS3 q h) (zAin X hS3) (fun u8 t8 H8 locs8 ht8 hv8 hw8 hB8 hz8 hk8 hS8 => ?_)
      have hZ8 := zBack X ht8 hB8
      exact b_M_header_39 X hf hZ8 hS8 (lv_sub hl [0, 2] rfl)

abbrev Q_M_track0 (D : va_G) (ca : Nat → ClassId) (ad : Nat → Int → Nat → Nat) (L : List Nat) (r : Int) (F : zF) (B : zB) (A : Nat → Prop) : Array Value → State → Outcome → State → Prop := va_Qv (S := Unit) (fun _ => True) (fun _ => zPo D ca ad lnM nM L F B A) A
def f_M_track0_321 (K : Nat)  (F : zF) (B : zB) : zO := some (0, F, B)
set_option maxHeartbeats 4000000 in
set_option maxRecDepth 100000 in
theorem b_M_track0_321 {D : va_G} {ca : Nat → ClassId} {ad : Nat → Int → Nat → Nat} {L : List Nat} {aS vS : Nat → Nat} {A : Nat → Prop} {p : Program} {l : Launch} {e : Env} {s : State} {m : MethodId} {args : Array Value} {below : List Frame} {meth : Method} {c : Code} {K : Nat} {r : Int} {F9 : zF} {B9 : zB} (X : zX D ca L aS vS A p s m args meth c prog_15_method_145_code 11 (Option.none : Option Jvm.ClassFile.FieldType) "StaveHouseModel")  {F : zF} {B : zB} {H : Heap} {locs : List Loc} {ls : Array Slot} (hf : f_M_track0_321 K  F B = some (r, F9, B9)) (hZ : zH D ca ad lnM nM L F B A H) (hS : va_S A s.heap H locs) (hl : lv_has ls 11 []) : W p l e ({ frames := 4, cells := 0, slots := 0, locals := 92 } : Room) s m args below meth c H locs 0 0 (MQ below (Q_M_track0 D ca ad L r F9 B9 A) args s 0 0 A) (F0 m 321 ls []) := by
  obtain ⟨hx, hb, hr, hml, hown, hts, hlk, hK, hA, hL, hX⟩ := id X
  replace hf : (some (0, F, B)) = some (r, F9, B9) := hf
  cases hf
  exact W.vret hx hb hr (fun t ht hW => ⟨⟨(), rfl, trivial, by rw [ht]; exact hZ, va_K.moved hW.alike hK⟩, hS.F ht⟩) hS.2.2 (D_177 W_prog_15_method_145_code_320 1 rfl rfl) hlk

def f_M_track0_299 (rec270 : Int → Int → Int → zF → zB → zO) (K : Nat) (l7 : Int) (l2 : Int) (l1 : Int) (F : zF) (B : zB) : zO := rec270 (l7 + 1) l2 l1 F B
set_option maxHeartbeats 4000000 in
set_option maxRecDepth 100000 in
theorem b_M_track0_299 {D : va_G} {ca : Nat → ClassId} {ad : Nat → Int → Nat → Nat} {L : List Nat} {aS vS : Nat → Nat} {A : Nat → Prop} {p : Program} {l : Launch} {e : Env} {s : State} {m : MethodId} {args : Array Value} {below : List Frame} {meth : Method} {c : Code} {K : Nat} {r : Int} {F9 : zF} {B9 : zB} (X : zX D ca L aS vS A p s m args meth c prog_15_method_145_code 11 (Option.none : Option Jvm.ClassFile.FieldType) "StaveHouseModel") {rec270 : Int → Int → Int → zF → zB → zO} (hrec270 : ∀ {l7 : Int} {l2 : Int} {l1 : Int} {F : zF} {B : zB} {H : Heap} {locs : List Loc} {ls : Array Slot}, rec270 l7 l2 l1 F B = some (r, F9, B9) → zH D ca ad lnM nM L F B A H → va_S A s.heap H locs → lv_has ls 11 [(7, .int (iI l7)), (2, .long (lI l2)), (0, .ref (ad 14 0 0)), (1, .int (iI l1))] → W p l e ({ frames := 4, cells := 0, slots := 0, locals := 92 } : Room) s m args below meth c H locs 0 0 (MQ below (Q_M_track0 D ca ad L r F9 B9 A) args s 0 0 A) (F0 m 270 ls [])) {l7 : Int} {l2 : Int} {l1 : Int} {F : zF} {B : zB} {H : Heap} {locs : List Loc} {ls : Array Slot} (hf : f_M_track0_299 rec270 K l7 l2 l1 F B = some (r, F9, B9)) (hZ : zH D ca ad lnM nM L F B A H) (hS : va_S A s.heap H locs) (hl : lv_has ls 11 [(7, .int (iI l7)), (2, .long (lI l2)), (0, .ref (ad 14 0 0)), (1, .int (iI l1))]) : W p l e ({ frames := 4, cells := 0, slots := 0, locals := 92 } : Room) s m args below meth c H locs 0 0 (MQ below (Q_M_track0 D ca ad L r F9 B9 A) args s 0 0 A) (F0 m 299 ls []) := by
  obtain ⟨hx, hb, hr, hml, hown, hts, hlk, hK, hA, hL, hX⟩ := id X
  replace hf : (rec270 (l7 + 1) l2 l1 F B) = some (r, F9, B9) := hf
  refine lv_iinc (v := iI (l7 + 1)) (lv' := [(7, .int (iI (l7 + 1))), (2, .long (lI l2)), (0, .ref (ad 14 0 0)), (1, .int (iI l1))]) hx hb d_15_145_299 hl (k := 0) rfl (iI_add _ 1) (by decide) rfl (fun ls hl => ?_)
  refine lv_goto (tgt := 270) hx hb (D_167 W_prog_15_method_145_code_288 14 rfl rfl rfl) (by decide) ?_
  exact hrec270 hf hZ hS (lv_sub hl [0, 1, 2, 3] rfl)

def f_M_track0_270 (K : Nat) : Nat → Int → Int → Int → zF → zB → zO
  | 0, _, _, _, _, _ => none
  | n + 1, l7, l2, l1, F, B => if r32 l7 then if r32 (F 14 0 94) then (if (F 14 0 94) ≤ l7 then if 0 ≤ l1 ∧ l1 < 8 then if r32 (B 14 0 88 l1) then (if 0 ≤ (B 14 0 88 l1) then f_M_track0_321 K F B else f_M_track0_321 K F (zup4 B 14 0 88 l1 0)) else none else none else if 0 ≤ l7 ∧ l7 < 400 then if r64 (B 14 0 87 l7) then (if 0 ≤ (zcmp (B 14 0 87 l7) 0) then f_M_track0_299 (f_M_track0_270 K n) K l7 l2 l1 F B else f_M_track0_299 (f_M_track0_270 K n) K l7 l2 l1 F (zup4 B 14 0 87 l7 l2)) else none else none) else none else none
set_option maxHeartbeats 4000000 in
set_option maxRecDepth 100000 in
theorem b_M_track0_270 {D : va_G} {ca : Nat → ClassId} {ad : Nat → Int → Nat → Nat} {L : List Nat} {aS vS : Nat → Nat} {A : Nat → Prop} {p : Program} {l : Launch} {e : Env} {s : State} {m : MethodId} {args : Array Value} {below : List Frame} {meth : Method} {c : Code} {K : Nat} {r : Int} {F9 : zF} {B9 : zB} (X : zX D ca L aS vS A p s m args meth c prog_15_method_145_code 11 (Option.none : Option Jvm.ClassFile.FieldType) "StaveHouseModel") : ∀ {n : Nat} {l7 : Int} {l2 : Int} {l1 : Int} {F : zF} {B : zB} {H : Heap} {locs : List Loc} {ls : Array Slot}, f_M_track0_270 K n l7 l2 l1 F B = some (r, F9, B9) → zH D ca ad lnM nM L F B A H → va_S A s.heap H locs → lv_has ls 11 [(7, .int (iI l7)), (2, .long (lI l2)), (0, .ref (ad 14 0 0)), (1, .int (iI l1))] → W p l e ({ frames := 4, cells := 0, slots := 0, locals := 92 } : Room) s m args below meth c H locs 0 0 (MQ below (Q_M_track0 D ca ad L r F9 B9 A) args s 0 0 A) (F0 m 270 ls []) := by
  obtain ⟨hx, hb, hr, hml, hown, hts, hlk, hK, hA, hL, hX⟩ := id X
  intro n
  induction n with
  | zero =>
    intros
    rename_i hf _ _ _
    cases hf
  | succ n ih =>
    intro l7 l2 l1 F B H locs ls hf hZ hS hl
    replace hf : (if r32 l7 then if r32 (F 14 0 94) then (if (F 14 0 94) ≤ l7 then if 0 ≤ l1 ∧ l1 < 8 then if r32 (B 14 0 88 l1) then (if 0 ≤ (B 14 0 88 l1) then f_M_track0_321 K F B else f_M_track0_321 K F (zup4 B 14 0 88 l1 0)) else none else none else if 0 ≤ l7 ∧ l7 < 400 then if r64 (B 14 0 87 l7) then (if 0 ≤ (zcmp (B 14 0 87 l7) 0) then f_M_track0_299 (f_M_track0_270 K n) K l7 l2 l1 F B else f_M_track0_299 (f_M_track0_270 K n) K l7 l2 l1 F (zup4 B 14 0 87 l7 l2)) else none else none) else none else none) = some (r, F9, B9) := hf
    refine lv_iload hx hb (D_21 W_prog_15_method_145_code_256 14 rfl rfl) (lv_at hl 0 rfl) ?_
    refine lv_aload_n hx hb (D_42 W_prog_15_method_145_code_256 16 rfl rfl) rfl (lv_at hl 2 rfl) ?_
    refine zget (ci := 14) (C := RX14) (T := TX14) (v := .int (iI (F 14 0 94))) (k := 94) hx hb hts inW_14 hown hK hZ (by decide) (by decide) rfl (by decide) k_11_92 rfl (D_180 W_prog_15_method_145_code_256 17 rfl rfl rfl) ?_
    obtain ⟨g27, hf⟩ := gif hf
    obtain ⟨g28, hf⟩ := gif hf
    refine zge (tgt := 305) hx hb g27 g28 (D_162 W_prog_15_method_145_code_256 20 rfl rfl rfl) (by decide) (fun h29 => ?_) (fun h29 => ?_)
    · replace hf := gpos hf h29
      refine lv_aload_n hx hb (D_42 W_prog_15_method_145_code_288 17 rfl rfl) rfl (lv_at hl 2 rfl) ?_
      refine zget (ci := 14) (C := RX14) (T := TX14) (v := .ref (ad 14 0 (88 + 1))) (k := 88) hx hb hts inW_14 hown hK hZ (by decide) (by decide) rfl (by decide) k_11_86 rfl (D_180 W_prog_15_method_145_code_288 18 rfl rfl rfl) ?_
      refine lv_iload_n hx hb (D_27 W_prog_15_method_145_code_288 21 rfl rfl) rfl (lv_at hl 3 rfl) ?_
      obtain ⟨g30, hf⟩ := gif hf
      refine zald (ci := 14) (k := 88) hx hb hK rfl hZ (by decide) (by decide) rfl (Nat.le_of_ble_eq_true rfl) g30.1 g30.2 (D_46 W_prog_15_method_145_code_288 22 rfl rfl) ?_
      obtain ⟨g31, hf⟩ := gif hf
      refine z0ge (tgt := 321) hx hb g31 (D_156 W_prog_15_method_145_code_288 23 rfl rfl rfl) (by decide) (fun h33 => ?_) (fun h33 => ?_)
      · replace hf := gpos hf h33
        exact b_M_track0_321 X hf hZ hS (lv_sub hl [] rfl)
      · replace hf := gneg hf h33
        refine lv_aload_n hx hb (D_42 W_prog_15_method_145_code_288 26 rfl rfl) rfl (lv_at hl 2 rfl) ?_
        refine zget (ci := 14) (C := RX14) (T := TX14) (v := .ref (ad 14 0 (88 + 1))) (k := 88) hx hb hts inW_14 hown hK hZ (by decide) (by decide) rfl (by decide) k_11_86 rfl (D_180 W_prog_15_method_145_code_288 27 rfl rfl rfl) ?_
        refine lv_iload_n hx hb (D_27 W_prog_15_method_145_code_288 30 rfl rfl) rfl (lv_at hl 3 rfl) ?_
        refine lv_iconst (v := iI 0) hx hb (D_3 W_prog_15_method_145_code_288 31 rfl rfl) rfl ?_
        refine zast (ci := 14) (k := 88) hx hb hK rfl hZ hS (by decide) (by decide) rfl (Nat.le_of_ble_eq_true rfl) g30.1 g30.2 (D_79 W_prog_15_method_145_code_320 0 rfl rfl) (fun H34 locs34 hZ34 hS34 => ?_)
        exact b_M_track0_321 X hf hZ34 hS34 (lv_sub hl [] rfl)
    · replace hf := gneg hf h29
      refine lv_aload_n hx hb (D_42 W_prog_15_method_145_code_256 23 rfl rfl) rfl (lv_at hl 2 rfl) ?_
      refine zget (ci := 14) (C := RX14) (T := TX14) (v := .ref (ad 14 0 (87 + 1))) (k := 87) hx hb hts inW_14 hown hK hZ (by decide) (by decide) rfl (by decide) k_11_85 rfl (D_180 W_prog_15_method_145_code_256 24 rfl rfl rfl) ?_
      refine lv_iload hx hb (D_21 W_prog_15_method_145_code_256 27 rfl rfl) (lv_at hl 0 rfl) ?_
      obtain ⟨g35, hf⟩ := gif hf
      refine zlald (ci := 14) (k := 87) hx hb hK rfl hZ (by decide) (by decide) rfl (Nat.le_of_ble_eq_true rfl) g35.1 g35.2 (D_47 W_prog_15_method_145_code_256 29 rfl rfl) ?_
      refine lv_lconst (v := lI 0) hx hb (D_9 W_prog_15_method_145_code_256 30 rfl rfl) (by decide) ?_
      obtain ⟨g36, hf⟩ := gif hf
      refine zcmp_r hx hb g36 (by decide) (D_148 W_prog_15_method_145_code_256 31 rfl rfl) ?_
      refine z0ge (tgt := 299) hx hb zcmp_32 (D_156 W_prog_15_method_145_code_288 0 rfl rfl rfl) (by decide) (fun h37 => ?_) (fun h37 => ?_)
      · replace hf := gpos hf h37
        exact b_M_track0_299 X ih hf hZ hS (lv_sub hl [0, 1, 2, 3] rfl)
      · replace hf := gneg hf h37
        refine lv_aload_n hx hb (D_42 W_prog_15_method_145_code_288 3 rfl rfl) rfl (lv_at hl 2 rfl) ?_
        refine zget (ci := 14) (C := RX14) (T := TX14) (v := .ref (ad 14 0 (87 + 1))) (k := 87) hx hb hts inW_14 hown hK hZ (by decide) (by decide) rfl (by decide) k_11_85 rfl (D_180 W_prog_15_method_145_code_288 4 rfl rfl rfl) ?_
        refine lv_iload hx hb (D_21 W_prog_15_method_145_code_288 7 rfl rfl) (lv_at hl 0 rfl) ?_
        refine lv_lload_n hx hb (D_32 W_prog_15_method_145_code_288 9 rfl rfl) rfl (lv_at hl 1 rfl) ?_
        refine zlast (ci := 14) (k := 87) hx hb hK rfl hZ hS (by decide) (by decide) rfl (Nat.le_of_ble_eq_true rfl) g35.1 g35.2 (D_80 W_prog_15_method_145_code_288 10 rfl rfl) (fun H38 locs38 hZ38 hS38 => ?_)
        exact b_M_track0_299 X ih hf hZ38 hS38 (lv_sub hl [0, 1, 2, 3] rfl)

def f_M_track0_266 (K : Nat) (l6 : Int) (l2 : Int) (l1 : Int) (F : zF) (B : zB) : zO := f_M_track0_270 K K l6 l2 l1 F B
set_option maxHeartbeats 4000000 in
set_option maxRecDepth 100000 in
theorem b_M_track0_266 {D : va_G} {ca : Nat → ClassId} {ad : Nat → Int → Nat → Nat} {L : List Nat} {aS vS : Nat → Nat} {A : Nat → Prop} {p : Program} {l : Launch} {e : Env} {s : State} {m : MethodId} {args : Array Value} {below : List Frame} {meth : Method} {c : Code} {K : Nat} {r : Int} {F9 : zF} {B9 : zB} (X : zX D ca L aS vS A p s m args meth c prog_15_method_145_code 11 (Option.none : Option Jvm.ClassFile.FieldType) "StaveHouseModel") {l6 : Int} {l2 : Int} {l1 : Int} {F : zF} {B : zB} {H : Heap} {locs : List Loc} {ls : Array Slot} (hf : f_M_track0_266 K l6 l2 l1 F B = some (r, F9, B9)) (hZ : zH D ca ad lnM nM L F B A H) (hS : va_S A s.heap H locs) (hl : lv_has ls 11 [(6, .int (iI l6)), (2, .long (lI l2)), (0, .ref (ad 14 0 0)), (1, .int (iI l1))]) : W p l e ({ frames := 4, cells := 0, slots := 0, locals := 92 } : Room) s m args below meth c H locs 0 0 (MQ below (Q_M_track0 D ca ad L r F9 B9 A) args s 0 0 A) (F0 m 266 ls []) := by
  obtain ⟨hx, hb, hr, hml, hown, hts, hlk, hK, hA, hL, hX⟩ := id X
  replace hf : (f_M_track0_270 K K l6 l2 l1 F B) = some (r, F9, B9) := hf
  refine lv_iload hx hb (D_21 W_prog_15_method_145_code_256 10 rfl rfl) (lv_at hl 0 rfl) ?_
  refine lv_istore (lv' := [(7, .int (iI l6)), (6, .int (iI l6)), (2, .long (lI l2)), (0, .ref (ad 14 0 0)), (1, .int (iI l1))]) hx hb (D_54 W_prog_15_method_145_code_256 12 rfl rfl) hl (by decide) rfl (fun ls hl => ?_)
  exact b_M_track0_270 X hf hZ hS (lv_sub hl [0, 2, 3, 4] rfl)

def f_M_track0_263 (rec21 : Int → Int → Int → Int → Int → zF → zB → zO) (K : Nat) (l4 : Int) (l5 : Int) (l2 : Int) (l6 : Int) (l1 : Int) (F : zF) (B : zB) : zO := rec21 l6 l5 l4 l2 l1 F B
set_option maxHeartbeats 4000000 in
set_option maxRecDepth 100000 in
theorem b_M_track0_263 {D : va_G} {ca : Nat → ClassId} {ad : Nat → Int → Nat → Nat} {L : List Nat} {aS vS : Nat → Nat} {A : Nat → Prop} {p : Program} {l : Launch} {e : Env} {s : State} {m : MethodId} {args : Array Value} {below : List Frame} {meth : Method} {c : Code} {K : Nat} {r : Int} {F9 : zF} {B9 : zB} (X : zX D ca L aS vS A p s m args meth c prog_15_method_145_code 11 (Option.none : Option Jvm.ClassFile.FieldType) "StaveHouseModel") {rec21 : Int → Int → Int → Int → Int → zF → zB → zO} (hrec21 : ∀ {l6 : Int} {l5 : Int} {l4 : Int} {l2 : Int} {l1 : Int} {F : zF} {B : zB} {H : Heap} {locs : List Loc} {ls : Array Slot}, rec21 l6 l5 l4 l2 l1 F B = some (r, F9, B9) → zH D ca ad lnM nM L F B A H → va_S A s.heap H locs → lv_has ls 11 [(6, .int (iI l6)), (5, .int (iI l5)), (4, .int (iI l4)), (2, .long (lI l2)), (0, .ref (ad 14 0 0)), (1, .int (iI l1))] → W p l e ({ frames := 4, cells := 0, slots := 0, locals := 92 } : Room) s m args below meth c H locs 0 0 (MQ below (Q_M_track0 D ca ad L r F9 B9 A) args s 0 0 A) (F0 m 21 ls [])) {l4 : Int} {l5 : Int} {l2 : Int} {l6 : Int} {l1 : Int} {F : zF} {B : zB} {H : Heap} {locs : List Loc} {ls : Array Slot} (hf : f_M_track0_263 rec21 K l4 l5 l2 l6 l1 F B = some (r, F9, B9)) (hZ : zH D ca ad lnM nM L F B A H) (hS : va_S A s.heap H locs) (hl : lv_has ls 11 [(4, .int (iI l4)), (5, .int (iI l5)), (2, .long (lI l2)), (6, .int (iI l6)), (0, .ref (ad 14 0 0)), (1, .int (iI l1))]) : W p l e ({ frames := 4, cells := 0, slots := 0, locals := 92 } : Room) s m args below meth c H locs 0 0 (MQ below (Q_M_track0 D ca ad L r F9 B9 A) args s 0 0 A) (F0 m 263 ls []) := by
  obtain ⟨hx, hb, hr, hml, hown, hts, hlk, hK, hA, hL, hX⟩ := id X
  replace hf : (rec21 l6 l5 l4 l2 l1 F B) = some (r, F9, B9) := hf
  refine lv_goto (tgt := 21) hx hb (D_167 W_prog_15_method_145_code_256 7 rfl rfl rfl) (by decide) ?_
  exact hrec21 hf hZ hS (lv_sub hl [3, 1, 0, 2, 4, 5] rfl)

def f_M_track0_238 (rec21 : Int → Int → Int → Int → Int → zF → zB → zO) (K : Nat) (l9 : Int) (l7 : Int) (l2 : Int) (l6 : Int) (l5 : Int) (l4 : Int) (l1 : Int) (s0 : Int) (F : zF) (B : zB) : zO := zbind (f_M_good K F B) (fun r56 F56 B56 => if r32 r56 then (if r56 = 0 then f_M_track0_263 rec21 K l4 l5 l2 l6 l1 F56 B56 else zbind (f_M_event_2 K l1 l6 l4 l9 s0 l2 l7 F56 B56) (fun r59 F59 B59 => f_M_track0_263 rec21 K l4 l5 l2 l6 l1 F59 B59)) else none)
set_option maxHeartbeats 4000000 in
set_option maxRecDepth 100000 in
theorem b_M_track0_238 {D : va_G} {ca : Nat → ClassId} {ad : Nat → Int → Nat → Nat} {L : List Nat} {aS vS : Nat → Nat} {A : Nat → Prop} {p : Program} {l : Launch} {e : Env} {s : State} {m : MethodId} {args : Array Value} {below : List Frame} {meth : Method} {c : Code} {K : Nat} {r : Int} {F9 : zF} {B9 : zB} (X : zX D ca L aS vS A p s m args meth c prog_15_method_145_code 11 (Option.none : Option Jvm.ClassFile.FieldType) "StaveHouseModel") {rec21 : Int → Int → Int → Int → Int → zF → zB → zO} (hrec21 : ∀ {l6 : Int} {l5 : Int} {l4 : Int} {l2 : Int} {l1 : Int} {F : zF} {B : zB} {H : Heap} {locs : List Loc} {ls : Array Slot}, rec21 l6 l5 l4 l2 l1 F B = some (r, F9, B9) → zH D ca ad lnM nM L F B A H → va_S A s.heap H locs → lv_has ls 11 [(6, .int (iI l6)), (5, .int (iI l5)), (4, .int (iI l4)), (2, .long (lI l2)), (0, .ref (ad 14 0 0)), (1, .int (iI l1))] → W p l e ({ frames := 4, cells := 0, slots := 0, locals := 92 } : Room) s m args below meth c H locs 0 0 (MQ below (Q_M_track0 D ca ad L r F9 B9 A) args s 0 0 A) (F0 m 21 ls [])) {l9 : Int} {l7 : Int} {l2 : Int} {l6 : Int} {l5 : Int} {l4 : Int} {l1 : Int} {s0 : Int} {F : zF} {B : zB} {H : Heap} {locs : List Loc} {ls : Array Slot} (hf : f_M_track0_238 rec21 K l9 l7 l2 l6 l5 l4 l1 s0 F B = some (r, F9, B9)) (hZ : zH D ca ad lnM nM L F B A H) (hS : va_S A s.heap H locs) (hl : lv_has ls 11 [(9, .int (iI l9)), (7, .int (iI l7)), (2, .long (lI l2)), (6, .int (iI l6)), (5, .int (iI l5)), (4, .int (iI l4)), (0, .ref (ad 14 0 0)), (1, .int (iI l1))]) : W p l e ({ frames := 4, cells := 0, slots := 0, locals := 92 } : Room) s m args below meth c H locs 0 0 (MQ below (Q_M_track0 D ca ad L r F9 B9 A) args s 0 0 A) (F0 m 238 ls [.int (iI s0)]) := by
  obtain ⟨hx, hb, hr, hml, hown, hts, hlk, hK, hA, hL, hX⟩ := id X
  replace hf : (zbind (f_M_good K F B) (fun r56 F56 B56 => if r32 r56 then (if r56 = 0 then f_M_track0_263 rec21 K l4 l5 l2 l6 l1 F56 B56 else zbind (f_M_event_2 K l1 l6 l4 l9 s0 l2 l7 F56 B56) (fun r59 F59 B59 => f_M_track0_263 rec21 K l4 l5 l2 l6 l1 F59 B59)) else none)) = some (r, F9, B9) := hf
  refine lv_istore (lv' := [(10, .int (iI s0)), (9, .int (iI l9)), (7, .int (iI l7)), (2, .long (lI l2)), (6, .int (iI l6)), (5, .int (iI l5)), (4, .int (iI l4)), (0, .ref (ad 14 0 0)), (1, .int (iI l1))]) hx hb (D_54 W_prog_15_method_145_code_224 14 rfl rfl) hl (by decide) rfl (fun ls hl => ?_)
  refine lv_aload_n hx hb (D_42 W_prog_15_method_145_code_224 16 rfl rfl) rfl (lv_at hl 7 rfl) ?_
  obtain ⟨r56, F56, B56, hc56, hf⟩ := gbind hf
  refine va_calli (va_runV (As := []) (rest := []) ⟨hx, hb, hml, hown, hts⟩ (c_M_good (l := l) hc56) (cwV 0 hts (gdV k_13_15 k_13_17 ks_152 k_1_9 k_13_18) rfl rfl rfl (by decide +kernel) ⟨Nat.le_of_ble_eq_true rfl, Nat.le_of_ble_eq_true rfl⟩) (zPV X hZ hS (ci := 14) (by decide) (by decide) (r := (RX14, TX14, 107)) rfl []) rfl rfl hl.1 rfl (lv_room (Nat.le_of_ble_eq_true rfl)) (D_182 W_prog_15_method_145_code_224 17 rfl rfl rfl) ⟨Nat.le_of_ble_eq_true rfl, Nat.le_of_ble_eq_true rfl⟩) hS (fun q _ h => zAin X hS q h) (zAin X hS) (fun p56 u56 t56 H56 locs56 ht56 hv56 hw56 hB56 hz56 hk56 hS56 => ?_)
  have hZ56 := zBack X ht56 hB56
  subst hw56
  obtain ⟨g57, hf⟩ := gif hf
  refine z0eq (tgt := 263) hx hb g57 (D_153 W_prog_15_method_145_code_224 20 rfl rfl rfl) (by decide) (fun h58 => ?_) (fun h58 => ?_)
  · replace hf := gpos hf h58
    exact b_M_track0_263 X hrec21 hf hZ56 hS56 (lv_sub hl [6, 5, 3, 4, 7, 8] rfl)
  · replace hf := gneg hf h58
    refine lv_aload_n hx hb (D_42 W_prog_15_method_145_code_224 23 rfl rfl) rfl (lv_at hl 7 rfl) ?_
    refine lv_iload_n hx hb (D_27 W_prog_15_method_145_code_224 24 rfl rfl) rfl (lv_at hl 8 rfl) ?_
    refine lv_iload hx hb (D_21 W_prog_15_method_145_code_224 25 rfl rfl) (lv_at hl 4 rfl) ?_
    refine lv_iload hx hb (D_21 W_prog_15_method_145_code_224 27 rfl rfl) (lv_at hl 6 rfl) ?_
    refine lv_iload hx hb (D_21 W_prog_15_method_145_code_224 29 rfl rfl) (lv_at hl 1 rfl) ?_
    refine lv_iload hx hb (D_21 W_prog_15_method_145_code_224 31 rfl rfl) (lv_at hl 0 rfl) ?_
    refine lv_lload_n hx hb (D_32 W_prog_15_method_145_code_256 1 rfl rfl) rfl (lv_at hl 3 rfl) ?_
    refine lv_iload hx hb (D_21 W_prog_15_method_145_code_256 2 rfl rfl) (lv_at hl 2 rfl) ?_
    obtain ⟨r59, F59, B59, hc59, hf⟩ := gbind hf
    refine va_callv (va_runV (As := [.int (iI l1), .int (iI l6), .int (iI l4), .int (iI l9), .int (iI s0), .long (lI l2), .int (iI l7)]) (rest := []) ⟨hx, hb, hml, hown, hts⟩ (c_M_event_2 (l := l) hc59) (cwV 7 hts (gdV k_13_56 k_13_58 ks_162 k_1_9 k_13_59) rfl rfl rfl (by decide +kernel) ⟨Nat.le_of_ble_eq_true rfl, Nat.le_of_ble_eq_true rfl⟩) (zPV X hZ56 hS56 (ci := 14) (by decide) (by decide) (r := (RX14, TX14, 107)) rfl [.int (iI l1), .int (iI l6), .int (iI l4), .int (iI l9), .int (iI s0), .long (lI l2), .int (iI l7)]) rfl rfl hl.1 rfl (lv_room (Nat.le_of_ble_eq_true rfl)) (D_182 W_prog_15_method_145_code_256 4 rfl rfl rfl) ⟨Nat.le_of_ble_eq_true rfl, Nat.le_of_ble_eq_true rfl⟩) hS56 (fun q _ h => zAin X hS56 q h) (zAin X hS56) (fun u59 t59 H59 locs59 ht59 hv59 hw59 hB59 hz59 hk59 hS59 => ?_)
    have hZ59 := zBack X ht59 hB59
    exact b_M_track0_263 X hrec21 hf hZ59 hS59 (lv_sub hl [6, 5, 3, 4, 7, 8] rfl)

def f_M_track0_234 (rec21 : Int → Int → Int → Int → Int → zF → zB → zO) (K : Nat) (l9 : Int) (l7 : Int) (l2 : Int) (l6 : Int) (l5 : Int) (l4 : Int) (l1 : Int) (F : zF) (B : zB) : zO := zbind (f_M_below K F B) (fun r60 F60 B60 => f_M_track0_238 rec21 K l9 l7 l2 l6 l5 l4 l1 r60 F60 B60)
set_option maxHeartbeats 4000000 in
set_option maxRecDepth 100000 in
theorem b_M_track0_234 {D : va_G} {ca : Nat → ClassId} {ad : Nat → Int → Nat → Nat} {L : List Nat} {aS vS : Nat → Nat} {A : Nat → Prop} {p : Program} {l : Launch} {e : Env} {s : State} {m : MethodId} {args : Array Value} {below : List Frame} {meth : Method} {c : Code} {K : Nat} {r : Int} {F9 : zF} {B9 : zB} (X : zX D ca L aS vS A p s m args meth c prog_15_method_145_code 11 (Option.none : Option Jvm.ClassFile.FieldType) "StaveHouseModel") {rec21 : Int → Int → Int → Int → Int → zF → zB → zO} (hrec21 : ∀ {l6 : Int} {l5 : Int} {l4 : Int} {l2 : Int} {l1 : Int} {F : zF} {B : zB} {H : Heap} {locs : List Loc} {ls : Array Slot}, rec21 l6 l5 l4 l2 l1 F B = some (r, F9, B9) → zH D ca ad lnM nM L F B A H → va_S A s.heap H locs → lv_has ls 11 [(6, .int (iI l6)), (5, .int (iI l5)), (4, .int (iI l4)), (2, .long (lI l2)), (0, .ref (ad 14 0 0)), (1, .int (iI l1))] → W p l e ({ frames := 4, cells := 0, slots := 0, locals := 92 } : Room) s m args below meth c H locs 0 0 (MQ below (Q_M_track0 D ca ad L r F9 B9 A) args s 0 0 A) (F0 m 21 ls [])) {l9 : Int} {l7 : Int} {l2 : Int} {l6 : Int} {l5 : Int} {l4 : Int} {l1 : Int} {F : zF} {B : zB} {H : Heap} {locs : List Loc} {ls : Array Slot} (hf : f_M_track0_234 rec21 K l9 l7 l2 l6 l5 l4 l1 F B = some (r, F9, B9)) (hZ : zH D ca ad lnM nM L F B A H) (hS : va_S A s.heap H locs) (hl : lv_has ls 11 [(9, .int (iI l9)), (7, .int (iI l7)), (2, .long (lI l2)), (6, .int (iI l6)), (5, .int (iI l5)), (4, .int (iI l4)), (0, .ref (ad 14 0 0)), (1, .int (iI l1))]) : W p l e ({ frames := 4, cells := 0, slots := 0, locals := 92 } : Room) s m args below meth c H locs 0 0 (MQ below (Q_M_track0 D ca ad L r F9 B9 A) args s 0 0 A) (F0 m 234 ls []) := by
  obtain ⟨hx, hb, hr, hml, hown, hts, hlk, hK, hA, hL, hX⟩ := id X
  replace hf : (zbind (f_M_below K F B) (fun r60 F60 B60 => f_M_track0_238 rec21 K l9 l7 l2 l6 l5 l4 l1 r60 F60 B60)) = some (r, F9, B9) := hf
  refine lv_aload_n hx hb (D_42 W_prog_15_method_145_code_224 10 rfl rfl) rfl (lv_at hl 6 rfl) ?_
  obtain ⟨r60, F60, B60, hc60, hf⟩ := gbind hf
  refine va_calli (va_runV (As := []) (rest := []) ⟨hx, hb, hml, hown, hts⟩ (c_M_below (l := l) hc60) (cwV 0 hts (gdV k_13_52 k_13_54 ks_161 k_1_9 k_13_55) rfl rfl rfl (by decide +kernel) ⟨Nat.le_of_ble_eq_true rfl, Nat.le_of_ble_eq_true rfl⟩) (zPV X hZ hS (ci := 14) (by decide) (by decide) (r := (RX14, TX14, 107)) rfl []) rfl rfl hl.1 rfl (lv_room (Nat.le_of_ble_eq_true rfl)) (D_182 W_prog_15_method_145_code_224 11 rfl rfl rfl) ⟨Nat.le_of_ble_eq_true rfl, Nat.le_of_ble_eq_true rfl⟩) hS (fun q _ h => zAin X hS q h) (zAin X hS) (fun p60 u60 t60 H60 locs60 ht60 hv60 hw60 hB60 hz60 hk60 hS60 => ?_)
  have hZ60 := zBack X ht60 hB60
  subst hw60
  exact b_M_track0_238 X hrec21 hf hZ60 hS60 (lv_sub hl [0, 1, 2, 3, 4, 5, 6, 7] rfl)

def f_M_track0_212 (rec21 : Int → Int → Int → Int → Int → zF → zB → zO) (K : Nat) (l7 : Int) (l2 : Int) (l6 : Int) (l5 : Int) (l4 : Int) (l1 : Int) (s0 : Int) (F : zF) (B : zB) : zO := if r32 l4 then (if l4 < 192 then f_M_track0_234 rec21 K s0 l7 l2 l6 l5 l4 l1 F B else (if 224 ≤ l4 then f_M_track0_234 rec21 K s0 l7 l2 l6 l5 l4 l1 F B else f_M_track0_238 rec21 K s0 l7 l2 l6 l5 l4 l1 0 F B)) else none
set_option maxHeartbeats 4000000 in
set_option maxRecDepth 100000 in
theorem b_M_track0_212 {D : va_G} {ca : Nat → ClassId} {ad : Nat → Int → Nat → Nat} {L : List Nat} {aS vS : Nat → Nat} {A : Nat → Prop} {p : Program} {l : Launch} {e : Env} {s : State} {m : MethodId} {args : Array Value} {below : List Frame} {meth : Method} {c : Code} {K : Nat} {r : Int} {F9 : zF} {B9 : zB} (X : zX D ca L aS vS A p s m args meth c prog_15_method_145_code 11 (Option.none : Option Jvm.ClassFile.FieldType) "StaveHouseModel") {rec21 : Int → Int → Int → Int → Int → zF → zB → zO} (hrec21 : ∀ {l6 : Int} {l5 : Int} {l4 : Int} {l2 : Int} {l1 : Int} {F : zF} {B : zB} {H : Heap} {locs : List Loc} {ls : Array Slot}, rec21 l6 l5 l4 l2 l1 F B = some (r, F9, B9) → zH D ca ad lnM nM L F B A H → va_S A s.heap H locs → lv_has ls 11 [(6, .int (iI l6)), (5, .int (iI l5)), (4, .int (iI l4)), (2, .long (lI l2)), (0, .ref (ad 14 0 0)), (1, .int (iI l1))] → W p l e ({ frames := 4, cells := 0, slots := 0, locals := 92 } : Room) s m args below meth c H locs 0 0 (MQ below (Q_M_track0 D ca ad L r F9 B9 A) args s 0 0 A) (F0 m 21 ls [])) {l7 : Int} {l2 : Int} {l6 : Int} {l5 : Int} {l4 : Int} {l1 : Int} {s0 : Int} {F : zF} {B : zB} {H : Heap} {locs : List Loc} {ls : Array Slot} (hf : f_M_track0_212 rec21 K l7 l2 l6 l5 l4 l1 s0 F B = some (r, F9, B9)) (hZ : zH D ca ad lnM nM L F B A H) (hS : va_S A s.heap H locs) (hl : lv_has ls 11 [(7, .int (iI l7)), (2, .long (lI l2)), (6, .int (iI l6)), (5, .int (iI l5)), (4, .int (iI l4)), (0, .ref (ad 14 0 0)), (1, .int (iI l1))]) : W p l e ({ frames := 4, cells := 0, slots := 0, locals := 92 } : Room) s m args below meth c H locs 0 0 (MQ below (Q_M_track0 D ca ad L r F9 B9 A) args s 0 0 A) (F0 m 212 ls [.int (iI s0)]) := by
  obtain ⟨hx, hb, hr, hml, hown, hts, hlk, hK, hA, hL, hX⟩ := id X
  replace hf : (if r32 l4 then (if l4 < 192 then f_M_track0_234 rec21 K s0 l7 l2 l6 l5 l4 l1 F B else (if 224 ≤ l4 then f_M_track0_234 rec21 K s0 l7 l2 l6 l5 l4 l1 F B else f_M_track0_238 rec21 K s0 l7 l2 l6 l5 l4 l1 0 F B)) else none) = some (r, F9, B9) := hf
  refine lv_istore (lv' := [(9, .int (iI s0)), (7, .int (iI l7)), (2, .long (lI l2)), (6, .int (iI l6)), (5, .int (iI l5)), (4, .int (iI l4)), (0, .ref (ad 14 0 0)), (1, .int (iI l1))]) hx hb (D_54 W_prog_15_method_145_code_192 20 rfl rfl) hl (by decide) rfl (fun ls hl => ?_)
  refine lv_iload hx hb (D_21 W_prog_15_method_145_code_192 22 rfl rfl) (lv_at hl 5 rfl) ?_
  refine lv_sipush (v := iI 192) hx hb (D_17 W_prog_15_method_145_code_192 24 rfl rfl rfl) (by decide) ?_
  obtain ⟨g53, hf⟩ := gif hf
  refine zlt (tgt := 234) hx hb g53 (by decide) (D_161 W_prog_15_method_145_code_192 27 rfl rfl rfl) (by decide) (fun h54 => ?_) (fun h54 => ?_)
  · replace hf := gpos hf h54
    exact b_M_track0_234 X hrec21 hf hZ hS (lv_sub hl [0, 1, 2, 3, 4, 5, 6, 7] rfl)
  · replace hf := gneg hf h54
    refine lv_iload hx hb (D_21 W_prog_15_method_145_code_192 30 rfl rfl) (lv_at hl 5 rfl) ?_
    refine lv_sipush (v := iI 224) hx hb (D_17 W_prog_15_method_145_code_224 0 rfl rfl rfl) (by decide) ?_
    refine zge (tgt := 234) hx hb g53 (by decide) (D_162 W_prog_15_method_145_code_224 3 rfl rfl rfl) (by decide) (fun h55 => ?_) (fun h55 => ?_)
    · replace hf := gpos hf h55
      exact b_M_track0_234 X hrec21 hf hZ hS (lv_sub hl [0, 1, 2, 3, 4, 5, 6, 7] rfl)
    · replace hf := gneg hf h55
      refine lv_iconst (v := iI 0) hx hb (D_3 W_prog_15_method_145_code_224 6 rfl rfl) rfl ?_
      refine lv_goto (tgt := 238) hx hb (D_167 W_prog_15_method_145_code_224 7 rfl rfl rfl) (by decide) ?_
      exact b_M_track0_238 X hrec21 hf hZ hS (lv_sub hl [0, 1, 2, 3, 4, 5, 6, 7] rfl)

def f_M_track0_195 (rec21 : Int → Int → Int → Int → Int → zF → zB → zO) (K : Nat) (l8 : Int) (l7 : Int) (l2 : Int) (l6 : Int) (l5 : Int) (l4 : Int) (l1 : Int) (F : zF) (B : zB) : zO := if r32 l8 then (if 128 ≤ l8 then zbind (f_M_below K F B) (fun r52 F52 B52 => f_M_track0_212 rec21 K l7 l2 l6 l5 l4 l1 r52 F52 B52) else f_M_track0_212 rec21 K l7 l2 l6 l5 l4 l1 l8 F B) else none
set_option maxHeartbeats 4000000 in
set_option maxRecDepth 100000 in
theorem b_M_track0_195 {D : va_G} {ca : Nat → ClassId} {ad : Nat → Int → Nat → Nat} {L : List Nat} {aS vS : Nat → Nat} {A : Nat → Prop} {p : Program} {l : Launch} {e : Env} {s : State} {m : MethodId} {args : Array Value} {below : List Frame} {meth : Method} {c : Code} {K : Nat} {r : Int} {F9 : zF} {B9 : zB} (X : zX D ca L aS vS A p s m args meth c prog_15_method_145_code 11 (Option.none : Option Jvm.ClassFile.FieldType) "StaveHouseModel") {rec21 : Int → Int → Int → Int → Int → zF → zB → zO} (hrec21 : ∀ {l6 : Int} {l5 : Int} {l4 : Int} {l2 : Int} {l1 : Int} {F : zF} {B : zB} {H : Heap} {locs : List Loc} {ls : Array Slot}, rec21 l6 l5 l4 l2 l1 F B = some (r, F9, B9) → zH D ca ad lnM nM L F B A H → va_S A s.heap H locs → lv_has ls 11 [(6, .int (iI l6)), (5, .int (iI l5)), (4, .int (iI l4)), (2, .long (lI l2)), (0, .ref (ad 14 0 0)), (1, .int (iI l1))] → W p l e ({ frames := 4, cells := 0, slots := 0, locals := 92 } : Room) s m args below meth c H locs 0 0 (MQ below (Q_M_track0 D ca ad L r F9 B9 A) args s 0 0 A) (F0 m 21 ls [])) {l8 : Int} {l7 : Int} {l2 : Int} {l6 : Int} {l5 : Int} {l4 : Int} {l1 : Int} {F : zF} {B : zB} {H : Heap} {locs : List Loc} {ls : Array Slot} (hf : f_M_track0_195 rec21 K l8 l7 l2 l6 l5 l4 l1 F B = some (r, F9, B9)) (hZ : zH D ca ad lnM nM L F B A H) (hS : va_S A s.heap H locs) (hl : lv_has ls 11 [(8, .int (iI l8)), (7, .int (iI l7)), (2, .long (lI l2)), (6, .int (iI l6)), (5, .int (iI l5)), (4, .int (iI l4)), (0, .ref (ad 14 0 0)), (1, .int (iI l1))]) : W p l e ({ frames := 4, cells := 0, slots := 0, locals := 92 } : Room) s m args below meth c H locs 0 0 (MQ below (Q_M_track0 D ca ad L r F9 B9 A) args s 0 0 A) (F0 m 195 ls []) := by
  obtain ⟨hx, hb, hr, hml, hown, hts, hlk, hK, hA, hL, hX⟩ := id X
  replace hf : (if r32 l8 then (if 128 ≤ l8 then zbind (f_M_below K F B) (fun r52 F52 B52 => f_M_track0_212 rec21 K l7 l2 l6 l5 l4 l1 r52 F52 B52) else f_M_track0_212 rec21 K l7 l2 l6 l5 l4 l1 l8 F B) else none) = some (r, F9, B9) := hf
  refine lv_iload hx hb (D_21 W_prog_15_method_145_code_192 3 rfl rfl) (lv_at hl 0 rfl) ?_
  refine lv_sipush (v := iI 128) hx hb (D_17 W_prog_15_method_145_code_192 5 rfl rfl rfl) (by decide) ?_
  obtain ⟨g50, hf⟩ := gif hf
  refine zge (tgt := 208) hx hb g50 (by decide) (D_162 W_prog_15_method_145_code_192 8 rfl rfl rfl) (by decide) (fun h51 => ?_) (fun h51 => ?_)
  · replace hf := gpos hf h51
    refine lv_aload_n hx hb (D_42 W_prog_15_method_145_code_192 16 rfl rfl) rfl (lv_at hl 6 rfl) ?_
    obtain ⟨r52, F52, B52, hc52, hf⟩ := gbind hf
    refine va_calli (va_runV (As := []) (rest := []) ⟨hx, hb, hml, hown, hts⟩ (c_M_below (l := l) hc52) (cwV 0 hts (gdV k_13_52 k_13_54 ks_161 k_1_9 k_13_55) rfl rfl rfl (by decide +kernel) ⟨Nat.le_of_ble_eq_true rfl, Nat.le_of_ble_eq_true rfl⟩) (zPV X hZ hS (ci := 14) (by decide) (by decide) (r := (RX14, TX14, 107)) rfl []) rfl rfl hl.1 rfl (lv_room (Nat.le_of_ble_eq_true rfl)) (D_182 W_prog_15_method_145_code_192 17 rfl rfl rfl) ⟨Nat.le_of_ble_eq_true rfl, Nat.le_of_ble_eq_true rfl⟩) hS (fun q _ h => zAin X hS q h) (zAin X hS) (fun p52 u52 t52 H52 locs52 ht52 hv52 hw52 hB52 hz52 hk52 hS52 => ?_)
    have hZ52 := zBack X ht52 hB52
    subst hw52
    exact b_M_track0_212 X hrec21 hf hZ52 hS52 (lv_sub hl [1, 2, 3, 4, 5, 6, 7] rfl)
  · replace hf := gneg hf h51
    refine lv_iload hx hb (D_21 W_prog_15_method_145_code_192 11 rfl rfl) (lv_at hl 0 rfl) ?_
    refine lv_goto (tgt := 212) hx hb (D_167 W_prog_15_method_145_code_192 13 rfl rfl rfl) (by decide) ?_
    exact b_M_track0_212 X hrec21 hf hZ hS (lv_sub hl [1, 2, 3, 4, 5, 6, 7] rfl)

def f_M_track0_183 (rec21 : Int → Int → Int → Int → Int → zF → zB → zO) (K : Nat) (l8 : Int) (l7 : Int) (l2 : Int) (l6 : Int) (l5 : Int) (l4 : Int) (l1 : Int) (F : zF) (B : zB) : zO := if r32 l8 then (if l8 < 128 then f_M_track0_195 rec21 K l8 l7 l2 l6 l5 l4 l1 F B else f_M_track0_195 rec21 K l8 l7 l2 l6 l5 l8 l1 F B) else none
set_option maxHeartbeats 4000000 in
set_option maxRecDepth 100000 in
theorem b_M_track0_183 {D : va_G} {ca : Nat → ClassId} {ad : Nat → Int → Nat → Nat} {L : List Nat} {aS vS : Nat → Nat} {A : Nat → Prop} {p : Program} {l : Launch} {e : Env} {s : State} {m : MethodId} {args : Array Value} {below : List Frame} {meth : Method} {c : Code} {K : Nat} {r : Int} {F9 : zF} {B9 : zB} (X : zX D ca L aS vS A p s m args meth c prog_15_method_145_code 11 (Option.none : Option Jvm.ClassFile.FieldType) "StaveHouseModel") {rec21 : Int → Int → Int → Int → Int → zF → zB → zO} (hrec21 : ∀ {l6 : Int} {l5 : Int} {l4 : Int} {l2 : Int} {l1 : Int} {F : zF} {B : zB} {H : Heap} {locs : List Loc} {ls : Array Slot}, rec21 l6 l5 l4 l2 l1 F B = some (r, F9, B9) → zH D ca ad lnM nM L F B A H → va_S A s.heap H locs → lv_has ls 11 [(6, .int (iI l6)), (5, .int (iI l5)), (4, .int (iI l4)), (2, .long (lI l2)), (0, .ref (ad 14 0 0)), (1, .int (iI l1))] → W p l e ({ frames := 4, cells := 0, slots := 0, locals := 92 } : Room) s m args below meth c H locs 0 0 (MQ below (Q_M_track0 D ca ad L r F9 B9 A) args s 0 0 A) (F0 m 21 ls [])) {l8 : Int} {l7 : Int} {l2 : Int} {l6 : Int} {l5 : Int} {l4 : Int} {l1 : Int} {F : zF} {B : zB} {H : Heap} {locs : List Loc} {ls : Array Slot} (hf : f_M_track0_183 rec21 K l8 l7 l2 l6 l5 l4 l1 F B = some (r, F9, B9)) (hZ : zH D ca ad lnM nM L F B A H) (hS : va_S A s.heap H locs) (hl : lv_has ls 11 [(8, .int (iI l8)), (7, .int (iI l7)), (2, .long (lI l2)), (6, .int (iI l6)), (5, .int (iI l5)), (4, .int (iI l4)), (0, .ref (ad 14 0 0)), (1, .int (iI l1))]) : W p l e ({ frames := 4, cells := 0, slots := 0, locals := 92 } : Room) s m args below meth c H locs 0 0 (MQ below (Q_M_track0 D ca ad L r F9 B9 A) args s 0 0 A) (F0 m 183 ls []) := by
  obtain ⟨hx, hb, hr, hml, hown, hts, hlk, hK, hA, hL, hX⟩ := id X
  replace hf : (if r32 l8 then (if l8 < 128 then f_M_track0_195 rec21 K l8 l7 l2 l6 l5 l4 l1 F B else f_M_track0_195 rec21 K l8 l7 l2 l6 l5 l8 l1 F B) else none) = some (r, F9, B9) := hf
  refine lv_iload hx hb (D_21 W_prog_15_method_145_code_160 23 rfl rfl) (lv_at hl 0 rfl) ?_
  refine lv_sipush (v := iI 128) hx hb (D_17 W_prog_15_method_145_code_160 25 rfl rfl rfl) (by decide) ?_
  obtain ⟨g48, hf⟩ := gif hf
  refine zlt (tgt := 195) hx hb g48 (by decide) (D_161 W_prog_15_method_145_code_160 28 rfl rfl rfl) (by decide) (fun h49 => ?_) (fun h49 => ?_)
  · replace hf := gpos hf h49
    exact b_M_track0_195 X hrec21 hf hZ hS (lv_sub hl [0, 1, 2, 3, 4, 5, 6, 7] rfl)
  · replace hf := gneg hf h49
    refine lv_iload hx hb (D_21 W_prog_15_method_145_code_160 31 rfl rfl) (lv_at hl 0 rfl) ?_
    refine lv_istore (lv' := [(4, .int (iI l8)), (8, .int (iI l8)), (7, .int (iI l7)), (2, .long (lI l2)), (6, .int (iI l6)), (5, .int (iI l5)), (0, .ref (ad 14 0 0)), (1, .int (iI l1))]) hx hb (D_54 W_prog_15_method_145_code_192 1 rfl rfl) hl (by decide) rfl (fun ls hl => ?_)
    exact b_M_track0_195 X hrec21 hf hZ hS (lv_sub hl [1, 2, 3, 4, 5, 0, 6, 7] rfl)

def f_M_track0_173 (rec21 : Int → Int → Int → Int → Int → zF → zB → zO) (K : Nat) (l7 : Int) (l2 : Int) (l6 : Int) (l5 : Int) (l4 : Int) (l1 : Int) (F : zF) (B : zB) : zO := zbind (f_M_failByte K 1 l7 F B) (fun r47 F47 B47 => f_M_track0_263 rec21 K l4 l5 l2 l6 l1 F47 B47)
set_option maxHeartbeats 4000000 in
set_option maxRecDepth 100000 in
theorem b_M_track0_173 {D : va_G} {ca : Nat → ClassId} {ad : Nat → Int → Nat → Nat} {L : List Nat} {aS vS : Nat → Nat} {A : Nat → Prop} {p : Program} {l : Launch} {e : Env} {s : State} {m : MethodId} {args : Array Value} {below : List Frame} {meth : Method} {c : Code} {K : Nat} {r : Int} {F9 : zF} {B9 : zB} (X : zX D ca L aS vS A p s m args meth c prog_15_method_145_code 11 (Option.none : Option Jvm.ClassFile.FieldType) "StaveHouseModel") {rec21 : Int → Int → Int → Int → Int → zF → zB → zO} (hrec21 : ∀ {l6 : Int} {l5 : Int} {l4 : Int} {l2 : Int} {l1 : Int} {F : zF} {B : zB} {H : Heap} {locs : List Loc} {ls : Array Slot}, rec21 l6 l5 l4 l2 l1 F B = some (r, F9, B9) → zH D ca ad lnM nM L F B A H → va_S A s.heap H locs → lv_has ls 11 [(6, .int (iI l6)), (5, .int (iI l5)), (4, .int (iI l4)), (2, .long (lI l2)), (0, .ref (ad 14 0 0)), (1, .int (iI l1))] → W p l e ({ frames := 4, cells := 0, slots := 0, locals := 92 } : Room) s m args below meth c H locs 0 0 (MQ below (Q_M_track0 D ca ad L r F9 B9 A) args s 0 0 A) (F0 m 21 ls [])) {l7 : Int} {l2 : Int} {l6 : Int} {l5 : Int} {l4 : Int} {l1 : Int} {F : zF} {B : zB} {H : Heap} {locs : List Loc} {ls : Array Slot} (hf : f_M_track0_173 rec21 K l7 l2 l6 l5 l4 l1 F B = some (r, F9, B9)) (hZ : zH D ca ad lnM nM L F B A H) (hS : va_S A s.heap H locs) (hl : lv_has ls 11 [(7, .int (iI l7)), (2, .long (lI l2)), (6, .int (iI l6)), (5, .int (iI l5)), (4, .int (iI l4)), (0, .ref (ad 14 0 0)), (1, .int (iI l1))]) : W p l e ({ frames := 4, cells := 0, slots := 0, locals := 92 } : Room) s m args below meth c H locs 0 0 (MQ below (Q_M_track0 D ca ad L r F9 B9 A) args s 0 0 A) (F0 m 173 ls []) := by
  obtain ⟨hx, hb, hr, hml, hown, hts, hlk, hK, hA, hL, hX⟩ := id X
  replace hf : (zbind (f_M_failByte K 1 l7 F B) (fun r47 F47 B47 => f_M_track0_263 rec21 K l4 l5 l2 l6 l1 F47 B47)) = some (r, F9, B9) := hf
  refine lv_aload_n hx hb (D_42 W_prog_15_method_145_code_160 13 rfl rfl) rfl (lv_at hl 5 rfl) ?_
  refine lv_iconst (v := iI 1) hx hb (D_4 W_prog_15_method_145_code_160 14 rfl rfl) rfl ?_
  refine lv_iload hx hb (D_21 W_prog_15_method_145_code_160 15 rfl rfl) (lv_at hl 0 rfl) ?_
  obtain ⟨r47, F47, B47, hc47, hf⟩ := gbind hf
  refine va_callv (va_runV (As := [.int (iI 1), .int (iI l7)]) (rest := []) ⟨hx, hb, hml, hown, hts⟩ (c_M_failByte (l := l) hc47) (cwV 2 hts (gdV k_13_19 k_13_21 ks_153 k_1_9 k_13_22) rfl rfl rfl (by decide +kernel) ⟨Nat.le_of_ble_eq_true rfl, Nat.le_of_ble_eq_true rfl⟩) (zPV X hZ hS (ci := 14) (by decide) (by decide) (r := (RX14, TX14, 107)) rfl [.int (iI 1), .int (iI l7)]) rfl rfl hl.1 rfl (lv_room (Nat.le_of_ble_eq_true rfl)) (D_182 W_prog_15_method_145_code_160 17 rfl rfl rfl) ⟨Nat.le_of_ble_eq_true rfl, Nat.le_of_ble_eq_true rfl⟩) hS (fun q _ h => zAin X hS q h) (zAin X hS) (fun u47 t47 H47 locs47 ht47 hv47 hw47 hB47 hz47 hk47 hS47 => ?_)
  have hZ47 := zBack X ht47 hB47
  refine lv_goto (tgt := 263) hx hb (D_167 W_prog_15_method_145_code_160 20 rfl rfl rfl) (by decide) ?_
  exact b_M_track0_263 X hrec21 hf hZ47 hS47 (lv_sub hl [4, 3, 1, 2, 5, 6] rfl)

def f_M_track0_146 (rec21 : Int → Int → Int → Int → Int → zF → zB → zO) (K : Nat) (l2 : Int) (l6 : Int) (l5 : Int) (l1 : Int) (F : zF) (B : zB) : zO := f_M_track0_263 rec21 K 0 l5 l2 l6 l1 F B
set_option maxHeartbeats 4000000 in
set_option maxRecDepth 100000 in
theorem b_M_track0_146 {D : va_G} {ca : Nat → ClassId} {ad : Nat → Int → Nat → Nat} {L : List Nat} {aS vS : Nat → Nat} {A : Nat → Prop} {p : Program} {l : Launch} {e : Env} {s : State} {m : MethodId} {args : Array Value} {below : List Frame} {meth : Method} {c : Code} {K : Nat} {r : Int} {F9 : zF} {B9 : zB} (X : zX D ca L aS vS A p s m args meth c prog_15_method_145_code 11 (Option.none : Option Jvm.ClassFile.FieldType) "StaveHouseModel") {rec21 : Int → Int → Int → Int → Int → zF → zB → zO} (hrec21 : ∀ {l6 : Int} {l5 : Int} {l4 : Int} {l2 : Int} {l1 : Int} {F : zF} {B : zB} {H : Heap} {locs : List Loc} {ls : Array Slot}, rec21 l6 l5 l4 l2 l1 F B = some (r, F9, B9) → zH D ca ad lnM nM L F B A H → va_S A s.heap H locs → lv_has ls 11 [(6, .int (iI l6)), (5, .int (iI l5)), (4, .int (iI l4)), (2, .long (lI l2)), (0, .ref (ad 14 0 0)), (1, .int (iI l1))] → W p l e ({ frames := 4, cells := 0, slots := 0, locals := 92 } : Room) s m args below meth c H locs 0 0 (MQ below (Q_M_track0 D ca ad L r F9 B9 A) args s 0 0 A) (F0 m 21 ls [])) {l2 : Int} {l6 : Int} {l5 : Int} {l1 : Int} {F : zF} {B : zB} {H : Heap} {locs : List Loc} {ls : Array Slot} (hf : f_M_track0_146 rec21 K l2 l6 l5 l1 F B = some (r, F9, B9)) (hZ : zH D ca ad lnM nM L F B A H) (hS : va_S A s.heap H locs) (hl : lv_has ls 11 [(2, .long (lI l2)), (6, .int (iI l6)), (5, .int (iI l5)), (0, .ref (ad 14 0 0)), (1, .int (iI l1))]) : W p l e ({ frames := 4, cells := 0, slots := 0, locals := 92 } : Room) s m args below meth c H locs 0 0 (MQ below (Q_M_track0 D ca ad L r F9 B9 A) args s 0 0 A) (F0 m 146 ls []) := by
  obtain ⟨hx, hb, hr, hml, hown, hts, hlk, hK, hA, hL, hX⟩ := id X
  replace hf : (f_M_track0_263 rec21 K 0 l5 l2 l6 l1 F B) = some (r, F9, B9) := hf
  refine lv_iconst (v := iI 0) hx hb (D_3 W_prog_15_method_145_code_128 18 rfl rfl) rfl ?_
  refine lv_istore (lv' := [(4, .int (iI 0)), (2, .long (lI l2)), (6, .int (iI l6)), (5, .int (iI l5)), (0, .ref (ad 14 0 0)), (1, .int (iI l1))]) hx hb (D_54 W_prog_15_method_145_code_128 19 rfl rfl) hl (by decide) rfl (fun ls hl => ?_)
  refine lv_goto (tgt := 263) hx hb (D_167 W_prog_15_method_145_code_128 21 rfl rfl rfl) (by decide) ?_
  exact b_M_track0_263 X hrec21 hf hZ hS (lv_sub hl [0, 3, 1, 2, 4, 5] rfl)

def f_M_track0_121 (rec21 : Int → Int → Int → Int → Int → zF → zB → zO) (K : Nat) : Nat → Int → Int → Int → Int → Int → Int → zF → zB → zO
  | 0, _, _, _, _, _, _, _, _ => none
  | n + 1, l10, l9, l2, l6, l5, l1, F, B => if r32 l10 then if r32 l9 then (if l9 ≤ l10 then f_M_track0_146 rec21 K l2 l6 l5 l1 F B else zbind (f_M_good K F B) (fun r43 F43 B43 => if r32 r43 then (if r43 = 0 then f_M_track0_146 rec21 K l2 l6 l5 l1 F43 B43 else zbind (f_M_next K F43 B43) (fun r46 F46 B46 => f_M_track0_121 rec21 K n (l10 + 1) l9 l2 l6 l5 l1 F46 B46)) else none)) else none else none
set_option maxHeartbeats 4000000 in
set_option maxRecDepth 100000 in
theorem b_M_track0_121 {D : va_G} {ca : Nat → ClassId} {ad : Nat → Int → Nat → Nat} {L : List Nat} {aS vS : Nat → Nat} {A : Nat → Prop} {p : Program} {l : Launch} {e : Env} {s : State} {m : MethodId} {args : Array Value} {below : List Frame} {meth : Method} {c : Code} {K : Nat} {r : Int} {F9 : zF} {B9 : zB} (X : zX D ca L aS vS A p s m args meth c prog_15_method_145_code 11 (Option.none : Option Jvm.ClassFile.FieldType) "StaveHouseModel") {rec21 : Int → Int → Int → Int → Int → zF → zB → zO} (hrec21 : ∀ {l6 : Int} {l5 : Int} {l4 : Int} {l2 : Int} {l1 : Int} {F : zF} {B : zB} {H : Heap} {locs : List Loc} {ls : Array Slot}, rec21 l6 l5 l4 l2 l1 F B = some (r, F9, B9) → zH D ca ad lnM nM L F B A H → va_S A s.heap H locs → lv_has ls 11 [(6, .int (iI l6)), (5, .int (iI l5)), (4, .int (iI l4)), (2, .long (lI l2)), (0, .ref (ad 14 0 0)), (1, .int (iI l1))] → W p l e ({ frames := 4, cells := 0, slots := 0, locals := 92 } : Room) s m args below meth c H locs 0 0 (MQ below (Q_M_track0 D ca ad L r F9 B9 A) args s 0 0 A) (F0 m 21 ls [])) : ∀ {n : Nat} {l10 : Int} {l9 : Int} {l2 : Int} {l6 : Int} {l5 : Int} {l1 : Int} {F : zF} {B : zB} {H : Heap} {locs : List Loc} {ls : Array Slot}, f_M_track0_121 rec21 K n l10 l9 l2 l6 l5 l1 F B = some (r, F9, B9) → zH D ca ad lnM nM L F B A H → va_S A s.heap H locs → lv_has ls 11 [(10, .int (iI l10)), (9, .int (iI l9)), (2, .long (lI l2)), (6, .int (iI l6)), (5, .int (iI l5)), (0, .ref (ad 14 0 0)), (1, .int (iI l1))] → W p l e ({ frames := 4, cells := 0, slots := 0, locals := 92 } : Room) s m args below meth c H locs 0 0 (MQ below (Q_M_track0 D ca ad L r F9 B9 A) args s 0 0 A) (F0 m 121 ls []) := by
  obtain ⟨hx, hb, hr, hml, hown, hts, hlk, hK, hA, hL, hX⟩ := id X
  intro n
  induction n with
  | zero =>
    intros
    rename_i hf _ _ _
    cases hf
  | succ n ih =>
    intro l10 l9 l2 l6 l5 l1 F B H locs ls hf hZ hS hl
    replace hf : (if r32 l10 then if r32 l9 then (if l9 ≤ l10 then f_M_track0_146 rec21 K l2 l6 l5 l1 F B else zbind (f_M_good K F B) (fun r43 F43 B43 => if r32 r43 then (if r43 = 0 then f_M_track0_146 rec21 K l2 l6 l5 l1 F43 B43 else zbind (f_M_next K F43 B43) (fun r46 F46 B46 => f_M_track0_121 rec21 K n (l10 + 1) l9 l2 l6 l5 l1 F46 B46)) else none)) else none else none) = some (r, F9, B9) := hf
    refine lv_iload hx hb (D_21 W_prog_15_method_145_code_96 25 rfl rfl) (lv_at hl 0 rfl) ?_
    refine lv_iload hx hb (D_21 W_prog_15_method_145_code_96 27 rfl rfl) (lv_at hl 1 rfl) ?_
    obtain ⟨g40, hf⟩ := gif hf
    obtain ⟨g41, hf⟩ := gif hf
    refine zge (tgt := 146) hx hb g40 g41 (D_162 W_prog_15_method_145_code_96 29 rfl rfl rfl) (by decide) (fun h42 => ?_) (fun h42 => ?_)
    · replace hf := gpos hf h42
      exact b_M_track0_146 X hrec21 hf hZ hS (lv_sub hl [2, 3, 4, 5, 6] rfl)
    · replace hf := gneg hf h42
      refine lv_aload_n hx hb (D_42 W_prog_15_method_145_code_128 0 rfl rfl) rfl (lv_at hl 5 rfl) ?_
      obtain ⟨r43, F43, B43, hc43, hf⟩ := gbind hf
      refine va_calli (va_runV (As := []) (rest := []) ⟨hx, hb, hml, hown, hts⟩ (c_M_good (l := l) hc43) (cwV 0 hts (gdV k_13_15 k_13_17 ks_152 k_1_9 k_13_18) rfl rfl rfl (by decide +kernel) ⟨Nat.le_of_ble_eq_true rfl, Nat.le_of_ble_eq_true rfl⟩) (zPV X hZ hS (ci := 14) (by decide) (by decide) (r := (RX14, TX14, 107)) rfl []) rfl rfl hl.1 rfl (lv_room (Nat.le_of_ble_eq_true rfl)) (D_182 W_prog_15_method_145_code_128 1 rfl rfl rfl) ⟨Nat.le_of_ble_eq_true rfl, Nat.le_of_ble_eq_true rfl⟩) hS (fun q _ h => zAin X hS q h) (zAin X hS) (fun p43 u43 t43 H43 locs43 ht43 hv43 hw43 hB43 hz43 hk43 hS43 => ?_)
      have hZ43 := zBack X ht43 hB43
      subst hw43
      obtain ⟨g44, hf⟩ := gif hf
      refine z0eq (tgt := 146) hx hb g44 (D_153 W_prog_15_method_145_code_128 4 rfl rfl rfl) (by decide) (fun h45 => ?_) (fun h45 => ?_)
      · replace hf := gpos hf h45
        exact b_M_track0_146 X hrec21 hf hZ43 hS43 (lv_sub hl [2, 3, 4, 5, 6] rfl)
      · replace hf := gneg hf h45
        refine lv_aload_n hx hb (D_42 W_prog_15_method_145_code_128 7 rfl rfl) rfl (lv_at hl 5 rfl) ?_
        obtain ⟨r46, F46, B46, hc46, hf⟩ := gbind hf
        refine va_calli (va_runV (As := []) (rest := []) ⟨hx, hb, hml, hown, hts⟩ (c_M_next (l := l) hc46) (cwV 0 hts (gdV k_13_11 k_13_13 ks_151 k_1_9 k_13_14) rfl rfl rfl (by decide +kernel) ⟨Nat.le_of_ble_eq_true rfl, Nat.le_of_ble_eq_true rfl⟩) (zPV X hZ43 hS43 (ci := 14) (by decide) (by decide) (r := (RX14, TX14, 107)) rfl []) rfl rfl hl.1 rfl (lv_room (Nat.le_of_ble_eq_true rfl)) (D_182 W_prog_15_method_145_code_128 8 rfl rfl rfl) ⟨Nat.le_of_ble_eq_true rfl, Nat.le_of_ble_eq_true rfl⟩) hS43 (fun q _ h => zAin X hS43 q h) (zAin X hS43) (fun p46 u46 t46 H46 locs46 ht46 hv46 hw46 hB46 hz46 hk46 hS46 => ?_)
        have hZ46 := zBack X ht46 hB46
        subst hw46
        refine lv_pop hx hb (D_87 W_prog_15_method_145_code_128 11 rfl rfl) rfl ?_
        refine lv_iinc (v := iI (l10 + 1)) (lv' := [(10, .int (iI (l10 + 1))), (9, .int (iI l9)), (2, .long (lI l2)), (6, .int (iI l6)), (5, .int (iI l5)), (0, .ref (ad 14 0 0)), (1, .int (iI l1))]) hx hb d_15_145_140 hl (k := 0) rfl (iI_add _ 1) (by decide) rfl (fun ls hl => ?_)
        refine lv_goto (tgt := 121) hx hb (D_167 W_prog_15_method_145_code_128 15 rfl rfl rfl) (by decide) ?_
        exact ih hf hZ46 hS46 (lv_sub hl [0, 1, 2, 3, 4, 5, 6] rfl)

def f_M_track0_112 (rec21 : Int → Int → Int → Int → Int → zF → zB → zO) (K : Nat) (l2 : Int) (l6 : Int) (l5 : Int) (l1 : Int) (F : zF) (B : zB) : zO := zbind (f_M_seven K F B) (fun r39 F39 B39 => f_M_track0_121 rec21 K K 0 r39 l2 l6 l5 l1 F39 B39)
set_option maxHeartbeats 4000000 in
set_option maxRecDepth 100000 in
theorem b_M_track0_112 {D : va_G} {ca : Nat → ClassId} {ad : Nat → Int → Nat → Nat} {L : List Nat} {aS vS : Nat → Nat} {A : Nat → Prop} {p : Program} {l : Launch} {e : Env} {s : State} {m : MethodId} {args : Array Value} {below : List Frame} {meth : Method} {c : Code} {K : Nat} {r : Int} {F9 : zF} {B9 : zB} (X : zX D ca L aS vS A p s m args meth c prog_15_method_145_code 11 (Option.none : Option Jvm.ClassFile.FieldType) "StaveHouseModel") {rec21 : Int → Int → Int → Int → Int → zF → zB → zO} (hrec21 : ∀ {l6 : Int} {l5 : Int} {l4 : Int} {l2 : Int} {l1 : Int} {F : zF} {B : zB} {H : Heap} {locs : List Loc} {ls : Array Slot}, rec21 l6 l5 l4 l2 l1 F B = some (r, F9, B9) → zH D ca ad lnM nM L F B A H → va_S A s.heap H locs → lv_has ls 11 [(6, .int (iI l6)), (5, .int (iI l5)), (4, .int (iI l4)), (2, .long (lI l2)), (0, .ref (ad 14 0 0)), (1, .int (iI l1))] → W p l e ({ frames := 4, cells := 0, slots := 0, locals := 92 } : Room) s m args below meth c H locs 0 0 (MQ below (Q_M_track0 D ca ad L r F9 B9 A) args s 0 0 A) (F0 m 21 ls [])) {l2 : Int} {l6 : Int} {l5 : Int} {l1 : Int} {F : zF} {B : zB} {H : Heap} {locs : List Loc} {ls : Array Slot} (hf : f_M_track0_112 rec21 K l2 l6 l5 l1 F B = some (r, F9, B9)) (hZ : zH D ca ad lnM nM L F B A H) (hS : va_S A s.heap H locs) (hl : lv_has ls 11 [(2, .long (lI l2)), (6, .int (iI l6)), (5, .int (iI l5)), (0, .ref (ad 14 0 0)), (1, .int (iI l1))]) : W p l e ({ frames := 4, cells := 0, slots := 0, locals := 92 } : Room) s m args below meth c H locs 0 0 (MQ below (Q_M_track0 D ca ad L r F9 B9 A) args s 0 0 A) (F0 m 112 ls []) := by
  obtain ⟨hx, hb, hr, hml, hown, hts, hlk, hK, hA, hL, hX⟩ := id X
  replace hf : (zbind (f_M_seven K F B) (fun r39 F39 B39 => f_M_track0_121 rec21 K K 0 r39 l2 l6 l5 l1 F39 B39)) = some (r, F9, B9) := hf
  refine lv_aload_n hx hb (D_42 W_prog_15_method_145_code_96 16 rfl rfl) rfl (lv_at hl 3 rfl) ?_
  obtain ⟨r39, F39, B39, hc39, hf⟩ := gbind hf
  refine va_calli (va_runV (As := []) (rest := []) ⟨hx, hb, hml, hown, hts⟩ (c_M_seven (l := l) hc39) (cwV 0 hts (gdV k_13_44 k_13_46 ks_159 k_1_9 k_13_47) rfl rfl rfl (by decide +kernel) ⟨Nat.le_of_ble_eq_true rfl, Nat.le_of_ble_eq_true rfl⟩) (zPV X hZ hS (ci := 14) (by decide) (by decide) (r := (RX14, TX14, 107)) rfl []) rfl rfl hl.1 rfl (lv_room (Nat.le_of_ble_eq_true rfl)) (D_182 W_prog_15_method_145_code_96 17 rfl rfl rfl) ⟨Nat.le_of_ble_eq_true rfl, Nat.le_of_ble_eq_true rfl⟩) hS (fun q _ h => zAin X hS q h) (zAin X hS) (fun p39 u39 t39 H39 locs39 ht39 hv39 hw39 hB39 hz39 hk39 hS39 => ?_)
  have hZ39 := zBack X ht39 hB39
  subst hw39
  refine lv_istore (lv' := [(9, .int (iI r39)), (2, .long (lI l2)), (6, .int (iI l6)), (5, .int (iI l5)), (0, .ref (ad 14 0 0)), (1, .int (iI l1))]) hx hb (D_54 W_prog_15_method_145_code_96 20 rfl rfl) hl (by decide) rfl (fun ls hl => ?_)
  refine lv_iconst (v := iI 0) hx hb (D_3 W_prog_15_method_145_code_96 22 rfl rfl) rfl ?_
  refine lv_istore (lv' := [(10, .int (iI 0)), (9, .int (iI r39)), (2, .long (lI l2)), (6, .int (iI l6)), (5, .int (iI l5)), (0, .ref (ad 14 0 0)), (1, .int (iI l1))]) hx hb (D_54 W_prog_15_method_145_code_96 23 rfl rfl) hl (by decide) rfl (fun ls hl => ?_)
  exact b_M_track0_121 X hrec21 hf hZ39 hS39 (lv_sub hl [0, 1, 2, 3, 4, 5, 6] rfl)

def f_M_track0_21 (K : Nat) : Nat → Int → Int → Int → Int → Int → zF → zB → zO
  | 0, _, _, _, _, _, _, _ => none
  | n + 1, l6, l5, l4, l2, l1, F, B => zbind (f_M_good K F B) (fun r3 F3 B3 => if r32 r3 then (if r3 = 0 then f_M_track0_266 K l6 l2 l1 F3 B3 else if r32 l5 then (if l5 = 0 then if r32 (F3 14 0 89) then if r64 (F3 14 0 89) then if r64 (F3 14 0 90) then (if 0 ≤ (zcmp (F3 14 0 89) (F3 14 0 90)) then f_M_track0_266 K l6 l2 l1 F3 B3 else zbind (f_M_seven K F3 B3) (fun r12 F12 B12 => if r32 r12 then zbind (f_M_next K F12 B12) (fun r14 F14 B14 => zbind (f_M_good K F14 B14) (fun r15 F15 B15 => if r32 r15 then (if r15 = 0 then f_M_track0_266 K l6 (l2 + r12) l1 F15 B15 else if r32 r14 then (if r14 = 255 then zbind (f_M_meta K F15 B15) (fun r26 F26 B26 => f_M_track0_263 (f_M_track0_21 K n) K 0 r26 (l2 + r12) l6 l1 F26 B26) else (if r14 = 240 then f_M_track0_112 (f_M_track0_21 K n) K (l2 + r12) l6 l5 l1 F15 B15 else (if r14 = 247 then f_M_track0_112 (f_M_track0_21 K n) K (l2 + r12) l6 l5 l1 F15 B15 else (if 240 ≤ r14 then f_M_track0_173 (f_M_track0_21 K n) K (F12 14 0 89) (l2 + r12) l6 l5 l4 l1 F15 B15 else (if 128 ≤ r14 then f_M_track0_183 (f_M_track0_21 K n) K r14 (F12 14 0 89) (l2 + r12) l6 l5 l4 l1 F15 B15 else if r32 l4 then (if l4 = 0 then f_M_track0_173 (f_M_track0_21 K n) K (F12 14 0 89) (l2 + r12) l6 l5 l4 l1 F15 B15 else f_M_track0_183 (f_M_track0_21 K n) K r14 (F12 14 0 89) (l2 + r12) l6 l5 l4 l1 F15 B15) else none))))) else none) else none)) else none)) else none else none else none else f_M_track0_266 K l6 l2 l1 F3 B3) else none) else none)
set_option maxHeartbeats 4000000 in
set_option maxRecDepth 100000 in
theorem b_M_track0_21 {D : va_G} {ca : Nat → ClassId} {ad : Nat → Int → Nat → Nat} {L : List Nat} {aS vS : Nat → Nat} {A : Nat → Prop} {p : Program} {l : Launch} {e : Env} {s : State} {m : MethodId} {args : Array Value} {below : List Frame} {meth : Method} {c : Code} {K : Nat} {r : Int} {F9 : zF} {B9 : zB} (X : zX D ca L aS vS A p s m args meth c prog_15_method_145_code 11 (Option.none : Option Jvm.ClassFile.FieldType) "StaveHouseModel") : ∀ {n : Nat} {l6 : Int} {l5 : Int} {l4 : Int} {l2 : Int} {l1 : Int} {F : zF} {B : zB} {H : Heap} {locs : List Loc} {ls : Array Slot}, f_M_track0_21 K n l6 l5 l4 l2 l1 F B = some (r, F9, B9) → zH D ca ad lnM nM L F B A H → va_S A s.heap H locs → lv_has ls 11 [(6, .int (iI l6)), (5, .int (iI l5)), (4, .int (iI l4)), (2, .long (lI l2)), (0, .ref (ad 14 0 0)), (1, .int (iI l1))] → W p l e ({ frames := 4, cells := 0, slots := 0, locals := 92 } : Room) s m args below meth c H locs 0 0 (MQ below (Q_M_track0 D ca ad L r F9 B9 A) args s 0 0 A) (F0 m 21 ls []) := by
  obtain ⟨hx, hb, hr, hml, hown, hts, hlk, hK, hA, hL, hX⟩ := id X
  intro n
  induction n with
  | zero =>
    intros
    rename_i hf _ _ _
    cases hf
  | succ n ih =>
    intro l6 l5 l4 l2 l1 F B H locs ls hf hZ hS hl
    replace hf : (zbind (f_M_good K F B) (fun r3 F3 B3 => if r32 r3 then (if r3 = 0 then f_M_track0_266 K l6 l2 l1 F3 B3 else if r32 l5 then (if l5 = 0 then if r32 (F3 14 0 89) then if r64 (F3 14 0 89) then if r64 (F3 14 0 90) then (if 0 ≤ (zcmp (F3 14 0 89) (F3 14 0 90)) then f_M_track0_266 K l6 l2 l1 F3 B3 else zbind (f_M_seven K F3 B3) (fun r12 F12 B12 => if r32 r12 then zbind (f_M_next K F12 B12) (fun r14 F14 B14 => zbind (f_M_good K F14 B14) (fun r15 F15 B15 => if r32 r15 then (if r15 = 0 then f_M_track0_266 K l6 (l2 + r12) l1 F15 B15 else if r32 r14 then (if r14 = 255 then zbind (f_M_meta K F15 B15) (fun r26 F26 B26 => f_M_track0_263 (f_M_track0_21 K n) K 0 r26 (l2 + r12) l6 l1 F26 B26) else (if r14 = 240 then f_M_track0_112 (f_M_track0_21 K n) K (l2 + r12) l6 l5 l1 F15 B15 else (if r14 = 247 then f_M_track0_112 (f_M_track0_21 K n) K (l2 + r12) l6 l5 l1 F15 B15 else (if 240 ≤ r14 then f_M_track0_173 (f_M_track0_21 K n) K (F12 14 0 89) (l2 + r12) l6 l5 l4 l1 F15 B15 else (if 128 ≤ r14 then f_M_track0_183 (f_M_track0_21 K n) K r14 (F12 14 0 89) (l2 + r12) l6 l5 l4 l1 F15 B15 else if r32 l4 then (if l4 = 0 then f_M_track0_173 (f_M_track0_21 K n) K (F12 14 0 89) (l2 + r12) l6 l5 l4 l1 F15 B15 else f_M_track0_183 (f_M_track0_21 K n) K r14 (F12 14 0 89) (l2 + r12) l6 l5 l4 l1 F15 B15) else none))))) else none) else none)) else none)) else none else none else none else f_M_track0_266 K l6 l2 l1 F3 B3) else none) else none)) = some (r, F9, B9) := hf
    refine lv_aload_n hx hb (D_42 W_prog_15_method_145_code_0 21 rfl rfl) rfl (lv_at hl 4 rfl) ?_
    obtain ⟨r3, F3, B3, hc3, hf⟩ := gbind hf
    refine va_calli (va_runV (As := []) (rest := []) ⟨hx, hb, hml, hown, hts⟩ (c_M_good (l := l) hc3) (cwV 0 hts (gdV k_13_15 k_13_17 ks_152 k_1_9 k_13_18) rfl rfl rfl (by decide +kernel) ⟨Nat.le_of_ble_eq_true rfl, Nat.le_of_ble_eq_true rfl⟩) (zPV X hZ hS (ci := 14) (by decide) (by decide) (r := (RX14, TX14, 107)) rfl []) rfl rfl hl.1 rfl (lv_room (Nat.le_of_ble_eq_true rfl)) (D_182 W_prog_15_method_145_code_0 22 rfl rfl rfl) ⟨Nat.le_of_ble_eq_true rfl, Nat.le_of_ble_eq_true rfl⟩) hS (fun q _ h => zAin X hS q h) (zAin X hS) (fun p3 u3 t3 H3 locs3 ht3 hv3 hw3 hB3 hz3 hk3 hS3 => ?_)
    have hZ3 := zBack X ht3 hB3
    subst hw3
    obtain ⟨g4, hf⟩ := gif hf
    refine z0eq (tgt := 266) hx hb g4 (D_153 W_prog_15_method_145_code_0 25 rfl rfl rfl) (by decide) (fun h5 => ?_) (fun h5 => ?_)
    · replace hf := gpos hf h5
      exact b_M_track0_266 X hf hZ3 hS3 (lv_sub hl [0, 3, 4, 5] rfl)
    · replace hf := gneg hf h5
      refine lv_iload hx hb (D_21 W_prog_15_method_145_code_0 28 rfl rfl) (lv_at hl 1 rfl) ?_
      obtain ⟨g6, hf⟩ := gif hf
      refine z0ne (tgt := 266) hx hb g6 (D_154 W_prog_15_method_145_code_0 30 rfl rfl rfl) (by decide) (fun h7 => ?_) (fun h7 => ?_)
      · replace hf := gneg hf h7
        exact b_M_track0_266 X hf hZ3 hS3 (lv_sub hl [0, 3, 4, 5] rfl)
      · replace hf := gpos hf h7
        refine lv_aload_n hx hb (D_42 W_prog_15_method_145_code_32 1 rfl rfl) rfl (lv_at hl 4 rfl) ?_
        refine zget (ci := 14) (C := RX14) (T := TX14) (v := .int (iI (F3 14 0 89))) (k := 89) hx hb hts inW_14 hown hK hZ3 (by decide) (by decide) rfl (by decide) k_11_87 rfl (D_180 W_prog_15_method_145_code_32 2 rfl rfl rfl) ?_
        obtain ⟨g8, hf⟩ := gif hf
        refine zi2l hx hb g8 (D_133 W_prog_15_method_145_code_32 5 rfl rfl) ?_
        refine lv_aload_n hx hb (D_42 W_prog_15_method_145_code_32 6 rfl rfl) rfl (lv_at hl 4 rfl) ?_
        refine zget (ci := 14) (C := RX14) (T := TX14) (v := .long (lI (F3 14 0 90))) (k := 90) hx hb hts inW_14 hown hK hZ3 (by decide) (by decide) rfl (by decide) k_11_88 rfl (D_180 W_prog_15_method_145_code_32 7 rfl rfl rfl) ?_
        obtain ⟨g9, hf⟩ := gif hf
        obtain ⟨g10, hf⟩ := gif hf
        refine zcmp_r hx hb g9 g10 (D_148 W_prog_15_method_145_code_32 10 rfl rfl) ?_
        refine z0ge (tgt := 266) hx hb zcmp_32 (D_156 W_prog_15_method_145_code_32 11 rfl rfl rfl) (by decide) (fun h11 => ?_) (fun h11 => ?_)
        · replace hf := gpos hf h11
          exact b_M_track0_266 X hf hZ3 hS3 (lv_sub hl [0, 3, 4, 5] rfl)
        · replace hf := gneg hf h11
          refine lv_lload_n hx hb (D_32 W_prog_15_method_145_code_32 14 rfl rfl) rfl (lv_at hl 3 rfl) ?_
          refine lv_aload_n hx hb (D_42 W_prog_15_method_145_code_32 15 rfl rfl) rfl (lv_at hl 4 rfl) ?_
          obtain ⟨r12, F12, B12, hc12, hf⟩ := gbind hf
          refine va_calli (va_runV (As := []) (rest := [.long (lI l2)]) ⟨hx, hb, hml, hown, hts⟩ (c_M_seven (l := l) hc12) (cwV 0 hts (gdV k_13_44 k_13_46 ks_159 k_1_9 k_13_47) rfl rfl rfl (by decide +kernel) ⟨Nat.le_of_ble_eq_true rfl, Nat.le_of_ble_eq_true rfl⟩) (zPV X hZ3 hS3 (ci := 14) (by decide) (by decide) (r := (RX14, TX14, 107)) rfl []) rfl rfl hl.1 rfl (lv_room (Nat.le_of_ble_eq_true rfl)) (D_182 W_prog_15_method_145_code_32 16 rfl rfl rfl) ⟨Nat.le_of_ble_eq_true rfl, Nat.le_of_ble_eq_true rfl⟩) hS3 (fun q _ h => zAin X hS3 q h) (zAin X hS3) (fun p12 u12 t12 H12 locs12 ht12 hv12 hw12 hB12 hz12 hk12 hS12 => ?_)
          have hZ12 := zBack X ht12 hB12
          subst hw12
          obtain ⟨g13, hf⟩ := gif hf
          refine zi2l hx hb g13 (D_133 W_prog_15_method_145_code_32 19 rfl rfl) ?_
          refine zladd hx hb (D_97 W_prog_15_method_145_code_32 20 rfl rfl) ?_
          refine lv_lstore_n (lv' := [(2, .long (lI (l2 + r12))), (6, .int (iI l6)), (5, .int (iI l5)), (4, .int (iI l4)), (0, .ref (ad 14 0 0)), (1, .int (iI l1))]) hx hb (D_65 W_prog_15_method_145_code_32 21 rfl rfl) rfl hl (by decide) rfl (fun ls hl => ?_)
          refine lv_aload_n hx hb (D_42 W_prog_15_method_145_code_32 22 rfl rfl) rfl (lv_at hl 4 rfl) ?_
          refine zget (ci := 14) (C := RX14) (T := TX14) (v := .int (iI (F12 14 0 89))) (k := 89) hx hb hts inW_14 hown hK hZ12 (by decide) (by decide) rfl (by decide) k_11_87 rfl (D_180 W_prog_15_method_145_code_32 23 rfl rfl rfl) ?_
          refine lv_istore (lv' := [(7, .int (iI (F12 14 0 89))), (2, .long (lI (l2 + r12))), (6, .int (iI l6)), (5, .int (iI l5)), (4, .int (iI l4)), (0, .ref (ad 14 0 0)), (1, .int (iI l1))]) hx hb (D_54 W_prog_15_method_145_code_32 26 rfl rfl) hl (by decide) rfl (fun ls hl => ?_)
          refine lv_aload_n hx hb (D_42 W_prog_15_method_145_code_32 28 rfl rfl) rfl (lv_at hl 5 rfl) ?_
          obtain ⟨r14, F14, B14, hc14, hf⟩ := gbind hf
          refine va_calli (va_runV (As := []) (rest := []) ⟨hx, hb, hml, hown, hts⟩ (c_M_next (l := l) hc14) (cwV 0 hts (gdV k_13_11 k_13_13 ks_151 k_1_9 k_13_14) rfl rfl rfl (by decide +kernel) ⟨Nat.le_of_ble_eq_true rfl, Nat.le_of_ble_eq_true rfl⟩) (zPV X hZ12 hS12 (ci := 14) (by decide) (by decide) (r := (RX14, TX14, 107)) rfl []) rfl rfl hl.1 rfl (lv_room (Nat.le_of_ble_eq_true rfl)) (D_182 W_prog_15_method_145_code_32 29 rfl rfl rfl) ⟨Nat.le_of_ble_eq_true rfl, Nat.le_of_ble_eq_true rfl⟩) hS12 (fun q _ h => zAin X hS12 q h) (zAin X hS12) (fun p14 u14 t14 H14 locs14 ht14 hv14 hw14 hB14 hz14 hk14 hS14 => ?_)
          have hZ14 := zBack X ht14 hB14
          subst hw14
          refine lv_istore (lv' := [(8, .int (iI r14)), (7, .int (iI (F12 14 0 89))), (2, .long (lI (l2 + r12))), (6, .int (iI l6)), (5, .int (iI l5)), (4, .int (iI l4)), (0, .ref (ad 14 0 0)), (1, .int (iI l1))]) hx hb (D_54 W_prog_15_method_145_code_64 0 rfl rfl) hl (by decide) rfl (fun ls hl => ?_)
          refine lv_aload_n hx hb (D_42 W_prog_15_method_145_code_64 2 rfl rfl) rfl (lv_at hl 6 rfl) ?_
          obtain ⟨r15, F15, B15, hc15, hf⟩ := gbind hf
          refine va_calli (va_runV (As := []) (rest := []) ⟨hx, hb, hml, hown, hts⟩ (c_M_good (l := l) hc15) (cwV 0 hts (gdV k_13_15 k_13_17 ks_152 k_1_9 k_13_18) rfl rfl rfl (by decide +kernel) ⟨Nat.le_of_ble_eq_true rfl, Nat.le_of_ble_eq_true rfl⟩) (zPV X hZ14 hS14 (ci := 14) (by decide) (by decide) (r := (RX14, TX14, 107)) rfl []) rfl rfl hl.1 rfl (lv_room (Nat.le_of_ble_eq_true rfl)) (D_182 W_prog_15_method_145_code_64 3 rfl rfl rfl) ⟨Nat.le_of_ble_eq_true rfl, Nat.le_of_ble_eq_true rfl⟩) hS14 (fun q _ h => zAin X hS14 q h) (zAin X hS14) (fun p15 u15 t15 H15 locs15 ht15 hv15 hw15 hB15 hz15 hk15 hS15 => ?_)
          have hZ15 := zBack X ht15 hB15
          subst hw15
          obtain ⟨g16, hf⟩ := gif hf
          refine z0ne (tgt := 76) hx hb g16 (D_154 W_prog_15_method_145_code_64 6 rfl rfl rfl) (by decide) (fun h17 => ?_) (fun h17 => ?_)
          · replace hf := gneg hf h17
            refine lv_iload hx hb (D_21 W_prog_15_method_145_code_64 12 rfl rfl) (lv_at hl 0 rfl) ?_
            refine lv_sipush (v := iI 255) hx hb (D_17 W_prog_15_method_145_code_64 14 rfl rfl rfl) (by decide) ?_
            obtain ⟨g18, hf⟩ := gif hf
            refine zne (tgt := 96) hx hb g18 (by decide) (D_160 W_prog_15_method_145_code_64 17 rfl rfl rfl) (by decide) (fun h19 => ?_) (fun h19 => ?_)
            · replace hf := gneg hf h19
              refine lv_iload hx hb (D_21 W_prog_15_method_145_code_96 0 rfl rfl) (lv_at hl 0 rfl) ?_
              refine lv_sipush (v := iI 240) hx hb (D_17 W_prog_15_method_145_code_96 2 rfl rfl rfl) (by decide) ?_
              refine zeq (tgt := 112) hx hb g18 (by decide) (D_159 W_prog_15_method_145_code_96 5 rfl rfl rfl) (by decide) (fun h20 => ?_) (fun h20 => ?_)
              · replace hf := gpos hf h20
                exact b_M_track0_112 X ih hf hZ15 hS15 (lv_sub hl [2, 3, 4, 6, 7] rfl)
              · replace hf := gneg hf h20
                refine lv_iload hx hb (D_21 W_prog_15_method_145_code_96 8 rfl rfl) (lv_at hl 0 rfl) ?_
                refine lv_sipush (v := iI 247) hx hb (D_17 W_prog_15_method_145_code_96 10 rfl rfl rfl) (by decide) ?_
                refine zne (tgt := 152) hx hb g18 (by decide) (D_160 W_prog_15_method_145_code_96 13 rfl rfl rfl) (by decide) (fun h21 => ?_) (fun h21 => ?_)
                · replace hf := gneg hf h21
                  refine lv_iload hx hb (D_21 W_prog_15_method_145_code_128 24 rfl rfl) (lv_at hl 0 rfl) ?_
                  refine lv_sipush (v := iI 240) hx hb (D_17 W_prog_15_method_145_code_128 26 rfl rfl rfl) (by decide) ?_
                  refine zge (tgt := 173) hx hb g18 (by decide) (D_162 W_prog_15_method_145_code_128 29 rfl rfl rfl) (by decide) (fun h22 => ?_) (fun h22 => ?_)
                  · replace hf := gpos hf h22
                    exact b_M_track0_173 X ih hf hZ15 hS15 (lv_sub hl [1, 2, 3, 4, 5, 6, 7] rfl)
                  · replace hf := gneg hf h22
                    refine lv_iload hx hb (D_21 W_prog_15_method_145_code_160 0 rfl rfl) (lv_at hl 0 rfl) ?_
                    refine lv_sipush (v := iI 128) hx hb (D_17 W_prog_15_method_145_code_160 2 rfl rfl rfl) (by decide) ?_
                    refine zge (tgt := 183) hx hb g18 (by decide) (D_162 W_prog_15_method_145_code_160 5 rfl rfl rfl) (by decide) (fun h23 => ?_) (fun h23 => ?_)
                    · replace hf := gpos hf h23
                      exact b_M_track0_183 X ih hf hZ15 hS15 (lv_sub hl [0, 1, 2, 3, 4, 5, 6, 7] rfl)
                    · replace hf := gneg hf h23
                      refine lv_iload hx hb (D_21 W_prog_15_method_145_code_160 8 rfl rfl) (lv_at hl 5 rfl) ?_
                      obtain ⟨g24, hf⟩ := gif hf
                      refine z0ne (tgt := 183) hx hb g24 (D_154 W_prog_15_method_145_code_160 10 rfl rfl rfl) (by decide) (fun h25 => ?_) (fun h25 => ?_)
                      · replace hf := gneg hf h25
                        exact b_M_track0_183 X ih hf hZ15 hS15 (lv_sub hl [0, 1, 2, 3, 4, 5, 6, 7] rfl)
                      · replace hf := gpos hf h25
                        exact b_M_track0_173 X ih hf hZ15 hS15 (lv_sub hl [1, 2, 3, 4, 5, 6, 7] rfl)
                · replace hf := gpos hf h21
                  exact b_M_track0_112 X ih hf hZ15 hS15 (lv_sub hl [2, 3, 4, 6, 7] rfl)
            · replace hf := gpos hf h19
              refine lv_aload_n hx hb (D_42 W_prog_15_method_145_code_64 20 rfl rfl) rfl (lv_at hl 6 rfl) ?_
              obtain ⟨r26, F26, B26, hc26, hf⟩ := gbind hf
              refine va_calli (va_runV (As := []) (rest := []) ⟨hx, hb, hml, hown, hts⟩ (c_M_meta (l := l) hc26) (cwV 0 hts (gdV k_13_48 k_13_50 ks_160 k_1_9 k_13_51) rfl rfl rfl (by decide +kernel) ⟨Nat.le_of_ble_eq_true rfl, Nat.le_of_ble_eq_true rfl⟩) (zPV X hZ15 hS15 (ci := 14) (by decide) (by decide) (r := (RX14, TX14, 107)) rfl []) rfl rfl hl.1 rfl (lv_room (Nat.le_of_ble_eq_true rfl)) (D_182 W_prog_15_method_145_code_64 21 rfl rfl rfl) ⟨Nat.le_of_ble_eq_true rfl, Nat.le_of_ble_eq_true rfl⟩) hS15 (fun q _ h => zAin X hS15 q h) (zAin X hS15) (fun p26 u26 t26 H26 locs26 ht26 hv26 hw26 hB26 hz26 hk26 hS26 => ?_)
              have hZ26 := zBack X ht26 hB26
              subst hw26
              refine lv_istore (lv' := [(5, .int (iI r26)), (8, .int (iI r14)), (7, .int (iI (F12 14 0 89))), (2, .long (lI (l2 + r12))), (6, .int (iI l6)), (4, .int (iI l4)), (0, .ref (ad 14 0 0)), (1, .int (iI l1))]) hx hb (D_54 W_prog_15_method_145_code_64 24 rfl rfl) hl (by decide) rfl (fun ls hl => ?_)
              refine lv_iconst (v := iI 0) hx hb (D_3 W_prog_15_method_145_code_64 26 rfl rfl) rfl ?_
              refine lv_istore (lv' := [(4, .int (iI 0)), (5, .int (iI r26)), (8, .int (iI r14)), (7, .int (iI (F12 14 0 89))), (2, .long (lI (l2 + r12))), (6, .int (iI l6)), (0, .ref (ad 14 0 0)), (1, .int (iI l1))]) hx hb (D_54 W_prog_15_method_145_code_64 27 rfl rfl) hl (by decide) rfl (fun ls hl => ?_)
              refine lv_goto (tgt := 263) hx hb (D_167 W_prog_15_method_145_code_64 29 rfl rfl rfl) (by decide) ?_
              exact b_M_track0_263 X ih hf hZ26 hS26 (lv_sub hl [0, 1, 4, 5, 6, 7] rfl)
          · replace hf := gpos hf h17
            refine lv_goto (tgt := 266) hx hb (D_167 W_prog_15_method_145_code_64 9 rfl rfl rfl) (by decide) ?_
            exact b_M_track0_266 X hf hZ15 hS15 (lv_sub hl [3, 2, 6, 7] rfl)

def f_M_track0 (K : Nat) (l1 : Int) (F : zF) (B : zB) : zO := if 0 ≤ l1 ∧ l1 < 8 then f_M_track0_21 K K (F 14 0 94) 0 0 0 l1 F (zup4 B 14 0 88 l1 (-1)) else none
set_option maxHeartbeats 4000000 in
set_option maxRecDepth 100000 in
theorem c_M_track0 {l : Launch} {D : va_G} {ca : Nat → ClassId} {ad : Nat → Int → Nat → Nat} {L : List Nat} {aS vS : Nat → Nat} {sz K : Nat}  {l1 : Int} {F F9 : zF} {B B9 : zB} {r : Int} (hf : f_M_track0 K l1 F B = some (r, F9, B9)) : Met l ({ cls := "StaveHouseModel", name := "track0", desc := "(I)V" } : Jvm.MethodName) (Cond.code ({ cls := "StaveHouseModel", name := "track0", desc := "(I)V" } : Jvm.MethodName) prog_15_method_145_code 11 (Option.none : Option Jvm.ClassFile.FieldType) :: wAll) ({ frames := 4, cells := 0, slots := 0, locals := 92 } : Room) (va_Pc [.ref (ad 14 0 0), .int (iI l1)] (zPre D ca ad lnM nM L aS vS F B sz)) (Q_M_track0 D ca ad L r F9 B9 (zA L sz)) 0 0 (zA L sz) := by
  refine zMet (Qc := Q_M_track0 D ca ad L r F9 B9) (lv := [(0, .ref (ad 14 0 0)), (1, .int (iI l1))]) (by decide) (Nat.le_of_ble_eq_true rfl) rfl (fun A p e s m below meth c ls X hZ hS hl => ?_)
  obtain ⟨hx, hb, hr, hml, hown, hts, hlk, hK, hA, hL, hX⟩ := id X
  replace hf : (if 0 ≤ l1 ∧ l1 < 8 then f_M_track0_21 K K (F 14 0 94) 0 0 0 l1 F (zup4 B 14 0 88 l1 (-1)) else none) = some (r, F9, B9) := hf
  refine lv_lconst (v := lI 0) hx hb (D_9 W_prog_15_method_145_code_0 0 rfl rfl) (by decide) ?_
  refine lv_lstore_n (lv' := [(2, .long (lI 0)), (0, .ref (ad 14 0 0)), (1, .int (iI l1))]) hx hb (D_65 W_prog_15_method_145_code_0 1 rfl rfl) rfl hl (by decide) rfl (fun ls hl => ?_)
  refine lv_iconst (v := iI 0) hx hb (D_3 W_prog_15_method_145_code_0 2 rfl rfl) rfl ?_
  refine lv_istore (lv' := [(4, .int (iI 0)), (2, .long (lI 0)), (0, .ref (ad 14 0 0)), (1, .int (iI l1))]) hx hb (D_54 W_prog_15_method_145_code_0 3 rfl rfl) hl (by decide) rfl (fun ls hl => ?_)
  refine lv_iconst (v := iI 0) hx hb (D_3 W_prog_15_method_145_code_0 5 rfl rfl) rfl ?_
  refine lv_istore (lv' := [(5, .int (iI 0)), (4, .int (iI 0)), (2, .long (lI 0)), (0, .ref (ad 14 0 0)), (1, .int (iI l1))]) hx hb (D_54 W_prog_15_method_145_code_0 6 rfl rfl) hl (by decide) rfl (fun ls hl => ?_)
  refine lv_aload_n hx hb (D_42 W_prog_15_method_145_code_0 8 rfl rfl) rfl (lv_at hl 3 rfl) ?_
  refine zget (ci := 14) (C := RX14) (T := TX14) (v := .int (iI (F 14 0 94))) (k := 94) hx hb hts inW_14 hown hK hZ (by decide) (by decide) rfl (by decide) k_11_92 rfl (D_180 W_prog_15_method_145_code_0 9 rfl rfl rfl) ?_
  refine lv_istore (lv' := [(6, .int (iI (F 14 0 94))), (5, .int (iI 0)), (4, .int (iI 0)), (2, .long (lI 0)), (0, .ref (ad 14 0 0)), (1, .int (iI l1))]) hx hb (D_54 W_prog_15_method_145_code_0 12 rfl rfl) hl (by decide) rfl (fun ls hl => ?_)
  refine lv_aload_n hx hb (D_42 W_prog_15_method_145_code_0 14 rfl rfl) rfl (lv_at hl 4 rfl) ?_
  refine zget (ci := 14) (C := RX14) (T := TX14) (v := .ref (ad 14 0 (88 + 1))) (k := 88) hx hb hts inW_14 hown hK hZ (by decide) (by decide) rfl (by decide) k_11_86 rfl (D_180 W_prog_15_method_145_code_0 15 rfl rfl rfl) ?_
  refine lv_iload_n hx hb (D_27 W_prog_15_method_145_code_0 18 rfl rfl) rfl (lv_at hl 5 rfl) ?_
  refine lv_iconst (v := iI (-1)) hx hb (D_2 W_prog_15_method_145_code_0 19 rfl rfl) rfl ?_
  obtain ⟨g1, hf⟩ := gif hf
  refine zast (ci := 14) (k := 88) hx hb hK rfl hZ hS (by decide) (by decide) rfl (Nat.le_of_ble_eq_true rfl) g1.1 g1.2 (D_79 W_prog_15_method_145_code_0 20 rfl rfl) (fun H2 locs2 hZ2 hS2 => ?_)
  exact b_M_track0_21 X hf hZ2 hS2 (lv_sub hl [0, 1, 2, 3, 4, 5] rfl)

abbrev Q_M_trackEvents (D : va_G) (ca : Nat → ClassId) (ad : Nat → Int → Nat → Nat) (L : List Nat) (r : Int) (F : zF) (B : zB) (A : Nat → Prop) : Array Value → State → Outcome → State → Prop := va_Ql (S := Unit) (fun p _ => p = lI r) (fun _ => zPo D ca ad lnM nM L F B A) A
def f_M_trackEvents_316 (rec136 : Int → Int → Int → Int → Int → zF → zB → zO) (K : Nat) (l15 : Int) (l14 : Int) (l13 : Int) (l11 : Int) (l10 : Int) (l2 : Int) (l3 : Int) (F : zF) (B : zB) : zO := zbind (f_M_downEvent K l2 (l15 - l11) l3 l14 F B) (fun r60 F60 B60 => rec136 l10 l13 l15 l2 l3 F60 B60)
set_option maxHeartbeats 4000000 in
set_option maxRecDepth 100000 in
theorem b_M_trackEvents_316 {D : va_G} {ca : Nat → ClassId} {ad : Nat → Int → Nat → Nat} {L : List Nat} {aS vS : Nat → Nat} {A : Nat → Prop} {p : Program} {l : Launch} {e : Env} {s : State} {m : MethodId} {args : Array Value} {below : List Frame} {meth : Method} {c : Code} {K : Nat} {r : Int} {F9 : zF} {B9 : zB} (X : zX D ca L aS vS A p s m args meth c prog_15_method_154_code 18 (Option.some Jvm.ClassFile.FieldType.long) "StaveHouseModel") {rec136 : Int → Int → Int → Int → Int → zF → zB → zO} (hrec136 : ∀ {l10 : Int} {l9 : Int} {l4 : Int} {l2 : Int} {l3 : Int} {F : zF} {B : zB} {H : Heap} {locs : List Loc} {ls : Array Slot}, rec136 l10 l9 l4 l2 l3 F B = some (r, F9, B9) → zH D ca ad lnM nM L F B A H → va_S A s.heap H locs → lv_has ls 18 [(10, .int (iI l10)), (9, .int (iI l9)), (4, .long (lI l4)), (0, .ref (ad 14 0 0)), (2, .int (iI l2)), (3, .int (iI l3))] → W p l e ({ frames := 4, cells := 0, slots := 0, locals := 99 } : Room) s m args below meth c H locs 0 0 (MQ below (Q_M_trackEvents D ca ad L r F9 B9 A) args s 0 0 A) (F0 m 136 ls [])) {l15 : Int} {l14 : Int} {l13 : Int} {l11 : Int} {l10 : Int} {l2 : Int} {l3 : Int} {F : zF} {B : zB} {H : Heap} {locs : List Loc} {ls : Array Slot} (hf : f_M_trackEvents_316 rec136 K l15 l14 l13 l11 l10 l2 l3 F B = some (r, F9, B9)) (hZ : zH D ca ad lnM nM L F B A H) (hS : va_S A s.heap H locs) (hl : lv_has ls 18 [(15, .long (lI l15)), (14, .int (iI l14)), (13, .int (iI l13)), (11, .long (lI l11)), (10, .int (iI l10)), (0, .ref (ad 14 0 0)), (2, .int (iI l2)), (3, .int (iI l3))]) : W p l e ({ frames := 4, cells := 0, slots := 0, locals := 99 } : Room) s m args below meth c H locs 0 0 (MQ below (Q_M_trackEvents D ca ad L r F9 B9 A) args s 0 0 A) (F0 m 316 ls []) := by
  obtain ⟨hx, hb, hr, hml, hown, hts, hlk, hK, hA, hL, hX⟩ := id X
  replace hf : (zbind (f_M_downEvent K l2 (l15 - l11) l3 l14 F B) (fun r60 F60 B60 => rec136 l10 l13 l15 l2 l3 F60 B60)) = some (r, F9, B9) := hf
  refine lv_aload_n hx hb (D_42 W_prog_15_method_154_code_288 28 rfl rfl) rfl (lv_at hl 5 rfl) ?_
  refine lv_iload_n hx hb (D_28 W_prog_15_method_154_code_288 29 rfl rfl) rfl (lv_at hl 6 rfl) ?_
  refine lv_lload hx hb (D_22 W_prog_15_method_154_code_288 30 rfl rfl) (lv_at hl 0 rfl) ?_
  refine lv_lload hx hb (D_22 W_prog_15_method_154_code_320 0 rfl rfl) (lv_at hl 3 rfl) ?_
  refine zlsub hx hb (D_101 W_prog_15_method_154_code_320 2 rfl rfl) ?_
  refine lv_iload_n hx hb (D_29 W_prog_15_method_154_code_320 3 rfl rfl) rfl (lv_at hl 7 rfl) ?_
  refine lv_iload hx hb (D_21 W_prog_15_method_154_code_320 4 rfl rfl) (lv_at hl 1 rfl) ?_
  obtain ⟨r60, F60, B60, hc60, hf⟩ := gbind hf
  refine va_callv (va_runV (As := [.int (iI l2), .long (lI (l15 - l11)), .int (iI l3), .int (iI l14)]) (rest := []) ⟨hx, hb, hml, hown, hts⟩ (c_M_downEvent (l := l) hc60) (cwV 4 hts (gdV k_13_91 k_13_93 ks_167 k_1_9 k_13_94) rfl rfl rfl (by decide +kernel) ⟨Nat.le_of_ble_eq_true rfl, Nat.le_of_ble_eq_true rfl⟩) (zPV X hZ hS (ci := 14) (by decide) (by decide) (r := (RX14, TX14, 107)) rfl [.int (iI l2), .long (lI (l15 - l11)), .int (iI l3), .int (iI l14)]) rfl rfl hl.1 rfl (lv_room (Nat.le_of_ble_eq_true rfl)) (D_182 W_prog_15_method_154_code_320 6 rfl rfl rfl) ⟨Nat.le_of_ble_eq_true rfl, Nat.le_of_ble_eq_true rfl⟩) hS (fun q _ h => zAin X hS q h) (zAin X hS) (fun u60 t60 H60 locs60 ht60 hv60 hw60 hB60 hz60 hk60 hS60 => ?_)
  have hZ60 := zBack X ht60 hB60
  refine lv_lload hx hb (D_22 W_prog_15_method_154_code_320 9 rfl rfl) (lv_at hl 0 rfl) ?_
  refine lv_lstore (lv' := [(4, .long (lI l15)), (15, .long (lI l15)), (14, .int (iI l14)), (13, .int (iI l13)), (11, .long (lI l11)), (10, .int (iI l10)), (0, .ref (ad 14 0 0)), (2, .int (iI l2)), (3, .int (iI l3))]) hx hb (D_55 W_prog_15_method_154_code_320 11 rfl rfl) hl (by decide) rfl (fun ls hl => ?_)
  refine lv_iload hx hb (D_21 W_prog_15_method_154_code_320 13 rfl rfl) (lv_at hl 3 rfl) ?_
  refine lv_istore (lv' := [(9, .int (iI l13)), (4, .long (lI l15)), (15, .long (lI l15)), (14, .int (iI l14)), (13, .int (iI l13)), (11, .long (lI l11)), (10, .int (iI l10)), (0, .ref (ad 14 0 0)), (2, .int (iI l2)), (3, .int (iI l3))]) hx hb (D_54 W_prog_15_method_154_code_320 15 rfl rfl) hl (by decide) rfl (fun ls hl => ?_)
  refine lv_goto (tgt := 136) hx hb (D_167 W_prog_15_method_154_code_320 17 rfl rfl rfl) (by decide) ?_
  exact hrec136 hf hZ60 hS60 (lv_sub hl [6, 0, 1, 7, 8, 9] rfl)

def f_M_trackEvents_271 (rec136 : Int → Int → Int → Int → Int → zF → zB → zO) (rec232 : Int → Int → Int → Int → Int → Int → Int → Int → zF → zB → zO) (K : Nat) (l17 : Int) (l15 : Int) (l14 : Int) (l13 : Int) (l11 : Int) (l10 : Int) (l2 : Int) (l3 : Int) (F : zF) (B : zB) : zO := rec232 (l17 + 1) l15 l14 l13 l11 l10 l2 l3 F B
set_option maxHeartbeats 4000000 in
set_option maxRecDepth 100000 in
theorem b_M_trackEvents_271 {D : va_G} {ca : Nat → ClassId} {ad : Nat → Int → Nat → Nat} {L : List Nat} {aS vS : Nat → Nat} {A : Nat → Prop} {p : Program} {l : Launch} {e : Env} {s : State} {m : MethodId} {args : Array Value} {below : List Frame} {meth : Method} {c : Code} {K : Nat} {r : Int} {F9 : zF} {B9 : zB} (X : zX D ca L aS vS A p s m args meth c prog_15_method_154_code 18 (Option.some Jvm.ClassFile.FieldType.long) "StaveHouseModel") {rec136 : Int → Int → Int → Int → Int → zF → zB → zO} {rec232 : Int → Int → Int → Int → Int → Int → Int → Int → zF → zB → zO} (hrec136 : ∀ {l10 : Int} {l9 : Int} {l4 : Int} {l2 : Int} {l3 : Int} {F : zF} {B : zB} {H : Heap} {locs : List Loc} {ls : Array Slot}, rec136 l10 l9 l4 l2 l3 F B = some (r, F9, B9) → zH D ca ad lnM nM L F B A H → va_S A s.heap H locs → lv_has ls 18 [(10, .int (iI l10)), (9, .int (iI l9)), (4, .long (lI l4)), (0, .ref (ad 14 0 0)), (2, .int (iI l2)), (3, .int (iI l3))] → W p l e ({ frames := 4, cells := 0, slots := 0, locals := 99 } : Room) s m args below meth c H locs 0 0 (MQ below (Q_M_trackEvents D ca ad L r F9 B9 A) args s 0 0 A) (F0 m 136 ls [])) (hrec232 : ∀ {l17 : Int} {l15 : Int} {l14 : Int} {l13 : Int} {l11 : Int} {l10 : Int} {l2 : Int} {l3 : Int} {F : zF} {B : zB} {H : Heap} {locs : List Loc} {ls : Array Slot}, rec232 l17 l15 l14 l13 l11 l10 l2 l3 F B = some (r, F9, B9) → zH D ca ad lnM nM L F B A H → va_S A s.heap H locs → lv_has ls 18 [(17, .int (iI l17)), (15, .long (lI l15)), (14, .int (iI l14)), (13, .int (iI l13)), (11, .long (lI l11)), (10, .int (iI l10)), (0, .ref (ad 14 0 0)), (2, .int (iI l2)), (3, .int (iI l3))] → W p l e ({ frames := 4, cells := 0, slots := 0, locals := 99 } : Room) s m args below meth c H locs 0 0 (MQ below (Q_M_trackEvents D ca ad L r F9 B9 A) args s 0 0 A) (F0 m 232 ls [])) {l17 : Int} {l15 : Int} {l14 : Int} {l13 : Int} {l11 : Int} {l10 : Int} {l2 : Int} {l3 : Int} {F : zF} {B : zB} {H : Heap} {locs : List Loc} {ls : Array Slot} (hf : f_M_trackEvents_271 rec136 rec232 K l17 l15 l14 l13 l11 l10 l2 l3 F B = some (r, F9, B9)) (hZ : zH D ca ad lnM nM L F B A H) (hS : va_S A s.heap H locs) (hl : lv_has ls 18 [(17, .int (iI l17)), (15, .long (lI l15)), (14, .int (iI l14)), (13, .int (iI l13)), (11, .long (lI l11)), (10, .int (iI l10)), (0, .ref (ad 14 0 0)), (2, .int (iI l2)), (3, .int (iI l3))]) : W p l e ({ frames := 4, cells := 0, slots := 0, locals := 99 } : Room) s m args below meth c H locs 0 0 (MQ below (Q_M_trackEvents D ca ad L r F9 B9 A) args s 0 0 A) (F0 m 271 ls []) := by
  obtain ⟨hx, hb, hr, hml, hown, hts, hlk, hK, hA, hL, hX⟩ := id X
  replace hf : (rec232 (l17 + 1) l15 l14 l13 l11 l10 l2 l3 F B) = some (r, F9, B9) := hf
  refine lv_iinc (v := iI (l17 + 1)) (lv' := [(17, .int (iI (l17 + 1))), (15, .long (lI l15)), (14, .int (iI l14)), (13, .int (iI l13)), (11, .long (lI l11)), (10, .int (iI l10)), (0, .ref (ad 14 0 0)), (2, .int (iI l2)), (3, .int (iI l3))]) hx hb d_15_154_271 hl (k := 0) rfl (iI_add _ 1) (by decide) rfl (fun ls hl => ?_)
  refine lv_goto (tgt := 232) hx hb (D_167 W_prog_15_method_154_code_256 18 rfl rfl rfl) (by decide) ?_
  exact hrec232 hf hZ hS (lv_sub hl [0, 1, 2, 3, 4, 5, 6, 7, 8] rfl)

def f_M_trackEvents_232 (rec136 : Int → Int → Int → Int → Int → zF → zB → zO) (K : Nat) : Nat → Int → Int → Int → Int → Int → Int → Int → Int → zF → zB → zO
  | 0, _, _, _, _, _, _, _, _, _, _ => none
  | n + 1, l17, l15, l14, l13, l11, l10, l2, l3, F, B => if r32 l17 then if r32 l13 then (if l13 ≤ l17 then if r32 l10 then (if l10 ≤ l13 then f_M_trackEvents_316 rec136 K l15 l14 l13 l11 l10 l2 l3 F B else if 0 ≤ l13 ∧ l13 < 400 then zbind (f_M_gridPlace K (B 14 0 79 l13) l3 F B) (fun r49 F49 B49 => if r64 l15 then if r64 r49 then (if (zcmp l15 r49) ≤ 0 then f_M_trackEvents_316 rec136 K l15 l14 l13 l11 l10 l2 l3 F49 B49 else zbind (f_M_gridPlace K (B49 14 0 79 l13) l3 F49 B49) (fun r53 F53 B53 => f_M_trackEvents_316 rec136 K r53 l14 l13 l11 l10 l2 l3 F53 B53)) else none else none) else none) else none else if 0 ≤ l17 ∧ l17 < 400 then zbind (f_M_gridPlace K (B 14 0 80 l17) l3 F B) (fun r55 F55 B55 => if r64 r55 then if r64 l15 then (if (zcmp r55 l15) ≤ 0 then f_M_trackEvents_271 rec136 (f_M_trackEvents_232 rec136 K n) K l17 l15 l14 l13 l11 l10 l2 l3 F55 B55 else zbind (f_M_gridPlace K (B55 14 0 80 l17) l3 F55 B55) (fun r59 F59 B59 => f_M_trackEvents_271 rec136 (f_M_trackEvents_232 rec136 K n) K l17 r59 l14 l13 l11 l10 l2 l3 F59 B59)) else none else none) else none) else none else none
set_option maxHeartbeats 4000000 in
set_option maxRecDepth 100000 in
theorem b_M_trackEvents_232 {D : va_G} {ca : Nat → ClassId} {ad : Nat → Int → Nat → Nat} {L : List Nat} {aS vS : Nat → Nat} {A : Nat → Prop} {p : Program} {l : Launch} {e : Env} {s : State} {m : MethodId} {args : Array Value} {below : List Frame} {meth : Method} {c : Code} {K : Nat} {r : Int} {F9 : zF} {B9 : zB} (X : zX D ca L aS vS A p s m args meth c prog_15_method_154_code 18 (Option.some Jvm.ClassFile.FieldType.long) "StaveHouseModel") {rec136 : Int → Int → Int → Int → Int → zF → zB → zO} (hrec136 : ∀ {l10 : Int} {l9 : Int} {l4 : Int} {l2 : Int} {l3 : Int} {F : zF} {B : zB} {H : Heap} {locs : List Loc} {ls : Array Slot}, rec136 l10 l9 l4 l2 l3 F B = some (r, F9, B9) → zH D ca ad lnM nM L F B A H → va_S A s.heap H locs → lv_has ls 18 [(10, .int (iI l10)), (9, .int (iI l9)), (4, .long (lI l4)), (0, .ref (ad 14 0 0)), (2, .int (iI l2)), (3, .int (iI l3))] → W p l e ({ frames := 4, cells := 0, slots := 0, locals := 99 } : Room) s m args below meth c H locs 0 0 (MQ below (Q_M_trackEvents D ca ad L r F9 B9 A) args s 0 0 A) (F0 m 136 ls [])) : ∀ {n : Nat} {l17 : Int} {l15 : Int} {l14 : Int} {l13 : Int} {l11 : Int} {l10 : Int} {l2 : Int} {l3 : Int} {F : zF} {B : zB} {H : Heap} {locs : List Loc} {ls : Array Slot}, f_M_trackEvents_232 rec136 K n l17 l15 l14 l13 l11 l10 l2 l3 F B = some (r, F9, B9) → zH D ca ad lnM nM L F B A H → va_S A s.heap H locs → lv_has ls 18 [(17, .int (iI l17)), (15, .long (lI l15)), (14, .int (iI l14)), (13, .int (iI l13)), (11, .long (lI l11)), (10, .int (iI l10)), (0, .ref (ad 14 0 0)), (2, .int (iI l2)), (3, .int (iI l3))] → W p l e ({ frames := 4, cells := 0, slots := 0, locals := 99 } : Room) s m args below meth c H locs 0 0 (MQ below (Q_M_trackEvents D ca ad L r F9 B9 A) args s 0 0 A) (F0 m 232 ls []) := by
  obtain ⟨hx, hb, hr, hml, hown, hts, hlk, hK, hA, hL, hX⟩ := id X
  intro n
  induction n with
  | zero =>
    intros
    rename_i hf _ _ _
    cases hf
  | succ n ih =>
    intro l17 l15 l14 l13 l11 l10 l2 l3 F B H locs ls hf hZ hS hl
    replace hf : (if r32 l17 then if r32 l13 then (if l13 ≤ l17 then if r32 l10 then (if l10 ≤ l13 then f_M_trackEvents_316 rec136 K l15 l14 l13 l11 l10 l2 l3 F B else if 0 ≤ l13 ∧ l13 < 400 then zbind (f_M_gridPlace K (B 14 0 79 l13) l3 F B) (fun r49 F49 B49 => if r64 l15 then if r64 r49 then (if (zcmp l15 r49) ≤ 0 then f_M_trackEvents_316 rec136 K l15 l14 l13 l11 l10 l2 l3 F49 B49 else zbind (f_M_gridPlace K (B49 14 0 79 l13) l3 F49 B49) (fun r53 F53 B53 => f_M_trackEvents_316 rec136 K r53 l14 l13 l11 l10 l2 l3 F53 B53)) else none else none) else none) else none else if 0 ≤ l17 ∧ l17 < 400 then zbind (f_M_gridPlace K (B 14 0 80 l17) l3 F B) (fun r55 F55 B55 => if r64 r55 then if r64 l15 then (if (zcmp r55 l15) ≤ 0 then f_M_trackEvents_271 rec136 (f_M_trackEvents_232 rec136 K n) K l17 l15 l14 l13 l11 l10 l2 l3 F55 B55 else zbind (f_M_gridPlace K (B55 14 0 80 l17) l3 F55 B55) (fun r59 F59 B59 => f_M_trackEvents_271 rec136 (f_M_trackEvents_232 rec136 K n) K l17 r59 l14 l13 l11 l10 l2 l3 F59 B59)) else none else none) else none) else none else none) = some (r, F9, B9) := hf
    refine lv_iload hx hb (D_21 W_prog_15_method_154_code_224 8 rfl rfl) (lv_at hl 0 rfl) ?_
    refine lv_iload hx hb (D_21 W_prog_15_method_154_code_224 10 rfl rfl) (lv_at hl 3 rfl) ?_
    obtain ⟨g43, hf⟩ := gif hf
    obtain ⟨g44, hf⟩ := gif hf
    refine zge (tgt := 277) hx hb g43 g44 (D_162 W_prog_15_method_154_code_224 12 rfl rfl rfl) (by decide) (fun h45 => ?_) (fun h45 => ?_)
    · replace hf := gpos hf h45
      refine lv_iload hx hb (D_21 W_prog_15_method_154_code_256 21 rfl rfl) (lv_at hl 3 rfl) ?_
      refine lv_iload hx hb (D_21 W_prog_15_method_154_code_256 23 rfl rfl) (lv_at hl 5 rfl) ?_
      obtain ⟨g46, hf⟩ := gif hf
      refine zge (tgt := 316) hx hb g44 g46 (D_162 W_prog_15_method_154_code_256 25 rfl rfl rfl) (by decide) (fun h47 => ?_) (fun h47 => ?_)
      · replace hf := gpos hf h47
        exact b_M_trackEvents_316 X hrec136 hf hZ hS (lv_sub hl [1, 2, 3, 4, 5, 6, 7, 8] rfl)
      · replace hf := gneg hf h47
        refine lv_lload hx hb (D_22 W_prog_15_method_154_code_256 28 rfl rfl) (lv_at hl 1 rfl) ?_
        refine lv_aload_n hx hb (D_42 W_prog_15_method_154_code_256 30 rfl rfl) rfl (lv_at hl 6 rfl) ?_
        refine lv_aload_n hx hb (D_42 W_prog_15_method_154_code_256 31 rfl rfl) rfl (lv_at hl 6 rfl) ?_
        refine zget (ci := 14) (C := RX14) (T := TX14) (v := .ref (ad 14 0 (79 + 1))) (k := 79) hx hb hts inW_14 hown hK hZ (by decide) (by decide) rfl (by decide) k_11_77 rfl (D_180 W_prog_15_method_154_code_288 0 rfl rfl rfl) ?_
        refine lv_iload hx hb (D_21 W_prog_15_method_154_code_288 3 rfl rfl) (lv_at hl 3 rfl) ?_
        obtain ⟨g48, hf⟩ := gif hf
        refine zlald (ci := 14) (k := 79) hx hb hK rfl hZ (by decide) (by decide) rfl (Nat.le_of_ble_eq_true rfl) g48.1 g48.2 (D_47 W_prog_15_method_154_code_288 5 rfl rfl) ?_
        refine lv_iload_n hx hb (D_29 W_prog_15_method_154_code_288 6 rfl rfl) rfl (lv_at hl 8 rfl) ?_
        obtain ⟨r49, F49, B49, hc49, hf⟩ := gbind hf
        refine va_calll (va_runV (As := [.long (lI (B 14 0 79 l13)), .int (iI l3)]) (rest := [.long (lI l15)]) ⟨hx, hb, hml, hown, hts⟩ (c_M_gridPlace (l := l) hc49) (cwV 2 hts (gdV k_13_85 k_13_87 ks_166 k_1_9 k_13_88) rfl rfl rfl (by decide +kernel) ⟨Nat.le_of_ble_eq_true rfl, Nat.le_of_ble_eq_true rfl⟩) (zPV X hZ hS (ci := 14) (by decide) (by decide) (r := (RX14, TX14, 107)) rfl [.long (lI (B 14 0 79 l13)), .int (iI l3)]) rfl rfl hl.1 rfl (lv_room (Nat.le_of_ble_eq_true rfl)) (D_182 W_prog_15_method_154_code_288 7 rfl rfl rfl) ⟨Nat.le_of_ble_eq_true rfl, Nat.le_of_ble_eq_true rfl⟩) hS (fun q _ h => zAin X hS q h) (zAin X hS) (fun p49 u49 t49 H49 locs49 ht49 hv49 hw49 hB49 hz49 hk49 hS49 => ?_)
        have hZ49 := zBack X ht49 hB49
        subst hw49
        obtain ⟨g50, hf⟩ := gif hf
        obtain ⟨g51, hf⟩ := gif hf
        refine zcmp_r hx hb g50 g51 (D_148 W_prog_15_method_154_code_288 10 rfl rfl) ?_
        refine z0le (tgt := 316) hx hb zcmp_32 (D_158 W_prog_15_method_154_code_288 11 rfl rfl rfl) (by decide) (fun h52 => ?_) (fun h52 => ?_)
        · replace hf := gpos hf h52
          exact b_M_trackEvents_316 X hrec136 hf hZ49 hS49 (lv_sub hl [1, 2, 3, 4, 5, 6, 7, 8] rfl)
        · replace hf := gneg hf h52
          refine lv_aload_n hx hb (D_42 W_prog_15_method_154_code_288 14 rfl rfl) rfl (lv_at hl 6 rfl) ?_
          refine lv_aload_n hx hb (D_42 W_prog_15_method_154_code_288 15 rfl rfl) rfl (lv_at hl 6 rfl) ?_
          refine zget (ci := 14) (C := RX14) (T := TX14) (v := .ref (ad 14 0 (79 + 1))) (k := 79) hx hb hts inW_14 hown hK hZ49 (by decide) (by decide) rfl (by decide) k_11_77 rfl (D_180 W_prog_15_method_154_code_288 16 rfl rfl rfl) ?_
          refine lv_iload hx hb (D_21 W_prog_15_method_154_code_288 19 rfl rfl) (lv_at hl 3 rfl) ?_
          refine zlald (ci := 14) (k := 79) hx hb hK rfl hZ49 (by decide) (by decide) rfl (Nat.le_of_ble_eq_true rfl) g48.1 g48.2 (D_47 W_prog_15_method_154_code_288 21 rfl rfl) ?_
          refine lv_iload_n hx hb (D_29 W_prog_15_method_154_code_288 22 rfl rfl) rfl (lv_at hl 8 rfl) ?_
          obtain ⟨r53, F53, B53, hc53, hf⟩ := gbind hf
          refine va_calll (va_runV (As := [.long (lI (B49 14 0 79 l13)), .int (iI l3)]) (rest := []) ⟨hx, hb, hml, hown, hts⟩ (c_M_gridPlace (l := l) hc53) (cwV 2 hts (gdV k_13_85 k_13_87 ks_166 k_1_9 k_13_88) rfl rfl rfl (by decide +kernel) ⟨Nat.le_of_ble_eq_true rfl, Nat.le_of_ble_eq_true rfl⟩) (zPV X hZ49 hS49 (ci := 14) (by decide) (by decide) (r := (RX14, TX14, 107)) rfl [.long (lI (B49 14 0 79 l13)), .int (iI l3)]) rfl rfl hl.1 rfl (lv_room (Nat.le_of_ble_eq_true rfl)) (D_182 W_prog_15_method_154_code_288 23 rfl rfl rfl) ⟨Nat.le_of_ble_eq_true rfl, Nat.le_of_ble_eq_true rfl⟩) hS49 (fun q _ h => zAin X hS49 q h) (zAin X hS49) (fun p53 u53 t53 H53 locs53 ht53 hv53 hw53 hB53 hz53 hk53 hS53 => ?_)
          have hZ53 := zBack X ht53 hB53
          subst hw53
          refine lv_lstore (lv' := [(15, .long (lI r53)), (17, .int (iI l17)), (14, .int (iI l14)), (13, .int (iI l13)), (11, .long (lI l11)), (10, .int (iI l10)), (0, .ref (ad 14 0 0)), (2, .int (iI l2)), (3, .int (iI l3))]) hx hb (D_55 W_prog_15_method_154_code_288 26 rfl rfl) hl (by decide) rfl (fun ls hl => ?_)
          exact b_M_trackEvents_316 X hrec136 hf hZ53 hS53 (lv_sub hl [0, 2, 3, 4, 5, 6, 7, 8] rfl)
    · replace hf := gneg hf h45
      refine lv_aload_n hx hb (D_42 W_prog_15_method_154_code_224 15 rfl rfl) rfl (lv_at hl 6 rfl) ?_
      refine lv_aload_n hx hb (D_42 W_prog_15_method_154_code_224 16 rfl rfl) rfl (lv_at hl 6 rfl) ?_
      refine zget (ci := 14) (C := RX14) (T := TX14) (v := .ref (ad 14 0 (80 + 1))) (k := 80) hx hb hts inW_14 hown hK hZ (by decide) (by decide) rfl (by decide) k_11_78 rfl (D_180 W_prog_15_method_154_code_224 17 rfl rfl rfl) ?_
      refine lv_iload hx hb (D_21 W_prog_15_method_154_code_224 20 rfl rfl) (lv_at hl 0 rfl) ?_
      obtain ⟨g54, hf⟩ := gif hf
      refine zlald (ci := 14) (k := 80) hx hb hK rfl hZ (by decide) (by decide) rfl (Nat.le_of_ble_eq_true rfl) g54.1 g54.2 (D_47 W_prog_15_method_154_code_224 22 rfl rfl) ?_
      refine lv_iload_n hx hb (D_29 W_prog_15_method_154_code_224 23 rfl rfl) rfl (lv_at hl 8 rfl) ?_
      obtain ⟨r55, F55, B55, hc55, hf⟩ := gbind hf
      refine va_calll (va_runV (As := [.long (lI (B 14 0 80 l17)), .int (iI l3)]) (rest := []) ⟨hx, hb, hml, hown, hts⟩ (c_M_gridPlace (l := l) hc55) (cwV 2 hts (gdV k_13_85 k_13_87 ks_166 k_1_9 k_13_88) rfl rfl rfl (by decide +kernel) ⟨Nat.le_of_ble_eq_true rfl, Nat.le_of_ble_eq_true rfl⟩) (zPV X hZ hS (ci := 14) (by decide) (by decide) (r := (RX14, TX14, 107)) rfl [.long (lI (B 14 0 80 l17)), .int (iI l3)]) rfl rfl hl.1 rfl (lv_room (Nat.le_of_ble_eq_true rfl)) (D_182 W_prog_15_method_154_code_224 24 rfl rfl rfl) ⟨Nat.le_of_ble_eq_true rfl, Nat.le_of_ble_eq_true rfl⟩) hS (fun q _ h => zAin X hS q h) (zAin X hS) (fun p55 u55 t55 H55 locs55 ht55 hv55 hw55 hB55 hz55 hk55 hS55 => ?_)
      have hZ55 := zBack X ht55 hB55
      subst hw55
      refine lv_lload hx hb (D_22 W_prog_15_method_154_code_224 27 rfl rfl) (lv_at hl 1 rfl) ?_
      obtain ⟨g56, hf⟩ := gif hf
      obtain ⟨g57, hf⟩ := gif hf
      refine zcmp_r hx hb g56 g57 (D_148 W_prog_15_method_154_code_224 29 rfl rfl) ?_
      refine z0le (tgt := 271) hx hb zcmp_32 (D_158 W_prog_15_method_154_code_224 30 rfl rfl rfl) (by decide) (fun h58 => ?_) (fun h58 => ?_)
      · replace hf := gpos hf h58
        exact b_M_trackEvents_271 X hrec136 ih hf hZ55 hS55 (lv_sub hl [0, 1, 2, 3, 4, 5, 6, 7, 8] rfl)
      · replace hf := gneg hf h58
        refine lv_aload_n hx hb (D_42 W_prog_15_method_154_code_256 1 rfl rfl) rfl (lv_at hl 6 rfl) ?_
        refine lv_aload_n hx hb (D_42 W_prog_15_method_154_code_256 2 rfl rfl) rfl (lv_at hl 6 rfl) ?_
        refine zget (ci := 14) (C := RX14) (T := TX14) (v := .ref (ad 14 0 (80 + 1))) (k := 80) hx hb hts inW_14 hown hK hZ55 (by decide) (by decide) rfl (by decide) k_11_78 rfl (D_180 W_prog_15_method_154_code_256 3 rfl rfl rfl) ?_
        refine lv_iload hx hb (D_21 W_prog_15_method_154_code_256 6 rfl rfl) (lv_at hl 0 rfl) ?_
        refine zlald (ci := 14) (k := 80) hx hb hK rfl hZ55 (by decide) (by decide) rfl (Nat.le_of_ble_eq_true rfl) g54.1 g54.2 (D_47 W_prog_15_method_154_code_256 8 rfl rfl) ?_
        refine lv_iload_n hx hb (D_29 W_prog_15_method_154_code_256 9 rfl rfl) rfl (lv_at hl 8 rfl) ?_
        obtain ⟨r59, F59, B59, hc59, hf⟩ := gbind hf
        refine va_calll (va_runV (As := [.long (lI (B55 14 0 80 l17)), .int (iI l3)]) (rest := []) ⟨hx, hb, hml, hown, hts⟩ (c_M_gridPlace (l := l) hc59) (cwV 2 hts (gdV k_13_85 k_13_87 ks_166 k_1_9 k_13_88) rfl rfl rfl (by decide +kernel) ⟨Nat.le_of_ble_eq_true rfl, Nat.le_of_ble_eq_true rfl⟩) (zPV X hZ55 hS55 (ci := 14) (by decide) (by decide) (r := (RX14, TX14, 107)) rfl [.long (lI (B55 14 0 80 l17)), .int (iI l3)]) rfl rfl hl.1 rfl (lv_room (Nat.le_of_ble_eq_true rfl)) (D_182 W_prog_15_method_154_code_256 10 rfl rfl rfl) ⟨Nat.le_of_ble_eq_true rfl, Nat.le_of_ble_eq_true rfl⟩) hS55 (fun q _ h => zAin X hS55 q h) (zAin X hS55) (fun p59 u59 t59 H59 locs59 ht59 hv59 hw59 hB59 hz59 hk59 hS59 => ?_)
        have hZ59 := zBack X ht59 hB59
        subst hw59
        refine lv_lstore (lv' := [(15, .long (lI r59)), (17, .int (iI l17)), (14, .int (iI l14)), (13, .int (iI l13)), (11, .long (lI l11)), (10, .int (iI l10)), (0, .ref (ad 14 0 0)), (2, .int (iI l2)), (3, .int (iI l3))]) hx hb (D_55 W_prog_15_method_154_code_256 13 rfl rfl) hl (by decide) rfl (fun ls hl => ?_)
        exact b_M_trackEvents_271 X hrec136 ih hf hZ59 hS59 (lv_sub hl [1, 0, 2, 3, 4, 5, 6, 7, 8] rfl)

def f_M_trackEvents_212 (rec136 : Int → Int → Int → Int → Int → zF → zB → zO) (K : Nat) (l13 : Int) (l11 : Int) (l10 : Int) (l9 : Int) (l2 : Int) (l3 : Int) (F : zF) (B : zB) : zO := zbind (f_M_six K l9 l13 F B) (fun r42 F42 B42 => f_M_trackEvents_232 rec136 K K l9 (l11 + 1) r42 l13 l11 l10 l2 l3 F42 B42)
set_option maxHeartbeats 4000000 in
set_option maxRecDepth 100000 in
theorem b_M_trackEvents_212 {D : va_G} {ca : Nat → ClassId} {ad : Nat → Int → Nat → Nat} {L : List Nat} {aS vS : Nat → Nat} {A : Nat → Prop} {p : Program} {l : Launch} {e : Env} {s : State} {m : MethodId} {args : Array Value} {below : List Frame} {meth : Method} {c : Code} {K : Nat} {r : Int} {F9 : zF} {B9 : zB} (X : zX D ca L aS vS A p s m args meth c prog_15_method_154_code 18 (Option.some Jvm.ClassFile.FieldType.long) "StaveHouseModel") {rec136 : Int → Int → Int → Int → Int → zF → zB → zO} (hrec136 : ∀ {l10 : Int} {l9 : Int} {l4 : Int} {l2 : Int} {l3 : Int} {F : zF} {B : zB} {H : Heap} {locs : List Loc} {ls : Array Slot}, rec136 l10 l9 l4 l2 l3 F B = some (r, F9, B9) → zH D ca ad lnM nM L F B A H → va_S A s.heap H locs → lv_has ls 18 [(10, .int (iI l10)), (9, .int (iI l9)), (4, .long (lI l4)), (0, .ref (ad 14 0 0)), (2, .int (iI l2)), (3, .int (iI l3))] → W p l e ({ frames := 4, cells := 0, slots := 0, locals := 99 } : Room) s m args below meth c H locs 0 0 (MQ below (Q_M_trackEvents D ca ad L r F9 B9 A) args s 0 0 A) (F0 m 136 ls [])) {l13 : Int} {l11 : Int} {l10 : Int} {l9 : Int} {l2 : Int} {l3 : Int} {F : zF} {B : zB} {H : Heap} {locs : List Loc} {ls : Array Slot} (hf : f_M_trackEvents_212 rec136 K l13 l11 l10 l9 l2 l3 F B = some (r, F9, B9)) (hZ : zH D ca ad lnM nM L F B A H) (hS : va_S A s.heap H locs) (hl : lv_has ls 18 [(13, .int (iI l13)), (11, .long (lI l11)), (10, .int (iI l10)), (9, .int (iI l9)), (0, .ref (ad 14 0 0)), (2, .int (iI l2)), (3, .int (iI l3))]) : W p l e ({ frames := 4, cells := 0, slots := 0, locals := 99 } : Room) s m args below meth c H locs 0 0 (MQ below (Q_M_trackEvents D ca ad L r F9 B9 A) args s 0 0 A) (F0 m 212 ls []) := by
  obtain ⟨hx, hb, hr, hml, hown, hts, hlk, hK, hA, hL, hX⟩ := id X
  replace hf : (zbind (f_M_six K l9 l13 F B) (fun r42 F42 B42 => f_M_trackEvents_232 rec136 K K l9 (l11 + 1) r42 l13 l11 l10 l2 l3 F42 B42)) = some (r, F9, B9) := hf
  refine lv_aload_n hx hb (D_42 W_prog_15_method_154_code_192 20 rfl rfl) rfl (lv_at hl 4 rfl) ?_
  refine lv_iload hx hb (D_21 W_prog_15_method_154_code_192 21 rfl rfl) (lv_at hl 3 rfl) ?_
  refine lv_iload hx hb (D_21 W_prog_15_method_154_code_192 23 rfl rfl) (lv_at hl 0 rfl) ?_
  obtain ⟨r42, F42, B42, hc42, hf⟩ := gbind hf
  refine va_calli (va_runV (As := [.int (iI l9), .int (iI l13)]) (rest := []) ⟨hx, hb, hml, hown, hts⟩ (c_M_six (l := l) hc42) (cwV 2 hts (gdV k_13_99 k_13_101 ks_169 k_1_9 k_13_102) rfl rfl rfl (by decide +kernel) ⟨Nat.le_of_ble_eq_true rfl, Nat.le_of_ble_eq_true rfl⟩) (zPV X hZ hS (ci := 14) (by decide) (by decide) (r := (RX14, TX14, 107)) rfl [.int (iI l9), .int (iI l13)]) rfl rfl hl.1 rfl (lv_room (Nat.le_of_ble_eq_true rfl)) (D_182 W_prog_15_method_154_code_192 25 rfl rfl rfl) ⟨Nat.le_of_ble_eq_true rfl, Nat.le_of_ble_eq_true rfl⟩) hS (fun q _ h => zAin X hS q h) (zAin X hS) (fun p42 u42 t42 H42 locs42 ht42 hv42 hw42 hB42 hz42 hk42 hS42 => ?_)
  have hZ42 := zBack X ht42 hB42
  subst hw42
  refine lv_istore (lv' := [(14, .int (iI r42)), (13, .int (iI l13)), (11, .long (lI l11)), (10, .int (iI l10)), (9, .int (iI l9)), (0, .ref (ad 14 0 0)), (2, .int (iI l2)), (3, .int (iI l3))]) hx hb (D_54 W_prog_15_method_154_code_192 28 rfl rfl) hl (by decide) rfl (fun ls hl => ?_)
  refine lv_lload hx hb (D_22 W_prog_15_method_154_code_192 30 rfl rfl) (lv_at hl 2 rfl) ?_
  refine lv_lconst (v := lI 1) hx hb (D_10 W_prog_15_method_154_code_224 0 rfl rfl) (by decide) ?_
  refine zladd hx hb (D_97 W_prog_15_method_154_code_224 1 rfl rfl) ?_
  refine lv_lstore (lv' := [(15, .long (lI (l11 + 1))), (14, .int (iI r42)), (13, .int (iI l13)), (11, .long (lI l11)), (10, .int (iI l10)), (9, .int (iI l9)), (0, .ref (ad 14 0 0)), (2, .int (iI l2)), (3, .int (iI l3))]) hx hb (D_55 W_prog_15_method_154_code_224 2 rfl rfl) hl (by decide) rfl (fun ls hl => ?_)
  refine lv_iload hx hb (D_21 W_prog_15_method_154_code_224 4 rfl rfl) (lv_at hl 5 rfl) ?_
  refine lv_istore (lv' := [(17, .int (iI l9)), (15, .long (lI (l11 + 1))), (14, .int (iI r42)), (13, .int (iI l13)), (11, .long (lI l11)), (10, .int (iI l10)), (9, .int (iI l9)), (0, .ref (ad 14 0 0)), (2, .int (iI l2)), (3, .int (iI l3))]) hx hb (D_54 W_prog_15_method_154_code_224 6 rfl rfl) hl (by decide) rfl (fun ls hl => ?_)
  exact b_M_trackEvents_232 X hrec136 hf hZ42 hS42 (lv_sub hl [0, 1, 2, 3, 4, 5, 7, 8, 9] rfl)

def f_M_trackEvents_192 (rec136 : Int → Int → Int → Int → Int → zF → zB → zO) (K : Nat) (l13 : Int) (l11 : Int) (l10 : Int) (l9 : Int) (l4 : Int) (l2 : Int) (l3 : Int) (F : zF) (B : zB) : zO := if r64 l11 then if r64 l4 then (if (zcmp l11 l4) ≤ 0 then f_M_trackEvents_212 rec136 K l13 l11 l10 l9 l2 l3 F B else zbind (f_M_downEvent K l2 (l11 - l4) l3 0 F B) (fun r41 F41 B41 => f_M_trackEvents_212 rec136 K l13 l11 l10 l9 l2 l3 F41 B41)) else none else none
set_option maxHeartbeats 4000000 in
set_option maxRecDepth 100000 in
theorem b_M_trackEvents_192 {D : va_G} {ca : Nat → ClassId} {ad : Nat → Int → Nat → Nat} {L : List Nat} {aS vS : Nat → Nat} {A : Nat → Prop} {p : Program} {l : Launch} {e : Env} {s : State} {m : MethodId} {args : Array Value} {below : List Frame} {meth : Method} {c : Code} {K : Nat} {r : Int} {F9 : zF} {B9 : zB} (X : zX D ca L aS vS A p s m args meth c prog_15_method_154_code 18 (Option.some Jvm.ClassFile.FieldType.long) "StaveHouseModel") {rec136 : Int → Int → Int → Int → Int → zF → zB → zO} (hrec136 : ∀ {l10 : Int} {l9 : Int} {l4 : Int} {l2 : Int} {l3 : Int} {F : zF} {B : zB} {H : Heap} {locs : List Loc} {ls : Array Slot}, rec136 l10 l9 l4 l2 l3 F B = some (r, F9, B9) → zH D ca ad lnM nM L F B A H → va_S A s.heap H locs → lv_has ls 18 [(10, .int (iI l10)), (9, .int (iI l9)), (4, .long (lI l4)), (0, .ref (ad 14 0 0)), (2, .int (iI l2)), (3, .int (iI l3))] → W p l e ({ frames := 4, cells := 0, slots := 0, locals := 99 } : Room) s m args below meth c H locs 0 0 (MQ below (Q_M_trackEvents D ca ad L r F9 B9 A) args s 0 0 A) (F0 m 136 ls [])) {l13 : Int} {l11 : Int} {l10 : Int} {l9 : Int} {l4 : Int} {l2 : Int} {l3 : Int} {F : zF} {B : zB} {H : Heap} {locs : List Loc} {ls : Array Slot} (hf : f_M_trackEvents_192 rec136 K l13 l11 l10 l9 l4 l2 l3 F B = some (r, F9, B9)) (hZ : zH D ca ad lnM nM L F B A H) (hS : va_S A s.heap H locs) (hl : lv_has ls 18 [(13, .int (iI l13)), (11, .long (lI l11)), (10, .int (iI l10)), (9, .int (iI l9)), (4, .long (lI l4)), (0, .ref (ad 14 0 0)), (2, .int (iI l2)), (3, .int (iI l3))]) : W p l e ({ frames := 4, cells := 0, slots := 0, locals := 99 } : Room) s m args below meth c H locs 0 0 (MQ below (Q_M_trackEvents D ca ad L r F9 B9 A) args s 0 0 A) (F0 m 192 ls []) := by
  obtain ⟨hx, hb, hr, hml, hown, hts, hlk, hK, hA, hL, hX⟩ := id X
  replace hf : (if r64 l11 then if r64 l4 then (if (zcmp l11 l4) ≤ 0 then f_M_trackEvents_212 rec136 K l13 l11 l10 l9 l2 l3 F B else zbind (f_M_downEvent K l2 (l11 - l4) l3 0 F B) (fun r41 F41 B41 => f_M_trackEvents_212 rec136 K l13 l11 l10 l9 l2 l3 F41 B41)) else none else none) = some (r, F9, B9) := hf
  refine lv_lload hx hb (D_22 W_prog_15_method_154_code_192 0 rfl rfl) (lv_at hl 1 rfl) ?_
  refine lv_lload hx hb (D_22 W_prog_15_method_154_code_192 2 rfl rfl) (lv_at hl 4 rfl) ?_
  obtain ⟨g38, hf⟩ := gif hf
  obtain ⟨g39, hf⟩ := gif hf
  refine zcmp_r hx hb g38 g39 (D_148 W_prog_15_method_154_code_192 4 rfl rfl) ?_
  refine z0le (tgt := 212) hx hb zcmp_32 (D_158 W_prog_15_method_154_code_192 5 rfl rfl rfl) (by decide) (fun h40 => ?_) (fun h40 => ?_)
  · replace hf := gpos hf h40
    exact b_M_trackEvents_212 X hrec136 hf hZ hS (lv_sub hl [0, 1, 2, 3, 5, 6, 7] rfl)
  · replace hf := gneg hf h40
    refine lv_aload_n hx hb (D_42 W_prog_15_method_154_code_192 8 rfl rfl) rfl (lv_at hl 5 rfl) ?_
    refine lv_iload_n hx hb (D_28 W_prog_15_method_154_code_192 9 rfl rfl) rfl (lv_at hl 6 rfl) ?_
    refine lv_lload hx hb (D_22 W_prog_15_method_154_code_192 10 rfl rfl) (lv_at hl 1 rfl) ?_
    refine lv_lload hx hb (D_22 W_prog_15_method_154_code_192 12 rfl rfl) (lv_at hl 4 rfl) ?_
    refine zlsub hx hb (D_101 W_prog_15_method_154_code_192 14 rfl rfl) ?_
    refine lv_iload_n hx hb (D_29 W_prog_15_method_154_code_192 15 rfl rfl) rfl (lv_at hl 7 rfl) ?_
    refine lv_iconst (v := iI 0) hx hb (D_3 W_prog_15_method_154_code_192 16 rfl rfl) rfl ?_
    obtain ⟨r41, F41, B41, hc41, hf⟩ := gbind hf
    refine va_callv (va_runV (As := [.int (iI l2), .long (lI (l11 - l4)), .int (iI l3), .int (iI 0)]) (rest := []) ⟨hx, hb, hml, hown, hts⟩ (c_M_downEvent (l := l) hc41) (cwV 4 hts (gdV k_13_91 k_13_93 ks_167 k_1_9 k_13_94) rfl rfl rfl (by decide +kernel) ⟨Nat.le_of_ble_eq_true rfl, Nat.le_of_ble_eq_true rfl⟩) (zPV X hZ hS (ci := 14) (by decide) (by decide) (r := (RX14, TX14, 107)) rfl [.int (iI l2), .long (lI (l11 - l4)), .int (iI l3), .int (iI 0)]) rfl rfl hl.1 rfl (lv_room (Nat.le_of_ble_eq_true rfl)) (D_182 W_prog_15_method_154_code_192 17 rfl rfl rfl) ⟨Nat.le_of_ble_eq_true rfl, Nat.le_of_ble_eq_true rfl⟩) hS (fun q _ h => zAin X hS q h) (zAin X hS) (fun u41 t41 H41 locs41 ht41 hv41 hw41 hB41 hz41 hk41 hS41 => ?_)
    have hZ41 := zBack X ht41 hB41
    exact b_M_trackEvents_212 X hrec136 hf hZ41 hS41 (lv_sub hl [0, 1, 2, 3, 5, 6, 7] rfl)

def f_M_trackEvents_161 (rec136 : Int → Int → Int → Int → Int → zF → zB → zO) (K : Nat) : Nat → Int → Int → Int → Int → Int → Int → Int → zF → zB → zO
  | 0, _, _, _, _, _, _, _, _, _ => none
  | n + 1, l13, l11, l10, l9, l4, l2, l3, F, B => if r32 l13 then if r32 l10 then (if l10 ≤ l13 then f_M_trackEvents_192 rec136 K l13 l11 l10 l9 l4 l2 l3 F B else if 0 ≤ l13 ∧ l13 < 400 then zbind (f_M_gridPlace K (B 14 0 79 l13) l3 F B) (fun r34 F34 B34 => if r64 r34 then if r64 l11 then (if (zcmp r34 l11) = 0 then f_M_trackEvents_161 rec136 K n (l13 + 1) l11 l10 l9 l4 l2 l3 F34 B34 else f_M_trackEvents_192 rec136 K l13 l11 l10 l9 l4 l2 l3 F34 B34) else none else none) else none) else none else none
set_option maxHeartbeats 4000000 in
set_option maxRecDepth 100000 in
theorem b_M_trackEvents_161 {D : va_G} {ca : Nat → ClassId} {ad : Nat → Int → Nat → Nat} {L : List Nat} {aS vS : Nat → Nat} {A : Nat → Prop} {p : Program} {l : Launch} {e : Env} {s : State} {m : MethodId} {args : Array Value} {below : List Frame} {meth : Method} {c : Code} {K : Nat} {r : Int} {F9 : zF} {B9 : zB} (X : zX D ca L aS vS A p s m args meth c prog_15_method_154_code 18 (Option.some Jvm.ClassFile.FieldType.long) "StaveHouseModel") {rec136 : Int → Int → Int → Int → Int → zF → zB → zO} (hrec136 : ∀ {l10 : Int} {l9 : Int} {l4 : Int} {l2 : Int} {l3 : Int} {F : zF} {B : zB} {H : Heap} {locs : List Loc} {ls : Array Slot}, rec136 l10 l9 l4 l2 l3 F B = some (r, F9, B9) → zH D ca ad lnM nM L F B A H → va_S A s.heap H locs → lv_has ls 18 [(10, .int (iI l10)), (9, .int (iI l9)), (4, .long (lI l4)), (0, .ref (ad 14 0 0)), (2, .int (iI l2)), (3, .int (iI l3))] → W p l e ({ frames := 4, cells := 0, slots := 0, locals := 99 } : Room) s m args below meth c H locs 0 0 (MQ below (Q_M_trackEvents D ca ad L r F9 B9 A) args s 0 0 A) (F0 m 136 ls [])) : ∀ {n : Nat} {l13 : Int} {l11 : Int} {l10 : Int} {l9 : Int} {l4 : Int} {l2 : Int} {l3 : Int} {F : zF} {B : zB} {H : Heap} {locs : List Loc} {ls : Array Slot}, f_M_trackEvents_161 rec136 K n l13 l11 l10 l9 l4 l2 l3 F B = some (r, F9, B9) → zH D ca ad lnM nM L F B A H → va_S A s.heap H locs → lv_has ls 18 [(13, .int (iI l13)), (11, .long (lI l11)), (10, .int (iI l10)), (9, .int (iI l9)), (4, .long (lI l4)), (0, .ref (ad 14 0 0)), (2, .int (iI l2)), (3, .int (iI l3))] → W p l e ({ frames := 4, cells := 0, slots := 0, locals := 99 } : Room) s m args below meth c H locs 0 0 (MQ below (Q_M_trackEvents D ca ad L r F9 B9 A) args s 0 0 A) (F0 m 161 ls []) := by
  obtain ⟨hx, hb, hr, hml, hown, hts, hlk, hK, hA, hL, hX⟩ := id X
  intro n
  induction n with
  | zero =>
    intros
    rename_i hf _ _ _
    cases hf
  | succ n ih =>
    intro l13 l11 l10 l9 l4 l2 l3 F B H locs ls hf hZ hS hl
    replace hf : (if r32 l13 then if r32 l10 then (if l10 ≤ l13 then f_M_trackEvents_192 rec136 K l13 l11 l10 l9 l4 l2 l3 F B else if 0 ≤ l13 ∧ l13 < 400 then zbind (f_M_gridPlace K (B 14 0 79 l13) l3 F B) (fun r34 F34 B34 => if r64 r34 then if r64 l11 then (if (zcmp r34 l11) = 0 then f_M_trackEvents_161 rec136 K n (l13 + 1) l11 l10 l9 l4 l2 l3 F34 B34 else f_M_trackEvents_192 rec136 K l13 l11 l10 l9 l4 l2 l3 F34 B34) else none else none) else none) else none else none) = some (r, F9, B9) := hf
    refine lv_iload hx hb (D_21 W_prog_15_method_154_code_160 1 rfl rfl) (lv_at hl 0 rfl) ?_
    refine lv_iload hx hb (D_21 W_prog_15_method_154_code_160 3 rfl rfl) (lv_at hl 2 rfl) ?_
    obtain ⟨g29, hf⟩ := gif hf
    obtain ⟨g30, hf⟩ := gif hf
    refine zge (tgt := 192) hx hb g29 g30 (D_162 W_prog_15_method_154_code_160 5 rfl rfl rfl) (by decide) (fun h31 => ?_) (fun h31 => ?_)
    · replace hf := gpos hf h31
      exact b_M_trackEvents_192 X hrec136 hf hZ hS (lv_sub hl [0, 1, 2, 3, 4, 5, 6, 7] rfl)
    · replace hf := gneg hf h31
      refine lv_aload_n hx hb (D_42 W_prog_15_method_154_code_160 8 rfl rfl) rfl (lv_at hl 5 rfl) ?_
      refine lv_aload_n hx hb (D_42 W_prog_15_method_154_code_160 9 rfl rfl) rfl (lv_at hl 5 rfl) ?_
      refine zget (ci := 14) (C := RX14) (T := TX14) (v := .ref (ad 14 0 (79 + 1))) (k := 79) hx hb hts inW_14 hown hK hZ (by decide) (by decide) rfl (by decide) k_11_77 rfl (D_180 W_prog_15_method_154_code_160 10 rfl rfl rfl) ?_
      refine lv_iload hx hb (D_21 W_prog_15_method_154_code_160 13 rfl rfl) (lv_at hl 0 rfl) ?_
      obtain ⟨g33, hf⟩ := gif hf
      refine zlald (ci := 14) (k := 79) hx hb hK rfl hZ (by decide) (by decide) rfl (Nat.le_of_ble_eq_true rfl) g33.1 g33.2 (D_47 W_prog_15_method_154_code_160 15 rfl rfl) ?_
      refine lv_iload_n hx hb (D_29 W_prog_15_method_154_code_160 16 rfl rfl) rfl (lv_at hl 7 rfl) ?_
      obtain ⟨r34, F34, B34, hc34, hf⟩ := gbind hf
      refine va_calll (va_runV (As := [.long (lI (B 14 0 79 l13)), .int (iI l3)]) (rest := []) ⟨hx, hb, hml, hown, hts⟩ (c_M_gridPlace (l := l) hc34) (cwV 2 hts (gdV k_13_85 k_13_87 ks_166 k_1_9 k_13_88) rfl rfl rfl (by decide +kernel) ⟨Nat.le_of_ble_eq_true rfl, Nat.le_of_ble_eq_true rfl⟩) (zPV X hZ hS (ci := 14) (by decide) (by decide) (r := (RX14, TX14, 107)) rfl [.long (lI (B 14 0 79 l13)), .int (iI l3)]) rfl rfl hl.1 rfl (lv_room (Nat.le_of_ble_eq_true rfl)) (D_182 W_prog_15_method_154_code_160 17 rfl rfl rfl) ⟨Nat.le_of_ble_eq_true rfl, Nat.le_of_ble_eq_true rfl⟩) hS (fun q _ h => zAin X hS q h) (zAin X hS) (fun p34 u34 t34 H34 locs34 ht34 hv34 hw34 hB34 hz34 hk34 hS34 => ?_)
      have hZ34 := zBack X ht34 hB34
      subst hw34
      refine lv_lload hx hb (D_22 W_prog_15_method_154_code_160 20 rfl rfl) (lv_at hl 1 rfl) ?_
      obtain ⟨g35, hf⟩ := gif hf
      obtain ⟨g36, hf⟩ := gif hf
      refine zcmp_r hx hb g35 g36 (D_148 W_prog_15_method_154_code_160 22 rfl rfl) ?_
      refine z0ne (tgt := 192) hx hb zcmp_32 (D_154 W_prog_15_method_154_code_160 23 rfl rfl rfl) (by decide) (fun h37 => ?_) (fun h37 => ?_)
      · replace hf := gneg hf h37
        exact b_M_trackEvents_192 X hrec136 hf hZ34 hS34 (lv_sub hl [0, 1, 2, 3, 4, 5, 6, 7] rfl)
      · replace hf := gpos hf h37
        refine lv_iinc (v := iI (l13 + 1)) (lv' := [(13, .int (iI (l13 + 1))), (11, .long (lI l11)), (10, .int (iI l10)), (9, .int (iI l9)), (4, .long (lI l4)), (0, .ref (ad 14 0 0)), (2, .int (iI l2)), (3, .int (iI l3))]) hx hb d_15_154_186 hl (k := 0) rfl (iI_add _ 1) (by decide) rfl (fun ls hl => ?_)
        refine lv_goto (tgt := 161) hx hb (D_167 W_prog_15_method_154_code_160 29 rfl rfl rfl) (by decide) ?_
        exact ih hf hZ34 hS34 (lv_sub hl [0, 1, 2, 3, 4, 5, 6, 7] rfl)

def f_M_trackEvents_136 (K : Nat) : Nat → Int → Int → Int → Int → Int → zF → zB → zO
  | 0, _, _, _, _, _, _, _ => none
  | n + 1, l10, l9, l4, l2, l3, F, B => if r32 l9 then if r32 l10 then (if l10 ≤ l9 then some (l4, F, B) else if 0 ≤ l9 ∧ l9 < 400 then zbind (f_M_gridPlace K (B 14 0 79 l9) l3 F B) (fun r28 F28 B28 => f_M_trackEvents_161 (f_M_trackEvents_136 K n) K K l9 r28 l10 l9 l4 l2 l3 F28 B28) else none) else none else none
set_option maxHeartbeats 4000000 in
set_option maxRecDepth 100000 in
theorem b_M_trackEvents_136 {D : va_G} {ca : Nat → ClassId} {ad : Nat → Int → Nat → Nat} {L : List Nat} {aS vS : Nat → Nat} {A : Nat → Prop} {p : Program} {l : Launch} {e : Env} {s : State} {m : MethodId} {args : Array Value} {below : List Frame} {meth : Method} {c : Code} {K : Nat} {r : Int} {F9 : zF} {B9 : zB} (X : zX D ca L aS vS A p s m args meth c prog_15_method_154_code 18 (Option.some Jvm.ClassFile.FieldType.long) "StaveHouseModel") : ∀ {n : Nat} {l10 : Int} {l9 : Int} {l4 : Int} {l2 : Int} {l3 : Int} {F : zF} {B : zB} {H : Heap} {locs : List Loc} {ls : Array Slot}, f_M_trackEvents_136 K n l10 l9 l4 l2 l3 F B = some (r, F9, B9) → zH D ca ad lnM nM L F B A H → va_S A s.heap H locs → lv_has ls 18 [(10, .int (iI l10)), (9, .int (iI l9)), (4, .long (lI l4)), (0, .ref (ad 14 0 0)), (2, .int (iI l2)), (3, .int (iI l3))] → W p l e ({ frames := 4, cells := 0, slots := 0, locals := 99 } : Room) s m args below meth c H locs 0 0 (MQ below (Q_M_trackEvents D ca ad L r F9 B9 A) args s 0 0 A) (F0 m 136 ls []) := by
  obtain ⟨hx, hb, hr, hml, hown, hts, hlk, hK, hA, hL, hX⟩ := id X
  intro n
  induction n with
  | zero =>
    intros
    rename_i hf _ _ _
    cases hf
  | succ n ih =>
    intro l10 l9 l4 l2 l3 F B H locs ls hf hZ hS hl
    replace hf : (if r32 l9 then if r32 l10 then (if l10 ≤ l9 then some (l4, F, B) else if 0 ≤ l9 ∧ l9 < 400 then zbind (f_M_gridPlace K (B 14 0 79 l9) l3 F B) (fun r28 F28 B28 => f_M_trackEvents_161 (f_M_trackEvents_136 K n) K K l9 r28 l10 l9 l4 l2 l3 F28 B28) else none) else none else none) = some (r, F9, B9) := hf
    refine lv_iload hx hb (D_21 W_prog_15_method_154_code_128 8 rfl rfl) (lv_at hl 1 rfl) ?_
    refine lv_iload hx hb (D_21 W_prog_15_method_154_code_128 10 rfl rfl) (lv_at hl 0 rfl) ?_
    obtain ⟨g24, hf⟩ := gif hf
    obtain ⟨g25, hf⟩ := gif hf
    refine zge (tgt := 340) hx hb g24 g25 (D_162 W_prog_15_method_154_code_128 12 rfl rfl rfl) (by decide) (fun h26 => ?_) (fun h26 => ?_)
    · replace hf := gpos hf h26
      refine lv_lload hx hb (D_22 W_prog_15_method_154_code_320 20 rfl rfl) (lv_at hl 2 rfl) ?_
      cases hf
      exact W.lret hx hb hr (fun t ht hW => ⟨⟨_, (), rfl, rfl, by rw [ht]; exact hZ, va_K.moved hW.alike hK⟩, hS.F ht⟩) hS.2.2 (D_173 W_prog_15_method_154_code_320 22 rfl rfl) hlk
    · replace hf := gneg hf h26
      refine lv_aload_n hx hb (D_42 W_prog_15_method_154_code_128 15 rfl rfl) rfl (lv_at hl 3 rfl) ?_
      refine lv_aload_n hx hb (D_42 W_prog_15_method_154_code_128 16 rfl rfl) rfl (lv_at hl 3 rfl) ?_
      refine zget (ci := 14) (C := RX14) (T := TX14) (v := .ref (ad 14 0 (79 + 1))) (k := 79) hx hb hts inW_14 hown hK hZ (by decide) (by decide) rfl (by decide) k_11_77 rfl (D_180 W_prog_15_method_154_code_128 17 rfl rfl rfl) ?_
      refine lv_iload hx hb (D_21 W_prog_15_method_154_code_128 20 rfl rfl) (lv_at hl 1 rfl) ?_
      obtain ⟨g27, hf⟩ := gif hf
      refine zlald (ci := 14) (k := 79) hx hb hK rfl hZ (by decide) (by decide) rfl (Nat.le_of_ble_eq_true rfl) g27.1 g27.2 (D_47 W_prog_15_method_154_code_128 22 rfl rfl) ?_
      refine lv_iload_n hx hb (D_29 W_prog_15_method_154_code_128 23 rfl rfl) rfl (lv_at hl 5 rfl) ?_
      obtain ⟨r28, F28, B28, hc28, hf⟩ := gbind hf
      refine va_calll (va_runV (As := [.long (lI (B 14 0 79 l9)), .int (iI l3)]) (rest := []) ⟨hx, hb, hml, hown, hts⟩ (c_M_gridPlace (l := l) hc28) (cwV 2 hts (gdV k_13_85 k_13_87 ks_166 k_1_9 k_13_88) rfl rfl rfl (by decide +kernel) ⟨Nat.le_of_ble_eq_true rfl, Nat.le_of_ble_eq_true rfl⟩) (zPV X hZ hS (ci := 14) (by decide) (by decide) (r := (RX14, TX14, 107)) rfl [.long (lI (B 14 0 79 l9)), .int (iI l3)]) rfl rfl hl.1 rfl (lv_room (Nat.le_of_ble_eq_true rfl)) (D_182 W_prog_15_method_154_code_128 24 rfl rfl rfl) ⟨Nat.le_of_ble_eq_true rfl, Nat.le_of_ble_eq_true rfl⟩) hS (fun q _ h => zAin X hS q h) (zAin X hS) (fun p28 u28 t28 H28 locs28 ht28 hv28 hw28 hB28 hz28 hk28 hS28 => ?_)
      have hZ28 := zBack X ht28 hB28
      subst hw28
      refine lv_lstore (lv' := [(11, .long (lI r28)), (10, .int (iI l10)), (9, .int (iI l9)), (4, .long (lI l4)), (0, .ref (ad 14 0 0)), (2, .int (iI l2)), (3, .int (iI l3))]) hx hb (D_55 W_prog_15_method_154_code_128 27 rfl rfl) hl (by decide) rfl (fun ls hl => ?_)
      refine lv_iload hx hb (D_21 W_prog_15_method_154_code_128 29 rfl rfl) (lv_at hl 2 rfl) ?_
      refine lv_istore (lv' := [(13, .int (iI l9)), (11, .long (lI r28)), (10, .int (iI l10)), (9, .int (iI l9)), (4, .long (lI l4)), (0, .ref (ad 14 0 0)), (2, .int (iI l2)), (3, .int (iI l3))]) hx hb (D_54 W_prog_15_method_154_code_128 31 rfl rfl) hl (by decide) rfl (fun ls hl => ?_)
      exact b_M_trackEvents_161 X ih hf hZ28 hS28 (lv_sub hl [0, 1, 2, 3, 4, 5, 6, 7] rfl)

def f_M_trackEvents_112 (K : Nat) : Nat → Int → Int → Int → Int → Int → Int → zF → zB → zO
  | 0, _, _, _, _, _, _, _, _ => none
  | n + 1, l9, l8, l4, l1, l2, l3, F, B => if 0 ≤ l9 ∧ l9 < 400 then if r32 (B 14 0 75 l9) then if r32 l1 then (if (B 14 0 75 l9) = l1 then f_M_trackEvents_136 K K (l9 + l8) l9 l4 l2 l3 F B else f_M_trackEvents_112 K n (l9 + 1) l8 l4 l1 l2 l3 F B) else none else none else none
set_option maxHeartbeats 4000000 in
set_option maxRecDepth 100000 in
theorem b_M_trackEvents_112 {D : va_G} {ca : Nat → ClassId} {ad : Nat → Int → Nat → Nat} {L : List Nat} {aS vS : Nat → Nat} {A : Nat → Prop} {p : Program} {l : Launch} {e : Env} {s : State} {m : MethodId} {args : Array Value} {below : List Frame} {meth : Method} {c : Code} {K : Nat} {r : Int} {F9 : zF} {B9 : zB} (X : zX D ca L aS vS A p s m args meth c prog_15_method_154_code 18 (Option.some Jvm.ClassFile.FieldType.long) "StaveHouseModel") : ∀ {n : Nat} {l9 : Int} {l8 : Int} {l4 : Int} {l1 : Int} {l2 : Int} {l3 : Int} {F : zF} {B : zB} {H : Heap} {locs : List Loc} {ls : Array Slot}, f_M_trackEvents_112 K n l9 l8 l4 l1 l2 l3 F B = some (r, F9, B9) → zH D ca ad lnM nM L F B A H → va_S A s.heap H locs → lv_has ls 18 [(9, .int (iI l9)), (8, .int (iI l8)), (4, .long (lI l4)), (0, .ref (ad 14 0 0)), (1, .int (iI l1)), (2, .int (iI l2)), (3, .int (iI l3))] → W p l e ({ frames := 4, cells := 0, slots := 0, locals := 99 } : Room) s m args below meth c H locs 0 0 (MQ below (Q_M_trackEvents D ca ad L r F9 B9 A) args s 0 0 A) (F0 m 112 ls []) := by
  obtain ⟨hx, hb, hr, hml, hown, hts, hlk, hK, hA, hL, hX⟩ := id X
  intro n
  induction n with
  | zero =>
    intros
    rename_i hf _ _ _
    cases hf
  | succ n ih =>
    intro l9 l8 l4 l1 l2 l3 F B H locs ls hf hZ hS hl
    replace hf : (if 0 ≤ l9 ∧ l9 < 400 then if r32 (B 14 0 75 l9) then if r32 l1 then (if (B 14 0 75 l9) = l1 then f_M_trackEvents_136 K K (l9 + l8) l9 l4 l2 l3 F B else f_M_trackEvents_112 K n (l9 + 1) l8 l4 l1 l2 l3 F B) else none else none else none) = some (r, F9, B9) := hf
    refine lv_aload_n hx hb (D_42 W_prog_15_method_154_code_96 16 rfl rfl) rfl (lv_at hl 3 rfl) ?_
    refine zget (ci := 14) (C := RX14) (T := TX14) (v := .ref (ad 14 0 (75 + 1))) (k := 75) hx hb hts inW_14 hown hK hZ (by decide) (by decide) rfl (by decide) k_11_73 rfl (D_180 W_prog_15_method_154_code_96 17 rfl rfl rfl) ?_
    refine lv_iload hx hb (D_21 W_prog_15_method_154_code_96 20 rfl rfl) (lv_at hl 0 rfl) ?_
    obtain ⟨g20, hf⟩ := gif hf
    refine zald (ci := 14) (k := 75) hx hb hK rfl hZ (by decide) (by decide) rfl (Nat.le_of_ble_eq_true rfl) g20.1 g20.2 (D_46 W_prog_15_method_154_code_96 22 rfl rfl) ?_
    refine lv_iload_n hx hb (D_27 W_prog_15_method_154_code_96 23 rfl rfl) rfl (lv_at hl 4 rfl) ?_
    obtain ⟨g21, hf⟩ := gif hf
    obtain ⟨g22, hf⟩ := gif hf
    refine zeq (tgt := 129) hx hb g21 g22 (D_159 W_prog_15_method_154_code_96 24 rfl rfl rfl) (by decide) (fun h23 => ?_) (fun h23 => ?_)
    · replace hf := gpos hf h23
      refine lv_iload hx hb (D_21 W_prog_15_method_154_code_128 1 rfl rfl) (lv_at hl 0 rfl) ?_
      refine lv_iload hx hb (D_21 W_prog_15_method_154_code_128 3 rfl rfl) (lv_at hl 1 rfl) ?_
      refine zadd hx hb (D_96 W_prog_15_method_154_code_128 5 rfl rfl) ?_
      refine lv_istore (lv' := [(10, .int (iI (l9 + l8))), (9, .int (iI l9)), (8, .int (iI l8)), (4, .long (lI l4)), (0, .ref (ad 14 0 0)), (1, .int (iI l1)), (2, .int (iI l2)), (3, .int (iI l3))]) hx hb (D_54 W_prog_15_method_154_code_128 6 rfl rfl) hl (by decide) rfl (fun ls hl => ?_)
      exact b_M_trackEvents_136 X hf hZ hS (lv_sub hl [0, 1, 3, 4, 6, 7] rfl)
    · replace hf := gneg hf h23
      refine lv_iinc (v := iI (l9 + 1)) (lv' := [(9, .int (iI (l9 + 1))), (8, .int (iI l8)), (4, .long (lI l4)), (0, .ref (ad 14 0 0)), (1, .int (iI l1)), (2, .int (iI l2)), (3, .int (iI l3))]) hx hb d_15_154_123 hl (k := 0) rfl (iI_add _ 1) (by decide) rfl (fun ls hl => ?_)
      refine lv_goto (tgt := 112) hx hb (D_167 W_prog_15_method_154_code_96 30 rfl rfl rfl) (by decide) ?_
      exact ih hf hZ hS (lv_sub hl [0, 1, 2, 3, 4, 5, 6] rfl)

def f_M_trackEvents_108 (K : Nat) (l8 : Int) (l4 : Int) (l1 : Int) (l2 : Int) (l3 : Int) (s0 : Int) (s1 : Int) (s2 : Int) (F : zF) (B : zB) : zO := if 0 ≤ s0 ∧ s0 < 3 then if 0 ≤ s1 ∧ s1 < 4 then f_M_trackEvents_112 K K 0 l8 l4 l1 l2 l3 F (zup4 B 13 s0 8 s1 s2) else none else none
set_option maxHeartbeats 4000000 in
set_option maxRecDepth 100000 in
theorem b_M_trackEvents_108 {D : va_G} {ca : Nat → ClassId} {ad : Nat → Int → Nat → Nat} {L : List Nat} {aS vS : Nat → Nat} {A : Nat → Prop} {p : Program} {l : Launch} {e : Env} {s : State} {m : MethodId} {args : Array Value} {below : List Frame} {meth : Method} {c : Code} {K : Nat} {r : Int} {F9 : zF} {B9 : zB} (X : zX D ca L aS vS A p s m args meth c prog_15_method_154_code 18 (Option.some Jvm.ClassFile.FieldType.long) "StaveHouseModel") {l8 : Int} {l4 : Int} {l1 : Int} {l2 : Int} {l3 : Int} {s0 : Int} {s1 : Int} {s2 : Int} {F : zF} {B : zB} {H : Heap} {locs : List Loc} {ls : Array Slot} (hf : f_M_trackEvents_108 K l8 l4 l1 l2 l3 s0 s1 s2 F B = some (r, F9, B9)) (hZ : zH D ca ad lnM nM L F B A H) (hS : va_S A s.heap H locs) (hl : lv_has ls 18 [(8, .int (iI l8)), (4, .long (lI l4)), (0, .ref (ad 14 0 0)), (1, .int (iI l1)), (2, .int (iI l2)), (3, .int (iI l3))]) : W p l e ({ frames := 4, cells := 0, slots := 0, locals := 99 } : Room) s m args below meth c H locs 0 0 (MQ below (Q_M_trackEvents D ca ad L r F9 B9 A) args s 0 0 A) (F0 m 108 ls [.int (iI s2), .int (iI s1), .ref (ad 13 s0 (8 + 1))]) := by
  obtain ⟨hx, hb, hr, hml, hown, hts, hlk, hK, hA, hL, hX⟩ := id X
  replace hf : (if 0 ≤ s0 ∧ s0 < 3 then if 0 ≤ s1 ∧ s1 < 4 then f_M_trackEvents_112 K K 0 l8 l4 l1 l2 l3 F (zup4 B 13 s0 8 s1 s2) else none else none) = some (r, F9, B9) := hf
  obtain ⟨g17, hf⟩ := gif hf
  obtain ⟨g18, hf⟩ := gif hf
  refine zast (ci := 13) (k := 8) hx hb hK rfl hZ hS g17.1 g17.2 rfl (Nat.le_of_ble_eq_true rfl) g18.1 g18.2 (D_79 W_prog_15_method_154_code_96 12 rfl rfl) (fun H19 locs19 hZ19 hS19 => ?_)
  refine lv_iconst (v := iI 0) hx hb (D_3 W_prog_15_method_154_code_96 13 rfl rfl) rfl ?_
  refine lv_istore (lv' := [(9, .int (iI 0)), (8, .int (iI l8)), (4, .long (lI l4)), (0, .ref (ad 14 0 0)), (1, .int (iI l1)), (2, .int (iI l2)), (3, .int (iI l3))]) hx hb (D_54 W_prog_15_method_154_code_96 14 rfl rfl) hl (by decide) rfl (fun ls hl => ?_)
  exact b_M_trackEvents_112 X hf hZ19 hS19 (lv_sub hl [0, 1, 2, 3, 4, 5, 6] rfl)

def f_M_trackEvents_82 (rec37 : Int → Int → Int → Int → Int → Int → Int → zF → zB → zO) (K : Nat) (l8 : Int) (l6 : Int) (l9 : Int) (l4 : Int) (l1 : Int) (l2 : Int) (l3 : Int) (F : zF) (B : zB) : zO := rec37 (l9 + 1) l8 l6 l4 l1 l2 l3 F B
set_option maxHeartbeats 4000000 in
set_option maxRecDepth 100000 in
theorem b_M_trackEvents_82 {D : va_G} {ca : Nat → ClassId} {ad : Nat → Int → Nat → Nat} {L : List Nat} {aS vS : Nat → Nat} {A : Nat → Prop} {p : Program} {l : Launch} {e : Env} {s : State} {m : MethodId} {args : Array Value} {below : List Frame} {meth : Method} {c : Code} {K : Nat} {r : Int} {F9 : zF} {B9 : zB} (X : zX D ca L aS vS A p s m args meth c prog_15_method_154_code 18 (Option.some Jvm.ClassFile.FieldType.long) "StaveHouseModel") {rec37 : Int → Int → Int → Int → Int → Int → Int → zF → zB → zO} (hrec37 : ∀ {l9 : Int} {l8 : Int} {l6 : Int} {l4 : Int} {l1 : Int} {l2 : Int} {l3 : Int} {F : zF} {B : zB} {H : Heap} {locs : List Loc} {ls : Array Slot}, rec37 l9 l8 l6 l4 l1 l2 l3 F B = some (r, F9, B9) → zH D ca ad lnM nM L F B A H → va_S A s.heap H locs → lv_has ls 18 [(9, .int (iI l9)), (8, .int (iI l8)), (6, .long (lI l6)), (4, .long (lI l4)), (0, .ref (ad 14 0 0)), (1, .int (iI l1)), (2, .int (iI l2)), (3, .int (iI l3))] → W p l e ({ frames := 4, cells := 0, slots := 0, locals := 99 } : Room) s m args below meth c H locs 0 0 (MQ below (Q_M_trackEvents D ca ad L r F9 B9 A) args s 0 0 A) (F0 m 37 ls [])) {l8 : Int} {l6 : Int} {l9 : Int} {l4 : Int} {l1 : Int} {l2 : Int} {l3 : Int} {F : zF} {B : zB} {H : Heap} {locs : List Loc} {ls : Array Slot} (hf : f_M_trackEvents_82 rec37 K l8 l6 l9 l4 l1 l2 l3 F B = some (r, F9, B9)) (hZ : zH D ca ad lnM nM L F B A H) (hS : va_S A s.heap H locs) (hl : lv_has ls 18 [(8, .int (iI l8)), (6, .long (lI l6)), (9, .int (iI l9)), (4, .long (lI l4)), (0, .ref (ad 14 0 0)), (1, .int (iI l1)), (2, .int (iI l2)), (3, .int (iI l3))]) : W p l e ({ frames := 4, cells := 0, slots := 0, locals := 99 } : Room) s m args below meth c H locs 0 0 (MQ below (Q_M_trackEvents D ca ad L r F9 B9 A) args s 0 0 A) (F0 m 82 ls []) := by
  obtain ⟨hx, hb, hr, hml, hown, hts, hlk, hK, hA, hL, hX⟩ := id X
  replace hf : (rec37 (l9 + 1) l8 l6 l4 l1 l2 l3 F B) = some (r, F9, B9) := hf
  refine lv_iinc (v := iI (l9 + 1)) (lv' := [(9, .int (iI (l9 + 1))), (8, .int (iI l8)), (6, .long (lI l6)), (4, .long (lI l4)), (0, .ref (ad 14 0 0)), (1, .int (iI l1)), (2, .int (iI l2)), (3, .int (iI l3))]) hx hb d_15_154_82 hl (k := 2) rfl (iI_add _ 1) (by decide) rfl (fun ls hl => ?_)
  refine lv_goto (tgt := 37) hx hb (D_167 W_prog_15_method_154_code_64 21 rfl rfl rfl) (by decide) ?_
  exact hrec37 hf hZ hS (lv_sub hl [0, 1, 2, 3, 4, 5, 6, 7] rfl)

def f_M_trackEvents_37 (K : Nat) : Nat → Int → Int → Int → Int → Int → Int → Int → zF → zB → zO
  | 0, _, _, _, _, _, _, _, _, _ => none
  | n + 1, l9, l8, l6, l4, l1, l2, l3, F, B => if r32 l9 then if r32 (B 14 0 73 7) then (if (B 14 0 73 7) ≤ l9 then if 0 ≤ (F 14 0 6) ∧ (F 14 0 6) < 3 then if r64 l6 then (if (zcmp l6 0) < 0 then f_M_trackEvents_108 K l8 l4 l1 l2 l3 (F 14 0 6) l2 1 F B else f_M_trackEvents_108 K l8 l4 l1 l2 l3 (F 14 0 6) l2 0 F B) else none else none else if 0 ≤ l9 ∧ l9 < 400 then if r32 (B 14 0 75 l9) then if r32 l1 then (if (B 14 0 75 l9) = l1 then if r32 ((B 14 0 77 l9) - 60) then f_M_trackEvents_82 (f_M_trackEvents_37 K n) K (l8 + 1) (l6 + ((B 14 0 77 l9) - 60)) l9 l4 l1 l2 l3 F B else none else f_M_trackEvents_82 (f_M_trackEvents_37 K n) K l8 l6 l9 l4 l1 l2 l3 F B) else none else none else none) else none else none
set_option maxHeartbeats 4000000 in
set_option maxRecDepth 100000 in
theorem b_M_trackEvents_37 {D : va_G} {ca : Nat → ClassId} {ad : Nat → Int → Nat → Nat} {L : List Nat} {aS vS : Nat → Nat} {A : Nat → Prop} {p : Program} {l : Launch} {e : Env} {s : State} {m : MethodId} {args : Array Value} {below : List Frame} {meth : Method} {c : Code} {K : Nat} {r : Int} {F9 : zF} {B9 : zB} (X : zX D ca L aS vS A p s m args meth c prog_15_method_154_code 18 (Option.some Jvm.ClassFile.FieldType.long) "StaveHouseModel") : ∀ {n : Nat} {l9 : Int} {l8 : Int} {l6 : Int} {l4 : Int} {l1 : Int} {l2 : Int} {l3 : Int} {F : zF} {B : zB} {H : Heap} {locs : List Loc} {ls : Array Slot}, f_M_trackEvents_37 K n l9 l8 l6 l4 l1 l2 l3 F B = some (r, F9, B9) → zH D ca ad lnM nM L F B A H → va_S A s.heap H locs → lv_has ls 18 [(9, .int (iI l9)), (8, .int (iI l8)), (6, .long (lI l6)), (4, .long (lI l4)), (0, .ref (ad 14 0 0)), (1, .int (iI l1)), (2, .int (iI l2)), (3, .int (iI l3))] → W p l e ({ frames := 4, cells := 0, slots := 0, locals := 99 } : Room) s m args below meth c H locs 0 0 (MQ below (Q_M_trackEvents D ca ad L r F9 B9 A) args s 0 0 A) (F0 m 37 ls []) := by
  obtain ⟨hx, hb, hr, hml, hown, hts, hlk, hK, hA, hL, hX⟩ := id X
  intro n
  induction n with
  | zero =>
    intros
    rename_i hf _ _ _
    cases hf
  | succ n ih =>
    intro l9 l8 l6 l4 l1 l2 l3 F B H locs ls hf hZ hS hl
    replace hf : (if r32 l9 then if r32 (B 14 0 73 7) then (if (B 14 0 73 7) ≤ l9 then if 0 ≤ (F 14 0 6) ∧ (F 14 0 6) < 3 then if r64 l6 then (if (zcmp l6 0) < 0 then f_M_trackEvents_108 K l8 l4 l1 l2 l3 (F 14 0 6) l2 1 F B else f_M_trackEvents_108 K l8 l4 l1 l2 l3 (F 14 0 6) l2 0 F B) else none else none else if 0 ≤ l9 ∧ l9 < 400 then if r32 (B 14 0 75 l9) then if r32 l1 then (if (B 14 0 75 l9) = l1 then if r32 ((B 14 0 77 l9) - 60) then f_M_trackEvents_82 (f_M_trackEvents_37 K n) K (l8 + 1) (l6 + ((B 14 0 77 l9) - 60)) l9 l4 l1 l2 l3 F B else none else f_M_trackEvents_82 (f_M_trackEvents_37 K n) K l8 l6 l9 l4 l1 l2 l3 F B) else none else none else none) else none else none) = some (r, F9, B9) := hf
    refine lv_iload hx hb (D_21 W_prog_15_method_154_code_32 5 rfl rfl) (lv_at hl 0 rfl) ?_
    refine lv_aload_n hx hb (D_42 W_prog_15_method_154_code_32 7 rfl rfl) rfl (lv_at hl 4 rfl) ?_
    refine zget (ci := 14) (C := RX14) (T := TX14) (v := .ref (ad 14 0 (73 + 1))) (k := 73) hx hb hts inW_14 hown hK hZ (by decide) (by decide) rfl (by decide) k_11_71 rfl (D_180 W_prog_15_method_154_code_32 8 rfl rfl rfl) ?_
    refine lv_bipush (v := iI 7) hx hb (D_16 W_prog_15_method_154_code_32 11 rfl rfl rfl) (by decide) ?_
    refine zald (ci := 14) (k := 73) hx hb hK rfl hZ (by decide) (by decide) rfl (Nat.le_of_ble_eq_true rfl) (by decide) (by decide) (D_46 W_prog_15_method_154_code_32 13 rfl rfl) ?_
    obtain ⟨g6, hf⟩ := gif hf
    obtain ⟨g7, hf⟩ := gif hf
    refine zge (tgt := 88) hx hb g6 g7 (D_162 W_prog_15_method_154_code_32 14 rfl rfl rfl) (by decide) (fun h8 => ?_) (fun h8 => ?_)
    · replace hf := gpos hf h8
      refine lv_aload_n hx hb (D_42 W_prog_15_method_154_code_64 24 rfl rfl) rfl (lv_at hl 4 rfl) ?_
      refine zget (ci := 14) (C := RX14) (T := TX14) (v := va_rf (zrf ad 13 (F 14 0 6))) (k := 6) hx hb hts inW_14 hown hK hZ (by decide) (by decide) rfl (by decide) k_11_4 rfl (D_180 W_prog_15_method_154_code_64 25 rfl rfl rfl) ?_
      obtain ⟨g9, hf⟩ := gif hf
      refine zunrf g9.1 ?_
      refine zget (ci := 13) (C := RX13) (T := TX13) (v := .ref (ad 13 (F 14 0 6) (8 + 1))) (k := 8) hx hb hts inW_13 hown hK hZ g9.1 g9.2 rfl (by decide) k_9_134 rfl (D_180 W_prog_15_method_154_code_64 28 rfl rfl rfl) ?_
      refine lv_iload_n hx hb (D_28 W_prog_15_method_154_code_64 31 rfl rfl) rfl (lv_at hl 6 rfl) ?_
      refine lv_lload hx hb (D_22 W_prog_15_method_154_code_96 0 rfl rfl) (lv_at hl 2 rfl) ?_
      refine lv_lconst (v := lI 0) hx hb (D_9 W_prog_15_method_154_code_96 2 rfl rfl) (by decide) ?_
      obtain ⟨g10, hf⟩ := gif hf
      refine zcmp_r hx hb g10 (by decide) (D_148 W_prog_15_method_154_code_96 3 rfl rfl) ?_
      refine z0lt (tgt := 107) hx hb zcmp_32 (D_155 W_prog_15_method_154_code_96 4 rfl rfl rfl) (by decide) (fun h11 => ?_) (fun h11 => ?_)
      · replace hf := gpos hf h11
        refine lv_iconst (v := iI 1) hx hb (D_4 W_prog_15_method_154_code_96 11 rfl rfl) rfl ?_
        exact b_M_trackEvents_108 X hf hZ hS (lv_sub hl [1, 3, 4, 5, 6, 7] rfl)
      · replace hf := gneg hf h11
        refine lv_iconst (v := iI 0) hx hb (D_3 W_prog_15_method_154_code_96 7 rfl rfl) rfl ?_
        refine lv_goto (tgt := 108) hx hb (D_167 W_prog_15_method_154_code_96 8 rfl rfl rfl) (by decide) ?_
        exact b_M_trackEvents_108 X hf hZ hS (lv_sub hl [1, 3, 4, 5, 6, 7] rfl)
    · replace hf := gneg hf h8
      refine lv_aload_n hx hb (D_42 W_prog_15_method_154_code_32 17 rfl rfl) rfl (lv_at hl 4 rfl) ?_
      refine zget (ci := 14) (C := RX14) (T := TX14) (v := .ref (ad 14 0 (75 + 1))) (k := 75) hx hb hts inW_14 hown hK hZ (by decide) (by decide) rfl (by decide) k_11_73 rfl (D_180 W_prog_15_method_154_code_32 18 rfl rfl rfl) ?_
      refine lv_iload hx hb (D_21 W_prog_15_method_154_code_32 21 rfl rfl) (lv_at hl 0 rfl) ?_
      obtain ⟨g12, hf⟩ := gif hf
      refine zald (ci := 14) (k := 75) hx hb hK rfl hZ (by decide) (by decide) rfl (Nat.le_of_ble_eq_true rfl) g12.1 g12.2 (D_46 W_prog_15_method_154_code_32 23 rfl rfl) ?_
      refine lv_iload_n hx hb (D_27 W_prog_15_method_154_code_32 24 rfl rfl) rfl (lv_at hl 5 rfl) ?_
      obtain ⟨g13, hf⟩ := gif hf
      obtain ⟨g14, hf⟩ := gif hf
      refine zeq (tgt := 63) hx hb g13 g14 (D_159 W_prog_15_method_154_code_32 25 rfl rfl rfl) (by decide) (fun h15 => ?_) (fun h15 => ?_)
      · replace hf := gpos hf h15
        refine lv_lload hx hb (D_22 W_prog_15_method_154_code_32 31 rfl rfl) (lv_at hl 2 rfl) ?_
        refine lv_aload_n hx hb (D_42 W_prog_15_method_154_code_64 1 rfl rfl) rfl (lv_at hl 4 rfl) ?_
        refine zget (ci := 14) (C := RX14) (T := TX14) (v := .ref (ad 14 0 (77 + 1))) (k := 77) hx hb hts inW_14 hown hK hZ (by decide) (by decide) rfl (by decide) k_11_75 rfl (D_180 W_prog_15_method_154_code_64 2 rfl rfl rfl) ?_
        refine lv_iload hx hb (D_21 W_prog_15_method_154_code_64 5 rfl rfl) (lv_at hl 0 rfl) ?_
        refine zald (ci := 14) (k := 77) hx hb hK rfl hZ (by decide) (by decide) rfl (Nat.le_of_ble_eq_true rfl) g12.1 g12.2 (D_46 W_prog_15_method_154_code_64 7 rfl rfl) ?_
        refine lv_bipush (v := iI 60) hx hb (D_16 W_prog_15_method_154_code_64 8 rfl rfl rfl) (by decide) ?_
        refine zsub hx hb (D_100 W_prog_15_method_154_code_64 10 rfl rfl) ?_
        obtain ⟨g16, hf⟩ := gif hf
        refine zi2l hx hb g16 (D_133 W_prog_15_method_154_code_64 11 rfl rfl) ?_
        refine zladd hx hb (D_97 W_prog_15_method_154_code_64 12 rfl rfl) ?_
        refine lv_lstore (lv' := [(6, .long (lI (l6 + ((B 14 0 77 l9) - 60)))), (9, .int (iI l9)), (8, .int (iI l8)), (4, .long (lI l4)), (0, .ref (ad 14 0 0)), (1, .int (iI l1)), (2, .int (iI l2)), (3, .int (iI l3))]) hx hb (D_55 W_prog_15_method_154_code_64 13 rfl rfl) hl (by decide) rfl (fun ls hl => ?_)
        refine lv_iinc (v := iI (l8 + 1)) (lv' := [(8, .int (iI (l8 + 1))), (6, .long (lI (l6 + ((B 14 0 77 l9) - 60)))), (9, .int (iI l9)), (4, .long (lI l4)), (0, .ref (ad 14 0 0)), (1, .int (iI l1)), (2, .int (iI l2)), (3, .int (iI l3))]) hx hb d_15_154_79 hl (k := 2) rfl (iI_add _ 1) (by decide) rfl (fun ls hl => ?_)
        exact b_M_trackEvents_82 X ih hf hZ hS (lv_sub hl [0, 1, 2, 3, 4, 5, 6, 7] rfl)
      · replace hf := gneg hf h15
        refine lv_goto (tgt := 82) hx hb (D_167 W_prog_15_method_154_code_32 28 rfl rfl rfl) (by decide) ?_
        exact b_M_trackEvents_82 X ih hf hZ hS (lv_sub hl [1, 2, 0, 3, 4, 5, 6, 7] rfl)

def f_M_trackEvents (K : Nat) (l1 : Int) (l2 : Int) (l3 : Int) (F : zF) (B : zB) : zO := if 0 ≤ (F 14 0 6) ∧ (F 14 0 6) < 3 then if 0 ≤ l2 ∧ l2 < 4 then if 0 ≤ l1 ∧ l1 < 8 then f_M_trackEvents_37 K K 0 0 0 0 l1 l2 l3 F (zup4 (zup4 B 13 (F 14 0 6) 12 l2 0) 13 (F 14 0 6) 9 l2 ((zup4 B 13 (F 14 0 6) 12 l2 0) 14 0 81 l1)) else none else none else none
set_option maxHeartbeats 4000000 in
set_option maxRecDepth 100000 in
theorem c_M_trackEvents {l : Launch} {D : va_G} {ca : Nat → ClassId} {ad : Nat → Int → Nat → Nat} {L : List Nat} {aS vS : Nat → Nat} {sz K : Nat}  {l1 : Int} {l2 : Int} {l3 : Int} {F F9 : zF} {B B9 : zB} {r : Int} (hf : f_M_trackEvents K l1 l2 l3 F B = some (r, F9, B9)) : Met l ({ cls := "StaveHouseModel", name := "trackEvents", desc := "(III)J" } : Jvm.MethodName) (Cond.code ({ cls := "StaveHouseModel", name := "trackEvents", desc := "(III)J" } : Jvm.MethodName) prog_15_method_154_code 18 (Option.some Jvm.ClassFile.FieldType.long) :: wAll) ({ frames := 4, cells := 0, slots := 0, locals := 99 } : Room) (va_Pc [.ref (ad 14 0 0), .int (iI l1), .int (iI l2), .int (iI l3)] (zPre D ca ad lnM nM L aS vS F B sz)) (Q_M_trackEvents D ca ad L r F9 B9 (zA L sz)) 0 0 (zA L sz) := by
  refine zMet (Qc := Q_M_trackEvents D ca ad L r F9 B9) (lv := [(0, .ref (ad 14 0 0)), (1, .int (iI l1)), (2, .int (iI l2)), (3, .int (iI l3))]) (by decide) (Nat.le_of_ble_eq_true rfl) rfl (fun A p e s m below meth c ls X hZ hS hl => ?_)
  obtain ⟨hx, hb, hr, hml, hown, hts, hlk, hK, hA, hL, hX⟩ := id X
  replace hf : (if 0 ≤ (F 14 0 6) ∧ (F 14 0 6) < 3 then if 0 ≤ l2 ∧ l2 < 4 then if 0 ≤ l1 ∧ l1 < 8 then f_M_trackEvents_37 K K 0 0 0 0 l1 l2 l3 F (zup4 (zup4 B 13 (F 14 0 6) 12 l2 0) 13 (F 14 0 6) 9 l2 ((zup4 B 13 (F 14 0 6) 12 l2 0) 14 0 81 l1)) else none else none else none) = some (r, F9, B9) := hf
  refine lv_lconst (v := lI 0) hx hb (D_9 W_prog_15_method_154_code_0 0 rfl rfl) (by decide) ?_
  refine lv_lstore (lv' := [(4, .long (lI 0)), (0, .ref (ad 14 0 0)), (1, .int (iI l1)), (2, .int (iI l2)), (3, .int (iI l3))]) hx hb (D_55 W_prog_15_method_154_code_0 1 rfl rfl) hl (by decide) rfl (fun ls hl => ?_)
  refine lv_lconst (v := lI 0) hx hb (D_9 W_prog_15_method_154_code_0 3 rfl rfl) (by decide) ?_
  refine lv_lstore (lv' := [(6, .long (lI 0)), (4, .long (lI 0)), (0, .ref (ad 14 0 0)), (1, .int (iI l1)), (2, .int (iI l2)), (3, .int (iI l3))]) hx hb (D_55 W_prog_15_method_154_code_0 4 rfl rfl) hl (by decide) rfl (fun ls hl => ?_)
  refine lv_iconst (v := iI 0) hx hb (D_3 W_prog_15_method_154_code_0 6 rfl rfl) rfl ?_
  refine lv_istore (lv' := [(8, .int (iI 0)), (6, .long (lI 0)), (4, .long (lI 0)), (0, .ref (ad 14 0 0)), (1, .int (iI l1)), (2, .int (iI l2)), (3, .int (iI l3))]) hx hb (D_54 W_prog_15_method_154_code_0 7 rfl rfl) hl (by decide) rfl (fun ls hl => ?_)
  refine lv_aload_n hx hb (D_42 W_prog_15_method_154_code_0 9 rfl rfl) rfl (lv_at hl 3 rfl) ?_
  refine zget (ci := 14) (C := RX14) (T := TX14) (v := va_rf (zrf ad 13 (F 14 0 6))) (k := 6) hx hb hts inW_14 hown hK hZ (by decide) (by decide) rfl (by decide) k_11_4 rfl (D_180 W_prog_15_method_154_code_0 10 rfl rfl rfl) ?_
  obtain ⟨g1, hf⟩ := gif hf
  refine zunrf g1.1 ?_
  refine zget (ci := 13) (C := RX13) (T := TX13) (v := .ref (ad 13 (F 14 0 6) (12 + 1))) (k := 12) hx hb hts inW_13 hown hK hZ g1.1 g1.2 rfl (by decide) k_9_142 rfl (D_180 W_prog_15_method_154_code_0 13 rfl rfl rfl) ?_
  refine lv_iload_n hx hb (D_28 W_prog_15_method_154_code_0 16 rfl rfl) rfl (lv_at hl 5 rfl) ?_
  refine lv_iconst (v := iI 0) hx hb (D_3 W_prog_15_method_154_code_0 17 rfl rfl) rfl ?_
  obtain ⟨g2, hf⟩ := gif hf
  refine zast (ci := 13) (k := 12) hx hb hK rfl hZ hS g1.1 g1.2 rfl (Nat.le_of_ble_eq_true rfl) g2.1 g2.2 (D_79 W_prog_15_method_154_code_0 18 rfl rfl) (fun H3 locs3 hZ3 hS3 => ?_)
  refine lv_aload_n hx hb (D_42 W_prog_15_method_154_code_0 19 rfl rfl) rfl (lv_at hl 3 rfl) ?_
  refine zget (ci := 14) (C := RX14) (T := TX14) (v := va_rf (zrf ad 13 (F 14 0 6))) (k := 6) hx hb hts inW_14 hown hK hZ3 (by decide) (by decide) rfl (by decide) k_11_4 rfl (D_180 W_prog_15_method_154_code_0 20 rfl rfl rfl) ?_
  refine zunrf g1.1 ?_
  refine zget (ci := 13) (C := RX13) (T := TX13) (v := .ref (ad 13 (F 14 0 6) (9 + 1))) (k := 9) hx hb hts inW_13 hown hK hZ3 g1.1 g1.2 rfl (by decide) k_9_136 rfl (D_180 W_prog_15_method_154_code_0 23 rfl rfl rfl) ?_
  refine lv_iload_n hx hb (D_28 W_prog_15_method_154_code_0 26 rfl rfl) rfl (lv_at hl 5 rfl) ?_
  refine lv_aload_n hx hb (D_42 W_prog_15_method_154_code_0 27 rfl rfl) rfl (lv_at hl 3 rfl) ?_
  refine zget (ci := 14) (C := RX14) (T := TX14) (v := .ref (ad 14 0 (81 + 1))) (k := 81) hx hb hts inW_14 hown hK hZ3 (by decide) (by decide) rfl (by decide) k_11_79 rfl (D_180 W_prog_15_method_154_code_0 28 rfl rfl rfl) ?_
  refine lv_iload_n hx hb (D_27 W_prog_15_method_154_code_0 31 rfl rfl) rfl (lv_at hl 4 rfl) ?_
  obtain ⟨g4, hf⟩ := gif hf
  refine zald (ci := 14) (k := 81) hx hb hK rfl hZ3 (by decide) (by decide) rfl (Nat.le_of_ble_eq_true rfl) g4.1 g4.2 (D_46 W_prog_15_method_154_code_32 0 rfl rfl) ?_
  refine zast (ci := 13) (k := 9) hx hb hK rfl hZ3 hS3 g1.1 g1.2 rfl (Nat.le_of_ble_eq_true rfl) g2.1 g2.2 (D_79 W_prog_15_method_154_code_32 1 rfl rfl) (fun H5 locs5 hZ5 hS5 => ?_)
  refine lv_iconst (v := iI 0) hx hb (D_3 W_prog_15_method_154_code_32 2 rfl rfl) rfl ?_
  refine lv_istore (lv' := [(9, .int (iI 0)), (8, .int (iI 0)), (6, .long (lI 0)), (4, .long (lI 0)), (0, .ref (ad 14 0 0)), (1, .int (iI l1)), (2, .int (iI l2)), (3, .int (iI l3))]) hx hb (D_54 W_prog_15_method_154_code_32 3 rfl rfl) hl (by decide) rfl (fun ls hl => ?_)
  exact b_M_trackEvents_37 X hf hZ5 hS5 (lv_sub hl [0, 1, 2, 3, 4, 5, 6, 7] rfl)

