theorem k_12_125 : (Jvm.Cond.methodLink "StaveHouseModel" (912 : Nat) ({ cls := "StaveHouseModel", name := "gather", desc := "(LStaveHouseModel$Piece;)I" } : Jvm.MethodName)) ∈ wAll := wA_12 (j := 125) rfl rfl
theorem k_12_127 : (Jvm.Cond.instanceMethod ({ cls := "StaveHouseModel", name := "gather", desc := "(LStaveHouseModel$Piece;)I" } : Jvm.MethodName)) ∈ wAll := wA_12 (j := 127) rfl rfl
theorem ks_132 : (Jvm.Cond.selects "StaveHouseModel" ({ cls := "StaveHouseModel", name := "gather", desc := "(LStaveHouseModel$Piece;)I" } : Jvm.MethodName) ({ cls := "StaveHouseModel", name := "gather", desc := "(LStaveHouseModel$Piece;)I" } : Jvm.MethodName)) ∈ wAll := wA_s (j := 132) rfl rfl
theorem k_12_128 : (Jvm.Cond.code ({ cls := "StaveHouseModel", name := "gather", desc := "(LStaveHouseModel$Piece;)I" } : Jvm.MethodName) prog_15_method_116_code (9 : Nat) (Option.some Jvm.ClassFile.FieldType.int)) ∈ wAll := wA_12 (j := 128) rfl rfl
theorem k_11_104 : (Jvm.Cond.fieldLink "StaveHouseModel" (293 : Nat) "StaveHouseModel" "weights" "[I") ∈ wAll := wA_11 (j := 104) rfl rfl
theorem k_11_67 : (Jvm.Cond.fieldLink "StaveHouseModel" (223 : Nat) "StaveHouseModel" "order" "[I") ∈ wAll := wA_11 (j := 67) rfl rfl
theorem k_12_182 : (Jvm.Cond.methodLink "StaveHouseModel" (932 : Nat) ({ cls := "StaveHouseModel", name := "isAhead", desc := "(II)Z" } : Jvm.MethodName)) ∈ wAll := wA_12 (j := 182) rfl rfl
theorem k_12_184 : (Jvm.Cond.instanceMethod ({ cls := "StaveHouseModel", name := "isAhead", desc := "(II)Z" } : Jvm.MethodName)) ∈ wAll := wA_12 (j := 184) rfl rfl
theorem ks_140 : (Jvm.Cond.selects "StaveHouseModel" ({ cls := "StaveHouseModel", name := "isAhead", desc := "(II)Z" } : Jvm.MethodName) ({ cls := "StaveHouseModel", name := "isAhead", desc := "(II)Z" } : Jvm.MethodName)) ∈ wAll := wA_s (j := 140) rfl rfl
theorem k_12_185 : (Jvm.Cond.code ({ cls := "StaveHouseModel", name := "isAhead", desc := "(II)Z" } : Jvm.MethodName) prog_15_method_120_code (7 : Nat) (Option.some Jvm.ClassFile.FieldType.boolean)) ∈ wAll := wA_12 (j := 185) rfl rfl
theorem k_13_151 : (Jvm.Cond.methodLink "StaveHouseModel" (735 : Nat) ({ cls := "StaveHouseModel", name := "note", desc := "(LStaveHouseModel$Piece;IIIII)V" } : Jvm.MethodName)) ∈ wAll := wA_13 (j := 151) rfl rfl
theorem k_13_153 : (Jvm.Cond.instanceMethod ({ cls := "StaveHouseModel", name := "note", desc := "(LStaveHouseModel$Piece;IIIII)V" } : Jvm.MethodName)) ∈ wAll := wA_13 (j := 153) rfl rfl
theorem ks_178 : (Jvm.Cond.selects "StaveHouseModel" ({ cls := "StaveHouseModel", name := "note", desc := "(LStaveHouseModel$Piece;IIIII)V" } : Jvm.MethodName) ({ cls := "StaveHouseModel", name := "note", desc := "(LStaveHouseModel$Piece;IIIII)V" } : Jvm.MethodName)) ∈ wAll := wA_s (j := 178) rfl rfl
theorem k_13_154 : (Jvm.Cond.code ({ cls := "StaveHouseModel", name := "note", desc := "(LStaveHouseModel$Piece;IIIII)V" } : Jvm.MethodName) prog_15_method_89_code (8 : Nat) (Option.none : Option Jvm.ClassFile.FieldType)) ∈ wAll := wA_13 (j := 154) rfl rfl
theorem k_13_159 : (Jvm.Cond.methodLink "StaveHouseModel" (742 : Nat) ({ cls := "StaveHouseModel", name := "choose", desc := "(LStaveHouseModel$Piece;Z)Z" } : Jvm.MethodName)) ∈ wAll := wA_13 (j := 159) rfl rfl
theorem k_13_161 : (Jvm.Cond.instanceMethod ({ cls := "StaveHouseModel", name := "choose", desc := "(LStaveHouseModel$Piece;Z)Z" } : Jvm.MethodName)) ∈ wAll := wA_13 (j := 161) rfl rfl
theorem ks_180 : (Jvm.Cond.selects "StaveHouseModel" ({ cls := "StaveHouseModel", name := "choose", desc := "(LStaveHouseModel$Piece;Z)Z" } : Jvm.MethodName) ({ cls := "StaveHouseModel", name := "choose", desc := "(LStaveHouseModel$Piece;Z)Z" } : Jvm.MethodName)) ∈ wAll := wA_s (j := 180) rfl rfl
theorem k_13_162 : (Jvm.Cond.code ({ cls := "StaveHouseModel", name := "choose", desc := "(LStaveHouseModel$Piece;Z)Z" } : Jvm.MethodName) prog_15_method_84_code (13 : Nat) (Option.some Jvm.ClassFile.FieldType.boolean)) ∈ wAll := wA_13 (j := 162) rfl rfl
theorem k_15_146 : (Jvm.Cond.methodLink "StaveHouseModel" (1319 : Nat) ({ cls := "StaveHouseModel", name := "keyHeard", desc := "(LStaveHouseModel$Piece;)I" } : Jvm.MethodName)) ∈ wAll := wA_15 (j := 146) rfl rfl
theorem k_15_148 : (Jvm.Cond.instanceMethod ({ cls := "StaveHouseModel", name := "keyHeard", desc := "(LStaveHouseModel$Piece;)I" } : Jvm.MethodName)) ∈ wAll := wA_15 (j := 148) rfl rfl
theorem ks_253 : (Jvm.Cond.selects "StaveHouseModel" ({ cls := "StaveHouseModel", name := "keyHeard", desc := "(LStaveHouseModel$Piece;)I" } : Jvm.MethodName) ({ cls := "StaveHouseModel", name := "keyHeard", desc := "(LStaveHouseModel$Piece;)I" } : Jvm.MethodName)) ∈ wAll := wA_s (j := 253) rfl rfl
theorem k_15_149 : (Jvm.Cond.code ({ cls := "StaveHouseModel", name := "keyHeard", desc := "(LStaveHouseModel$Piece;)I" } : Jvm.MethodName) prog_15_method_195_code (10 : Nat) (Option.some Jvm.ClassFile.FieldType.int)) ∈ wAll := wA_15 (j := 149) rfl rfl
theorem k_13_147 : (Jvm.Cond.methodLink "StaveHouseModel" (731 : Nat) ({ cls := "StaveHouseModel", name := "part", desc := "(LStaveHouseModel$Piece;IIIJJZ)V" } : Jvm.MethodName)) ∈ wAll := wA_13 (j := 147) rfl rfl
theorem k_13_149 : (Jvm.Cond.instanceMethod ({ cls := "StaveHouseModel", name := "part", desc := "(LStaveHouseModel$Piece;IIIJJZ)V" } : Jvm.MethodName)) ∈ wAll := wA_13 (j := 149) rfl rfl
theorem ks_177 : (Jvm.Cond.selects "StaveHouseModel" ({ cls := "StaveHouseModel", name := "part", desc := "(LStaveHouseModel$Piece;IIIJJZ)V" } : Jvm.MethodName) ({ cls := "StaveHouseModel", name := "part", desc := "(LStaveHouseModel$Piece;IIIJJZ)V" } : Jvm.MethodName)) ∈ wAll := wA_s (j := 177) rfl rfl
theorem k_13_150 : (Jvm.Cond.code ({ cls := "StaveHouseModel", name := "part", desc := "(LStaveHouseModel$Piece;IIIJJZ)V" } : Jvm.MethodName) prog_15_method_88_code (21 : Nat) (Option.none : Option Jvm.ClassFile.FieldType)) ∈ wAll := wA_13 (j := 150) rfl rfl
theorem k_13_140 : (Jvm.Cond.methodLink "StaveHouseModel" (725 : Nat) ({ cls := "StaveHouseModel", name := "pieces", desc := "(LStaveHouseModel$Piece;IIJJJJZ)V" } : Jvm.MethodName)) ∈ wAll := wA_13 (j := 140) rfl rfl
theorem k_13_142 : (Jvm.Cond.instanceMethod ({ cls := "StaveHouseModel", name := "pieces", desc := "(LStaveHouseModel$Piece;IIJJJJZ)V" } : Jvm.MethodName)) ∈ wAll := wA_13 (j := 142) rfl rfl
theorem ks_176 : (Jvm.Cond.selects "StaveHouseModel" ({ cls := "StaveHouseModel", name := "pieces", desc := "(LStaveHouseModel$Piece;IIJJJJZ)V" } : Jvm.MethodName) ({ cls := "StaveHouseModel", name := "pieces", desc := "(LStaveHouseModel$Piece;IIJJJJZ)V" } : Jvm.MethodName)) ∈ wAll := wA_s (j := 176) rfl rfl
theorem k_13_143 : (Jvm.Cond.code ({ cls := "StaveHouseModel", name := "pieces", desc := "(LStaveHouseModel$Piece;IIJJJJZ)V" } : Jvm.MethodName) prog_15_method_87_code (27 : Nat) (Option.none : Option Jvm.ClassFile.FieldType)) ∈ wAll := wA_13 (j := 143) rfl rfl
theorem k_13_128 : (Jvm.Cond.methodLink "StaveHouseModel" (638 : Nat) ({ cls := "StaveHouseModel", name := "places", desc := "(LStaveHouseModel$Piece;I)V" } : Jvm.MethodName)) ∈ wAll := wA_13 (j := 128) rfl rfl
theorem k_13_130 : (Jvm.Cond.instanceMethod ({ cls := "StaveHouseModel", name := "places", desc := "(LStaveHouseModel$Piece;I)V" } : Jvm.MethodName)) ∈ wAll := wA_13 (j := 130) rfl rfl
theorem ks_173 : (Jvm.Cond.selects "StaveHouseModel" ({ cls := "StaveHouseModel", name := "places", desc := "(LStaveHouseModel$Piece;I)V" } : Jvm.MethodName) ({ cls := "StaveHouseModel", name := "places", desc := "(LStaveHouseModel$Piece;I)V" } : Jvm.MethodName)) ∈ wAll := wA_s (j := 173) rfl rfl
theorem k_13_131 : (Jvm.Cond.code ({ cls := "StaveHouseModel", name := "places", desc := "(LStaveHouseModel$Piece;I)V" } : Jvm.MethodName) prog_15_method_76_code (5 : Nat) (Option.none : Option Jvm.ClassFile.FieldType)) ∈ wAll := wA_13 (j := 131) rfl rfl
theorem k_11_26 : (Jvm.Cond.fieldLink "StaveHouseModel" (153 : Nat) "StaveHouseModel" "voiceToken" "[I") ∈ wAll := wA_11 (j := 26) rfl rfl
theorem k_15_38 : (Jvm.Cond.methodLink "StaveHouseModel" (642 : Nat) ({ cls := "StaveHouseModel", name := "judgeOuter", desc := "(I)V" } : Jvm.MethodName)) ∈ wAll := wA_15 (j := 38) rfl rfl
theorem k_15_40 : (Jvm.Cond.instanceMethod ({ cls := "StaveHouseModel", name := "judgeOuter", desc := "(I)V" } : Jvm.MethodName)) ∈ wAll := wA_15 (j := 40) rfl rfl
theorem ks_239 : (Jvm.Cond.selects "StaveHouseModel" ({ cls := "StaveHouseModel", name := "judgeOuter", desc := "(I)V" } : Jvm.MethodName) ({ cls := "StaveHouseModel", name := "judgeOuter", desc := "(I)V" } : Jvm.MethodName)) ∈ wAll := wA_s (j := 239) rfl rfl
theorem k_15_41 : (Jvm.Cond.code ({ cls := "StaveHouseModel", name := "judgeOuter", desc := "(I)V" } : Jvm.MethodName) prog_15_method_75_code (11 : Nat) (Option.none : Option Jvm.ClassFile.FieldType)) ∈ wAll := wA_15 (j := 41) rfl rfl
theorem k_15_45 : (Jvm.Cond.methodLink "StaveHouseModel" (645 : Nat) ({ cls := "StaveHouseModel", name := "share", desc := "(LStaveHouseModel$Piece;II)Z" } : Jvm.MethodName)) ∈ wAll := wA_15 (j := 45) rfl rfl
theorem k_15_46 : (Jvm.Cond.static ({ cls := "StaveHouseModel", name := "share", desc := "(LStaveHouseModel$Piece;II)Z" } : Jvm.MethodName)) ∈ wAll := wA_15 (j := 46) rfl rfl
theorem k_15_47 : (Jvm.Cond.code ({ cls := "StaveHouseModel", name := "share", desc := "(LStaveHouseModel$Piece;II)Z" } : Jvm.MethodName) prog_15_method_72_code (5 : Nat) (Option.some Jvm.ClassFile.FieldType.boolean)) ∈ wAll := wA_15 (j := 47) rfl rfl
theorem k_13_136 : (Jvm.Cond.methodLink "StaveHouseModel" (652 : Nat) ({ cls := "StaveHouseModel", name := "notes", desc := "(LStaveHouseModel$Piece;IZ)I" } : Jvm.MethodName)) ∈ wAll := wA_13 (j := 136) rfl rfl
theorem k_13_138 : (Jvm.Cond.instanceMethod ({ cls := "StaveHouseModel", name := "notes", desc := "(LStaveHouseModel$Piece;IZ)I" } : Jvm.MethodName)) ∈ wAll := wA_13 (j := 138) rfl rfl
theorem ks_175 : (Jvm.Cond.selects "StaveHouseModel" ({ cls := "StaveHouseModel", name := "notes", desc := "(LStaveHouseModel$Piece;IZ)I" } : Jvm.MethodName) ({ cls := "StaveHouseModel", name := "notes", desc := "(LStaveHouseModel$Piece;IZ)I" } : Jvm.MethodName)) ∈ wAll := wA_s (j := 175) rfl rfl
theorem k_13_139 : (Jvm.Cond.code ({ cls := "StaveHouseModel", name := "notes", desc := "(LStaveHouseModel$Piece;IZ)I" } : Jvm.MethodName) prog_15_method_86_code (10 : Nat) (Option.some Jvm.ClassFile.FieldType.int)) ∈ wAll := wA_13 (j := 139) rfl rfl
theorem W_prog_15_method_195_code_0 : chW prog_15_method_195_code 0 [42, 43, 182, 3, 144, 61, 28, 153, 0, 10, 28, 17, 7, 208, 164, 0, 5, 2, 172, 20, 3, 79, 66, 2, 54, 5, 3, 54, 6, 21, 6, 16, 24, 162, 0, 99] := chW_of (by decide +kernel)
theorem W_prog_15_method_195_code_32 : chW prog_15_method_195_code 32 [24, 162, 0, 99, 9, 55, 7, 3, 54, 9, 21, 9, 28, 162, 0, 64, 22, 7, 42, 180, 0, 208, 21, 9, 46, 42, 180, 0, 205, 21, 9, 46, 100, 133, 42, 180] := chW_of (by decide +kernel)
theorem W_prog_15_method_195_code_128 : chW prog_15_method_195_code 128 [1, 167, 255, 156, 21, 5, 172] := chW_of (by decide +kernel)
theorem W_prog_15_method_195_code_96 : chW prog_15_method_195_code 96 [96, 46, 133, 105, 97, 55, 7, 132, 9, 1, 167, 255, 192, 22, 7, 33, 148, 157, 0, 6, 167, 0, 10, 22, 7, 66, 21, 6, 54, 5, 132, 6, 1, 167, 255, 156] := chW_of (by decide +kernel)
theorem W_prog_15_method_195_code_64 : chW prog_15_method_195_code 64 [100, 133, 42, 180, 1, 37, 21, 6, 16, 12, 108, 16, 12, 104, 42, 180, 0, 211, 21, 9, 46, 21, 6, 16, 12, 112, 100, 16, 12, 184, 1, 51, 96, 46, 133, 105] := chW_of (by decide +kernel)
theorem d_15_195_103 : decode prog_15_method_195_code 103 = .ok (.iinc 9 1, 3) := D_132 W_prog_15_method_195_code_96 7 rfl rfl rfl
theorem d_15_195_126 : decode prog_15_method_195_code 126 = .ok (.iinc 6 1, 3) := D_132 W_prog_15_method_195_code_96 30 rfl rfl rfl
theorem W_prog_15_method_121_code_0 : chW prog_15_method_121_code 0 [42, 27, 182, 3, 83, 77, 44, 199, 0, 5, 2, 172, 42, 44, 182, 3, 144, 17, 7, 208, 164, 0, 6, 16, 254, 172, 44, 4, 181, 3, 147, 44, 42, 180, 3, 121] := chW_of (by decide +kernel)
theorem W_prog_15_method_121_code_32 : chW prog_15_method_121_code 32 [42, 180, 3, 121, 181, 3, 150, 3, 62, 29, 42, 180, 3, 121, 162, 0, 69, 44, 180, 3, 151, 29, 42, 180, 0, 205, 29, 46, 79, 44, 180, 3, 152, 29, 42, 180] := chW_of (by decide +kernel)
theorem W_prog_15_method_121_code_96 : chW prog_15_method_121_code 96 [79, 44, 180, 3, 158, 29, 42, 180, 0, 217, 29, 46, 79, 132, 3, 1, 167, 255, 185, 44, 5, 42, 180, 3, 121, 104, 181, 3, 161, 3, 62, 29, 44, 180, 3, 161] := chW_of (by decide +kernel)
theorem W_prog_15_method_121_code_64 : chW prog_15_method_121_code 64 [152, 29, 42, 180, 0, 208, 29, 46, 79, 44, 180, 3, 153, 29, 42, 180, 0, 211, 29, 46, 79, 44, 180, 3, 155, 29, 42, 180, 0, 214, 29, 46, 79, 44, 180, 3] := chW_of (by decide +kernel)
theorem d_15_121_109 : decode prog_15_method_121_code 109 = .ok (.iinc 3 1, 3) := D_132 W_prog_15_method_121_code_96 13 rfl rfl rfl
theorem W_prog_15_method_121_code_128 : chW prog_15_method_121_code 128 [44, 180, 3, 161, 162, 0, 64, 29, 54, 4, 21, 4, 158, 0, 42, 42, 29, 42, 180, 0, 223, 21, 4, 4, 100, 46, 182, 3, 164, 153, 0, 25, 42, 180, 0, 223] := chW_of (by decide +kernel)
theorem W_prog_15_method_121_code_192 : chW prog_15_method_121_code 192 [1, 167, 255, 190, 3, 62, 29, 44, 180, 3, 161, 162, 0, 113, 42, 180, 0, 223, 29, 46, 5, 108, 54, 4, 42, 180, 0, 223, 29, 46, 5, 112, 154, 0, 7, 4] := chW_of (by decide +kernel)
theorem W_prog_15_method_121_code_160 : chW prog_15_method_121_code 160 [42, 180, 0, 223, 21, 4, 42, 180, 0, 223, 21, 4, 4, 100, 46, 79, 132, 4, 255, 167, 255, 215, 42, 180, 0, 223, 21, 4, 29, 79, 132, 3, 1, 167, 255, 190] := chW_of (by decide +kernel)
theorem d_15_121_176 : decode prog_15_method_121_code 176 = .ok (.iinc 4 (-1), 3) := D_132 W_prog_15_method_121_code_160 16 rfl rfl rfl
theorem d_15_121_190 : decode prog_15_method_121_code 190 = .ok (.iinc 3 1, 3) := D_132 W_prog_15_method_121_code_160 30 rfl rfl rfl
theorem W_prog_15_method_121_code_288 : chW prog_15_method_121_code 288 [44, 180, 3, 177, 29, 21, 5, 153, 0, 13, 42, 180, 0, 214, 21, 4, 46, 167, 0, 4, 3, 79, 132, 3, 1, 167, 255, 141, 44, 3, 181, 3, 180, 44, 3, 181] := chW_of (by decide +kernel)
theorem W_prog_15_method_121_code_320 : chW prog_15_method_121_code 320 [180, 44, 3, 181, 3, 181, 44, 3, 181, 3, 184, 44, 3, 181, 3, 187, 44, 3, 181, 3, 190, 42, 180, 3, 121, 172] := chW_of (by decide +kernel)
theorem W_prog_15_method_121_code_224 : chW prog_15_method_121_code 224 [154, 0, 7, 4, 167, 0, 4, 3, 54, 5, 44, 180, 3, 168, 29, 21, 5, 153, 0, 13, 42, 180, 0, 205, 21, 4, 46, 167, 0, 10, 42, 180, 0, 208, 21, 4] := chW_of (by decide +kernel)
theorem W_prog_15_method_121_code_256 : chW prog_15_method_121_code 256 [0, 208, 21, 4, 46, 79, 44, 180, 3, 171, 29, 42, 180, 0, 217, 21, 4, 46, 79, 44, 180, 3, 174, 29, 42, 180, 0, 211, 21, 4, 46, 79, 44, 180, 3, 177] := chW_of (by decide +kernel)
theorem d_15_121_310 : decode prog_15_method_121_code 310 = .ok (.iinc 3 1, 3) := D_132 W_prog_15_method_121_code_288 22 rfl rfl rfl
theorem W_prog_15_method_88_code_0 : chW prog_15_method_88_code 0 [17, 3, 232, 28, 104, 29, 96, 54, 10, 29, 155, 0, 13, 43, 180, 2, 86, 21, 10, 46, 154, 0, 7, 4, 167, 0, 4, 3, 54, 11, 29, 155, 0, 17, 43, 180] := chW_of (by decide +kernel)
theorem W_prog_15_method_88_code_32 : chW prog_15_method_88_code 32 [0, 17, 43, 180, 2, 89, 21, 10, 46, 158, 0, 7, 4, 167, 0, 4, 3, 54, 12, 21, 12, 153, 0, 14, 43, 180, 2, 92, 21, 10, 46, 133, 167, 0, 4, 10] := chW_of (by decide +kernel)
theorem W_prog_15_method_88_code_64 : chW prog_15_method_88_code 64 [167, 0, 4, 10, 55, 13, 21, 12, 153, 0, 14, 43, 180, 2, 95, 21, 10, 46, 133, 167, 0, 4, 10, 55, 15, 21, 11, 153, 0, 55, 21, 12, 154, 0, 50, 21] := chW_of (by decide +kernel)
theorem W_prog_15_method_88_code_96 : chW prog_15_method_88_code 96 [154, 0, 50, 21, 9, 153, 0, 45, 42, 180, 2, 197, 9, 148, 154, 0, 36, 22, 5, 22, 7, 43, 180, 1, 148, 133, 43, 180, 1, 151, 133, 184, 2, 25, 154, 0] := chW_of (by decide +kernel)
theorem W_prog_15_method_88_code_128 : chW prog_15_method_88_code 128 [2, 25, 154, 0, 16, 42, 43, 28, 29, 21, 4, 16, 9, 3, 182, 2, 223, 177, 42, 22, 5, 22, 7, 22, 15, 22, 13, 182, 2, 227, 42, 42, 180, 0, 9, 181] := chW_of (by decide +kernel)
theorem W_prog_15_method_88_code_160 : chW prog_15_method_88_code 160 [180, 0, 9, 181, 2, 181, 42, 42, 180, 0, 13, 181, 2, 184, 42, 180, 2, 181, 9, 148, 158, 0, 158, 43, 180, 2, 211, 28, 46, 17, 3, 32, 163, 0, 146, 21] := chW_of (by decide +kernel)
theorem W_prog_15_method_88_code_192 : chW prog_15_method_88_code 192 [163, 0, 146, 21, 12, 154, 0, 12, 42, 43, 4, 182, 2, 230, 154, 0, 10, 42, 43, 3, 182, 2, 230, 87, 42, 180, 2, 194, 184, 2, 173, 55, 17, 42, 180, 2] := chW_of (by decide +kernel)
theorem W_prog_15_method_88_code_224 : chW prog_15_method_88_code 224 [17, 42, 180, 2, 191, 42, 180, 2, 194, 184, 2, 177, 55, 19, 42, 43, 28, 29, 21, 4, 42, 180, 2, 191, 42, 180, 2, 194, 182, 2, 223, 42, 42, 180, 2, 181] := chW_of (by decide +kernel)
theorem W_prog_15_method_88_code_256 : chW prog_15_method_88_code 256 [42, 180, 2, 181, 42, 180, 2, 184, 22, 17, 22, 19, 182, 2, 152, 42, 42, 180, 0, 9, 181, 2, 181, 42, 42, 180, 0, 13, 181, 2, 184, 42, 22, 17, 22, 19] := chW_of (by decide +kernel)
theorem W_prog_15_method_88_code_288 : chW prog_15_method_88_code 288 [22, 17, 22, 19, 22, 13, 22, 15, 182, 2, 227, 42, 42, 180, 2, 197, 42, 180, 2, 200, 42, 180, 0, 9, 42, 180, 0, 13, 182, 2, 21, 42, 42, 180, 0, 9] := chW_of (by decide +kernel)
theorem W_prog_15_method_88_code_320 : chW prog_15_method_88_code 320 [42, 180, 0, 9, 181, 2, 197, 42, 42, 180, 0, 13, 181, 2, 200, 167, 255, 95, 177] := chW_of (by decide +kernel)
theorem W_prog_15_method_203_code_0 : chW prog_15_method_203_code 0 [42, 27, 182, 3, 83, 78, 45, 199, 0, 5, 2, 172, 28, 170, 0, 0, 0, 0, 0, 150, 0, 0, 0, 0, 0, 0, 0, 13, 0, 0, 0, 71, 0, 0, 0, 76] := chW_of (by decide +kernel)
theorem d_15_203_13 : decode prog_15_method_203_code 13 = .ok (.tableswitch 150 0 13 #[71, 76, 81, 86, 99, 104, 109, 114, 119, 124, 130, 135, 140, 145], 71) := by decide +kernel
theorem W_prog_15_method_203_code_64 : chW prog_15_method_203_code 64 [0, 0, 0, 124, 0, 0, 0, 130, 0, 0, 0, 135, 0, 0, 0, 140, 0, 0, 0, 145, 45, 180, 1, 48, 172, 45, 180, 2, 216, 172, 45, 180, 1, 54, 172, 45] := chW_of (by decide +kernel)
theorem W_prog_15_method_203_code_96 : chW prog_15_method_203_code 96 [1, 54, 172, 45, 180, 1, 57, 153, 0, 7, 4, 167, 0, 4, 3, 172, 45, 180, 1, 148, 172, 45, 180, 1, 151, 172, 45, 180, 1, 154, 172, 45, 180, 4, 151, 172] := chW_of (by decide +kernel)
theorem W_prog_15_method_203_code_128 : chW prog_15_method_203_code 128 [180, 4, 151, 172, 45, 180, 4, 216, 172, 42, 45, 182, 5, 39, 172, 45, 180, 3, 91, 172, 45, 180, 3, 150, 172, 45, 180, 3, 161, 172, 45, 180, 3, 180, 172, 2] := chW_of (by decide +kernel)
theorem W_prog_15_method_203_code_160 : chW prog_15_method_203_code 160 [3, 180, 172, 2, 172] := chW_of (by decide +kernel)
theorem W_prog_15_method_87_code_0 : chW prog_15_method_87_code 0 [22, 4, 55, 13, 22, 6, 55, 15, 22, 8, 55, 17, 22, 10, 55, 19, 22, 17, 9, 148, 158, 0, 195, 43, 180, 2, 211, 28, 46, 17, 3, 32, 163, 0, 183, 22] := chW_of (by decide +kernel)
theorem W_prog_15_method_87_code_32 : chW prog_15_method_87_code 32 [163, 0, 183, 22, 13, 22, 15, 43, 180, 1, 148, 133, 43, 180, 1, 151, 133, 184, 2, 148, 55, 21, 42, 22, 21, 10, 97, 43, 180, 1, 148, 133, 105, 43, 180, 1] := chW_of (by decide +kernel)
theorem W_prog_15_method_87_code_64 : chW prog_15_method_87_code 64 [105, 43, 180, 1, 151, 133, 22, 13, 22, 15, 182, 2, 152, 42, 180, 0, 9, 55, 23, 42, 180, 0, 13, 55, 25, 22, 17, 22, 19, 22, 23, 22, 25, 184, 2, 25] := chW_of (by decide +kernel)
theorem W_prog_15_method_87_code_96 : chW prog_15_method_87_code 96 [25, 184, 2, 25, 156, 0, 11, 22, 17, 55, 23, 22, 19, 55, 25, 42, 22, 13, 22, 15, 22, 21, 43, 180, 1, 148, 133, 105, 43, 180, 1, 151, 133, 182, 2, 152] := chW_of (by decide +kernel)
theorem W_prog_15_method_87_code_128 : chW prog_15_method_87_code 128 [133, 182, 2, 152, 42, 42, 180, 0, 9, 181, 2, 197, 42, 42, 180, 0, 13, 181, 2, 200, 42, 43, 28, 29, 22, 21, 136, 22, 23, 22, 25, 21, 12, 182, 2, 219] := chW_of (by decide +kernel)
theorem W_prog_15_method_87_code_160 : chW prog_15_method_87_code 160 [12, 182, 2, 219, 42, 22, 13, 22, 15, 22, 23, 22, 25, 182, 2, 21, 42, 180, 0, 9, 55, 13, 42, 180, 0, 13, 55, 15, 42, 22, 17, 22, 19, 22, 23, 22] := chW_of (by decide +kernel)
theorem W_prog_15_method_87_code_192 : chW prog_15_method_87_code 192 [19, 22, 23, 22, 25, 182, 2, 152, 42, 180, 0, 9, 55, 17, 42, 180, 0, 13, 55, 19, 167, 255, 60, 177] := chW_of (by decide +kernel)
theorem W_prog_15_method_86_code_0 : chW prog_15_method_86_code 0 [43, 180, 2, 211, 28, 3, 79, 42, 9, 10, 182, 0, 16, 9, 55, 4, 10, 55, 6, 3, 54, 8, 21, 8, 43, 180, 2, 3, 28, 46, 162, 0, 120, 43, 180, 2] := chW_of (by decide +kernel)
theorem W_prog_15_method_86_code_32 : chW prog_15_method_86_code 32 [120, 43, 180, 2, 211, 28, 46, 17, 3, 32, 163, 0, 108, 17, 3, 232, 28, 104, 21, 8, 96, 54, 9, 43, 180, 2, 9, 21, 9, 47, 55, 4, 43, 180, 2, 12] := chW_of (by decide +kernel)
theorem W_prog_15_method_86_code_64 : chW prog_15_method_86_code 64 [43, 180, 2, 12, 21, 9, 47, 55, 6, 42, 43, 28, 21, 8, 22, 4, 22, 6, 43, 180, 2, 15, 21, 9, 47, 43, 180, 2, 18, 21, 9, 47, 29, 182, 2, 213] := chW_of (by decide +kernel)
theorem W_prog_15_method_86_code_96 : chW prog_15_method_86_code 96 [29, 182, 2, 213, 42, 43, 180, 2, 9, 21, 9, 47, 43, 180, 2, 12, 21, 9, 47, 43, 180, 2, 15, 21, 9, 47, 43, 180, 2, 18, 21, 9, 47, 182, 2, 21] := chW_of (by decide +kernel)
theorem W_prog_15_method_86_code_128 : chW prog_15_method_86_code 128 [47, 182, 2, 21, 42, 180, 0, 9, 55, 4, 42, 180, 0, 13, 55, 6, 132, 8, 1, 167, 255, 131, 22, 4, 22, 6, 43, 180, 1, 148, 133, 43, 180, 1, 151, 133] := chW_of (by decide +kernel)
theorem d_15_86_144 : decode prog_15_method_86_code 144 = .ok (.iinc 8 1, 3) := D_132 W_prog_15_method_86_code_128 16 rfl rfl rfl
theorem W_prog_15_method_86_code_160 : chW prog_15_method_86_code 160 [180, 1, 151, 133, 184, 2, 148, 55, 8, 43, 22, 8, 136, 181, 2, 216, 22, 4, 22, 6, 43, 180, 1, 148, 133, 43, 180, 1, 151, 133, 184, 2, 56, 154, 0, 55] := chW_of (by decide +kernel)
theorem W_prog_15_method_86_code_192 : chW prog_15_method_86_code 192 [56, 154, 0, 55, 43, 22, 8, 136, 4, 96, 181, 2, 216, 42, 22, 8, 10, 97, 43, 180, 1, 148, 133, 105, 43, 180, 1, 151, 133, 22, 4, 22, 6, 182, 2, 152] := chW_of (by decide +kernel)
theorem W_prog_15_method_86_code_224 : chW prog_15_method_86_code 224 [6, 182, 2, 152, 42, 43, 28, 2, 22, 4, 22, 6, 42, 180, 0, 9, 42, 180, 0, 13, 29, 182, 2, 213, 43, 180, 2, 211, 28, 46, 172] := chW_of (by decide +kernel)
theorem W_prog_15_method_73_code_0 : chW prog_15_method_73_code 0 [17, 3, 232, 42, 180, 1, 226, 104, 60, 42, 180, 1, 229, 154, 0, 19, 42, 16, 15, 42, 180, 0, 153, 42, 180, 1, 226, 46, 182, 1, 109, 177, 42, 42, 180, 0] := chW_of (by decide +kernel)
theorem W_prog_15_method_73_code_32 : chW prog_15_method_73_code 32 [42, 42, 180, 0, 44, 42, 180, 1, 226, 182, 2, 126, 3, 61, 3, 62, 29, 42, 180, 1, 229, 162, 0, 212, 42, 182, 1, 120, 153, 0, 205, 27, 29, 96, 54, 4] := chW_of (by decide +kernel)
theorem W_prog_15_method_73_code_64 : chW prog_15_method_73_code 64 [29, 96, 54, 4, 42, 180, 0, 44, 180, 2, 98, 21, 4, 46, 158, 0, 37, 29, 153, 0, 28, 42, 180, 0, 44, 180, 2, 98, 21, 4, 4, 100, 46, 42, 180, 0] := chW_of (by decide +kernel)
theorem W_prog_15_method_73_code_96 : chW prog_15_method_73_code 96 [46, 42, 180, 0, 44, 180, 2, 98, 21, 4, 46, 159, 0, 8, 42, 29, 182, 2, 130, 42, 180, 0, 44, 180, 2, 72, 21, 4, 46, 54, 5, 21, 5, 4, 126, 158] := chW_of (by decide +kernel)
theorem W_prog_15_method_73_code_128 : chW prog_15_method_73_code 128 [5, 4, 126, 158, 0, 45, 29, 4, 96, 42, 180, 1, 229, 159, 0, 19, 42, 180, 0, 44, 21, 4, 21, 4, 4, 96, 184, 2, 133, 154, 0, 19, 42, 16, 10, 42] := chW_of (by decide +kernel)
theorem W_prog_15_method_73_code_160 : chW prog_15_method_73_code 160 [42, 16, 10, 42, 180, 0, 44, 180, 2, 83, 21, 4, 46, 182, 1, 109, 21, 5, 7, 126, 158, 0, 23, 28, 154, 0, 19, 42, 16, 11, 42, 180, 0, 44, 180, 2] := chW_of (by decide +kernel)
theorem W_prog_15_method_73_code_192 : chW prog_15_method_73_code 192 [0, 44, 180, 2, 83, 21, 4, 46, 182, 1, 109, 21, 5, 7, 126, 158, 0, 5, 3, 61, 21, 5, 5, 126, 158, 0, 23, 28, 153, 0, 19, 42, 16, 11, 42, 180] := chW_of (by decide +kernel)
theorem W_prog_15_method_73_code_224 : chW prog_15_method_73_code 224 [16, 11, 42, 180, 0, 44, 180, 2, 83, 21, 4, 46, 182, 1, 109, 21, 5, 5, 126, 158, 0, 5, 4, 61, 42, 180, 0, 44, 180, 2, 137, 21, 4, 28, 84, 132] := chW_of (by decide +kernel)
theorem W_prog_15_method_73_code_256 : chW prog_15_method_73_code 256 [4, 28, 84, 132, 3, 1, 167, 255, 42, 28, 153, 0, 18, 42, 16, 11, 42, 180, 0, 153, 42, 180, 1, 226, 46, 182, 1, 109, 42, 182, 1, 120, 153, 0, 37, 42] := chW_of (by decide +kernel)
theorem d_15_73_259 : decode prog_15_method_73_code 259 = .ok (.iinc 3 1, 3) := D_132 W_prog_15_method_73_code_256 3 rfl rfl rfl
theorem W_prog_15_method_73_code_288 : chW prog_15_method_73_code 288 [153, 0, 37, 42, 42, 180, 0, 44, 42, 180, 1, 226, 4, 182, 2, 140, 17, 3, 32, 164, 0, 18, 42, 16, 14, 42, 180, 0, 153, 42, 180, 1, 226, 46, 182, 1] := chW_of (by decide +kernel)
theorem W_prog_15_method_73_code_320 : chW prog_15_method_73_code 320 [226, 46, 182, 1, 109, 177] := chW_of (by decide +kernel)
abbrev Q_M_keyHeard (D : va_G) (ca : Nat → ClassId) (ad : Nat → Int → Nat → Nat) (L : List Nat) (r : Int) (F : zF) (B : zB) (A : Nat → Prop) : Array Value → State → Outcome → State → Prop := va_Qi (S := Unit) (fun p _ => p = iI r) (fun _ => zPo D ca ad lnM nM L F B A) A
def f_M_keyHeard_126 (rec29 : Int → Int → Int → Int → zF → zB → zO) (K : Nat) (l5 : Int) (l3 : Int) (l6 : Int) (l2 : Int) (F : zF) (B : zB) : zO := rec29 (l6 + 1) l5 l3 l2 F B
set_option maxHeartbeats 4000000 in
set_option maxRecDepth 100000 in
theorem b_M_keyHeard_126 {D : va_G} {ca : Nat → ClassId} {ad : Nat → Int → Nat → Nat} {L : List Nat} {aS vS : Nat → Nat} {A : Nat → Prop} {p : Program} {l : Launch} {e : Env} {s : State} {m : MethodId} {args : Array Value} {below : List Frame} {meth : Method} {c : Code} {K : Nat} {r : Int} {F9 : zF} {B9 : zB} (X : zX D ca L aS vS A p s m args meth c prog_15_method_195_code 10 (Option.some Jvm.ClassFile.FieldType.int) "StaveHouseModel") {rec29 : Int → Int → Int → Int → zF → zB → zO} (hrec29 : ∀ {l6 : Int} {l5 : Int} {l3 : Int} {l2 : Int} {F : zF} {B : zB} {H : Heap} {locs : List Loc} {ls : Array Slot}, rec29 l6 l5 l3 l2 F B = some (r, F9, B9) → zH D ca ad lnM nM L F B A H → va_S A s.heap H locs → lv_has ls 10 [(6, .int (iI l6)), (5, .int (iI l5)), (3, .long (lI l3)), (2, .int (iI l2)), (0, .ref (ad 14 0 0))] → W p l e ({ frames := 6, cells := 0, slots := 0, locals := 168 } : Room) s m args below meth c H locs 0 0 (MQ below (Q_M_keyHeard D ca ad L r F9 B9 A) args s 0 0 A) (F0 m 29 ls [])) {l5 : Int} {l3 : Int} {l6 : Int} {l2 : Int} {F : zF} {B : zB} {H : Heap} {locs : List Loc} {ls : Array Slot} (hf : f_M_keyHeard_126 rec29 K l5 l3 l6 l2 F B = some (r, F9, B9)) (hZ : zH D ca ad lnM nM L F B A H) (hS : va_S A s.heap H locs) (hl : lv_has ls 10 [(5, .int (iI l5)), (3, .long (lI l3)), (6, .int (iI l6)), (2, .int (iI l2)), (0, .ref (ad 14 0 0))]) : W p l e ({ frames := 6, cells := 0, slots := 0, locals := 168 } : Room) s m args below meth c H locs 0 0 (MQ below (Q_M_keyHeard D ca ad L r F9 B9 A) args s 0 0 A) (F0 m 126 ls []) := by
  obtain ⟨hx, hb, hr, hml, hown, hts, hlk, hK, hA, hL, hX⟩ := id X
  replace hf : (rec29 (l6 + 1) l5 l3 l2 F B) = some (r, F9, B9) := hf
  refine lv_iinc (v := iI (l6 + 1)) (lv' := [(6, .int (iI (l6 + 1))), (5, .int (iI l5)), (3, .long (lI l3)), (2, .int (iI l2)), (0, .ref (ad 14 0 0))]) hx hb d_15_195_126 hl (k := 2) rfl (iI_add _ 1) (by decide) rfl (fun ls hl => ?_)
  refine lv_goto (tgt := 29) hx hb (D_167 W_prog_15_method_195_code_128 1 rfl rfl rfl) (by decide) ?_
  exact hrec29 hf hZ hS (lv_sub hl [0, 1, 2, 3, 4] rfl)

def f_M_keyHeard_42 (rec29 : Int → Int → Int → Int → zF → zB → zO) (K : Nat) : Nat → Int → Int → Int → Int → Int → Int → zF → zB → zO
  | 0, _, _, _, _, _, _, _, _ => none
  | n + 1, l9, l7, l6, l5, l3, l2, F, B => if r32 l9 then if r32 l2 then (if l2 ≤ l9 then if r64 l7 then if r64 l3 then (if 0 < (zcmp l7 l3) then f_M_keyHeard_126 rec29 K l6 l7 l6 l2 F B else f_M_keyHeard_126 rec29 K l5 l3 l6 l2 F B) else none else none else if 0 ≤ l9 ∧ l9 < 2000 then if r32 ((B 14 0 64 l9) - (B 14 0 63 l9)) then zbind (f_M_mod K ((B 14 0 65 l9) - (zrm l6 12)) 12 F B) (fun r15 F15 B15 => if 0 ≤ (((zdv l6 12) * 12) + r15) ∧ (((zdv l6 12) * 12) + r15) < 24 then if r32 (B15 14 0 106 (((zdv l6 12) * 12) + r15)) then f_M_keyHeard_42 rec29 K n (l9 + 1) (l7 + (((B 14 0 64 l9) - (B 14 0 63 l9)) * (B15 14 0 106 (((zdv l6 12) * 12) + r15)))) l6 l5 l3 l2 F15 B15 else none else none) else none else none) else none else none
set_option maxHeartbeats 4000000 in
set_option maxRecDepth 100000 in
theorem b_M_keyHeard_42 {D : va_G} {ca : Nat → ClassId} {ad : Nat → Int → Nat → Nat} {L : List Nat} {aS vS : Nat → Nat} {A : Nat → Prop} {p : Program} {l : Launch} {e : Env} {s : State} {m : MethodId} {args : Array Value} {below : List Frame} {meth : Method} {c : Code} {K : Nat} {r : Int} {F9 : zF} {B9 : zB} (X : zX D ca L aS vS A p s m args meth c prog_15_method_195_code 10 (Option.some Jvm.ClassFile.FieldType.int) "StaveHouseModel") {rec29 : Int → Int → Int → Int → zF → zB → zO} (hrec29 : ∀ {l6 : Int} {l5 : Int} {l3 : Int} {l2 : Int} {F : zF} {B : zB} {H : Heap} {locs : List Loc} {ls : Array Slot}, rec29 l6 l5 l3 l2 F B = some (r, F9, B9) → zH D ca ad lnM nM L F B A H → va_S A s.heap H locs → lv_has ls 10 [(6, .int (iI l6)), (5, .int (iI l5)), (3, .long (lI l3)), (2, .int (iI l2)), (0, .ref (ad 14 0 0))] → W p l e ({ frames := 6, cells := 0, slots := 0, locals := 168 } : Room) s m args below meth c H locs 0 0 (MQ below (Q_M_keyHeard D ca ad L r F9 B9 A) args s 0 0 A) (F0 m 29 ls [])) : ∀ {n : Nat} {l9 : Int} {l7 : Int} {l6 : Int} {l5 : Int} {l3 : Int} {l2 : Int} {F : zF} {B : zB} {H : Heap} {locs : List Loc} {ls : Array Slot}, f_M_keyHeard_42 rec29 K n l9 l7 l6 l5 l3 l2 F B = some (r, F9, B9) → zH D ca ad lnM nM L F B A H → va_S A s.heap H locs → lv_has ls 10 [(9, .int (iI l9)), (7, .long (lI l7)), (6, .int (iI l6)), (5, .int (iI l5)), (3, .long (lI l3)), (2, .int (iI l2)), (0, .ref (ad 14 0 0))] → W p l e ({ frames := 6, cells := 0, slots := 0, locals := 168 } : Room) s m args below meth c H locs 0 0 (MQ below (Q_M_keyHeard D ca ad L r F9 B9 A) args s 0 0 A) (F0 m 42 ls []) := by
  obtain ⟨hx, hb, hr, hml, hown, hts, hlk, hK, hA, hL, hX⟩ := id X
  intro n
  induction n with
  | zero =>
    intros
    rename_i hf _ _ _
    cases hf
  | succ n ih =>
    intro l9 l7 l6 l5 l3 l2 F B H locs ls hf hZ hS hl
    replace hf : (if r32 l9 then if r32 l2 then (if l2 ≤ l9 then if r64 l7 then if r64 l3 then (if 0 < (zcmp l7 l3) then f_M_keyHeard_126 rec29 K l6 l7 l6 l2 F B else f_M_keyHeard_126 rec29 K l5 l3 l6 l2 F B) else none else none else if 0 ≤ l9 ∧ l9 < 2000 then if r32 ((B 14 0 64 l9) - (B 14 0 63 l9)) then zbind (f_M_mod K ((B 14 0 65 l9) - (zrm l6 12)) 12 F B) (fun r15 F15 B15 => if 0 ≤ (((zdv l6 12) * 12) + r15) ∧ (((zdv l6 12) * 12) + r15) < 24 then if r32 (B15 14 0 106 (((zdv l6 12) * 12) + r15)) then f_M_keyHeard_42 rec29 K n (l9 + 1) (l7 + (((B 14 0 64 l9) - (B 14 0 63 l9)) * (B15 14 0 106 (((zdv l6 12) * 12) + r15)))) l6 l5 l3 l2 F15 B15 else none else none) else none else none) else none else none) = some (r, F9, B9) := hf
    refine lv_iload hx hb (D_21 W_prog_15_method_195_code_32 10 rfl rfl) (lv_at hl 0 rfl) ?_
    refine lv_iload_n hx hb (D_28 W_prog_15_method_195_code_32 12 rfl rfl) rfl (lv_at hl 5 rfl) ?_
    obtain ⟨g7, hf⟩ := gif hf
    obtain ⟨g8, hf⟩ := gif hf
    refine zge (tgt := 109) hx hb g7 g8 (D_162 W_prog_15_method_195_code_32 13 rfl rfl rfl) (by decide) (fun h9 => ?_) (fun h9 => ?_)
    · replace hf := gpos hf h9
      refine lv_lload hx hb (D_22 W_prog_15_method_195_code_96 13 rfl rfl) (lv_at hl 1 rfl) ?_
      refine lv_lload_n hx hb (D_33 W_prog_15_method_195_code_96 15 rfl rfl) rfl (lv_at hl 4 rfl) ?_
      obtain ⟨g10, hf⟩ := gif hf
      obtain ⟨g11, hf⟩ := gif hf
      refine zcmp_r hx hb g10 g11 (D_148 W_prog_15_method_195_code_96 16 rfl rfl) ?_
      refine z0gt (tgt := 119) hx hb zcmp_32 (D_157 W_prog_15_method_195_code_96 17 rfl rfl rfl) (by decide) (fun h12 => ?_) (fun h12 => ?_)
      · replace hf := gpos hf h12
        refine lv_lload hx hb (D_22 W_prog_15_method_195_code_96 23 rfl rfl) (lv_at hl 1 rfl) ?_
        refine lv_lstore_n (lv' := [(3, .long (lI l7)), (9, .int (iI l9)), (7, .long (lI l7)), (6, .int (iI l6)), (5, .int (iI l5)), (2, .int (iI l2)), (0, .ref (ad 14 0 0))]) hx hb (D_66 W_prog_15_method_195_code_96 25 rfl rfl) rfl hl (by decide) rfl (fun ls hl => ?_)
        refine lv_iload hx hb (D_21 W_prog_15_method_195_code_96 26 rfl rfl) (lv_at hl 3 rfl) ?_
        refine lv_istore (lv' := [(5, .int (iI l6)), (3, .long (lI l7)), (9, .int (iI l9)), (7, .long (lI l7)), (6, .int (iI l6)), (2, .int (iI l2)), (0, .ref (ad 14 0 0))]) hx hb (D_54 W_prog_15_method_195_code_96 28 rfl rfl) hl (by decide) rfl (fun ls hl => ?_)
        exact b_M_keyHeard_126 X hrec29 hf hZ hS (lv_sub hl [0, 1, 4, 5, 6] rfl)
      · replace hf := gneg hf h12
        refine lv_goto (tgt := 126) hx hb (D_167 W_prog_15_method_195_code_96 20 rfl rfl rfl) (by decide) ?_
        exact b_M_keyHeard_126 X hrec29 hf hZ hS (lv_sub hl [3, 4, 2, 5, 6] rfl)
    · replace hf := gneg hf h9
      refine lv_lload hx hb (D_22 W_prog_15_method_195_code_32 16 rfl rfl) (lv_at hl 1 rfl) ?_
      refine lv_aload_n hx hb (D_42 W_prog_15_method_195_code_32 18 rfl rfl) rfl (lv_at hl 6 rfl) ?_
      refine zget (ci := 14) (C := RX14) (T := TX14) (v := .ref (ad 14 0 (64 + 1))) (k := 64) hx hb hts inW_14 hown hK hZ (by decide) (by decide) rfl (by decide) k_11_62 rfl (D_180 W_prog_15_method_195_code_32 19 rfl rfl rfl) ?_
      refine lv_iload hx hb (D_21 W_prog_15_method_195_code_32 22 rfl rfl) (lv_at hl 0 rfl) ?_
      obtain ⟨g13, hf⟩ := gif hf
      refine zald (ci := 14) (k := 64) hx hb hK rfl hZ (by decide) (by decide) rfl (Nat.le_of_ble_eq_true rfl) g13.1 g13.2 (D_46 W_prog_15_method_195_code_32 24 rfl rfl) ?_
      refine lv_aload_n hx hb (D_42 W_prog_15_method_195_code_32 25 rfl rfl) rfl (lv_at hl 6 rfl) ?_
      refine zget (ci := 14) (C := RX14) (T := TX14) (v := .ref (ad 14 0 (63 + 1))) (k := 63) hx hb hts inW_14 hown hK hZ (by decide) (by decide) rfl (by decide) k_11_61 rfl (D_180 W_prog_15_method_195_code_32 26 rfl rfl rfl) ?_
      refine lv_iload hx hb (D_21 W_prog_15_method_195_code_32 29 rfl rfl) (lv_at hl 0 rfl) ?_
      refine zald (ci := 14) (k := 63) hx hb hK rfl hZ (by decide) (by decide) rfl (Nat.le_of_ble_eq_true rfl) g13.1 g13.2 (D_46 W_prog_15_method_195_code_32 31 rfl rfl) ?_
      refine zsub hx hb (D_100 W_prog_15_method_195_code_64 0 rfl rfl) ?_
      obtain ⟨g14, hf⟩ := gif hf
      refine zi2l hx hb g14 (D_133 W_prog_15_method_195_code_64 1 rfl rfl) ?_
      refine lv_aload_n hx hb (D_42 W_prog_15_method_195_code_64 2 rfl rfl) rfl (lv_at hl 6 rfl) ?_
      refine zget (ci := 14) (C := RX14) (T := TX14) (v := .ref (ad 14 0 (106 + 1))) (k := 106) hx hb hts inW_14 hown hK hZ (by decide) (by decide) rfl (by decide) k_11_104 rfl (D_180 W_prog_15_method_195_code_64 3 rfl rfl rfl) ?_
      refine lv_iload hx hb (D_21 W_prog_15_method_195_code_64 6 rfl rfl) (lv_at hl 2 rfl) ?_
      refine lv_bipush (v := iI 12) hx hb (D_16 W_prog_15_method_195_code_64 8 rfl rfl rfl) (by decide) ?_
      refine zdv_r hx hb (by decide) (D_108 W_prog_15_method_195_code_64 10 rfl rfl) ?_
      refine lv_bipush (v := iI 12) hx hb (D_16 W_prog_15_method_195_code_64 11 rfl rfl rfl) (by decide) ?_
      refine zmul hx hb (D_104 W_prog_15_method_195_code_64 13 rfl rfl) ?_
      refine lv_aload_n hx hb (D_42 W_prog_15_method_195_code_64 14 rfl rfl) rfl (lv_at hl 6 rfl) ?_
      refine zget (ci := 14) (C := RX14) (T := TX14) (v := .ref (ad 14 0 (65 + 1))) (k := 65) hx hb hts inW_14 hown hK hZ (by decide) (by decide) rfl (by decide) k_11_63 rfl (D_180 W_prog_15_method_195_code_64 15 rfl rfl rfl) ?_
      refine lv_iload hx hb (D_21 W_prog_15_method_195_code_64 18 rfl rfl) (lv_at hl 0 rfl) ?_
      refine zald (ci := 14) (k := 65) hx hb hK rfl hZ (by decide) (by decide) rfl (Nat.le_of_ble_eq_true rfl) g13.1 g13.2 (D_46 W_prog_15_method_195_code_64 20 rfl rfl) ?_
      refine lv_iload hx hb (D_21 W_prog_15_method_195_code_64 21 rfl rfl) (lv_at hl 2 rfl) ?_
      refine lv_bipush (v := iI 12) hx hb (D_16 W_prog_15_method_195_code_64 23 rfl rfl rfl) (by decide) ?_
      refine zrm_r hx hb (by decide) (D_112 W_prog_15_method_195_code_64 25 rfl rfl) ?_
      refine zsub hx hb (D_100 W_prog_15_method_195_code_64 26 rfl rfl) ?_
      refine lv_bipush (v := iI 12) hx hb (D_16 W_prog_15_method_195_code_64 27 rfl rfl rfl) (by decide) ?_
      obtain ⟨r15, F15, B15, hc15, hf⟩ := gbind hf
      refine va_calli (va_runS (As := [.int (iI ((B 14 0 65 l9) - (zrm l6 12))), .int (iI 12)]) (rest := [.int (iI ((zdv l6 12) * 12)), .ref (ad 14 0 (106 + 1)), .long (lI ((B 14 0 64 l9) - (B 14 0 63 l9))), .long (lI l7)]) ⟨hx, hb, hml, hown, hts⟩ (c_M_mod (l := l) hc15) (va_cwS 2 hts (gdS k_12_164 k_12_165 k_1_9 k_12_166) rfl rfl rfl (by decide +kernel) ⟨Nat.le_of_ble_eq_true rfl, Nat.le_of_ble_eq_true rfl⟩) (zPS X hZ hS [.int (iI ((B 14 0 65 l9) - (zrm l6 12))), .int (iI 12)]) rfl rfl hl.1 rfl (lv_room (Nat.le_of_ble_eq_true rfl)) (D_184 W_prog_15_method_195_code_64 29 rfl rfl rfl) ⟨Nat.le_of_ble_eq_true rfl, Nat.le_of_ble_eq_true rfl⟩) hS (fun q _ h => zAin X hS q h) (zAin X hS) (fun p15 u15 t15 H15 locs15 ht15 hv15 hw15 hB15 hz15 hk15 hS15 => ?_)
      have hZ15 := zBack X ht15 hB15
      subst hw15
      refine zadd hx hb (D_96 W_prog_15_method_195_code_96 0 rfl rfl) ?_
      obtain ⟨g16, hf⟩ := gif hf
      refine zald (ci := 14) (k := 106) hx hb hK rfl hZ15 (by decide) (by decide) rfl (Nat.le_of_ble_eq_true rfl) g16.1 g16.2 (D_46 W_prog_15_method_195_code_96 1 rfl rfl) ?_
      obtain ⟨g17, hf⟩ := gif hf
      refine zi2l hx hb g17 (D_133 W_prog_15_method_195_code_96 2 rfl rfl) ?_
      refine zlmul hx hb (D_105 W_prog_15_method_195_code_96 3 rfl rfl) ?_
      refine zladd hx hb (D_97 W_prog_15_method_195_code_96 4 rfl rfl) ?_
      refine lv_lstore (lv' := [(7, .long (lI (l7 + (((B 14 0 64 l9) - (B 14 0 63 l9)) * (B15 14 0 106 (((zdv l6 12) * 12) + r15)))))), (9, .int (iI l9)), (6, .int (iI l6)), (5, .int (iI l5)), (3, .long (lI l3)), (2, .int (iI l2)), (0, .ref (ad 14 0 0))]) hx hb (D_55 W_prog_15_method_195_code_96 5 rfl rfl) hl (by decide) rfl (fun ls hl => ?_)
      refine lv_iinc (v := iI (l9 + 1)) (lv' := [(9, .int (iI (l9 + 1))), (7, .long (lI (l7 + (((B 14 0 64 l9) - (B 14 0 63 l9)) * (B15 14 0 106 (((zdv l6 12) * 12) + r15)))))), (6, .int (iI l6)), (5, .int (iI l5)), (3, .long (lI l3)), (2, .int (iI l2)), (0, .ref (ad 14 0 0))]) hx hb d_15_195_103 hl (k := 1) rfl (iI_add _ 1) (by decide) rfl (fun ls hl => ?_)
      refine lv_goto (tgt := 42) hx hb (D_167 W_prog_15_method_195_code_96 10 rfl rfl rfl) (by decide) ?_
      exact ih hf hZ15 hS15 (lv_sub hl [0, 1, 2, 3, 4, 5, 6] rfl)

def f_M_keyHeard_29 (K : Nat) : Nat → Int → Int → Int → Int → zF → zB → zO
  | 0, _, _, _, _, _, _ => none
  | n + 1, l6, l5, l3, l2, F, B => if r32 l6 then (if 24 ≤ l6 then some (l5, F, B) else f_M_keyHeard_42 (f_M_keyHeard_29 K n) K K 0 0 l6 l5 l3 l2 F B) else none
set_option maxHeartbeats 4000000 in
set_option maxRecDepth 100000 in
theorem b_M_keyHeard_29 {D : va_G} {ca : Nat → ClassId} {ad : Nat → Int → Nat → Nat} {L : List Nat} {aS vS : Nat → Nat} {A : Nat → Prop} {p : Program} {l : Launch} {e : Env} {s : State} {m : MethodId} {args : Array Value} {below : List Frame} {meth : Method} {c : Code} {K : Nat} {r : Int} {F9 : zF} {B9 : zB} (X : zX D ca L aS vS A p s m args meth c prog_15_method_195_code 10 (Option.some Jvm.ClassFile.FieldType.int) "StaveHouseModel") : ∀ {n : Nat} {l6 : Int} {l5 : Int} {l3 : Int} {l2 : Int} {F : zF} {B : zB} {H : Heap} {locs : List Loc} {ls : Array Slot}, f_M_keyHeard_29 K n l6 l5 l3 l2 F B = some (r, F9, B9) → zH D ca ad lnM nM L F B A H → va_S A s.heap H locs → lv_has ls 10 [(6, .int (iI l6)), (5, .int (iI l5)), (3, .long (lI l3)), (2, .int (iI l2)), (0, .ref (ad 14 0 0))] → W p l e ({ frames := 6, cells := 0, slots := 0, locals := 168 } : Room) s m args below meth c H locs 0 0 (MQ below (Q_M_keyHeard D ca ad L r F9 B9 A) args s 0 0 A) (F0 m 29 ls []) := by
  obtain ⟨hx, hb, hr, hml, hown, hts, hlk, hK, hA, hL, hX⟩ := id X
  intro n
  induction n with
  | zero =>
    intros
    rename_i hf _ _ _
    cases hf
  | succ n ih =>
    intro l6 l5 l3 l2 F B H locs ls hf hZ hS hl
    replace hf : (if r32 l6 then (if 24 ≤ l6 then some (l5, F, B) else f_M_keyHeard_42 (f_M_keyHeard_29 K n) K K 0 0 l6 l5 l3 l2 F B) else none) = some (r, F9, B9) := hf
    refine lv_iload hx hb (D_21 W_prog_15_method_195_code_0 29 rfl rfl) (lv_at hl 0 rfl) ?_
    refine lv_bipush (v := iI 24) hx hb (D_16 W_prog_15_method_195_code_0 31 rfl rfl rfl) (by decide) ?_
    obtain ⟨g5, hf⟩ := gif hf
    refine zge (tgt := 132) hx hb g5 (by decide) (D_162 W_prog_15_method_195_code_32 1 rfl rfl rfl) (by decide) (fun h6 => ?_) (fun h6 => ?_)
    · replace hf := gpos hf h6
      refine lv_iload hx hb (D_21 W_prog_15_method_195_code_128 4 rfl rfl) (lv_at hl 1 rfl) ?_
      cases hf
      exact W.iret hx hb hr (fun t ht hW => ⟨⟨_, (), rfl, rfl, by rw [ht]; exact hZ, va_K.moved hW.alike hK⟩, hS.F ht⟩) hS.2.2 (D_172 W_prog_15_method_195_code_128 6 rfl rfl) hlk
    · replace hf := gneg hf h6
      refine lv_lconst (v := lI 0) hx hb (D_9 W_prog_15_method_195_code_32 4 rfl rfl) (by decide) ?_
      refine lv_lstore (lv' := [(7, .long (lI 0)), (6, .int (iI l6)), (5, .int (iI l5)), (3, .long (lI l3)), (2, .int (iI l2)), (0, .ref (ad 14 0 0))]) hx hb (D_55 W_prog_15_method_195_code_32 5 rfl rfl) hl (by decide) rfl (fun ls hl => ?_)
      refine lv_iconst (v := iI 0) hx hb (D_3 W_prog_15_method_195_code_32 7 rfl rfl) rfl ?_
      refine lv_istore (lv' := [(9, .int (iI 0)), (7, .long (lI 0)), (6, .int (iI l6)), (5, .int (iI l5)), (3, .long (lI l3)), (2, .int (iI l2)), (0, .ref (ad 14 0 0))]) hx hb (D_54 W_prog_15_method_195_code_32 8 rfl rfl) hl (by decide) rfl (fun ls hl => ?_)
      exact b_M_keyHeard_42 X ih hf hZ hS (lv_sub hl [0, 1, 2, 3, 4, 5, 6] rfl)

def f_M_keyHeard_17 (K : Nat)  (F : zF) (B : zB) : zO := some ((-1), F, B)
set_option maxHeartbeats 4000000 in
set_option maxRecDepth 100000 in
theorem b_M_keyHeard_17 {D : va_G} {ca : Nat → ClassId} {ad : Nat → Int → Nat → Nat} {L : List Nat} {aS vS : Nat → Nat} {A : Nat → Prop} {p : Program} {l : Launch} {e : Env} {s : State} {m : MethodId} {args : Array Value} {below : List Frame} {meth : Method} {c : Code} {K : Nat} {r : Int} {F9 : zF} {B9 : zB} (X : zX D ca L aS vS A p s m args meth c prog_15_method_195_code 10 (Option.some Jvm.ClassFile.FieldType.int) "StaveHouseModel")  {F : zF} {B : zB} {H : Heap} {locs : List Loc} {ls : Array Slot} (hf : f_M_keyHeard_17 K  F B = some (r, F9, B9)) (hZ : zH D ca ad lnM nM L F B A H) (hS : va_S A s.heap H locs) (hl : lv_has ls 10 []) : W p l e ({ frames := 6, cells := 0, slots := 0, locals := 168 } : Room) s m args below meth c H locs 0 0 (MQ below (Q_M_keyHeard D ca ad L r F9 B9 A) args s 0 0 A) (F0 m 17 ls []) := by
  obtain ⟨hx, hb, hr, hml, hown, hts, hlk, hK, hA, hL, hX⟩ := id X
  replace hf : (some ((-1), F, B)) = some (r, F9, B9) := hf
  refine lv_iconst (v := iI (-1)) hx hb (D_2 W_prog_15_method_195_code_0 17 rfl rfl) rfl ?_
  cases hf
  exact W.iret hx hb hr (fun t ht hW => ⟨⟨_, (), rfl, rfl, by rw [ht]; exact hZ, va_K.moved hW.alike hK⟩, hS.F ht⟩) hS.2.2 (D_172 W_prog_15_method_195_code_0 18 rfl rfl) hlk

def f_M_keyHeard (K : Nat) (l1 : Int) (F : zF) (B : zB) : zO := zbind (f_M_gather K l1 F B) (fun r1 F1 B1 => if r32 r1 then (if r1 = 0 then f_M_keyHeard_17 K F1 B1 else (if r1 ≤ 2000 then f_M_keyHeard_29 K K 0 (-1) (-1) r1 F1 B1 else f_M_keyHeard_17 K F1 B1)) else none)
set_option maxHeartbeats 4000000 in
set_option maxRecDepth 100000 in
theorem c_M_keyHeard {l : Launch} {D : va_G} {ca : Nat → ClassId} {ad : Nat → Int → Nat → Nat} {L : List Nat} {aS vS : Nat → Nat} {sz K : Nat}  {l1 : Int} {F F9 : zF} {B B9 : zB} {r : Int} (hf : f_M_keyHeard K l1 F B = some (r, F9, B9)) : Met l ({ cls := "StaveHouseModel", name := "keyHeard", desc := "(LStaveHouseModel$Piece;)I" } : Jvm.MethodName) (Cond.code ({ cls := "StaveHouseModel", name := "keyHeard", desc := "(LStaveHouseModel$Piece;)I" } : Jvm.MethodName) prog_15_method_195_code 10 (Option.some Jvm.ClassFile.FieldType.int) :: wAll) ({ frames := 6, cells := 0, slots := 0, locals := 168 } : Room) (va_Pc [.ref (ad 14 0 0), .ref (ad 13 l1 0)] (zPre D ca ad lnM nM L aS vS F B sz)) (Q_M_keyHeard D ca ad L r F9 B9 (zA L sz)) 0 0 (zA L sz) := by
  refine zMet (Qc := Q_M_keyHeard D ca ad L r F9 B9) (lv := [(0, .ref (ad 14 0 0)), (1, .ref (ad 13 l1 0))]) (by decide) (Nat.le_of_ble_eq_true rfl) rfl (fun A p e s m below meth c ls X hZ hS hl => ?_)
  obtain ⟨hx, hb, hr, hml, hown, hts, hlk, hK, hA, hL, hX⟩ := id X
  replace hf : (zbind (f_M_gather K l1 F B) (fun r1 F1 B1 => if r32 r1 then (if r1 = 0 then f_M_keyHeard_17 K F1 B1 else (if r1 ≤ 2000 then f_M_keyHeard_29 K K 0 (-1) (-1) r1 F1 B1 else f_M_keyHeard_17 K F1 B1)) else none)) = some (r, F9, B9) := hf
  refine lv_aload_n hx hb (D_42 W_prog_15_method_195_code_0 0 rfl rfl) rfl (lv_at hl 0 rfl) ?_
  refine lv_aload_n hx hb (D_43 W_prog_15_method_195_code_0 1 rfl rfl) rfl (lv_at hl 1 rfl) ?_
  obtain ⟨r1, F1, B1, hc1, hf⟩ := gbind hf
  refine va_calli (va_runV (As := [.ref (ad 13 l1 0)]) (rest := []) ⟨hx, hb, hml, hown, hts⟩ (c_M_gather (l := l) hc1) (cwV 1 hts (gdV k_12_125 k_12_127 ks_132 k_1_9 k_12_128) rfl rfl rfl (by decide +kernel) ⟨Nat.le_of_ble_eq_true rfl, Nat.le_of_ble_eq_true rfl⟩) (zPV X hZ hS (ci := 14) (by decide) (by decide) (r := (RX14, TX14, 107)) rfl [.ref (ad 13 l1 0)]) rfl rfl hl.1 rfl (lv_room (Nat.le_of_ble_eq_true rfl)) (D_182 W_prog_15_method_195_code_0 2 rfl rfl rfl) ⟨Nat.le_of_ble_eq_true rfl, Nat.le_of_ble_eq_true rfl⟩) hS (fun q _ h => zAin X hS q h) (zAin X hS) (fun p1 u1 t1 H1 locs1 ht1 hv1 hw1 hB1 hz1 hk1 hS1 => ?_)
  have hZ1 := zBack X ht1 hB1
  subst hw1
  refine lv_istore_n (lv' := [(2, .int (iI r1)), (0, .ref (ad 14 0 0)), (1, .ref (ad 13 l1 0))]) hx hb (D_61 W_prog_15_method_195_code_0 5 rfl rfl) rfl hl (by decide) rfl (fun ls hl => ?_)
  refine lv_iload_n hx hb (D_28 W_prog_15_method_195_code_0 6 rfl rfl) rfl (lv_at hl 0 rfl) ?_
  obtain ⟨g2, hf⟩ := gif hf
  refine z0eq (tgt := 17) hx hb g2 (D_153 W_prog_15_method_195_code_0 7 rfl rfl rfl) (by decide) (fun h3 => ?_) (fun h3 => ?_)
  · replace hf := gpos hf h3
    exact b_M_keyHeard_17 X hf hZ1 hS1 (lv_sub hl [] rfl)
  · replace hf := gneg hf h3
    refine lv_iload_n hx hb (D_28 W_prog_15_method_195_code_0 10 rfl rfl) rfl (lv_at hl 0 rfl) ?_
    refine lv_sipush (v := iI 2000) hx hb (D_17 W_prog_15_method_195_code_0 11 rfl rfl rfl) (by decide) ?_
    refine zle (tgt := 19) hx hb g2 (by decide) (D_164 W_prog_15_method_195_code_0 14 rfl rfl rfl) (by decide) (fun h4 => ?_) (fun h4 => ?_)
    · replace hf := gpos hf h4
      refine lv_ldc2 hx hb hown (hts _ k_12_105) (D_20 W_prog_15_method_195_code_0 19 rfl rfl rfl) ?_
      refine W.eq (g2 := F0 m 22 ls [.long (lI (-1))]) rfl ?_
      refine lv_lstore_n (lv' := [(3, .long (lI (-1))), (2, .int (iI r1)), (0, .ref (ad 14 0 0)), (1, .ref (ad 13 l1 0))]) hx hb (D_66 W_prog_15_method_195_code_0 22 rfl rfl) rfl hl (by decide) rfl (fun ls hl => ?_)
      refine lv_iconst (v := iI (-1)) hx hb (D_2 W_prog_15_method_195_code_0 23 rfl rfl) rfl ?_
      refine lv_istore (lv' := [(5, .int (iI (-1))), (3, .long (lI (-1))), (2, .int (iI r1)), (0, .ref (ad 14 0 0)), (1, .ref (ad 13 l1 0))]) hx hb (D_54 W_prog_15_method_195_code_0 24 rfl rfl) hl (by decide) rfl (fun ls hl => ?_)
      refine lv_iconst (v := iI 0) hx hb (D_3 W_prog_15_method_195_code_0 26 rfl rfl) rfl ?_
      refine lv_istore (lv' := [(6, .int (iI 0)), (5, .int (iI (-1))), (3, .long (lI (-1))), (2, .int (iI r1)), (0, .ref (ad 14 0 0)), (1, .ref (ad 13 l1 0))]) hx hb (D_54 W_prog_15_method_195_code_0 27 rfl rfl) hl (by decide) rfl (fun ls hl => ?_)
      exact b_M_keyHeard_29 X hf hZ1 hS1 (lv_sub hl [0, 1, 2, 3, 4] rfl)
    · replace hf := gneg hf h4
      exact b_M_keyHeard_17 X hf hZ1 hS1 (lv_sub hl [] rfl)

abbrev Q_M_perform (D : va_G) (ca : Nat → ClassId) (ad : Nat → Int → Nat → Nat) (L : List Nat) (r : Int) (F : zF) (B : zB) (A : Nat → Prop) : Array Value → State → Outcome → State → Prop := va_Qi (S := Unit) (fun p _ => p = iI r) (fun _ => zPo D ca ad lnM nM L F B A) A
def f_M_perform_309 (rec198 : Int → Int → zF → zB → zO) (K : Nat) (l3 : Int) (l2 : Int) (s0 : Int) (s1 : Int) (s2 : Int) (F : zF) (B : zB) : zO := if 0 ≤ s0 ∧ s0 < 3 then if 0 ≤ s1 ∧ s1 < 4000 then rec198 (l3 + 1) l2 F (zup4 B 13 s0 64 s1 s2) else none else none
set_option maxHeartbeats 4000000 in
set_option maxRecDepth 100000 in
theorem b_M_perform_309 {D : va_G} {ca : Nat → ClassId} {ad : Nat → Int → Nat → Nat} {L : List Nat} {aS vS : Nat → Nat} {A : Nat → Prop} {p : Program} {l : Launch} {e : Env} {s : State} {m : MethodId} {args : Array Value} {below : List Frame} {meth : Method} {c : Code} {K : Nat} {r : Int} {F9 : zF} {B9 : zB} (X : zX D ca L aS vS A p s m args meth c prog_15_method_121_code 6 (Option.some Jvm.ClassFile.FieldType.int) "StaveHouseModel") {rec198 : Int → Int → zF → zB → zO} (hrec198 : ∀ {l3 : Int} {l2 : Int} {F : zF} {B : zB} {H : Heap} {locs : List Loc} {ls : Array Slot}, rec198 l3 l2 F B = some (r, F9, B9) → zH D ca ad lnM nM L F B A H → va_S A s.heap H locs → lv_has ls 6 [(3, .int (iI l3)), (2, va_rf (zrf ad 13 l2)), (0, .ref (ad 14 0 0))] → W p l e ({ frames := 6, cells := 0, slots := 0, locals := 168 } : Room) s m args below meth c H locs 0 0 (MQ below (Q_M_perform D ca ad L r F9 B9 A) args s 0 0 A) (F0 m 198 ls [])) {l3 : Int} {l2 : Int} {s0 : Int} {s1 : Int} {s2 : Int} {F : zF} {B : zB} {H : Heap} {locs : List Loc} {ls : Array Slot} (hf : f_M_perform_309 rec198 K l3 l2 s0 s1 s2 F B = some (r, F9, B9)) (hZ : zH D ca ad lnM nM L F B A H) (hS : va_S A s.heap H locs) (hl : lv_has ls 6 [(3, .int (iI l3)), (2, va_rf (zrf ad 13 l2)), (0, .ref (ad 14 0 0))]) : W p l e ({ frames := 6, cells := 0, slots := 0, locals := 168 } : Room) s m args below meth c H locs 0 0 (MQ below (Q_M_perform D ca ad L r F9 B9 A) args s 0 0 A) (F0 m 309 ls [.int (iI s2), .int (iI s1), .ref (ad 13 s0 (64 + 1))]) := by
  obtain ⟨hx, hb, hr, hml, hown, hts, hlk, hK, hA, hL, hX⟩ := id X
  replace hf : (if 0 ≤ s0 ∧ s0 < 3 then if 0 ≤ s1 ∧ s1 < 4000 then rec198 (l3 + 1) l2 F (zup4 B 13 s0 64 s1 s2) else none else none) = some (r, F9, B9) := hf
  obtain ⟨g63, hf⟩ := gif hf
  obtain ⟨g65, hf⟩ := gif hf
  refine zast (ci := 13) (k := 64) hx hb hK rfl hZ hS g63.1 g63.2 rfl (Nat.le_of_ble_eq_true rfl) g65.1 g65.2 (D_79 W_prog_15_method_121_code_288 21 rfl rfl) (fun H66 locs66 hZ66 hS66 => ?_)
  refine lv_iinc (v := iI (l3 + 1)) (lv' := [(3, .int (iI (l3 + 1))), (2, va_rf (zrf ad 13 l2)), (0, .ref (ad 14 0 0))]) hx hb d_15_121_310 hl (k := 0) rfl (iI_add _ 1) (by decide) (by cases zrf ad 13 l2 <;> rfl) (fun ls hl => ?_)
  refine lv_goto (tgt := 198) hx hb (D_167 W_prog_15_method_121_code_288 25 rfl rfl rfl) (by decide) ?_
  exact hrec198 hf hZ66 hS66 (lv_sub hl [0, 1, 2] rfl)

def f_M_perform_261 (rec198 : Int → Int → zF → zB → zO) (K : Nat) (l5 : Int) (l4 : Int) (l3 : Int) (l2 : Int) (s0 : Int) (s1 : Int) (s2 : Int) (F : zF) (B : zB) : zO := if 0 ≤ s0 ∧ s0 < 3 then if 0 ≤ s1 ∧ s1 < 4000 then if 0 ≤ l2 ∧ l2 < 3 then if 0 ≤ l4 ∧ l4 < 2000 then if 0 ≤ l3 ∧ l3 < 4000 then if r32 l5 then (if l5 = 0 then f_M_perform_309 rec198 K l3 l2 l2 l3 0 F (zup4 (zup4 (zup4 B 13 s0 61 s1 s2) 13 l2 62 l3 ((zup4 B 13 s0 61 s1 s2) 14 0 67 l4)) 13 l2 63 l3 ((zup4 (zup4 B 13 s0 61 s1 s2) 13 l2 62 l3 ((zup4 B 13 s0 61 s1 s2) 14 0 67 l4)) 14 0 65 l4)) else f_M_perform_309 rec198 K l3 l2 l2 l3 ((zup4 (zup4 (zup4 B 13 s0 61 s1 s2) 13 l2 62 l3 ((zup4 B 13 s0 61 s1 s2) 14 0 67 l4)) 13 l2 63 l3 ((zup4 (zup4 B 13 s0 61 s1 s2) 13 l2 62 l3 ((zup4 B 13 s0 61 s1 s2) 14 0 67 l4)) 14 0 65 l4)) 14 0 66 l4) F (zup4 (zup4 (zup4 B 13 s0 61 s1 s2) 13 l2 62 l3 ((zup4 B 13 s0 61 s1 s2) 14 0 67 l4)) 13 l2 63 l3 ((zup4 (zup4 B 13 s0 61 s1 s2) 13 l2 62 l3 ((zup4 B 13 s0 61 s1 s2) 14 0 67 l4)) 14 0 65 l4))) else none else none else none else none else none else none
set_option maxHeartbeats 4000000 in
set_option maxRecDepth 100000 in
theorem b_M_perform_261 {D : va_G} {ca : Nat → ClassId} {ad : Nat → Int → Nat → Nat} {L : List Nat} {aS vS : Nat → Nat} {A : Nat → Prop} {p : Program} {l : Launch} {e : Env} {s : State} {m : MethodId} {args : Array Value} {below : List Frame} {meth : Method} {c : Code} {K : Nat} {r : Int} {F9 : zF} {B9 : zB} (X : zX D ca L aS vS A p s m args meth c prog_15_method_121_code 6 (Option.some Jvm.ClassFile.FieldType.int) "StaveHouseModel") {rec198 : Int → Int → zF → zB → zO} (hrec198 : ∀ {l3 : Int} {l2 : Int} {F : zF} {B : zB} {H : Heap} {locs : List Loc} {ls : Array Slot}, rec198 l3 l2 F B = some (r, F9, B9) → zH D ca ad lnM nM L F B A H → va_S A s.heap H locs → lv_has ls 6 [(3, .int (iI l3)), (2, va_rf (zrf ad 13 l2)), (0, .ref (ad 14 0 0))] → W p l e ({ frames := 6, cells := 0, slots := 0, locals := 168 } : Room) s m args below meth c H locs 0 0 (MQ below (Q_M_perform D ca ad L r F9 B9 A) args s 0 0 A) (F0 m 198 ls [])) {l5 : Int} {l4 : Int} {l3 : Int} {l2 : Int} {s0 : Int} {s1 : Int} {s2 : Int} {F : zF} {B : zB} {H : Heap} {locs : List Loc} {ls : Array Slot} (hf : f_M_perform_261 rec198 K l5 l4 l3 l2 s0 s1 s2 F B = some (r, F9, B9)) (hZ : zH D ca ad lnM nM L F B A H) (hS : va_S A s.heap H locs) (hl : lv_has ls 6 [(5, .int (iI l5)), (4, .int (iI l4)), (3, .int (iI l3)), (2, va_rf (zrf ad 13 l2)), (0, .ref (ad 14 0 0))]) : W p l e ({ frames := 6, cells := 0, slots := 0, locals := 168 } : Room) s m args below meth c H locs 0 0 (MQ below (Q_M_perform D ca ad L r F9 B9 A) args s 0 0 A) (F0 m 261 ls [.int (iI s2), .int (iI s1), .ref (ad 13 s0 (61 + 1))]) := by
  obtain ⟨hx, hb, hr, hml, hown, hts, hlk, hK, hA, hL, hX⟩ := id X
  replace hf : (if 0 ≤ s0 ∧ s0 < 3 then if 0 ≤ s1 ∧ s1 < 4000 then if 0 ≤ l2 ∧ l2 < 3 then if 0 ≤ l4 ∧ l4 < 2000 then if 0 ≤ l3 ∧ l3 < 4000 then if r32 l5 then (if l5 = 0 then f_M_perform_309 rec198 K l3 l2 l2 l3 0 F (zup4 (zup4 (zup4 B 13 s0 61 s1 s2) 13 l2 62 l3 ((zup4 B 13 s0 61 s1 s2) 14 0 67 l4)) 13 l2 63 l3 ((zup4 (zup4 B 13 s0 61 s1 s2) 13 l2 62 l3 ((zup4 B 13 s0 61 s1 s2) 14 0 67 l4)) 14 0 65 l4)) else f_M_perform_309 rec198 K l3 l2 l2 l3 ((zup4 (zup4 (zup4 B 13 s0 61 s1 s2) 13 l2 62 l3 ((zup4 B 13 s0 61 s1 s2) 14 0 67 l4)) 13 l2 63 l3 ((zup4 (zup4 B 13 s0 61 s1 s2) 13 l2 62 l3 ((zup4 B 13 s0 61 s1 s2) 14 0 67 l4)) 14 0 65 l4)) 14 0 66 l4) F (zup4 (zup4 (zup4 B 13 s0 61 s1 s2) 13 l2 62 l3 ((zup4 B 13 s0 61 s1 s2) 14 0 67 l4)) 13 l2 63 l3 ((zup4 (zup4 B 13 s0 61 s1 s2) 13 l2 62 l3 ((zup4 B 13 s0 61 s1 s2) 14 0 67 l4)) 14 0 65 l4))) else none else none else none else none else none else none) = some (r, F9, B9) := hf
  obtain ⟨g53, hf⟩ := gif hf
  obtain ⟨g54, hf⟩ := gif hf
  refine zast (ci := 13) (k := 61) hx hb hK rfl hZ hS g53.1 g53.2 rfl (Nat.le_of_ble_eq_true rfl) g54.1 g54.2 (D_79 W_prog_15_method_121_code_256 5 rfl rfl) (fun H55 locs55 hZ55 hS55 => ?_)
  refine zaload_n hx hb (D_44 W_prog_15_method_121_code_256 6 rfl rfl) rfl (lv_at hl 3 rfl) ?_
  obtain ⟨g56, hf⟩ := gif hf
  refine zunrf g56.1 ?_
  refine zget (ci := 13) (C := RX13) (T := TX13) (v := .ref (ad 13 l2 (62 + 1))) (k := 62) hx hb hts inW_13 hown hK hZ55 g56.1 g56.2 rfl (by decide) k_9_237 rfl (D_180 W_prog_15_method_121_code_256 7 rfl rfl rfl) ?_
  refine lv_iload_n hx hb (D_29 W_prog_15_method_121_code_256 10 rfl rfl) rfl (lv_at hl 2 rfl) ?_
  refine lv_aload_n hx hb (D_42 W_prog_15_method_121_code_256 11 rfl rfl) rfl (lv_at hl 4 rfl) ?_
  refine zget (ci := 14) (C := RX14) (T := TX14) (v := .ref (ad 14 0 (67 + 1))) (k := 67) hx hb hts inW_14 hown hK hZ55 (by decide) (by decide) rfl (by decide) k_11_65 rfl (D_180 W_prog_15_method_121_code_256 12 rfl rfl rfl) ?_
  refine lv_iload hx hb (D_21 W_prog_15_method_121_code_256 15 rfl rfl) (lv_at hl 1 rfl) ?_
  obtain ⟨g57, hf⟩ := gif hf
  refine zald (ci := 14) (k := 67) hx hb hK rfl hZ55 (by decide) (by decide) rfl (Nat.le_of_ble_eq_true rfl) g57.1 g57.2 (D_46 W_prog_15_method_121_code_256 17 rfl rfl) ?_
  obtain ⟨g58, hf⟩ := gif hf
  refine zast (ci := 13) (k := 62) hx hb hK rfl hZ55 hS55 g56.1 g56.2 rfl (Nat.le_of_ble_eq_true rfl) g58.1 g58.2 (D_79 W_prog_15_method_121_code_256 18 rfl rfl) (fun H59 locs59 hZ59 hS59 => ?_)
  refine zaload_n hx hb (D_44 W_prog_15_method_121_code_256 19 rfl rfl) rfl (lv_at hl 3 rfl) ?_
  refine zunrf g56.1 ?_
  refine zget (ci := 13) (C := RX13) (T := TX13) (v := .ref (ad 13 l2 (63 + 1))) (k := 63) hx hb hts inW_13 hown hK hZ59 g56.1 g56.2 rfl (by decide) k_9_239 rfl (D_180 W_prog_15_method_121_code_256 20 rfl rfl rfl) ?_
  refine lv_iload_n hx hb (D_29 W_prog_15_method_121_code_256 23 rfl rfl) rfl (lv_at hl 2 rfl) ?_
  refine lv_aload_n hx hb (D_42 W_prog_15_method_121_code_256 24 rfl rfl) rfl (lv_at hl 4 rfl) ?_
  refine zget (ci := 14) (C := RX14) (T := TX14) (v := .ref (ad 14 0 (65 + 1))) (k := 65) hx hb hts inW_14 hown hK hZ59 (by decide) (by decide) rfl (by decide) k_11_63 rfl (D_180 W_prog_15_method_121_code_256 25 rfl rfl rfl) ?_
  refine lv_iload hx hb (D_21 W_prog_15_method_121_code_256 28 rfl rfl) (lv_at hl 1 rfl) ?_
  refine zald (ci := 14) (k := 65) hx hb hK rfl hZ59 (by decide) (by decide) rfl (Nat.le_of_ble_eq_true rfl) g57.1 g57.2 (D_46 W_prog_15_method_121_code_256 30 rfl rfl) ?_
  refine zast (ci := 13) (k := 63) hx hb hK rfl hZ59 hS59 g56.1 g56.2 rfl (Nat.le_of_ble_eq_true rfl) g58.1 g58.2 (D_79 W_prog_15_method_121_code_256 31 rfl rfl) (fun H60 locs60 hZ60 hS60 => ?_)
  refine zaload_n hx hb (D_44 W_prog_15_method_121_code_288 0 rfl rfl) rfl (lv_at hl 3 rfl) ?_
  refine zunrf g56.1 ?_
  refine zget (ci := 13) (C := RX13) (T := TX13) (v := .ref (ad 13 l2 (64 + 1))) (k := 64) hx hb hts inW_13 hown hK hZ60 g56.1 g56.2 rfl (by decide) k_10_1 rfl (D_180 W_prog_15_method_121_code_288 1 rfl rfl rfl) ?_
  refine lv_iload_n hx hb (D_29 W_prog_15_method_121_code_288 4 rfl rfl) rfl (lv_at hl 2 rfl) ?_
  refine lv_iload hx hb (D_21 W_prog_15_method_121_code_288 5 rfl rfl) (lv_at hl 0 rfl) ?_
  obtain ⟨g61, hf⟩ := gif hf
  refine z0eq (tgt := 308) hx hb g61 (D_153 W_prog_15_method_121_code_288 7 rfl rfl rfl) (by decide) (fun h62 => ?_) (fun h62 => ?_)
  · replace hf := gpos hf h62
    refine lv_iconst (v := iI 0) hx hb (D_3 W_prog_15_method_121_code_288 20 rfl rfl) rfl ?_
    exact b_M_perform_309 X hrec198 hf hZ60 hS60 (lv_sub hl [2, 3, 4] rfl)
  · replace hf := gneg hf h62
    refine lv_aload_n hx hb (D_42 W_prog_15_method_121_code_288 10 rfl rfl) rfl (lv_at hl 4 rfl) ?_
    refine zget (ci := 14) (C := RX14) (T := TX14) (v := .ref (ad 14 0 (66 + 1))) (k := 66) hx hb hts inW_14 hown hK hZ60 (by decide) (by decide) rfl (by decide) k_11_64 rfl (D_180 W_prog_15_method_121_code_288 11 rfl rfl rfl) ?_
    refine lv_iload hx hb (D_21 W_prog_15_method_121_code_288 14 rfl rfl) (lv_at hl 1 rfl) ?_
    refine zald (ci := 14) (k := 66) hx hb hK rfl hZ60 (by decide) (by decide) rfl (Nat.le_of_ble_eq_true rfl) g57.1 g57.2 (D_46 W_prog_15_method_121_code_288 16 rfl rfl) ?_
    refine lv_goto (tgt := 309) hx hb (D_167 W_prog_15_method_121_code_288 17 rfl rfl rfl) (by decide) ?_
    exact b_M_perform_309 X hrec198 hf hZ60 hS60 (lv_sub hl [2, 3, 4] rfl)

def f_M_perform_232 (rec198 : Int → Int → zF → zB → zO) (K : Nat) (l4 : Int) (l3 : Int) (l2 : Int) (s0 : Int) (F : zF) (B : zB) : zO := if 0 ≤ l2 ∧ l2 < 3 then if r32 s0 then (if s0 = 0 then if 0 ≤ l4 ∧ l4 < 2000 then f_M_perform_261 rec198 K s0 l4 l3 l2 l2 l3 (B 14 0 64 l4) F B else none else if 0 ≤ l4 ∧ l4 < 2000 then f_M_perform_261 rec198 K s0 l4 l3 l2 l2 l3 (B 14 0 63 l4) F B else none) else none else none
set_option maxHeartbeats 4000000 in
set_option maxRecDepth 100000 in
theorem b_M_perform_232 {D : va_G} {ca : Nat → ClassId} {ad : Nat → Int → Nat → Nat} {L : List Nat} {aS vS : Nat → Nat} {A : Nat → Prop} {p : Program} {l : Launch} {e : Env} {s : State} {m : MethodId} {args : Array Value} {below : List Frame} {meth : Method} {c : Code} {K : Nat} {r : Int} {F9 : zF} {B9 : zB} (X : zX D ca L aS vS A p s m args meth c prog_15_method_121_code 6 (Option.some Jvm.ClassFile.FieldType.int) "StaveHouseModel") {rec198 : Int → Int → zF → zB → zO} (hrec198 : ∀ {l3 : Int} {l2 : Int} {F : zF} {B : zB} {H : Heap} {locs : List Loc} {ls : Array Slot}, rec198 l3 l2 F B = some (r, F9, B9) → zH D ca ad lnM nM L F B A H → va_S A s.heap H locs → lv_has ls 6 [(3, .int (iI l3)), (2, va_rf (zrf ad 13 l2)), (0, .ref (ad 14 0 0))] → W p l e ({ frames := 6, cells := 0, slots := 0, locals := 168 } : Room) s m args below meth c H locs 0 0 (MQ below (Q_M_perform D ca ad L r F9 B9 A) args s 0 0 A) (F0 m 198 ls [])) {l4 : Int} {l3 : Int} {l2 : Int} {s0 : Int} {F : zF} {B : zB} {H : Heap} {locs : List Loc} {ls : Array Slot} (hf : f_M_perform_232 rec198 K l4 l3 l2 s0 F B = some (r, F9, B9)) (hZ : zH D ca ad lnM nM L F B A H) (hS : va_S A s.heap H locs) (hl : lv_has ls 6 [(4, .int (iI l4)), (3, .int (iI l3)), (2, va_rf (zrf ad 13 l2)), (0, .ref (ad 14 0 0))]) : W p l e ({ frames := 6, cells := 0, slots := 0, locals := 168 } : Room) s m args below meth c H locs 0 0 (MQ below (Q_M_perform D ca ad L r F9 B9 A) args s 0 0 A) (F0 m 232 ls [.int (iI s0)]) := by
  obtain ⟨hx, hb, hr, hml, hown, hts, hlk, hK, hA, hL, hX⟩ := id X
  replace hf : (if 0 ≤ l2 ∧ l2 < 3 then if r32 s0 then (if s0 = 0 then if 0 ≤ l4 ∧ l4 < 2000 then f_M_perform_261 rec198 K s0 l4 l3 l2 l2 l3 (B 14 0 64 l4) F B else none else if 0 ≤ l4 ∧ l4 < 2000 then f_M_perform_261 rec198 K s0 l4 l3 l2 l2 l3 (B 14 0 63 l4) F B else none) else none else none) = some (r, F9, B9) := hf
  refine lv_istore (lv' := [(5, .int (iI s0)), (4, .int (iI l4)), (3, .int (iI l3)), (2, va_rf (zrf ad 13 l2)), (0, .ref (ad 14 0 0))]) hx hb (D_54 W_prog_15_method_121_code_224 8 rfl rfl) hl (by decide) rfl (fun ls hl => ?_)
  refine zaload_n hx hb (D_44 W_prog_15_method_121_code_224 10 rfl rfl) rfl (lv_at hl 3 rfl) ?_
  obtain ⟨g48, hf⟩ := gif hf
  refine zunrf g48.1 ?_
  refine zget (ci := 13) (C := RX13) (T := TX13) (v := .ref (ad 13 l2 (61 + 1))) (k := 61) hx hb hts inW_13 hown hK hZ g48.1 g48.2 rfl (by decide) k_9_235 rfl (D_180 W_prog_15_method_121_code_224 11 rfl rfl rfl) ?_
  refine lv_iload_n hx hb (D_29 W_prog_15_method_121_code_224 14 rfl rfl) rfl (lv_at hl 2 rfl) ?_
  refine lv_iload hx hb (D_21 W_prog_15_method_121_code_224 15 rfl rfl) (lv_at hl 0 rfl) ?_
  obtain ⟨g49, hf⟩ := gif hf
  refine z0eq (tgt := 254) hx hb g49 (D_153 W_prog_15_method_121_code_224 17 rfl rfl rfl) (by decide) (fun h50 => ?_) (fun h50 => ?_)
  · replace hf := gpos hf h50
    refine lv_aload_n hx hb (D_42 W_prog_15_method_121_code_224 30 rfl rfl) rfl (lv_at hl 4 rfl) ?_
    refine zget (ci := 14) (C := RX14) (T := TX14) (v := .ref (ad 14 0 (64 + 1))) (k := 64) hx hb hts inW_14 hown hK hZ (by decide) (by decide) rfl (by decide) k_11_62 rfl (D_180 W_prog_15_method_121_code_224 31 rfl rfl rfl) ?_
    refine lv_iload hx hb (D_21 W_prog_15_method_121_code_256 2 rfl rfl) (lv_at hl 1 rfl) ?_
    obtain ⟨g51, hf⟩ := gif hf
    refine zald (ci := 14) (k := 64) hx hb hK rfl hZ (by decide) (by decide) rfl (Nat.le_of_ble_eq_true rfl) g51.1 g51.2 (D_46 W_prog_15_method_121_code_256 4 rfl rfl) ?_
    exact b_M_perform_261 X hrec198 hf hZ hS (lv_sub hl [0, 1, 2, 3, 4] rfl)
  · replace hf := gneg hf h50
    refine lv_aload_n hx hb (D_42 W_prog_15_method_121_code_224 20 rfl rfl) rfl (lv_at hl 4 rfl) ?_
    refine zget (ci := 14) (C := RX14) (T := TX14) (v := .ref (ad 14 0 (63 + 1))) (k := 63) hx hb hts inW_14 hown hK hZ (by decide) (by decide) rfl (by decide) k_11_61 rfl (D_180 W_prog_15_method_121_code_224 21 rfl rfl rfl) ?_
    refine lv_iload hx hb (D_21 W_prog_15_method_121_code_224 24 rfl rfl) (lv_at hl 1 rfl) ?_
    obtain ⟨g52, hf⟩ := gif hf
    refine zald (ci := 14) (k := 63) hx hb hK rfl hZ (by decide) (by decide) rfl (Nat.le_of_ble_eq_true rfl) g52.1 g52.2 (D_46 W_prog_15_method_121_code_224 26 rfl rfl) ?_
    refine lv_goto (tgt := 261) hx hb (D_167 W_prog_15_method_121_code_224 27 rfl rfl rfl) (by decide) ?_
    exact b_M_perform_261 X hrec198 hf hZ hS (lv_sub hl [0, 1, 2, 3, 4] rfl)

def f_M_perform_198 (K : Nat) : Nat → Int → Int → zF → zB → zO
  | 0, _, _, _, _ => none
  | n + 1, l3, l2, F, B => if 0 ≤ l2 ∧ l2 < 3 then if r32 l3 then if r32 (F 13 l2 60) then (if (F 13 l2 60) ≤ l3 then some (F 14 0 62, (zup3 (zup3 (zup3 (zup3 (zup3 F 13 l2 65 0) 13 l2 66 0) 13 l2 67 0) 13 l2 68 0) 13 l2 69 0), B) else if 0 ≤ l3 ∧ l3 < 4000 then if r32 (zrm (B 14 0 69 l3) 2) then (if (zrm (B 14 0 69 l3) 2) = 0 then f_M_perform_232 (f_M_perform_198 K n) K (zdv (B 14 0 69 l3) 2) l3 l2 1 F B else f_M_perform_232 (f_M_perform_198 K n) K (zdv (B 14 0 69 l3) 2) l3 l2 0 F B) else none else none) else none else none else none
set_option maxHeartbeats 4000000 in
set_option maxRecDepth 100000 in
theorem b_M_perform_198 {D : va_G} {ca : Nat → ClassId} {ad : Nat → Int → Nat → Nat} {L : List Nat} {aS vS : Nat → Nat} {A : Nat → Prop} {p : Program} {l : Launch} {e : Env} {s : State} {m : MethodId} {args : Array Value} {below : List Frame} {meth : Method} {c : Code} {K : Nat} {r : Int} {F9 : zF} {B9 : zB} (X : zX D ca L aS vS A p s m args meth c prog_15_method_121_code 6 (Option.some Jvm.ClassFile.FieldType.int) "StaveHouseModel") : ∀ {n : Nat} {l3 : Int} {l2 : Int} {F : zF} {B : zB} {H : Heap} {locs : List Loc} {ls : Array Slot}, f_M_perform_198 K n l3 l2 F B = some (r, F9, B9) → zH D ca ad lnM nM L F B A H → va_S A s.heap H locs → lv_has ls 6 [(3, .int (iI l3)), (2, va_rf (zrf ad 13 l2)), (0, .ref (ad 14 0 0))] → W p l e ({ frames := 6, cells := 0, slots := 0, locals := 168 } : Room) s m args below meth c H locs 0 0 (MQ below (Q_M_perform D ca ad L r F9 B9 A) args s 0 0 A) (F0 m 198 ls []) := by
  obtain ⟨hx, hb, hr, hml, hown, hts, hlk, hK, hA, hL, hX⟩ := id X
  intro n
  induction n with
  | zero =>
    intros
    rename_i hf _ _ _
    cases hf
  | succ n ih =>
    intro l3 l2 F B H locs ls hf hZ hS hl
    replace hf : (if 0 ≤ l2 ∧ l2 < 3 then if r32 l3 then if r32 (F 13 l2 60) then (if (F 13 l2 60) ≤ l3 then some (F 14 0 62, (zup3 (zup3 (zup3 (zup3 (zup3 F 13 l2 65 0) 13 l2 66 0) 13 l2 67 0) 13 l2 68 0) 13 l2 69 0), B) else if 0 ≤ l3 ∧ l3 < 4000 then if r32 (zrm (B 14 0 69 l3) 2) then (if (zrm (B 14 0 69 l3) 2) = 0 then f_M_perform_232 (f_M_perform_198 K n) K (zdv (B 14 0 69 l3) 2) l3 l2 1 F B else f_M_perform_232 (f_M_perform_198 K n) K (zdv (B 14 0 69 l3) 2) l3 l2 0 F B) else none else none) else none else none else none) = some (r, F9, B9) := hf
    refine lv_iload_n hx hb (D_29 W_prog_15_method_121_code_192 6 rfl rfl) rfl (lv_at hl 0 rfl) ?_
    refine zaload_n hx hb (D_44 W_prog_15_method_121_code_192 7 rfl rfl) rfl (lv_at hl 1 rfl) ?_
    obtain ⟨g36, hf⟩ := gif hf
    refine zunrf g36.1 ?_
    refine zget (ci := 13) (C := RX13) (T := TX13) (v := .int (iI (F 13 l2 60))) (k := 60) hx hb hts inW_13 hown hK hZ g36.1 g36.2 rfl (by decide) k_9_233 rfl (D_180 W_prog_15_method_121_code_192 8 rfl rfl rfl) ?_
    obtain ⟨g37, hf⟩ := gif hf
    obtain ⟨g38, hf⟩ := gif hf
    refine zge (tgt := 316) hx hb g37 g38 (D_162 W_prog_15_method_121_code_192 11 rfl rfl rfl) (by decide) (fun h39 => ?_) (fun h39 => ?_)
    · replace hf := gpos hf h39
      refine zaload_n hx hb (D_44 W_prog_15_method_121_code_288 28 rfl rfl) rfl (lv_at hl 1 rfl) ?_
      refine lv_iconst (v := iI 0) hx hb (D_3 W_prog_15_method_121_code_288 29 rfl rfl) rfl ?_
      refine W.eq (g2 := F0 m 318 ls [.int (iI 0), .ref (ad 13 l2 0)]) (by rw [zrf_pos (ad := ad) (t := 13) g36.1]; try rfl) ?_
      refine zput (ci := 13) (C := RX13) (T := TX13) (k := 65) (v := 0) (w := .int (iI 0)) hx hb hts inW_13 tyX13 tyX13_ok nmX13 hown hK hZ hS g36.1 g36.2 rfl (by decide) k_10_2 rfl (fun G h => congrArg (fun q => Value.int (iI q)) h) rfl rfl (zno (by decide)) (D_181 W_prog_15_method_121_code_288 30 rfl rfl rfl) (fun H40 locs40 hZ40 hS40 => ?_)
      refine zaload_n hx hb (D_44 W_prog_15_method_121_code_320 1 rfl rfl) rfl (lv_at hl 1 rfl) ?_
      refine lv_iconst (v := iI 0) hx hb (D_3 W_prog_15_method_121_code_320 2 rfl rfl) rfl ?_
      refine W.eq (g2 := F0 m 323 ls [.int (iI 0), .ref (ad 13 l2 0)]) (by rw [zrf_pos (ad := ad) (t := 13) g36.1]; try rfl) ?_
      refine zput (ci := 13) (C := RX13) (T := TX13) (k := 66) (v := 0) (w := .int (iI 0)) hx hb hts inW_13 tyX13 tyX13_ok nmX13 hown hK hZ40 hS40 g36.1 g36.2 rfl (by decide) k_10_3 rfl (fun G h => congrArg (fun q => Value.int (iI q)) h) rfl rfl (zno (by decide)) (D_181 W_prog_15_method_121_code_320 3 rfl rfl rfl) (fun H41 locs41 hZ41 hS41 => ?_)
      refine zaload_n hx hb (D_44 W_prog_15_method_121_code_320 6 rfl rfl) rfl (lv_at hl 1 rfl) ?_
      refine lv_iconst (v := iI 0) hx hb (D_3 W_prog_15_method_121_code_320 7 rfl rfl) rfl ?_
      refine W.eq (g2 := F0 m 328 ls [.int (iI 0), .ref (ad 13 l2 0)]) (by rw [zrf_pos (ad := ad) (t := 13) g36.1]; try rfl) ?_
      refine zput (ci := 13) (C := RX13) (T := TX13) (k := 67) (v := 0) (w := .int (iI 0)) hx hb hts inW_13 tyX13 tyX13_ok nmX13 hown hK hZ41 hS41 g36.1 g36.2 rfl (by decide) k_10_4 rfl (fun G h => congrArg (fun q => Value.int (iI q)) h) rfl rfl (zno (by decide)) (D_181 W_prog_15_method_121_code_320 8 rfl rfl rfl) (fun H42 locs42 hZ42 hS42 => ?_)
      refine zaload_n hx hb (D_44 W_prog_15_method_121_code_320 11 rfl rfl) rfl (lv_at hl 1 rfl) ?_
      refine lv_iconst (v := iI 0) hx hb (D_3 W_prog_15_method_121_code_320 12 rfl rfl) rfl ?_
      refine W.eq (g2 := F0 m 333 ls [.int (iI 0), .ref (ad 13 l2 0)]) (by rw [zrf_pos (ad := ad) (t := 13) g36.1]; try rfl) ?_
      refine zput (ci := 13) (C := RX13) (T := TX13) (k := 68) (v := 0) (w := .int (iI 0)) hx hb hts inW_13 tyX13 tyX13_ok nmX13 hown hK hZ42 hS42 g36.1 g36.2 rfl (by decide) k_10_5 rfl (fun G h => congrArg (fun q => Value.int (iI q)) h) rfl rfl (zno (by decide)) (D_181 W_prog_15_method_121_code_320 13 rfl rfl rfl) (fun H43 locs43 hZ43 hS43 => ?_)
      refine zaload_n hx hb (D_44 W_prog_15_method_121_code_320 16 rfl rfl) rfl (lv_at hl 1 rfl) ?_
      refine lv_iconst (v := iI 0) hx hb (D_3 W_prog_15_method_121_code_320 17 rfl rfl) rfl ?_
      refine W.eq (g2 := F0 m 338 ls [.int (iI 0), .ref (ad 13 l2 0)]) (by rw [zrf_pos (ad := ad) (t := 13) g36.1]; try rfl) ?_
      refine zput (ci := 13) (C := RX13) (T := TX13) (k := 69) (v := 0) (w := .int (iI 0)) hx hb hts inW_13 tyX13 tyX13_ok nmX13 hown hK hZ43 hS43 g36.1 g36.2 rfl (by decide) k_10_6 rfl (fun G h => congrArg (fun q => Value.int (iI q)) h) rfl rfl (zno (by decide)) (D_181 W_prog_15_method_121_code_320 18 rfl rfl rfl) (fun H44 locs44 hZ44 hS44 => ?_)
      refine lv_aload_n hx hb (D_42 W_prog_15_method_121_code_320 21 rfl rfl) rfl (lv_at hl 2 rfl) ?_
      refine zget (ci := 14) (C := RX14) (T := TX14) (v := .int (iI (F 14 0 62))) (k := 62) hx hb hts inW_14 hown hK hZ44 (by decide) (by decide) rfl (by decide) k_11_60 (congrArg (fun q : Int => Value.int (iI q)) (show (zup3 (zup3 (zup3 (zup3 (zup3 F 13 l2 65 0) 13 l2 66 0) 13 l2 67 0) 13 l2 68 0) 13 l2 69 0) 14 0 62 = F 14 0 62 by simp [zup3])) (D_180 W_prog_15_method_121_code_320 22 rfl rfl rfl) ?_
      cases hf
      exact W.iret hx hb hr (fun t ht hW => ⟨⟨_, (), rfl, rfl, by rw [ht]; exact hZ44, va_K.moved hW.alike hK⟩, hS44.F ht⟩) hS44.2.2 (D_172 W_prog_15_method_121_code_320 25 rfl rfl) hlk
    · replace hf := gneg hf h39
      refine lv_aload_n hx hb (D_42 W_prog_15_method_121_code_192 14 rfl rfl) rfl (lv_at hl 2 rfl) ?_
      refine zget (ci := 14) (C := RX14) (T := TX14) (v := .ref (ad 14 0 (69 + 1))) (k := 69) hx hb hts inW_14 hown hK hZ (by decide) (by decide) rfl (by decide) k_11_67 rfl (D_180 W_prog_15_method_121_code_192 15 rfl rfl rfl) ?_
      refine lv_iload_n hx hb (D_29 W_prog_15_method_121_code_192 18 rfl rfl) rfl (lv_at hl 0 rfl) ?_
      obtain ⟨g45, hf⟩ := gif hf
      refine zald (ci := 14) (k := 69) hx hb hK rfl hZ (by decide) (by decide) rfl (Nat.le_of_ble_eq_true rfl) g45.1 g45.2 (D_46 W_prog_15_method_121_code_192 19 rfl rfl) ?_
      refine lv_iconst (v := iI 2) hx hb (D_5 W_prog_15_method_121_code_192 20 rfl rfl) rfl ?_
      refine zdv_r hx hb (by decide) (D_108 W_prog_15_method_121_code_192 21 rfl rfl) ?_
      refine lv_istore (lv' := [(4, .int (iI (zdv (B 14 0 69 l3) 2))), (3, .int (iI l3)), (2, va_rf (zrf ad 13 l2)), (0, .ref (ad 14 0 0))]) hx hb (D_54 W_prog_15_method_121_code_192 22 rfl rfl) hl (by decide) rfl (fun ls hl => ?_)
      refine lv_aload_n hx hb (D_42 W_prog_15_method_121_code_192 24 rfl rfl) rfl (lv_at hl 3 rfl) ?_
      refine zget (ci := 14) (C := RX14) (T := TX14) (v := .ref (ad 14 0 (69 + 1))) (k := 69) hx hb hts inW_14 hown hK hZ (by decide) (by decide) rfl (by decide) k_11_67 rfl (D_180 W_prog_15_method_121_code_192 25 rfl rfl rfl) ?_
      refine lv_iload_n hx hb (D_29 W_prog_15_method_121_code_192 28 rfl rfl) rfl (lv_at hl 1 rfl) ?_
      refine zald (ci := 14) (k := 69) hx hb hK rfl hZ (by decide) (by decide) rfl (Nat.le_of_ble_eq_true rfl) g45.1 g45.2 (D_46 W_prog_15_method_121_code_192 29 rfl rfl) ?_
      refine lv_iconst (v := iI 2) hx hb (D_5 W_prog_15_method_121_code_192 30 rfl rfl) rfl ?_
      refine zrm_r hx hb (by decide) (D_112 W_prog_15_method_121_code_192 31 rfl rfl) ?_
      obtain ⟨g46, hf⟩ := gif hf
      refine z0ne (tgt := 231) hx hb g46 (D_154 W_prog_15_method_121_code_224 0 rfl rfl rfl) (by decide) (fun h47 => ?_) (fun h47 => ?_)
      · replace hf := gneg hf h47
        refine lv_iconst (v := iI 0) hx hb (D_3 W_prog_15_method_121_code_224 7 rfl rfl) rfl ?_
        exact b_M_perform_232 X ih hf hZ hS (lv_sub hl [0, 1, 2, 3] rfl)
      · replace hf := gpos hf h47
        refine lv_iconst (v := iI 1) hx hb (D_4 W_prog_15_method_121_code_224 3 rfl rfl) rfl ?_
        refine lv_goto (tgt := 232) hx hb (D_167 W_prog_15_method_121_code_224 4 rfl rfl rfl) (by decide) ?_
        exact b_M_perform_232 X ih hf hZ hS (lv_sub hl [0, 1, 2, 3] rfl)

def f_M_perform_182 (rec127 : Int → Int → zF → zB → zO) (K : Nat) (l4 : Int) (l3 : Int) (l2 : Int) (F : zF) (B : zB) : zO := if 0 ≤ l4 ∧ l4 < 4000 then rec127 (l3 + 1) l2 F (zup4 B 14 0 69 l4 l3) else none
set_option maxHeartbeats 4000000 in
set_option maxRecDepth 100000 in
theorem b_M_perform_182 {D : va_G} {ca : Nat → ClassId} {ad : Nat → Int → Nat → Nat} {L : List Nat} {aS vS : Nat → Nat} {A : Nat → Prop} {p : Program} {l : Launch} {e : Env} {s : State} {m : MethodId} {args : Array Value} {below : List Frame} {meth : Method} {c : Code} {K : Nat} {r : Int} {F9 : zF} {B9 : zB} (X : zX D ca L aS vS A p s m args meth c prog_15_method_121_code 6 (Option.some Jvm.ClassFile.FieldType.int) "StaveHouseModel") {rec127 : Int → Int → zF → zB → zO} (hrec127 : ∀ {l3 : Int} {l2 : Int} {F : zF} {B : zB} {H : Heap} {locs : List Loc} {ls : Array Slot}, rec127 l3 l2 F B = some (r, F9, B9) → zH D ca ad lnM nM L F B A H → va_S A s.heap H locs → lv_has ls 6 [(3, .int (iI l3)), (2, va_rf (zrf ad 13 l2)), (0, .ref (ad 14 0 0))] → W p l e ({ frames := 6, cells := 0, slots := 0, locals := 168 } : Room) s m args below meth c H locs 0 0 (MQ below (Q_M_perform D ca ad L r F9 B9 A) args s 0 0 A) (F0 m 127 ls [])) {l4 : Int} {l3 : Int} {l2 : Int} {F : zF} {B : zB} {H : Heap} {locs : List Loc} {ls : Array Slot} (hf : f_M_perform_182 rec127 K l4 l3 l2 F B = some (r, F9, B9)) (hZ : zH D ca ad lnM nM L F B A H) (hS : va_S A s.heap H locs) (hl : lv_has ls 6 [(4, .int (iI l4)), (3, .int (iI l3)), (2, va_rf (zrf ad 13 l2)), (0, .ref (ad 14 0 0))]) : W p l e ({ frames := 6, cells := 0, slots := 0, locals := 168 } : Room) s m args below meth c H locs 0 0 (MQ below (Q_M_perform D ca ad L r F9 B9 A) args s 0 0 A) (F0 m 182 ls []) := by
  obtain ⟨hx, hb, hr, hml, hown, hts, hlk, hK, hA, hL, hX⟩ := id X
  replace hf : (if 0 ≤ l4 ∧ l4 < 4000 then rec127 (l3 + 1) l2 F (zup4 B 14 0 69 l4 l3) else none) = some (r, F9, B9) := hf
  refine lv_aload_n hx hb (D_42 W_prog_15_method_121_code_160 22 rfl rfl) rfl (lv_at hl 3 rfl) ?_
  refine zget (ci := 14) (C := RX14) (T := TX14) (v := .ref (ad 14 0 (69 + 1))) (k := 69) hx hb hts inW_14 hown hK hZ (by decide) (by decide) rfl (by decide) k_11_67 rfl (D_180 W_prog_15_method_121_code_160 23 rfl rfl rfl) ?_
  refine lv_iload hx hb (D_21 W_prog_15_method_121_code_160 26 rfl rfl) (lv_at hl 0 rfl) ?_
  refine lv_iload_n hx hb (D_29 W_prog_15_method_121_code_160 28 rfl rfl) rfl (lv_at hl 1 rfl) ?_
  obtain ⟨g34, hf⟩ := gif hf
  refine zast (ci := 14) (k := 69) hx hb hK rfl hZ hS (by decide) (by decide) rfl (Nat.le_of_ble_eq_true rfl) g34.1 g34.2 (D_79 W_prog_15_method_121_code_160 29 rfl rfl) (fun H35 locs35 hZ35 hS35 => ?_)
  refine lv_iinc (v := iI (l3 + 1)) (lv' := [(3, .int (iI (l3 + 1))), (4, .int (iI l4)), (2, va_rf (zrf ad 13 l2)), (0, .ref (ad 14 0 0))]) hx hb d_15_121_190 hl (k := 1) rfl (iI_add _ 1) (by decide) (by cases zrf ad 13 l2 <;> rfl) (fun ls hl => ?_)
  refine lv_goto (tgt := 127) hx hb (D_167 W_prog_15_method_121_code_192 1 rfl rfl rfl) (by decide) ?_
  exact hrec127 hf hZ35 hS35 (lv_sub hl [0, 2, 3] rfl)

def f_M_perform_138 (rec127 : Int → Int → zF → zB → zO) (K : Nat) : Nat → Int → Int → Int → zF → zB → zO
  | 0, _, _, _, _, _ => none
  | n + 1, l4, l3, l2, F, B => if r32 l4 then (if l4 ≤ 0 then f_M_perform_182 rec127 K l4 l3 l2 F B else if 0 ≤ (l4 - 1) ∧ (l4 - 1) < 4000 then zbind (f_M_isAhead K l3 (B 14 0 69 (l4 - 1)) F B) (fun r28 F28 B28 => if r32 r28 then (if r28 = 0 then f_M_perform_182 rec127 K l4 l3 l2 F28 B28 else if 0 ≤ l4 ∧ l4 < 4000 then f_M_perform_138 rec127 K n (l4 - 1) l3 l2 F28 (zup4 B28 14 0 69 l4 (B28 14 0 69 (l4 - 1))) else none) else none) else none) else none
set_option maxHeartbeats 4000000 in
set_option maxRecDepth 100000 in
theorem b_M_perform_138 {D : va_G} {ca : Nat → ClassId} {ad : Nat → Int → Nat → Nat} {L : List Nat} {aS vS : Nat → Nat} {A : Nat → Prop} {p : Program} {l : Launch} {e : Env} {s : State} {m : MethodId} {args : Array Value} {below : List Frame} {meth : Method} {c : Code} {K : Nat} {r : Int} {F9 : zF} {B9 : zB} (X : zX D ca L aS vS A p s m args meth c prog_15_method_121_code 6 (Option.some Jvm.ClassFile.FieldType.int) "StaveHouseModel") {rec127 : Int → Int → zF → zB → zO} (hrec127 : ∀ {l3 : Int} {l2 : Int} {F : zF} {B : zB} {H : Heap} {locs : List Loc} {ls : Array Slot}, rec127 l3 l2 F B = some (r, F9, B9) → zH D ca ad lnM nM L F B A H → va_S A s.heap H locs → lv_has ls 6 [(3, .int (iI l3)), (2, va_rf (zrf ad 13 l2)), (0, .ref (ad 14 0 0))] → W p l e ({ frames := 6, cells := 0, slots := 0, locals := 168 } : Room) s m args below meth c H locs 0 0 (MQ below (Q_M_perform D ca ad L r F9 B9 A) args s 0 0 A) (F0 m 127 ls [])) : ∀ {n : Nat} {l4 : Int} {l3 : Int} {l2 : Int} {F : zF} {B : zB} {H : Heap} {locs : List Loc} {ls : Array Slot}, f_M_perform_138 rec127 K n l4 l3 l2 F B = some (r, F9, B9) → zH D ca ad lnM nM L F B A H → va_S A s.heap H locs → lv_has ls 6 [(4, .int (iI l4)), (3, .int (iI l3)), (2, va_rf (zrf ad 13 l2)), (0, .ref (ad 14 0 0))] → W p l e ({ frames := 6, cells := 0, slots := 0, locals := 168 } : Room) s m args below meth c H locs 0 0 (MQ below (Q_M_perform D ca ad L r F9 B9 A) args s 0 0 A) (F0 m 138 ls []) := by
  obtain ⟨hx, hb, hr, hml, hown, hts, hlk, hK, hA, hL, hX⟩ := id X
  intro n
  induction n with
  | zero =>
    intros
    rename_i hf _ _ _
    cases hf
  | succ n ih =>
    intro l4 l3 l2 F B H locs ls hf hZ hS hl
    replace hf : (if r32 l4 then (if l4 ≤ 0 then f_M_perform_182 rec127 K l4 l3 l2 F B else if 0 ≤ (l4 - 1) ∧ (l4 - 1) < 4000 then zbind (f_M_isAhead K l3 (B 14 0 69 (l4 - 1)) F B) (fun r28 F28 B28 => if r32 r28 then (if r28 = 0 then f_M_perform_182 rec127 K l4 l3 l2 F28 B28 else if 0 ≤ l4 ∧ l4 < 4000 then f_M_perform_138 rec127 K n (l4 - 1) l3 l2 F28 (zup4 B28 14 0 69 l4 (B28 14 0 69 (l4 - 1))) else none) else none) else none) else none) = some (r, F9, B9) := hf
    refine lv_iload hx hb (D_21 W_prog_15_method_121_code_128 10 rfl rfl) (lv_at hl 0 rfl) ?_
    obtain ⟨g25, hf⟩ := gif hf
    refine z0le (tgt := 182) hx hb g25 (D_158 W_prog_15_method_121_code_128 12 rfl rfl rfl) (by decide) (fun h26 => ?_) (fun h26 => ?_)
    · replace hf := gpos hf h26
      exact b_M_perform_182 X hrec127 hf hZ hS (lv_sub hl [0, 1, 2, 3] rfl)
    · replace hf := gneg hf h26
      refine lv_aload_n hx hb (D_42 W_prog_15_method_121_code_128 15 rfl rfl) rfl (lv_at hl 3 rfl) ?_
      refine lv_iload_n hx hb (D_29 W_prog_15_method_121_code_128 16 rfl rfl) rfl (lv_at hl 1 rfl) ?_
      refine lv_aload_n hx hb (D_42 W_prog_15_method_121_code_128 17 rfl rfl) rfl (lv_at hl 3 rfl) ?_
      refine zget (ci := 14) (C := RX14) (T := TX14) (v := .ref (ad 14 0 (69 + 1))) (k := 69) hx hb hts inW_14 hown hK hZ (by decide) (by decide) rfl (by decide) k_11_67 rfl (D_180 W_prog_15_method_121_code_128 18 rfl rfl rfl) ?_
      refine lv_iload hx hb (D_21 W_prog_15_method_121_code_128 21 rfl rfl) (lv_at hl 0 rfl) ?_
      refine lv_iconst (v := iI 1) hx hb (D_4 W_prog_15_method_121_code_128 23 rfl rfl) rfl ?_
      refine zsub hx hb (D_100 W_prog_15_method_121_code_128 24 rfl rfl) ?_
      obtain ⟨g27, hf⟩ := gif hf
      refine zald (ci := 14) (k := 69) hx hb hK rfl hZ (by decide) (by decide) rfl (Nat.le_of_ble_eq_true rfl) g27.1 g27.2 (D_46 W_prog_15_method_121_code_128 25 rfl rfl) ?_
      obtain ⟨r28, F28, B28, hc28, hf⟩ := gbind hf
      refine va_calli (va_runV (As := [.int (iI l3), .int (iI (B 14 0 69 (l4 - 1)))]) (rest := []) ⟨hx, hb, hml, hown, hts⟩ (c_M_isAhead (l := l) hc28) (cwV 2 hts (gdV k_12_182 k_12_184 ks_140 k_1_9 k_12_185) rfl rfl rfl (by decide +kernel) ⟨Nat.le_of_ble_eq_true rfl, Nat.le_of_ble_eq_true rfl⟩) (zPV X hZ hS (ci := 14) (by decide) (by decide) (r := (RX14, TX14, 107)) rfl [.int (iI l3), .int (iI (B 14 0 69 (l4 - 1)))]) rfl rfl hl.1 rfl (lv_room (Nat.le_of_ble_eq_true rfl)) (D_182 W_prog_15_method_121_code_128 26 rfl rfl rfl) ⟨Nat.le_of_ble_eq_true rfl, Nat.le_of_ble_eq_true rfl⟩) hS (fun q _ h => zAin X hS q h) (zAin X hS) (fun p28 u28 t28 H28 locs28 ht28 hv28 hw28 hB28 hz28 hk28 hS28 => ?_)
      have hZ28 := zBack X ht28 hB28
      subst hw28
      obtain ⟨g29, hf⟩ := gif hf
      refine z0eq (tgt := 182) hx hb g29 (D_153 W_prog_15_method_121_code_128 29 rfl rfl rfl) (by decide) (fun h30 => ?_) (fun h30 => ?_)
      · replace hf := gpos hf h30
        exact b_M_perform_182 X hrec127 hf hZ28 hS28 (lv_sub hl [0, 1, 2, 3] rfl)
      · replace hf := gneg hf h30
        refine lv_aload_n hx hb (D_42 W_prog_15_method_121_code_160 0 rfl rfl) rfl (lv_at hl 3 rfl) ?_
        refine zget (ci := 14) (C := RX14) (T := TX14) (v := .ref (ad 14 0 (69 + 1))) (k := 69) hx hb hts inW_14 hown hK hZ28 (by decide) (by decide) rfl (by decide) k_11_67 rfl (D_180 W_prog_15_method_121_code_160 1 rfl rfl rfl) ?_
        refine lv_iload hx hb (D_21 W_prog_15_method_121_code_160 4 rfl rfl) (lv_at hl 0 rfl) ?_
        refine lv_aload_n hx hb (D_42 W_prog_15_method_121_code_160 6 rfl rfl) rfl (lv_at hl 3 rfl) ?_
        refine zget (ci := 14) (C := RX14) (T := TX14) (v := .ref (ad 14 0 (69 + 1))) (k := 69) hx hb hts inW_14 hown hK hZ28 (by decide) (by decide) rfl (by decide) k_11_67 rfl (D_180 W_prog_15_method_121_code_160 7 rfl rfl rfl) ?_
        refine lv_iload hx hb (D_21 W_prog_15_method_121_code_160 10 rfl rfl) (lv_at hl 0 rfl) ?_
        refine lv_iconst (v := iI 1) hx hb (D_4 W_prog_15_method_121_code_160 12 rfl rfl) rfl ?_
        refine zsub hx hb (D_100 W_prog_15_method_121_code_160 13 rfl rfl) ?_
        refine zald (ci := 14) (k := 69) hx hb hK rfl hZ28 (by decide) (by decide) rfl (Nat.le_of_ble_eq_true rfl) g27.1 g27.2 (D_46 W_prog_15_method_121_code_160 14 rfl rfl) ?_
        obtain ⟨g31, hf⟩ := gif hf
        refine zast (ci := 14) (k := 69) hx hb hK rfl hZ28 hS28 (by decide) (by decide) rfl (Nat.le_of_ble_eq_true rfl) g31.1 g31.2 (D_79 W_prog_15_method_121_code_160 15 rfl rfl) (fun H33 locs33 hZ33 hS33 => ?_)
        refine lv_iinc (v := iI (l4 - 1)) (lv' := [(4, .int (iI (l4 - 1))), (3, .int (iI l3)), (2, va_rf (zrf ad 13 l2)), (0, .ref (ad 14 0 0))]) hx hb d_15_121_176 hl (k := 0) rfl (by rw [show Int32.ofInt (-1) = iI (-1) from rfl, iI_add]; congr 1) (by decide) rfl (fun ls hl => ?_)
        refine lv_goto (tgt := 138) hx hb (D_167 W_prog_15_method_121_code_160 19 rfl rfl rfl) (by decide) ?_
        exact ih hf hZ33 hS33 (lv_sub hl [0, 1, 2, 3] rfl)

def f_M_perform_127 (K : Nat) : Nat → Int → Int → zF → zB → zO
  | 0, _, _, _, _ => none
  | n + 1, l3, l2, F, B => if 0 ≤ l2 ∧ l2 < 3 then if r32 l3 then if r32 (F 13 l2 60) then (if (F 13 l2 60) ≤ l3 then f_M_perform_198 K K 0 l2 F B else f_M_perform_138 (f_M_perform_127 K n) K K l3 l3 l2 F B) else none else none else none
set_option maxHeartbeats 4000000 in
set_option maxRecDepth 100000 in
theorem b_M_perform_127 {D : va_G} {ca : Nat → ClassId} {ad : Nat → Int → Nat → Nat} {L : List Nat} {aS vS : Nat → Nat} {A : Nat → Prop} {p : Program} {l : Launch} {e : Env} {s : State} {m : MethodId} {args : Array Value} {below : List Frame} {meth : Method} {c : Code} {K : Nat} {r : Int} {F9 : zF} {B9 : zB} (X : zX D ca L aS vS A p s m args meth c prog_15_method_121_code 6 (Option.some Jvm.ClassFile.FieldType.int) "StaveHouseModel") : ∀ {n : Nat} {l3 : Int} {l2 : Int} {F : zF} {B : zB} {H : Heap} {locs : List Loc} {ls : Array Slot}, f_M_perform_127 K n l3 l2 F B = some (r, F9, B9) → zH D ca ad lnM nM L F B A H → va_S A s.heap H locs → lv_has ls 6 [(3, .int (iI l3)), (2, va_rf (zrf ad 13 l2)), (0, .ref (ad 14 0 0))] → W p l e ({ frames := 6, cells := 0, slots := 0, locals := 168 } : Room) s m args below meth c H locs 0 0 (MQ below (Q_M_perform D ca ad L r F9 B9 A) args s 0 0 A) (F0 m 127 ls []) := by
  obtain ⟨hx, hb, hr, hml, hown, hts, hlk, hK, hA, hL, hX⟩ := id X
  intro n
  induction n with
  | zero =>
    intros
    rename_i hf _ _ _
    cases hf
  | succ n ih =>
    intro l3 l2 F B H locs ls hf hZ hS hl
    replace hf : (if 0 ≤ l2 ∧ l2 < 3 then if r32 l3 then if r32 (F 13 l2 60) then (if (F 13 l2 60) ≤ l3 then f_M_perform_198 K K 0 l2 F B else f_M_perform_138 (f_M_perform_127 K n) K K l3 l3 l2 F B) else none else none else none) = some (r, F9, B9) := hf
    refine lv_iload_n hx hb (D_29 W_prog_15_method_121_code_96 31 rfl rfl) rfl (lv_at hl 0 rfl) ?_
    refine zaload_n hx hb (D_44 W_prog_15_method_121_code_128 0 rfl rfl) rfl (lv_at hl 1 rfl) ?_
    obtain ⟨g21, hf⟩ := gif hf
    refine zunrf g21.1 ?_
    refine zget (ci := 13) (C := RX13) (T := TX13) (v := .int (iI (F 13 l2 60))) (k := 60) hx hb hts inW_13 hown hK hZ g21.1 g21.2 rfl (by decide) k_9_233 rfl (D_180 W_prog_15_method_121_code_128 1 rfl rfl rfl) ?_
    obtain ⟨g22, hf⟩ := gif hf
    obtain ⟨g23, hf⟩ := gif hf
    refine zge (tgt := 196) hx hb g22 g23 (D_162 W_prog_15_method_121_code_128 4 rfl rfl rfl) (by decide) (fun h24 => ?_) (fun h24 => ?_)
    · replace hf := gpos hf h24
      refine lv_iconst (v := iI 0) hx hb (D_3 W_prog_15_method_121_code_192 4 rfl rfl) rfl ?_
      refine lv_istore_n (lv' := [(3, .int (iI 0)), (2, va_rf (zrf ad 13 l2)), (0, .ref (ad 14 0 0))]) hx hb (D_62 W_prog_15_method_121_code_192 5 rfl rfl) rfl hl (by decide) (by cases zrf ad 13 l2 <;> rfl) (fun ls hl => ?_)
      exact b_M_perform_198 X hf hZ hS (lv_sub hl [0, 1, 2] rfl)
    · replace hf := gneg hf h24
      refine lv_iload_n hx hb (D_29 W_prog_15_method_121_code_128 7 rfl rfl) rfl (lv_at hl 0 rfl) ?_
      refine lv_istore (lv' := [(4, .int (iI l3)), (3, .int (iI l3)), (2, va_rf (zrf ad 13 l2)), (0, .ref (ad 14 0 0))]) hx hb (D_54 W_prog_15_method_121_code_128 8 rfl rfl) hl (by decide) rfl (fun ls hl => ?_)
      exact b_M_perform_138 X ih hf hZ hS (lv_sub hl [0, 1, 2, 3] rfl)

def f_M_perform_41 (K : Nat) : Nat → Int → Int → zF → zB → zO
  | 0, _, _, _, _ => none
  | n + 1, l3, l2, F, B => if r32 l3 then if r32 (F 14 0 62) then (if (F 14 0 62) ≤ l3 then if 0 ≤ l2 ∧ l2 < 3 then f_M_perform_127 K K 0 l2 (zup3 F 13 l2 60 (2 * (F 14 0 62))) B else none else if 0 ≤ l2 ∧ l2 < 3 then if 0 ≤ l3 ∧ l3 < 2000 then f_M_perform_41 K n (l3 + 1) l2 F (zup4 (zup4 (zup4 (zup4 (zup4 B 13 l2 55 l3 (B 14 0 63 l3)) 13 l2 56 l3 ((zup4 B 13 l2 55 l3 (B 14 0 63 l3)) 14 0 64 l3)) 13 l2 57 l3 ((zup4 (zup4 B 13 l2 55 l3 (B 14 0 63 l3)) 13 l2 56 l3 ((zup4 B 13 l2 55 l3 (B 14 0 63 l3)) 14 0 64 l3)) 14 0 65 l3)) 13 l2 58 l3 ((zup4 (zup4 (zup4 B 13 l2 55 l3 (B 14 0 63 l3)) 13 l2 56 l3 ((zup4 B 13 l2 55 l3 (B 14 0 63 l3)) 14 0 64 l3)) 13 l2 57 l3 ((zup4 (zup4 B 13 l2 55 l3 (B 14 0 63 l3)) 13 l2 56 l3 ((zup4 B 13 l2 55 l3 (B 14 0 63 l3)) 14 0 64 l3)) 14 0 65 l3)) 14 0 66 l3)) 13 l2 59 l3 ((zup4 (zup4 (zup4 (zup4 B 13 l2 55 l3 (B 14 0 63 l3)) 13 l2 56 l3 ((zup4 B 13 l2 55 l3 (B 14 0 63 l3)) 14 0 64 l3)) 13 l2 57 l3 ((zup4 (zup4 B 13 l2 55 l3 (B 14 0 63 l3)) 13 l2 56 l3 ((zup4 B 13 l2 55 l3 (B 14 0 63 l3)) 14 0 64 l3)) 14 0 65 l3)) 13 l2 58 l3 ((zup4 (zup4 (zup4 B 13 l2 55 l3 (B 14 0 63 l3)) 13 l2 56 l3 ((zup4 B 13 l2 55 l3 (B 14 0 63 l3)) 14 0 64 l3)) 13 l2 57 l3 ((zup4 (zup4 B 13 l2 55 l3 (B 14 0 63 l3)) 13 l2 56 l3 ((zup4 B 13 l2 55 l3 (B 14 0 63 l3)) 14 0 64 l3)) 14 0 65 l3)) 14 0 66 l3)) 14 0 67 l3)) else none else none) else none else none
set_option maxHeartbeats 4000000 in
set_option maxRecDepth 100000 in
theorem b_M_perform_41 {D : va_G} {ca : Nat → ClassId} {ad : Nat → Int → Nat → Nat} {L : List Nat} {aS vS : Nat → Nat} {A : Nat → Prop} {p : Program} {l : Launch} {e : Env} {s : State} {m : MethodId} {args : Array Value} {below : List Frame} {meth : Method} {c : Code} {K : Nat} {r : Int} {F9 : zF} {B9 : zB} (X : zX D ca L aS vS A p s m args meth c prog_15_method_121_code 6 (Option.some Jvm.ClassFile.FieldType.int) "StaveHouseModel") : ∀ {n : Nat} {l3 : Int} {l2 : Int} {F : zF} {B : zB} {H : Heap} {locs : List Loc} {ls : Array Slot}, f_M_perform_41 K n l3 l2 F B = some (r, F9, B9) → zH D ca ad lnM nM L F B A H → va_S A s.heap H locs → lv_has ls 6 [(3, .int (iI l3)), (2, va_rf (zrf ad 13 l2)), (0, .ref (ad 14 0 0))] → W p l e ({ frames := 6, cells := 0, slots := 0, locals := 168 } : Room) s m args below meth c H locs 0 0 (MQ below (Q_M_perform D ca ad L r F9 B9 A) args s 0 0 A) (F0 m 41 ls []) := by
  obtain ⟨hx, hb, hr, hml, hown, hts, hlk, hK, hA, hL, hX⟩ := id X
  intro n
  induction n with
  | zero =>
    intros
    rename_i hf _ _ _
    cases hf
  | succ n ih =>
    intro l3 l2 F B H locs ls hf hZ hS hl
    replace hf : (if r32 l3 then if r32 (F 14 0 62) then (if (F 14 0 62) ≤ l3 then if 0 ≤ l2 ∧ l2 < 3 then f_M_perform_127 K K 0 l2 (zup3 F 13 l2 60 (2 * (F 14 0 62))) B else none else if 0 ≤ l2 ∧ l2 < 3 then if 0 ≤ l3 ∧ l3 < 2000 then f_M_perform_41 K n (l3 + 1) l2 F (zup4 (zup4 (zup4 (zup4 (zup4 B 13 l2 55 l3 (B 14 0 63 l3)) 13 l2 56 l3 ((zup4 B 13 l2 55 l3 (B 14 0 63 l3)) 14 0 64 l3)) 13 l2 57 l3 ((zup4 (zup4 B 13 l2 55 l3 (B 14 0 63 l3)) 13 l2 56 l3 ((zup4 B 13 l2 55 l3 (B 14 0 63 l3)) 14 0 64 l3)) 14 0 65 l3)) 13 l2 58 l3 ((zup4 (zup4 (zup4 B 13 l2 55 l3 (B 14 0 63 l3)) 13 l2 56 l3 ((zup4 B 13 l2 55 l3 (B 14 0 63 l3)) 14 0 64 l3)) 13 l2 57 l3 ((zup4 (zup4 B 13 l2 55 l3 (B 14 0 63 l3)) 13 l2 56 l3 ((zup4 B 13 l2 55 l3 (B 14 0 63 l3)) 14 0 64 l3)) 14 0 65 l3)) 14 0 66 l3)) 13 l2 59 l3 ((zup4 (zup4 (zup4 (zup4 B 13 l2 55 l3 (B 14 0 63 l3)) 13 l2 56 l3 ((zup4 B 13 l2 55 l3 (B 14 0 63 l3)) 14 0 64 l3)) 13 l2 57 l3 ((zup4 (zup4 B 13 l2 55 l3 (B 14 0 63 l3)) 13 l2 56 l3 ((zup4 B 13 l2 55 l3 (B 14 0 63 l3)) 14 0 64 l3)) 14 0 65 l3)) 13 l2 58 l3 ((zup4 (zup4 (zup4 B 13 l2 55 l3 (B 14 0 63 l3)) 13 l2 56 l3 ((zup4 B 13 l2 55 l3 (B 14 0 63 l3)) 14 0 64 l3)) 13 l2 57 l3 ((zup4 (zup4 B 13 l2 55 l3 (B 14 0 63 l3)) 13 l2 56 l3 ((zup4 B 13 l2 55 l3 (B 14 0 63 l3)) 14 0 64 l3)) 14 0 65 l3)) 14 0 66 l3)) 14 0 67 l3)) else none else none) else none else none) = some (r, F9, B9) := hf
    refine lv_iload_n hx hb (D_29 W_prog_15_method_121_code_32 9 rfl rfl) rfl (lv_at hl 0 rfl) ?_
    refine lv_aload_n hx hb (D_42 W_prog_15_method_121_code_32 10 rfl rfl) rfl (lv_at hl 2 rfl) ?_
    refine zget (ci := 14) (C := RX14) (T := TX14) (v := .int (iI (F 14 0 62))) (k := 62) hx hb hts inW_14 hown hK hZ (by decide) (by decide) rfl (by decide) k_11_60 rfl (D_180 W_prog_15_method_121_code_32 11 rfl rfl rfl) ?_
    obtain ⟨g9, hf⟩ := gif hf
    obtain ⟨g10, hf⟩ := gif hf
    refine zge (tgt := 115) hx hb g9 g10 (D_162 W_prog_15_method_121_code_32 14 rfl rfl rfl) (by decide) (fun h11 => ?_) (fun h11 => ?_)
    · replace hf := gpos hf h11
      refine zaload_n hx hb (D_44 W_prog_15_method_121_code_96 19 rfl rfl) rfl (lv_at hl 1 rfl) ?_
      refine lv_iconst (v := iI 2) hx hb (D_5 W_prog_15_method_121_code_96 20 rfl rfl) rfl ?_
      refine lv_aload_n hx hb (D_42 W_prog_15_method_121_code_96 21 rfl rfl) rfl (lv_at hl 2 rfl) ?_
      refine zget (ci := 14) (C := RX14) (T := TX14) (v := .int (iI (F 14 0 62))) (k := 62) hx hb hts inW_14 hown hK hZ (by decide) (by decide) rfl (by decide) k_11_60 rfl (D_180 W_prog_15_method_121_code_96 22 rfl rfl rfl) ?_
      refine zmul hx hb (D_104 W_prog_15_method_121_code_96 25 rfl rfl) ?_
      obtain ⟨g12, hf⟩ := gif hf
      refine W.eq (g2 := F0 m 122 ls [.int (iI (2 * (F 14 0 62))), .ref (ad 13 l2 0)]) (by rw [zrf_pos (ad := ad) (t := 13) g12.1]; try rfl) ?_
      refine zput (ci := 13) (C := RX13) (T := TX13) (k := 60) (v := (2 * (F 14 0 62))) (w := .int (iI (2 * (F 14 0 62)))) hx hb hts inW_13 tyX13 tyX13_ok nmX13 hown hK hZ hS g12.1 g12.2 rfl (by decide) k_9_233 rfl (fun G h => congrArg (fun q => Value.int (iI q)) h) rfl rfl (zno (by decide)) (D_181 W_prog_15_method_121_code_96 26 rfl rfl rfl) (fun H13 locs13 hZ13 hS13 => ?_)
      refine lv_iconst (v := iI 0) hx hb (D_3 W_prog_15_method_121_code_96 29 rfl rfl) rfl ?_
      refine lv_istore_n (lv' := [(3, .int (iI 0)), (2, va_rf (zrf ad 13 l2)), (0, .ref (ad 14 0 0))]) hx hb (D_62 W_prog_15_method_121_code_96 30 rfl rfl) rfl hl (by decide) (by cases zrf ad 13 l2 <;> rfl) (fun ls hl => ?_)
      exact b_M_perform_127 X hf hZ13 hS13 (lv_sub hl [0, 1, 2] rfl)
    · replace hf := gneg hf h11
      refine zaload_n hx hb (D_44 W_prog_15_method_121_code_32 17 rfl rfl) rfl (lv_at hl 1 rfl) ?_
      obtain ⟨g14, hf⟩ := gif hf
      refine zunrf g14.1 ?_
      refine zget (ci := 13) (C := RX13) (T := TX13) (v := .ref (ad 13 l2 (55 + 1))) (k := 55) hx hb hts inW_13 hown hK hZ g14.1 g14.2 rfl (by decide) k_9_224 rfl (D_180 W_prog_15_method_121_code_32 18 rfl rfl rfl) ?_
      refine lv_iload_n hx hb (D_29 W_prog_15_method_121_code_32 21 rfl rfl) rfl (lv_at hl 0 rfl) ?_
      refine lv_aload_n hx hb (D_42 W_prog_15_method_121_code_32 22 rfl rfl) rfl (lv_at hl 2 rfl) ?_
      refine zget (ci := 14) (C := RX14) (T := TX14) (v := .ref (ad 14 0 (63 + 1))) (k := 63) hx hb hts inW_14 hown hK hZ (by decide) (by decide) rfl (by decide) k_11_61 rfl (D_180 W_prog_15_method_121_code_32 23 rfl rfl rfl) ?_
      refine lv_iload_n hx hb (D_29 W_prog_15_method_121_code_32 26 rfl rfl) rfl (lv_at hl 0 rfl) ?_
      obtain ⟨g15, hf⟩ := gif hf
      refine zald (ci := 14) (k := 63) hx hb hK rfl hZ (by decide) (by decide) rfl (Nat.le_of_ble_eq_true rfl) g15.1 g15.2 (D_46 W_prog_15_method_121_code_32 27 rfl rfl) ?_
      refine zast (ci := 13) (k := 55) hx hb hK rfl hZ hS g14.1 g14.2 rfl (Nat.le_of_ble_eq_true rfl) g15.1 g15.2 (D_79 W_prog_15_method_121_code_32 28 rfl rfl) (fun H16 locs16 hZ16 hS16 => ?_)
      refine zaload_n hx hb (D_44 W_prog_15_method_121_code_32 29 rfl rfl) rfl (lv_at hl 1 rfl) ?_
      refine zunrf g14.1 ?_
      refine zget (ci := 13) (C := RX13) (T := TX13) (v := .ref (ad 13 l2 (56 + 1))) (k := 56) hx hb hts inW_13 hown hK hZ16 g14.1 g14.2 rfl (by decide) k_9_226 rfl (D_180 W_prog_15_method_121_code_32 30 rfl rfl rfl) ?_
      refine lv_iload_n hx hb (D_29 W_prog_15_method_121_code_64 1 rfl rfl) rfl (lv_at hl 0 rfl) ?_
      refine lv_aload_n hx hb (D_42 W_prog_15_method_121_code_64 2 rfl rfl) rfl (lv_at hl 2 rfl) ?_
      refine zget (ci := 14) (C := RX14) (T := TX14) (v := .ref (ad 14 0 (64 + 1))) (k := 64) hx hb hts inW_14 hown hK hZ16 (by decide) (by decide) rfl (by decide) k_11_62 rfl (D_180 W_prog_15_method_121_code_64 3 rfl rfl rfl) ?_
      refine lv_iload_n hx hb (D_29 W_prog_15_method_121_code_64 6 rfl rfl) rfl (lv_at hl 0 rfl) ?_
      refine zald (ci := 14) (k := 64) hx hb hK rfl hZ16 (by decide) (by decide) rfl (Nat.le_of_ble_eq_true rfl) g15.1 g15.2 (D_46 W_prog_15_method_121_code_64 7 rfl rfl) ?_
      refine zast (ci := 13) (k := 56) hx hb hK rfl hZ16 hS16 g14.1 g14.2 rfl (Nat.le_of_ble_eq_true rfl) g15.1 g15.2 (D_79 W_prog_15_method_121_code_64 8 rfl rfl) (fun H17 locs17 hZ17 hS17 => ?_)
      refine zaload_n hx hb (D_44 W_prog_15_method_121_code_64 9 rfl rfl) rfl (lv_at hl 1 rfl) ?_
      refine zunrf g14.1 ?_
      refine zget (ci := 13) (C := RX13) (T := TX13) (v := .ref (ad 13 l2 (57 + 1))) (k := 57) hx hb hts inW_13 hown hK hZ17 g14.1 g14.2 rfl (by decide) k_9_228 rfl (D_180 W_prog_15_method_121_code_64 10 rfl rfl rfl) ?_
      refine lv_iload_n hx hb (D_29 W_prog_15_method_121_code_64 13 rfl rfl) rfl (lv_at hl 0 rfl) ?_
      refine lv_aload_n hx hb (D_42 W_prog_15_method_121_code_64 14 rfl rfl) rfl (lv_at hl 2 rfl) ?_
      refine zget (ci := 14) (C := RX14) (T := TX14) (v := .ref (ad 14 0 (65 + 1))) (k := 65) hx hb hts inW_14 hown hK hZ17 (by decide) (by decide) rfl (by decide) k_11_63 rfl (D_180 W_prog_15_method_121_code_64 15 rfl rfl rfl) ?_
      refine lv_iload_n hx hb (D_29 W_prog_15_method_121_code_64 18 rfl rfl) rfl (lv_at hl 0 rfl) ?_
      refine zald (ci := 14) (k := 65) hx hb hK rfl hZ17 (by decide) (by decide) rfl (Nat.le_of_ble_eq_true rfl) g15.1 g15.2 (D_46 W_prog_15_method_121_code_64 19 rfl rfl) ?_
      refine zast (ci := 13) (k := 57) hx hb hK rfl hZ17 hS17 g14.1 g14.2 rfl (Nat.le_of_ble_eq_true rfl) g15.1 g15.2 (D_79 W_prog_15_method_121_code_64 20 rfl rfl) (fun H18 locs18 hZ18 hS18 => ?_)
      refine zaload_n hx hb (D_44 W_prog_15_method_121_code_64 21 rfl rfl) rfl (lv_at hl 1 rfl) ?_
      refine zunrf g14.1 ?_
      refine zget (ci := 13) (C := RX13) (T := TX13) (v := .ref (ad 13 l2 (58 + 1))) (k := 58) hx hb hts inW_13 hown hK hZ18 g14.1 g14.2 rfl (by decide) k_9_230 rfl (D_180 W_prog_15_method_121_code_64 22 rfl rfl rfl) ?_
      refine lv_iload_n hx hb (D_29 W_prog_15_method_121_code_64 25 rfl rfl) rfl (lv_at hl 0 rfl) ?_
      refine lv_aload_n hx hb (D_42 W_prog_15_method_121_code_64 26 rfl rfl) rfl (lv_at hl 2 rfl) ?_
      refine zget (ci := 14) (C := RX14) (T := TX14) (v := .ref (ad 14 0 (66 + 1))) (k := 66) hx hb hts inW_14 hown hK hZ18 (by decide) (by decide) rfl (by decide) k_11_64 rfl (D_180 W_prog_15_method_121_code_64 27 rfl rfl rfl) ?_
      refine lv_iload_n hx hb (D_29 W_prog_15_method_121_code_64 30 rfl rfl) rfl (lv_at hl 0 rfl) ?_
      refine zald (ci := 14) (k := 66) hx hb hK rfl hZ18 (by decide) (by decide) rfl (Nat.le_of_ble_eq_true rfl) g15.1 g15.2 (D_46 W_prog_15_method_121_code_64 31 rfl rfl) ?_
      refine zast (ci := 13) (k := 58) hx hb hK rfl hZ18 hS18 g14.1 g14.2 rfl (Nat.le_of_ble_eq_true rfl) g15.1 g15.2 (D_79 W_prog_15_method_121_code_96 0 rfl rfl) (fun H19 locs19 hZ19 hS19 => ?_)
      refine zaload_n hx hb (D_44 W_prog_15_method_121_code_96 1 rfl rfl) rfl (lv_at hl 1 rfl) ?_
      refine zunrf g14.1 ?_
      refine zget (ci := 13) (C := RX13) (T := TX13) (v := .ref (ad 13 l2 (59 + 1))) (k := 59) hx hb hts inW_13 hown hK hZ19 g14.1 g14.2 rfl (by decide) k_9_232 rfl (D_180 W_prog_15_method_121_code_96 2 rfl rfl rfl) ?_
      refine lv_iload_n hx hb (D_29 W_prog_15_method_121_code_96 5 rfl rfl) rfl (lv_at hl 0 rfl) ?_
      refine lv_aload_n hx hb (D_42 W_prog_15_method_121_code_96 6 rfl rfl) rfl (lv_at hl 2 rfl) ?_
      refine zget (ci := 14) (C := RX14) (T := TX14) (v := .ref (ad 14 0 (67 + 1))) (k := 67) hx hb hts inW_14 hown hK hZ19 (by decide) (by decide) rfl (by decide) k_11_65 rfl (D_180 W_prog_15_method_121_code_96 7 rfl rfl rfl) ?_
      refine lv_iload_n hx hb (D_29 W_prog_15_method_121_code_96 10 rfl rfl) rfl (lv_at hl 0 rfl) ?_
      refine zald (ci := 14) (k := 67) hx hb hK rfl hZ19 (by decide) (by decide) rfl (Nat.le_of_ble_eq_true rfl) g15.1 g15.2 (D_46 W_prog_15_method_121_code_96 11 rfl rfl) ?_
      refine zast (ci := 13) (k := 59) hx hb hK rfl hZ19 hS19 g14.1 g14.2 rfl (Nat.le_of_ble_eq_true rfl) g15.1 g15.2 (D_79 W_prog_15_method_121_code_96 12 rfl rfl) (fun H20 locs20 hZ20 hS20 => ?_)
      refine lv_iinc (v := iI (l3 + 1)) (lv' := [(3, .int (iI (l3 + 1))), (2, va_rf (zrf ad 13 l2)), (0, .ref (ad 14 0 0))]) hx hb d_15_121_109 hl (k := 0) rfl (iI_add _ 1) (by decide) (by cases zrf ad 13 l2 <;> rfl) (fun ls hl => ?_)
      refine lv_goto (tgt := 41) hx hb (D_167 W_prog_15_method_121_code_96 16 rfl rfl rfl) (by decide) ?_
      exact ih hf hZ20 hS20 (lv_sub hl [0, 1, 2] rfl)

def f_M_perform (K : Nat) (l1 : Int) (F : zF) (B : zB) : zO := zbind (f_M_piece K l1 F B) (fun r1 F1 B1 => (if r1 < 0 then some ((-1), F1, B1) else if 0 ≤ r1 ∧ r1 < 3 then zbind (f_M_gather K r1 F1 B1) (fun r4 F4 B4 => if r32 r4 then (if r4 ≤ 2000 then f_M_perform_41 K K 0 r1 (zup3 (zup3 F4 13 r1 53 1) 13 r1 54 (F4 14 0 62)) B4 else some ((-2), F4, B4)) else none) else none))
set_option maxHeartbeats 4000000 in
set_option maxRecDepth 100000 in
theorem c_M_perform {l : Launch} {D : va_G} {ca : Nat → ClassId} {ad : Nat → Int → Nat → Nat} {L : List Nat} {aS vS : Nat → Nat} {sz K : Nat}  {l1 : Int} {F F9 : zF} {B B9 : zB} {r : Int} (hf : f_M_perform K l1 F B = some (r, F9, B9)) : Met l ({ cls := "StaveHouseModel", name := "perform", desc := "(I)I" } : Jvm.MethodName) (Cond.code ({ cls := "StaveHouseModel", name := "perform", desc := "(I)I" } : Jvm.MethodName) prog_15_method_121_code 6 (Option.some Jvm.ClassFile.FieldType.int) :: wAll) ({ frames := 6, cells := 0, slots := 0, locals := 168 } : Room) (va_Pc [.ref (ad 14 0 0), .int (iI l1)] (zPre D ca ad lnM nM L aS vS F B sz)) (Q_M_perform D ca ad L r F9 B9 (zA L sz)) 0 0 (zA L sz) := by
  refine zMet (Qc := Q_M_perform D ca ad L r F9 B9) (lv := [(0, .ref (ad 14 0 0)), (1, .int (iI l1))]) (by decide) (Nat.le_of_ble_eq_true rfl) rfl (fun A p e s m below meth c ls X hZ hS hl => ?_)
  obtain ⟨hx, hb, hr, hml, hown, hts, hlk, hK, hA, hL, hX⟩ := id X
  replace hf : (zbind (f_M_piece K l1 F B) (fun r1 F1 B1 => (if r1 < 0 then some ((-1), F1, B1) else if 0 ≤ r1 ∧ r1 < 3 then zbind (f_M_gather K r1 F1 B1) (fun r4 F4 B4 => if r32 r4 then (if r4 ≤ 2000 then f_M_perform_41 K K 0 r1 (zup3 (zup3 F4 13 r1 53 1) 13 r1 54 (F4 14 0 62)) B4 else some ((-2), F4, B4)) else none) else none))) = some (r, F9, B9) := hf
  refine lv_aload_n hx hb (D_42 W_prog_15_method_121_code_0 0 rfl rfl) rfl (lv_at hl 0 rfl) ?_
  refine lv_iload_n hx hb (D_27 W_prog_15_method_121_code_0 1 rfl rfl) rfl (lv_at hl 1 rfl) ?_
  obtain ⟨r1, F1, B1, hc1, hf⟩ := gbind hf
  refine va_callq (va_runV (As := [.int (iI l1)]) (rest := []) ⟨hx, hb, hml, hown, hts⟩ (c_M_piece (l := l) hc1) (cwV 1 hts (gdV k_12_92 k_12_94 ks_131 k_1_9 k_12_95) rfl rfl rfl (by decide +kernel) ⟨Nat.le_of_ble_eq_true rfl, Nat.le_of_ble_eq_true rfl⟩) (zPV X hZ hS (ci := 14) (by decide) (by decide) (r := (RX14, TX14, 107)) rfl [.int (iI l1)]) rfl rfl hl.1 rfl (lv_room (Nat.le_of_ble_eq_true rfl)) (D_182 W_prog_15_method_121_code_0 2 rfl rfl rfl) ⟨Nat.le_of_ble_eq_true rfl, Nat.le_of_ble_eq_true rfl⟩) hS (fun q _ h => zAin X hS q h) (zAin X hS) (fun p1 u1 t1 H1 locs1 ht1 hv1 hw1 hB1 hz1 hk1 hS1 => ?_)
  have hZ1 := zBack X ht1 hB1
  subst hw1
  refine zastore_n (lv' := [(0, .ref (ad 14 0 0)), (1, .int (iI l1))]) hx hb (D_77 W_prog_15_method_121_code_0 5 rfl rfl) rfl hl (by decide) (fun _ _ => rfl) (fun ls hl => ?_)
  refine zaload_n hx hb (D_44 W_prog_15_method_121_code_0 6 rfl rfl) rfl (lv_at hl 0 rfl) ?_
  refine zifnonnull (tgt := 12) hx hb (D_199 W_prog_15_method_121_code_0 7 rfl rfl rfl) (by decide) (fun h2 => ?_) (fun h2 => ?_)
  · replace hf := gneg hf h2
    refine lv_aload_n hx hb (D_42 W_prog_15_method_121_code_0 12 rfl rfl) rfl (lv_at hl 1 rfl) ?_
    refine zaload_n hx hb (D_44 W_prog_15_method_121_code_0 13 rfl rfl) rfl (lv_at hl 0 rfl) ?_
    obtain ⟨g3, hf⟩ := gif hf
    refine W.eq (g2 := F0 m 14 ls [.ref (ad 13 r1 0), .ref (ad 14 0 0)]) (by rw [zrf_pos (ad := ad) (t := 13) g3.1]; try rfl) ?_
    obtain ⟨r4, F4, B4, hc4, hf⟩ := gbind hf
    refine va_calli (va_runV (As := [.ref (ad 13 r1 0)]) (rest := []) ⟨hx, hb, hml, hown, hts⟩ (c_M_gather (l := l) hc4) (cwV 1 hts (gdV k_12_125 k_12_127 ks_132 k_1_9 k_12_128) rfl rfl rfl (by decide +kernel) ⟨Nat.le_of_ble_eq_true rfl, Nat.le_of_ble_eq_true rfl⟩) (zPV X hZ1 hS1 (ci := 14) (by decide) (by decide) (r := (RX14, TX14, 107)) rfl [.ref (ad 13 r1 0)]) rfl rfl hl.1 rfl (lv_room (Nat.le_of_ble_eq_true rfl)) (D_182 W_prog_15_method_121_code_0 14 rfl rfl rfl) ⟨Nat.le_of_ble_eq_true rfl, Nat.le_of_ble_eq_true rfl⟩) hS1 (fun q _ h => zAin X hS1 q h) (zAin X hS1) (fun p4 u4 t4 H4 locs4 ht4 hv4 hw4 hB4 hz4 hk4 hS4 => ?_)
    have hZ4 := zBack X ht4 hB4
    subst hw4
    refine lv_sipush (v := iI 2000) hx hb (D_17 W_prog_15_method_121_code_0 17 rfl rfl rfl) (by decide) ?_
    obtain ⟨g5, hf⟩ := gif hf
    refine zle (tgt := 26) hx hb g5 (by decide) (D_164 W_prog_15_method_121_code_0 20 rfl rfl rfl) (by decide) (fun h6 => ?_) (fun h6 => ?_)
    · replace hf := gpos hf h6
      refine zaload_n hx hb (D_44 W_prog_15_method_121_code_0 26 rfl rfl) rfl (lv_at hl 0 rfl) ?_
      refine lv_iconst (v := iI 1) hx hb (D_4 W_prog_15_method_121_code_0 27 rfl rfl) rfl ?_
      refine W.eq (g2 := F0 m 28 ls [.int (iI 1), .ref (ad 13 r1 0)]) (by rw [zrf_pos (ad := ad) (t := 13) g3.1]; try rfl) ?_
      refine zput (ci := 13) (C := RX13) (T := TX13) (k := 53) (v := 1) (w := .int (iI 1)) hx hb hts inW_13 tyX13 tyX13_ok nmX13 hown hK hZ4 hS4 g3.1 g3.2 rfl (by decide) k_9_221 rfl (fun G h => congrArg (fun q => Value.int (iI q)) h) rfl rfl (zno (by decide)) (D_181 W_prog_15_method_121_code_0 28 rfl rfl rfl) (fun H7 locs7 hZ7 hS7 => ?_)
      refine zaload_n hx hb (D_44 W_prog_15_method_121_code_0 31 rfl rfl) rfl (lv_at hl 0 rfl) ?_
      refine lv_aload_n hx hb (D_42 W_prog_15_method_121_code_32 0 rfl rfl) rfl (lv_at hl 1 rfl) ?_
      refine zget (ci := 14) (C := RX14) (T := TX14) (v := .int (iI (F4 14 0 62))) (k := 62) hx hb hts inW_14 hown hK hZ7 (by decide) (by decide) rfl (by decide) k_11_60 (congrArg (fun q : Int => Value.int (iI q)) (show (zup3 F4 13 r1 53 1) 14 0 62 = F4 14 0 62 by simp [zup3])) (D_180 W_prog_15_method_121_code_32 1 rfl rfl rfl) ?_
      refine W.eq (g2 := F0 m 36 ls [.int (iI (F4 14 0 62)), .ref (ad 13 r1 0)]) (by rw [zrf_pos (ad := ad) (t := 13) g3.1]; try rfl) ?_
      refine zput (ci := 13) (C := RX13) (T := TX13) (k := 54) (v := (F4 14 0 62)) (w := .int (iI (F4 14 0 62))) hx hb hts inW_13 tyX13 tyX13_ok nmX13 hown hK hZ7 hS7 g3.1 g3.2 rfl (by decide) k_9_222 rfl (fun G h => congrArg (fun q => Value.int (iI q)) h) rfl rfl (zno (by decide)) (D_181 W_prog_15_method_121_code_32 4 rfl rfl rfl) (fun H8 locs8 hZ8 hS8 => ?_)
      refine lv_iconst (v := iI 0) hx hb (D_3 W_prog_15_method_121_code_32 7 rfl rfl) rfl ?_
      refine lv_istore_n (lv' := [(3, .int (iI 0)), (2, va_rf (zrf ad 13 r1)), (0, .ref (ad 14 0 0)), (1, .int (iI l1))]) hx hb (D_62 W_prog_15_method_121_code_32 8 rfl rfl) rfl hl (by decide) (by cases zrf ad 13 r1 <;> rfl) (fun ls hl => ?_)
      exact b_M_perform_41 X hf hZ8 hS8 (lv_sub hl [0, 1, 2] rfl)
    · replace hf := gneg hf h6
      refine lv_bipush (v := iI (-2)) hx hb (D_16 W_prog_15_method_121_code_0 23 rfl rfl rfl) (by decide) ?_
      cases hf
      exact W.iret hx hb hr (fun t ht hW => ⟨⟨_, (), rfl, rfl, by rw [ht]; exact hZ4, va_K.moved hW.alike hK⟩, hS4.F ht⟩) hS4.2.2 (D_172 W_prog_15_method_121_code_0 25 rfl rfl) hlk
  · replace hf := gpos hf h2
    refine lv_iconst (v := iI (-1)) hx hb (D_2 W_prog_15_method_121_code_0 10 rfl rfl) rfl ?_
    cases hf
    exact W.iret hx hb hr (fun t ht hW => ⟨⟨_, (), rfl, rfl, by rw [ht]; exact hZ1, va_K.moved hW.alike hK⟩, hS1.F ht⟩) hS1.2.2 (D_172 W_prog_15_method_121_code_0 11 rfl rfl) hlk

abbrev Q_M_part (D : va_G) (ca : Nat → ClassId) (ad : Nat → Int → Nat → Nat) (L : List Nat) (r : Int) (F : zF) (B : zB) (A : Nat → Prop) : Array Value → State → Outcome → State → Prop := va_Qv (S := Unit) (fun _ => True) (fun _ => zPo D ca ad lnM nM L F B A) A
def f_M_part_338 (K : Nat)  (F : zF) (B : zB) : zO := some (0, F, B)
set_option maxHeartbeats 4000000 in
set_option maxRecDepth 100000 in
theorem b_M_part_338 {D : va_G} {ca : Nat → ClassId} {ad : Nat → Int → Nat → Nat} {L : List Nat} {aS vS : Nat → Nat} {A : Nat → Prop} {p : Program} {l : Launch} {e : Env} {s : State} {m : MethodId} {args : Array Value} {below : List Frame} {meth : Method} {c : Code} {K : Nat} {r : Int} {F9 : zF} {B9 : zB} (X : zX D ca L aS vS A p s m args meth c prog_15_method_88_code 21 (Option.none : Option Jvm.ClassFile.FieldType) "StaveHouseModel")  {F : zF} {B : zB} {H : Heap} {locs : List Loc} {ls : Array Slot} (hf : f_M_part_338 K  F B = some (r, F9, B9)) (hZ : zH D ca ad lnM nM L F B A H) (hS : va_S A s.heap H locs) (hl : lv_has ls 21 []) : W p l e ({ frames := 6, cells := 0, slots := 0, locals := 190 } : Room) s m args below meth c H locs 0 0 (MQ below (Q_M_part D ca ad L r F9 B9 A) args s 0 0 A) (F0 m 338 ls []) := by
  obtain ⟨hx, hb, hr, hml, hown, hts, hlk, hK, hA, hL, hX⟩ := id X
  replace hf : (some (0, F, B)) = some (r, F9, B9) := hf
  cases hf
  exact W.vret hx hb hr (fun t ht hW => ⟨⟨(), rfl, trivial, by rw [ht]; exact hZ, va_K.moved hW.alike hK⟩, hS.F ht⟩) hS.2.2 (D_177 W_prog_15_method_88_code_320 18 rfl rfl) hlk

def f_M_part_216 (rec174 : Int → Int → Int → Int → Int → Int → Int → zF → zB → zO) (K : Nat) (l15 : Int) (l13 : Int) (l12 : Int) (l1 : Int) (l2 : Int) (l3 : Int) (l4 : Int) (F : zF) (B : zB) : zO := zbind (f_M_formUp K (F 14 0 57) F B) (fun r54 F54 B54 => zbind (f_M_formDown K (F54 14 0 56) (F54 14 0 57) F54 B54) (fun r55 F55 B55 => zbind (f_M_note_1 K l1 l2 l3 l4 (F55 14 0 56) (F55 14 0 57) F55 B55) (fun r56 F56 B56 => zbind (f_M_minus K (F56 14 0 52) (F56 14 0 53) r54 r55 F56 B56) (fun r57 F57 B57 => zbind (f_M_times K r54 r55 l13 l15 (zup3 (zup3 F57 14 0 52 (F57 14 0 0)) 14 0 53 (F57 14 0 1)) B57) (fun r60 F60 B60 => zbind (f_M_plus K (F60 14 0 54) (F60 14 0 55) (F60 14 0 0) (F60 14 0 1) F60 B60) (fun r61 F61 B61 => rec174 l15 l13 l12 l1 l2 l3 l4 (zup3 (zup3 F61 14 0 54 (F61 14 0 0)) 14 0 55 (F61 14 0 1)) B61))))))
set_option maxHeartbeats 4000000 in
set_option maxRecDepth 100000 in
theorem b_M_part_216 {D : va_G} {ca : Nat → ClassId} {ad : Nat → Int → Nat → Nat} {L : List Nat} {aS vS : Nat → Nat} {A : Nat → Prop} {p : Program} {l : Launch} {e : Env} {s : State} {m : MethodId} {args : Array Value} {below : List Frame} {meth : Method} {c : Code} {K : Nat} {r : Int} {F9 : zF} {B9 : zB} (X : zX D ca L aS vS A p s m args meth c prog_15_method_88_code 21 (Option.none : Option Jvm.ClassFile.FieldType) "StaveHouseModel") {rec174 : Int → Int → Int → Int → Int → Int → Int → zF → zB → zO} (hrec174 : ∀ {l15 : Int} {l13 : Int} {l12 : Int} {l1 : Int} {l2 : Int} {l3 : Int} {l4 : Int} {F : zF} {B : zB} {H : Heap} {locs : List Loc} {ls : Array Slot}, rec174 l15 l13 l12 l1 l2 l3 l4 F B = some (r, F9, B9) → zH D ca ad lnM nM L F B A H → va_S A s.heap H locs → lv_has ls 21 [(15, .long (lI l15)), (13, .long (lI l13)), (12, .int (iI l12)), (0, .ref (ad 14 0 0)), (1, .ref (ad 13 l1 0)), (2, .int (iI l2)), (3, .int (iI l3)), (4, .int (iI l4))] → W p l e ({ frames := 6, cells := 0, slots := 0, locals := 190 } : Room) s m args below meth c H locs 0 0 (MQ below (Q_M_part D ca ad L r F9 B9 A) args s 0 0 A) (F0 m 174 ls [])) {l15 : Int} {l13 : Int} {l12 : Int} {l1 : Int} {l2 : Int} {l3 : Int} {l4 : Int} {F : zF} {B : zB} {H : Heap} {locs : List Loc} {ls : Array Slot} (hf : f_M_part_216 rec174 K l15 l13 l12 l1 l2 l3 l4 F B = some (r, F9, B9)) (hZ : zH D ca ad lnM nM L F B A H) (hS : va_S A s.heap H locs) (hl : lv_has ls 21 [(15, .long (lI l15)), (13, .long (lI l13)), (12, .int (iI l12)), (0, .ref (ad 14 0 0)), (1, .ref (ad 13 l1 0)), (2, .int (iI l2)), (3, .int (iI l3)), (4, .int (iI l4))]) : W p l e ({ frames := 6, cells := 0, slots := 0, locals := 190 } : Room) s m args below meth c H locs 0 0 (MQ below (Q_M_part D ca ad L r F9 B9 A) args s 0 0 A) (F0 m 216 ls []) := by
  obtain ⟨hx, hb, hr, hml, hown, hts, hlk, hK, hA, hL, hX⟩ := id X
  replace hf : (zbind (f_M_formUp K (F 14 0 57) F B) (fun r54 F54 B54 => zbind (f_M_formDown K (F54 14 0 56) (F54 14 0 57) F54 B54) (fun r55 F55 B55 => zbind (f_M_note_1 K l1 l2 l3 l4 (F55 14 0 56) (F55 14 0 57) F55 B55) (fun r56 F56 B56 => zbind (f_M_minus K (F56 14 0 52) (F56 14 0 53) r54 r55 F56 B56) (fun r57 F57 B57 => zbind (f_M_times K r54 r55 l13 l15 (zup3 (zup3 F57 14 0 52 (F57 14 0 0)) 14 0 53 (F57 14 0 1)) B57) (fun r60 F60 B60 => zbind (f_M_plus K (F60 14 0 54) (F60 14 0 55) (F60 14 0 0) (F60 14 0 1) F60 B60) (fun r61 F61 B61 => rec174 l15 l13 l12 l1 l2 l3 l4 (zup3 (zup3 F61 14 0 54 (F61 14 0 0)) 14 0 55 (F61 14 0 1)) B61))))))) = some (r, F9, B9) := hf
  refine lv_aload_n hx hb (D_42 W_prog_15_method_88_code_192 24 rfl rfl) rfl (lv_at hl 3 rfl) ?_
  refine zget (ci := 14) (C := RX14) (T := TX14) (v := .int (iI (F 14 0 57))) (k := 57) hx hb hts inW_14 hown hK hZ (by decide) (by decide) rfl (by decide) k_11_55 rfl (D_180 W_prog_15_method_88_code_192 25 rfl rfl rfl) ?_
  obtain ⟨r54, F54, B54, hc54, hf⟩ := gbind hf
  refine va_calll (va_runS (As := [.int (iI (F 14 0 57))]) (rest := []) ⟨hx, hb, hml, hown, hts⟩ (c_M_formUp (l := l) hc54) (va_cwS 1 hts (gdS k_13_163 k_13_164 k_1_9 k_13_165) rfl rfl rfl (by decide +kernel) ⟨Nat.le_of_ble_eq_true rfl, Nat.le_of_ble_eq_true rfl⟩) (zPS X hZ hS [.int (iI (F 14 0 57))]) rfl rfl hl.1 rfl (lv_room (Nat.le_of_ble_eq_true rfl)) (D_184 W_prog_15_method_88_code_192 28 rfl rfl rfl) ⟨Nat.le_of_ble_eq_true rfl, Nat.le_of_ble_eq_true rfl⟩) hS (fun q _ h => zAin X hS q h) (zAin X hS) (fun p54 u54 t54 H54 locs54 ht54 hv54 hw54 hB54 hz54 hk54 hS54 => ?_)
  have hZ54 := zBack X ht54 hB54
  subst hw54
  refine lv_lstore (lv' := [(17, .long (lI r54)), (15, .long (lI l15)), (13, .long (lI l13)), (12, .int (iI l12)), (0, .ref (ad 14 0 0)), (1, .ref (ad 13 l1 0)), (2, .int (iI l2)), (3, .int (iI l3)), (4, .int (iI l4))]) hx hb (D_55 W_prog_15_method_88_code_192 31 rfl rfl) hl (by decide) rfl (fun ls hl => ?_)
  refine lv_aload_n hx hb (D_42 W_prog_15_method_88_code_224 1 rfl rfl) rfl (lv_at hl 4 rfl) ?_
  refine zget (ci := 14) (C := RX14) (T := TX14) (v := .int (iI (F54 14 0 56))) (k := 56) hx hb hts inW_14 hown hK hZ54 (by decide) (by decide) rfl (by decide) k_11_54 rfl (D_180 W_prog_15_method_88_code_224 2 rfl rfl rfl) ?_
  refine lv_aload_n hx hb (D_42 W_prog_15_method_88_code_224 5 rfl rfl) rfl (lv_at hl 4 rfl) ?_
  refine zget (ci := 14) (C := RX14) (T := TX14) (v := .int (iI (F54 14 0 57))) (k := 57) hx hb hts inW_14 hown hK hZ54 (by decide) (by decide) rfl (by decide) k_11_55 rfl (D_180 W_prog_15_method_88_code_224 6 rfl rfl rfl) ?_
  obtain ⟨r55, F55, B55, hc55, hf⟩ := gbind hf
  refine va_calll (va_runS (As := [.int (iI (F54 14 0 56)), .int (iI (F54 14 0 57))]) (rest := []) ⟨hx, hb, hml, hown, hts⟩ (c_M_formDown (l := l) hc55) (va_cwS 2 hts (gdS k_13_168 k_13_169 k_1_9 k_13_170) rfl rfl rfl (by decide +kernel) ⟨Nat.le_of_ble_eq_true rfl, Nat.le_of_ble_eq_true rfl⟩) (zPS X hZ54 hS54 [.int (iI (F54 14 0 56)), .int (iI (F54 14 0 57))]) rfl rfl hl.1 rfl (lv_room (Nat.le_of_ble_eq_true rfl)) (D_184 W_prog_15_method_88_code_224 9 rfl rfl rfl) ⟨Nat.le_of_ble_eq_true rfl, Nat.le_of_ble_eq_true rfl⟩) hS54 (fun q _ h => zAin X hS54 q h) (zAin X hS54) (fun p55 u55 t55 H55 locs55 ht55 hv55 hw55 hB55 hz55 hk55 hS55 => ?_)
  have hZ55 := zBack X ht55 hB55
  subst hw55
  refine lv_lstore (lv' := [(19, .long (lI r55)), (17, .long (lI r54)), (15, .long (lI l15)), (13, .long (lI l13)), (12, .int (iI l12)), (0, .ref (ad 14 0 0)), (1, .ref (ad 13 l1 0)), (2, .int (iI l2)), (3, .int (iI l3)), (4, .int (iI l4))]) hx hb (D_55 W_prog_15_method_88_code_224 12 rfl rfl) hl (by decide) rfl (fun ls hl => ?_)
  refine lv_aload_n hx hb (D_42 W_prog_15_method_88_code_224 14 rfl rfl) rfl (lv_at hl 5 rfl) ?_
  refine lv_aload_n hx hb (D_43 W_prog_15_method_88_code_224 15 rfl rfl) rfl (lv_at hl 6 rfl) ?_
  refine lv_iload_n hx hb (D_28 W_prog_15_method_88_code_224 16 rfl rfl) rfl (lv_at hl 7 rfl) ?_
  refine lv_iload_n hx hb (D_29 W_prog_15_method_88_code_224 17 rfl rfl) rfl (lv_at hl 8 rfl) ?_
  refine lv_iload hx hb (D_21 W_prog_15_method_88_code_224 18 rfl rfl) (lv_at hl 9 rfl) ?_
  refine lv_aload_n hx hb (D_42 W_prog_15_method_88_code_224 20 rfl rfl) rfl (lv_at hl 5 rfl) ?_
  refine zget (ci := 14) (C := RX14) (T := TX14) (v := .int (iI (F55 14 0 56))) (k := 56) hx hb hts inW_14 hown hK hZ55 (by decide) (by decide) rfl (by decide) k_11_54 rfl (D_180 W_prog_15_method_88_code_224 21 rfl rfl rfl) ?_
  refine lv_aload_n hx hb (D_42 W_prog_15_method_88_code_224 24 rfl rfl) rfl (lv_at hl 5 rfl) ?_
  refine zget (ci := 14) (C := RX14) (T := TX14) (v := .int (iI (F55 14 0 57))) (k := 57) hx hb hts inW_14 hown hK hZ55 (by decide) (by decide) rfl (by decide) k_11_55 rfl (D_180 W_prog_15_method_88_code_224 25 rfl rfl rfl) ?_
  obtain ⟨r56, F56, B56, hc56, hf⟩ := gbind hf
  refine va_callv (va_runV (As := [.ref (ad 13 l1 0), .int (iI l2), .int (iI l3), .int (iI l4), .int (iI (F55 14 0 56)), .int (iI (F55 14 0 57))]) (rest := []) ⟨hx, hb, hml, hown, hts⟩ (c_M_note_1 (l := l) hc56) (cwV 6 hts (gdV k_13_151 k_13_153 ks_178 k_1_9 k_13_154) rfl rfl rfl (by decide +kernel) ⟨Nat.le_of_ble_eq_true rfl, Nat.le_of_ble_eq_true rfl⟩) (zPV X hZ55 hS55 (ci := 14) (by decide) (by decide) (r := (RX14, TX14, 107)) rfl [.ref (ad 13 l1 0), .int (iI l2), .int (iI l3), .int (iI l4), .int (iI (F55 14 0 56)), .int (iI (F55 14 0 57))]) rfl rfl hl.1 rfl (lv_room (Nat.le_of_ble_eq_true rfl)) (D_182 W_prog_15_method_88_code_224 28 rfl rfl rfl) ⟨Nat.le_of_ble_eq_true rfl, Nat.le_of_ble_eq_true rfl⟩) hS55 (fun q _ h => zAin X hS55 q h) (zAin X hS55) (fun u56 t56 H56 locs56 ht56 hv56 hw56 hB56 hz56 hk56 hS56 => ?_)
  have hZ56 := zBack X ht56 hB56
  refine lv_aload_n hx hb (D_42 W_prog_15_method_88_code_224 31 rfl rfl) rfl (lv_at hl 5 rfl) ?_
  refine lv_aload_n hx hb (D_42 W_prog_15_method_88_code_256 0 rfl rfl) rfl (lv_at hl 5 rfl) ?_
  refine zget (ci := 14) (C := RX14) (T := TX14) (v := .long (lI (F56 14 0 52))) (k := 52) hx hb hts inW_14 hown hK hZ56 (by decide) (by decide) rfl (by decide) k_11_50 rfl (D_180 W_prog_15_method_88_code_256 1 rfl rfl rfl) ?_
  refine lv_aload_n hx hb (D_42 W_prog_15_method_88_code_256 4 rfl rfl) rfl (lv_at hl 5 rfl) ?_
  refine zget (ci := 14) (C := RX14) (T := TX14) (v := .long (lI (F56 14 0 53))) (k := 53) hx hb hts inW_14 hown hK hZ56 (by decide) (by decide) rfl (by decide) k_11_51 rfl (D_180 W_prog_15_method_88_code_256 5 rfl rfl rfl) ?_
  refine lv_lload hx hb (D_22 W_prog_15_method_88_code_256 8 rfl rfl) (lv_at hl 1 rfl) ?_
  refine lv_lload hx hb (D_22 W_prog_15_method_88_code_256 10 rfl rfl) (lv_at hl 0 rfl) ?_
  obtain ⟨r57, F57, B57, hc57, hf⟩ := gbind hf
  refine va_callv (va_runV (As := [.long (lI (F56 14 0 52)), .long (lI (F56 14 0 53)), .long (lI r54), .long (lI r55)]) (rest := []) ⟨hx, hb, hml, hown, hts⟩ (c_M_minus (l := l) hc57) (cwV 4 hts (gdV k_13_132 k_13_134 ks_174 k_1_9 k_13_135) rfl rfl rfl (by decide +kernel) ⟨Nat.le_of_ble_eq_true rfl, Nat.le_of_ble_eq_true rfl⟩) (zPV X hZ56 hS56 (ci := 14) (by decide) (by decide) (r := (RX14, TX14, 107)) rfl [.long (lI (F56 14 0 52)), .long (lI (F56 14 0 53)), .long (lI r54), .long (lI r55)]) rfl rfl hl.1 rfl (lv_room (Nat.le_of_ble_eq_true rfl)) (D_182 W_prog_15_method_88_code_256 12 rfl rfl rfl) ⟨Nat.le_of_ble_eq_true rfl, Nat.le_of_ble_eq_true rfl⟩) hS56 (fun q _ h => zAin X hS56 q h) (zAin X hS56) (fun u57 t57 H57 locs57 ht57 hv57 hw57 hB57 hz57 hk57 hS57 => ?_)
  have hZ57 := zBack X ht57 hB57
  refine lv_aload_n hx hb (D_42 W_prog_15_method_88_code_256 15 rfl rfl) rfl (lv_at hl 5 rfl) ?_
  refine lv_aload_n hx hb (D_42 W_prog_15_method_88_code_256 16 rfl rfl) rfl (lv_at hl 5 rfl) ?_
  refine zget (ci := 14) (C := RX14) (T := TX14) (v := .long (lI (F57 14 0 0))) (k := 0) hx hb hts inW_14 hown hK hZ57 (by decide) (by decide) rfl (by decide) k_10_238 rfl (D_180 W_prog_15_method_88_code_256 17 rfl rfl rfl) ?_
  refine zput (ci := 14) (C := RX14) (T := TX14) (k := 52) (v := (F57 14 0 0)) (w := .long (lI (F57 14 0 0))) hx hb hts inW_14 tyX14 tyX14_ok nmX14 hown hK hZ57 hS57 (by decide) (by decide) rfl (by decide) k_11_50 rfl (fun G h => congrArg (fun q => Value.long (lI q)) h) rfl rfl (zno (by decide)) (D_181 W_prog_15_method_88_code_256 20 rfl rfl rfl) (fun H58 locs58 hZ58 hS58 => ?_)
  refine lv_aload_n hx hb (D_42 W_prog_15_method_88_code_256 23 rfl rfl) rfl (lv_at hl 5 rfl) ?_
  refine lv_aload_n hx hb (D_42 W_prog_15_method_88_code_256 24 rfl rfl) rfl (lv_at hl 5 rfl) ?_
  refine zget (ci := 14) (C := RX14) (T := TX14) (v := .long (lI (F57 14 0 1))) (k := 1) hx hb hts inW_14 hown hK hZ58 (by decide) (by decide) rfl (by decide) k_10_239 rfl (D_180 W_prog_15_method_88_code_256 25 rfl rfl rfl) ?_
  refine zput (ci := 14) (C := RX14) (T := TX14) (k := 53) (v := (F57 14 0 1)) (w := .long (lI (F57 14 0 1))) hx hb hts inW_14 tyX14 tyX14_ok nmX14 hown hK hZ58 hS58 (by decide) (by decide) rfl (by decide) k_11_51 rfl (fun G h => congrArg (fun q => Value.long (lI q)) h) rfl rfl (zno (by decide)) (D_181 W_prog_15_method_88_code_256 28 rfl rfl rfl) (fun H59 locs59 hZ59 hS59 => ?_)
  refine lv_aload_n hx hb (D_42 W_prog_15_method_88_code_256 31 rfl rfl) rfl (lv_at hl 5 rfl) ?_
  refine lv_lload hx hb (D_22 W_prog_15_method_88_code_288 0 rfl rfl) (lv_at hl 1 rfl) ?_
  refine lv_lload hx hb (D_22 W_prog_15_method_88_code_288 2 rfl rfl) (lv_at hl 0 rfl) ?_
  refine lv_lload hx hb (D_22 W_prog_15_method_88_code_288 4 rfl rfl) (lv_at hl 3 rfl) ?_
  refine lv_lload hx hb (D_22 W_prog_15_method_88_code_288 6 rfl rfl) (lv_at hl 2 rfl) ?_
  obtain ⟨r60, F60, B60, hc60, hf⟩ := gbind hf
  refine va_callv (va_runV (As := [.long (lI r54), .long (lI r55), .long (lI l13), .long (lI l15)]) (rest := []) ⟨hx, hb, hml, hown, hts⟩ (c_M_times (l := l) hc60) (cwV 4 hts (gdV k_13_155 k_13_157 ks_179 k_1_9 k_13_158) rfl rfl rfl (by decide +kernel) ⟨Nat.le_of_ble_eq_true rfl, Nat.le_of_ble_eq_true rfl⟩) (zPV X hZ59 hS59 (ci := 14) (by decide) (by decide) (r := (RX14, TX14, 107)) rfl [.long (lI r54), .long (lI r55), .long (lI l13), .long (lI l15)]) rfl rfl hl.1 rfl (lv_room (Nat.le_of_ble_eq_true rfl)) (D_182 W_prog_15_method_88_code_288 8 rfl rfl rfl) ⟨Nat.le_of_ble_eq_true rfl, Nat.le_of_ble_eq_true rfl⟩) hS59 (fun q _ h => zAin X hS59 q h) (zAin X hS59) (fun u60 t60 H60 locs60 ht60 hv60 hw60 hB60 hz60 hk60 hS60 => ?_)
  have hZ60 := zBack X ht60 hB60
  refine lv_aload_n hx hb (D_42 W_prog_15_method_88_code_288 11 rfl rfl) rfl (lv_at hl 5 rfl) ?_
  refine lv_aload_n hx hb (D_42 W_prog_15_method_88_code_288 12 rfl rfl) rfl (lv_at hl 5 rfl) ?_
  refine zget (ci := 14) (C := RX14) (T := TX14) (v := .long (lI (F60 14 0 54))) (k := 54) hx hb hts inW_14 hown hK hZ60 (by decide) (by decide) rfl (by decide) k_11_52 rfl (D_180 W_prog_15_method_88_code_288 13 rfl rfl rfl) ?_
  refine lv_aload_n hx hb (D_42 W_prog_15_method_88_code_288 16 rfl rfl) rfl (lv_at hl 5 rfl) ?_
  refine zget (ci := 14) (C := RX14) (T := TX14) (v := .long (lI (F60 14 0 55))) (k := 55) hx hb hts inW_14 hown hK hZ60 (by decide) (by decide) rfl (by decide) k_11_53 rfl (D_180 W_prog_15_method_88_code_288 17 rfl rfl rfl) ?_
  refine lv_aload_n hx hb (D_42 W_prog_15_method_88_code_288 20 rfl rfl) rfl (lv_at hl 5 rfl) ?_
  refine zget (ci := 14) (C := RX14) (T := TX14) (v := .long (lI (F60 14 0 0))) (k := 0) hx hb hts inW_14 hown hK hZ60 (by decide) (by decide) rfl (by decide) k_10_238 rfl (D_180 W_prog_15_method_88_code_288 21 rfl rfl rfl) ?_
  refine lv_aload_n hx hb (D_42 W_prog_15_method_88_code_288 24 rfl rfl) rfl (lv_at hl 5 rfl) ?_
  refine zget (ci := 14) (C := RX14) (T := TX14) (v := .long (lI (F60 14 0 1))) (k := 1) hx hb hts inW_14 hown hK hZ60 (by decide) (by decide) rfl (by decide) k_10_239 rfl (D_180 W_prog_15_method_88_code_288 25 rfl rfl rfl) ?_
  obtain ⟨r61, F61, B61, hc61, hf⟩ := gbind hf
  refine va_callv (va_runV (As := [.long (lI (F60 14 0 54)), .long (lI (F60 14 0 55)), .long (lI (F60 14 0 0)), .long (lI (F60 14 0 1))]) (rest := []) ⟨hx, hb, hml, hown, hts⟩ (c_M_plus (l := l) hc61) (cwV 4 hts (gdV k_12_147 k_12_149 ks_135 k_1_9 k_12_150) rfl rfl rfl (by decide +kernel) ⟨Nat.le_of_ble_eq_true rfl, Nat.le_of_ble_eq_true rfl⟩) (zPV X hZ60 hS60 (ci := 14) (by decide) (by decide) (r := (RX14, TX14, 107)) rfl [.long (lI (F60 14 0 54)), .long (lI (F60 14 0 55)), .long (lI (F60 14 0 0)), .long (lI (F60 14 0 1))]) rfl rfl hl.1 rfl (lv_room (Nat.le_of_ble_eq_true rfl)) (D_182 W_prog_15_method_88_code_288 28 rfl rfl rfl) ⟨Nat.le_of_ble_eq_true rfl, Nat.le_of_ble_eq_true rfl⟩) hS60 (fun q _ h => zAin X hS60 q h) (zAin X hS60) (fun u61 t61 H61 locs61 ht61 hv61 hw61 hB61 hz61 hk61 hS61 => ?_)
  have hZ61 := zBack X ht61 hB61
  refine lv_aload_n hx hb (D_42 W_prog_15_method_88_code_288 31 rfl rfl) rfl (lv_at hl 5 rfl) ?_
  refine lv_aload_n hx hb (D_42 W_prog_15_method_88_code_320 0 rfl rfl) rfl (lv_at hl 5 rfl) ?_
  refine zget (ci := 14) (C := RX14) (T := TX14) (v := .long (lI (F61 14 0 0))) (k := 0) hx hb hts inW_14 hown hK hZ61 (by decide) (by decide) rfl (by decide) k_10_238 rfl (D_180 W_prog_15_method_88_code_320 1 rfl rfl rfl) ?_
  refine zput (ci := 14) (C := RX14) (T := TX14) (k := 54) (v := (F61 14 0 0)) (w := .long (lI (F61 14 0 0))) hx hb hts inW_14 tyX14 tyX14_ok nmX14 hown hK hZ61 hS61 (by decide) (by decide) rfl (by decide) k_11_52 rfl (fun G h => congrArg (fun q => Value.long (lI q)) h) rfl rfl (zno (by decide)) (D_181 W_prog_15_method_88_code_320 4 rfl rfl rfl) (fun H62 locs62 hZ62 hS62 => ?_)
  refine lv_aload_n hx hb (D_42 W_prog_15_method_88_code_320 7 rfl rfl) rfl (lv_at hl 5 rfl) ?_
  refine lv_aload_n hx hb (D_42 W_prog_15_method_88_code_320 8 rfl rfl) rfl (lv_at hl 5 rfl) ?_
  refine zget (ci := 14) (C := RX14) (T := TX14) (v := .long (lI (F61 14 0 1))) (k := 1) hx hb hts inW_14 hown hK hZ62 (by decide) (by decide) rfl (by decide) k_10_239 rfl (D_180 W_prog_15_method_88_code_320 9 rfl rfl rfl) ?_
  refine zput (ci := 14) (C := RX14) (T := TX14) (k := 55) (v := (F61 14 0 1)) (w := .long (lI (F61 14 0 1))) hx hb hts inW_14 tyX14 tyX14_ok nmX14 hown hK hZ62 hS62 (by decide) (by decide) rfl (by decide) k_11_53 rfl (fun G h => congrArg (fun q => Value.long (lI q)) h) rfl rfl (zno (by decide)) (D_181 W_prog_15_method_88_code_320 12 rfl rfl rfl) (fun H63 locs63 hZ63 hS63 => ?_)
  refine lv_goto (tgt := 174) hx hb (D_167 W_prog_15_method_88_code_320 15 rfl rfl rfl) (by decide) ?_
  exact hrec174 hf hZ63 hS63 (lv_sub hl [2, 3, 4, 5, 6, 7, 8, 9] rfl)

def f_M_part_209 (rec174 : Int → Int → Int → Int → Int → Int → Int → zF → zB → zO) (K : Nat) (l15 : Int) (l13 : Int) (l12 : Int) (l1 : Int) (l2 : Int) (l3 : Int) (l4 : Int) (F : zF) (B : zB) : zO := zbind (f_M_choose K l1 0 F B) (fun r53 F53 B53 => f_M_part_216 rec174 K l15 l13 l12 l1 l2 l3 l4 F53 B53)
set_option maxHeartbeats 4000000 in
set_option maxRecDepth 100000 in
theorem b_M_part_209 {D : va_G} {ca : Nat → ClassId} {ad : Nat → Int → Nat → Nat} {L : List Nat} {aS vS : Nat → Nat} {A : Nat → Prop} {p : Program} {l : Launch} {e : Env} {s : State} {m : MethodId} {args : Array Value} {below : List Frame} {meth : Method} {c : Code} {K : Nat} {r : Int} {F9 : zF} {B9 : zB} (X : zX D ca L aS vS A p s m args meth c prog_15_method_88_code 21 (Option.none : Option Jvm.ClassFile.FieldType) "StaveHouseModel") {rec174 : Int → Int → Int → Int → Int → Int → Int → zF → zB → zO} (hrec174 : ∀ {l15 : Int} {l13 : Int} {l12 : Int} {l1 : Int} {l2 : Int} {l3 : Int} {l4 : Int} {F : zF} {B : zB} {H : Heap} {locs : List Loc} {ls : Array Slot}, rec174 l15 l13 l12 l1 l2 l3 l4 F B = some (r, F9, B9) → zH D ca ad lnM nM L F B A H → va_S A s.heap H locs → lv_has ls 21 [(15, .long (lI l15)), (13, .long (lI l13)), (12, .int (iI l12)), (0, .ref (ad 14 0 0)), (1, .ref (ad 13 l1 0)), (2, .int (iI l2)), (3, .int (iI l3)), (4, .int (iI l4))] → W p l e ({ frames := 6, cells := 0, slots := 0, locals := 190 } : Room) s m args below meth c H locs 0 0 (MQ below (Q_M_part D ca ad L r F9 B9 A) args s 0 0 A) (F0 m 174 ls [])) {l15 : Int} {l13 : Int} {l12 : Int} {l1 : Int} {l2 : Int} {l3 : Int} {l4 : Int} {F : zF} {B : zB} {H : Heap} {locs : List Loc} {ls : Array Slot} (hf : f_M_part_209 rec174 K l15 l13 l12 l1 l2 l3 l4 F B = some (r, F9, B9)) (hZ : zH D ca ad lnM nM L F B A H) (hS : va_S A s.heap H locs) (hl : lv_has ls 21 [(15, .long (lI l15)), (13, .long (lI l13)), (12, .int (iI l12)), (0, .ref (ad 14 0 0)), (1, .ref (ad 13 l1 0)), (2, .int (iI l2)), (3, .int (iI l3)), (4, .int (iI l4))]) : W p l e ({ frames := 6, cells := 0, slots := 0, locals := 190 } : Room) s m args below meth c H locs 0 0 (MQ below (Q_M_part D ca ad L r F9 B9 A) args s 0 0 A) (F0 m 209 ls []) := by
  obtain ⟨hx, hb, hr, hml, hown, hts, hlk, hK, hA, hL, hX⟩ := id X
  replace hf : (zbind (f_M_choose K l1 0 F B) (fun r53 F53 B53 => f_M_part_216 rec174 K l15 l13 l12 l1 l2 l3 l4 F53 B53)) = some (r, F9, B9) := hf
  refine lv_aload_n hx hb (D_42 W_prog_15_method_88_code_192 17 rfl rfl) rfl (lv_at hl 3 rfl) ?_
  refine lv_aload_n hx hb (D_43 W_prog_15_method_88_code_192 18 rfl rfl) rfl (lv_at hl 4 rfl) ?_
  refine lv_iconst (v := iI 0) hx hb (D_3 W_prog_15_method_88_code_192 19 rfl rfl) rfl ?_
  obtain ⟨r53, F53, B53, hc53, hf⟩ := gbind hf
  refine va_calli (va_runV (As := [.ref (ad 13 l1 0), .int (iI 0)]) (rest := []) ⟨hx, hb, hml, hown, hts⟩ (c_M_choose (l := l) hc53) (cwV 2 hts (gdV k_13_159 k_13_161 ks_180 k_1_9 k_13_162) rfl rfl rfl (by decide +kernel) ⟨Nat.le_of_ble_eq_true rfl, Nat.le_of_ble_eq_true rfl⟩) (zPV X hZ hS (ci := 14) (by decide) (by decide) (r := (RX14, TX14, 107)) rfl [.ref (ad 13 l1 0), .int (iI 0)]) rfl rfl hl.1 rfl (lv_room (Nat.le_of_ble_eq_true rfl)) (D_182 W_prog_15_method_88_code_192 20 rfl rfl rfl) ⟨Nat.le_of_ble_eq_true rfl, Nat.le_of_ble_eq_true rfl⟩) hS (fun q _ h => zAin X hS q h) (zAin X hS) (fun p53 u53 t53 H53 locs53 ht53 hv53 hw53 hB53 hz53 hk53 hS53 => ?_)
  have hZ53 := zBack X ht53 hB53
  subst hw53
  refine lv_pop hx hb (D_87 W_prog_15_method_88_code_192 23 rfl rfl) rfl ?_
  exact b_M_part_216 X hrec174 hf hZ53 hS53 (lv_sub hl [0, 1, 2, 3, 4, 5, 6, 7] rfl)

def f_M_part_174 (K : Nat) : Nat → Int → Int → Int → Int → Int → Int → Int → zF → zB → zO
  | 0, _, _, _, _, _, _, _, _, _ => none
  | n + 1, l15, l13, l12, l1, l2, l3, l4, F, B => if r64 (F 14 0 52) then (if (zcmp (F 14 0 52) 0) ≤ 0 then f_M_part_338 K F B else if 0 ≤ l1 ∧ l1 < 3 then if 0 ≤ l2 ∧ l2 < 4 then if r32 (B 13 l1 13 l2) then (if 800 < (B 13 l1 13 l2) then f_M_part_338 K F B else if r32 l12 then (if l12 = 0 then zbind (f_M_choose K l1 1 F B) (fun r50 F50 B50 => if r32 r50 then (if r50 = 0 then f_M_part_209 (f_M_part_174 K n) K l15 l13 l12 l1 l2 l3 l4 F50 B50 else f_M_part_216 (f_M_part_174 K n) K l15 l13 l12 l1 l2 l3 l4 F50 B50) else none) else f_M_part_209 (f_M_part_174 K n) K l15 l13 l12 l1 l2 l3 l4 F B) else none) else none else none else none) else none
set_option maxHeartbeats 4000000 in
set_option maxRecDepth 100000 in
theorem b_M_part_174 {D : va_G} {ca : Nat → ClassId} {ad : Nat → Int → Nat → Nat} {L : List Nat} {aS vS : Nat → Nat} {A : Nat → Prop} {p : Program} {l : Launch} {e : Env} {s : State} {m : MethodId} {args : Array Value} {below : List Frame} {meth : Method} {c : Code} {K : Nat} {r : Int} {F9 : zF} {B9 : zB} (X : zX D ca L aS vS A p s m args meth c prog_15_method_88_code 21 (Option.none : Option Jvm.ClassFile.FieldType) "StaveHouseModel") : ∀ {n : Nat} {l15 : Int} {l13 : Int} {l12 : Int} {l1 : Int} {l2 : Int} {l3 : Int} {l4 : Int} {F : zF} {B : zB} {H : Heap} {locs : List Loc} {ls : Array Slot}, f_M_part_174 K n l15 l13 l12 l1 l2 l3 l4 F B = some (r, F9, B9) → zH D ca ad lnM nM L F B A H → va_S A s.heap H locs → lv_has ls 21 [(15, .long (lI l15)), (13, .long (lI l13)), (12, .int (iI l12)), (0, .ref (ad 14 0 0)), (1, .ref (ad 13 l1 0)), (2, .int (iI l2)), (3, .int (iI l3)), (4, .int (iI l4))] → W p l e ({ frames := 6, cells := 0, slots := 0, locals := 190 } : Room) s m args below meth c H locs 0 0 (MQ below (Q_M_part D ca ad L r F9 B9 A) args s 0 0 A) (F0 m 174 ls []) := by
  obtain ⟨hx, hb, hr, hml, hown, hts, hlk, hK, hA, hL, hX⟩ := id X
  intro n
  induction n with
  | zero =>
    intros
    rename_i hf _ _ _
    cases hf
  | succ n ih =>
    intro l15 l13 l12 l1 l2 l3 l4 F B H locs ls hf hZ hS hl
    replace hf : (if r64 (F 14 0 52) then (if (zcmp (F 14 0 52) 0) ≤ 0 then f_M_part_338 K F B else if 0 ≤ l1 ∧ l1 < 3 then if 0 ≤ l2 ∧ l2 < 4 then if r32 (B 13 l1 13 l2) then (if 800 < (B 13 l1 13 l2) then f_M_part_338 K F B else if r32 l12 then (if l12 = 0 then zbind (f_M_choose K l1 1 F B) (fun r50 F50 B50 => if r32 r50 then (if r50 = 0 then f_M_part_209 (f_M_part_174 K n) K l15 l13 l12 l1 l2 l3 l4 F50 B50 else f_M_part_216 (f_M_part_174 K n) K l15 l13 l12 l1 l2 l3 l4 F50 B50) else none) else f_M_part_209 (f_M_part_174 K n) K l15 l13 l12 l1 l2 l3 l4 F B) else none) else none else none else none) else none) = some (r, F9, B9) := hf
    refine lv_aload_n hx hb (D_42 W_prog_15_method_88_code_160 14 rfl rfl) rfl (lv_at hl 3 rfl) ?_
    refine zget (ci := 14) (C := RX14) (T := TX14) (v := .long (lI (F 14 0 52))) (k := 52) hx hb hts inW_14 hown hK hZ (by decide) (by decide) rfl (by decide) k_11_50 rfl (D_180 W_prog_15_method_88_code_160 15 rfl rfl rfl) ?_
    refine lv_lconst (v := lI 0) hx hb (D_9 W_prog_15_method_88_code_160 18 rfl rfl) (by decide) ?_
    obtain ⟨g42, hf⟩ := gif hf
    refine zcmp_r hx hb g42 (by decide) (D_148 W_prog_15_method_88_code_160 19 rfl rfl) ?_
    refine z0le (tgt := 338) hx hb zcmp_32 (D_158 W_prog_15_method_88_code_160 20 rfl rfl rfl) (by decide) (fun h43 => ?_) (fun h43 => ?_)
    · replace hf := gpos hf h43
      exact b_M_part_338 X hf hZ hS (lv_sub hl [] rfl)
    · replace hf := gneg hf h43
      refine lv_aload_n hx hb (D_43 W_prog_15_method_88_code_160 23 rfl rfl) rfl (lv_at hl 4 rfl) ?_
      obtain ⟨g44, hf⟩ := gif hf
      refine zget (ci := 13) (C := RX13) (T := TX13) (v := .ref (ad 13 l1 (13 + 1))) (k := 13) hx hb hts inW_13 hown hK hZ g44.1 g44.2 rfl (by decide) k_9_144 rfl (D_180 W_prog_15_method_88_code_160 24 rfl rfl rfl) ?_
      refine lv_iload_n hx hb (D_28 W_prog_15_method_88_code_160 27 rfl rfl) rfl (lv_at hl 5 rfl) ?_
      obtain ⟨g45, hf⟩ := gif hf
      refine zald (ci := 13) (k := 13) hx hb hK rfl hZ g44.1 g44.2 rfl (Nat.le_of_ble_eq_true rfl) g45.1 g45.2 (D_46 W_prog_15_method_88_code_160 28 rfl rfl) ?_
      refine lv_sipush (v := iI 800) hx hb (D_17 W_prog_15_method_88_code_160 29 rfl rfl rfl) (by decide) ?_
      obtain ⟨g46, hf⟩ := gif hf
      refine zgt (tgt := 338) hx hb g46 (by decide) (D_163 W_prog_15_method_88_code_192 0 rfl rfl rfl) (by decide) (fun h47 => ?_) (fun h47 => ?_)
      · replace hf := gpos hf h47
        exact b_M_part_338 X hf hZ hS (lv_sub hl [] rfl)
      · replace hf := gneg hf h47
        refine lv_iload hx hb (D_21 W_prog_15_method_88_code_192 3 rfl rfl) (lv_at hl 2 rfl) ?_
        obtain ⟨g48, hf⟩ := gif hf
        refine z0ne (tgt := 209) hx hb g48 (D_154 W_prog_15_method_88_code_192 5 rfl rfl rfl) (by decide) (fun h49 => ?_) (fun h49 => ?_)
        · replace hf := gneg hf h49
          exact b_M_part_209 X ih hf hZ hS (lv_sub hl [0, 1, 2, 3, 4, 5, 6, 7] rfl)
        · replace hf := gpos hf h49
          refine lv_aload_n hx hb (D_42 W_prog_15_method_88_code_192 8 rfl rfl) rfl (lv_at hl 3 rfl) ?_
          refine lv_aload_n hx hb (D_43 W_prog_15_method_88_code_192 9 rfl rfl) rfl (lv_at hl 4 rfl) ?_
          refine lv_iconst (v := iI 1) hx hb (D_4 W_prog_15_method_88_code_192 10 rfl rfl) rfl ?_
          obtain ⟨r50, F50, B50, hc50, hf⟩ := gbind hf
          refine va_calli (va_runV (As := [.ref (ad 13 l1 0), .int (iI 1)]) (rest := []) ⟨hx, hb, hml, hown, hts⟩ (c_M_choose (l := l) hc50) (cwV 2 hts (gdV k_13_159 k_13_161 ks_180 k_1_9 k_13_162) rfl rfl rfl (by decide +kernel) ⟨Nat.le_of_ble_eq_true rfl, Nat.le_of_ble_eq_true rfl⟩) (zPV X hZ hS (ci := 14) (by decide) (by decide) (r := (RX14, TX14, 107)) rfl [.ref (ad 13 l1 0), .int (iI 1)]) rfl rfl hl.1 rfl (lv_room (Nat.le_of_ble_eq_true rfl)) (D_182 W_prog_15_method_88_code_192 11 rfl rfl rfl) ⟨Nat.le_of_ble_eq_true rfl, Nat.le_of_ble_eq_true rfl⟩) hS (fun q _ h => zAin X hS q h) (zAin X hS) (fun p50 u50 t50 H50 locs50 ht50 hv50 hw50 hB50 hz50 hk50 hS50 => ?_)
          have hZ50 := zBack X ht50 hB50
          subst hw50
          obtain ⟨g51, hf⟩ := gif hf
          refine z0ne (tgt := 216) hx hb g51 (D_154 W_prog_15_method_88_code_192 14 rfl rfl rfl) (by decide) (fun h52 => ?_) (fun h52 => ?_)
          · replace hf := gneg hf h52
            exact b_M_part_216 X ih hf hZ50 hS50 (lv_sub hl [0, 1, 2, 3, 4, 5, 6, 7] rfl)
          · replace hf := gpos hf h52
            exact b_M_part_209 X ih hf hZ50 hS50 (lv_sub hl [0, 1, 2, 3, 4, 5, 6, 7] rfl)

def f_M_part_146 (K : Nat) (l15 : Int) (l13 : Int) (l12 : Int) (l1 : Int) (l2 : Int) (l3 : Int) (l4 : Int) (l5 : Int) (l7 : Int) (F : zF) (B : zB) : zO := zbind (f_M_times K l5 l7 l15 l13 F B) (fun r39 F39 B39 => f_M_part_174 K K l15 l13 l12 l1 l2 l3 l4 (zup3 (zup3 F39 14 0 52 (F39 14 0 0)) 14 0 53 (F39 14 0 1)) B39)
set_option maxHeartbeats 4000000 in
set_option maxRecDepth 100000 in
theorem b_M_part_146 {D : va_G} {ca : Nat → ClassId} {ad : Nat → Int → Nat → Nat} {L : List Nat} {aS vS : Nat → Nat} {A : Nat → Prop} {p : Program} {l : Launch} {e : Env} {s : State} {m : MethodId} {args : Array Value} {below : List Frame} {meth : Method} {c : Code} {K : Nat} {r : Int} {F9 : zF} {B9 : zB} (X : zX D ca L aS vS A p s m args meth c prog_15_method_88_code 21 (Option.none : Option Jvm.ClassFile.FieldType) "StaveHouseModel") {l15 : Int} {l13 : Int} {l12 : Int} {l1 : Int} {l2 : Int} {l3 : Int} {l4 : Int} {l5 : Int} {l7 : Int} {F : zF} {B : zB} {H : Heap} {locs : List Loc} {ls : Array Slot} (hf : f_M_part_146 K l15 l13 l12 l1 l2 l3 l4 l5 l7 F B = some (r, F9, B9)) (hZ : zH D ca ad lnM nM L F B A H) (hS : va_S A s.heap H locs) (hl : lv_has ls 21 [(15, .long (lI l15)), (13, .long (lI l13)), (12, .int (iI l12)), (0, .ref (ad 14 0 0)), (1, .ref (ad 13 l1 0)), (2, .int (iI l2)), (3, .int (iI l3)), (4, .int (iI l4)), (5, .long (lI l5)), (7, .long (lI l7))]) : W p l e ({ frames := 6, cells := 0, slots := 0, locals := 190 } : Room) s m args below meth c H locs 0 0 (MQ below (Q_M_part D ca ad L r F9 B9 A) args s 0 0 A) (F0 m 146 ls []) := by
  obtain ⟨hx, hb, hr, hml, hown, hts, hlk, hK, hA, hL, hX⟩ := id X
  replace hf : (zbind (f_M_times K l5 l7 l15 l13 F B) (fun r39 F39 B39 => f_M_part_174 K K l15 l13 l12 l1 l2 l3 l4 (zup3 (zup3 F39 14 0 52 (F39 14 0 0)) 14 0 53 (F39 14 0 1)) B39)) = some (r, F9, B9) := hf
  refine lv_aload_n hx hb (D_42 W_prog_15_method_88_code_128 18 rfl rfl) rfl (lv_at hl 3 rfl) ?_
  refine lv_lload hx hb (D_22 W_prog_15_method_88_code_128 19 rfl rfl) (lv_at hl 8 rfl) ?_
  refine lv_lload hx hb (D_22 W_prog_15_method_88_code_128 21 rfl rfl) (lv_at hl 9 rfl) ?_
  refine lv_lload hx hb (D_22 W_prog_15_method_88_code_128 23 rfl rfl) (lv_at hl 0 rfl) ?_
  refine lv_lload hx hb (D_22 W_prog_15_method_88_code_128 25 rfl rfl) (lv_at hl 1 rfl) ?_
  obtain ⟨r39, F39, B39, hc39, hf⟩ := gbind hf
  refine va_callv (va_runV (As := [.long (lI l5), .long (lI l7), .long (lI l15), .long (lI l13)]) (rest := []) ⟨hx, hb, hml, hown, hts⟩ (c_M_times (l := l) hc39) (cwV 4 hts (gdV k_13_155 k_13_157 ks_179 k_1_9 k_13_158) rfl rfl rfl (by decide +kernel) ⟨Nat.le_of_ble_eq_true rfl, Nat.le_of_ble_eq_true rfl⟩) (zPV X hZ hS (ci := 14) (by decide) (by decide) (r := (RX14, TX14, 107)) rfl [.long (lI l5), .long (lI l7), .long (lI l15), .long (lI l13)]) rfl rfl hl.1 rfl (lv_room (Nat.le_of_ble_eq_true rfl)) (D_182 W_prog_15_method_88_code_128 27 rfl rfl rfl) ⟨Nat.le_of_ble_eq_true rfl, Nat.le_of_ble_eq_true rfl⟩) hS (fun q _ h => zAin X hS q h) (zAin X hS) (fun u39 t39 H39 locs39 ht39 hv39 hw39 hB39 hz39 hk39 hS39 => ?_)
  have hZ39 := zBack X ht39 hB39
  refine lv_aload_n hx hb (D_42 W_prog_15_method_88_code_128 30 rfl rfl) rfl (lv_at hl 3 rfl) ?_
  refine lv_aload_n hx hb (D_42 W_prog_15_method_88_code_128 31 rfl rfl) rfl (lv_at hl 3 rfl) ?_
  refine zget (ci := 14) (C := RX14) (T := TX14) (v := .long (lI (F39 14 0 0))) (k := 0) hx hb hts inW_14 hown hK hZ39 (by decide) (by decide) rfl (by decide) k_10_238 rfl (D_180 W_prog_15_method_88_code_160 0 rfl rfl rfl) ?_
  refine zput (ci := 14) (C := RX14) (T := TX14) (k := 52) (v := (F39 14 0 0)) (w := .long (lI (F39 14 0 0))) hx hb hts inW_14 tyX14 tyX14_ok nmX14 hown hK hZ39 hS39 (by decide) (by decide) rfl (by decide) k_11_50 rfl (fun G h => congrArg (fun q => Value.long (lI q)) h) rfl rfl (zno (by decide)) (D_181 W_prog_15_method_88_code_160 3 rfl rfl rfl) (fun H40 locs40 hZ40 hS40 => ?_)
  refine lv_aload_n hx hb (D_42 W_prog_15_method_88_code_160 6 rfl rfl) rfl (lv_at hl 3 rfl) ?_
  refine lv_aload_n hx hb (D_42 W_prog_15_method_88_code_160 7 rfl rfl) rfl (lv_at hl 3 rfl) ?_
  refine zget (ci := 14) (C := RX14) (T := TX14) (v := .long (lI (F39 14 0 1))) (k := 1) hx hb hts inW_14 hown hK hZ40 (by decide) (by decide) rfl (by decide) k_10_239 rfl (D_180 W_prog_15_method_88_code_160 8 rfl rfl rfl) ?_
  refine zput (ci := 14) (C := RX14) (T := TX14) (k := 53) (v := (F39 14 0 1)) (w := .long (lI (F39 14 0 1))) hx hb hts inW_14 tyX14 tyX14_ok nmX14 hown hK hZ40 hS40 (by decide) (by decide) rfl (by decide) k_11_51 rfl (fun G h => congrArg (fun q => Value.long (lI q)) h) rfl rfl (zno (by decide)) (D_181 W_prog_15_method_88_code_160 11 rfl rfl rfl) (fun H41 locs41 hZ41 hS41 => ?_)
  exact b_M_part_174 X hf hZ41 hS41 (lv_sub hl [0, 1, 2, 3, 4, 5, 6, 7] rfl)

def f_M_part_87 (K : Nat) (l13 : Int) (l12 : Int) (l11 : Int) (l1 : Int) (l2 : Int) (l3 : Int) (l4 : Int) (l5 : Int) (l7 : Int) (l9 : Int) (s0 : Int) (F : zF) (B : zB) : zO := if r32 l11 then (if l11 = 0 then f_M_part_146 K s0 l13 l12 l1 l2 l3 l4 l5 l7 F B else if r32 l12 then (if l12 = 0 then if r32 l9 then (if l9 = 0 then f_M_part_146 K s0 l13 l12 l1 l2 l3 l4 l5 l7 F B else if r64 (F 14 0 54) then (if (zcmp (F 14 0 54) 0) = 0 then if 0 ≤ l1 ∧ l1 < 3 then if r32 (F 13 l1 4) then if r32 (F 13 l1 5) then zbind (f_M_compare K l5 l7 (F 13 l1 4) (F 13 l1 5) F B) (fun r35 F35 B35 => if r32 r35 then (if r35 = 0 then zbind (f_M_note_1 K l1 l2 l3 l4 9 0 F35 B35) (fun r38 F38 B38 => some (0, F38, B38)) else f_M_part_146 K s0 l13 l12 l1 l2 l3 l4 l5 l7 F35 B35) else none) else none else none else none else f_M_part_146 K s0 l13 l12 l1 l2 l3 l4 l5 l7 F B) else none) else none else f_M_part_146 K s0 l13 l12 l1 l2 l3 l4 l5 l7 F B) else none) else none
set_option maxHeartbeats 4000000 in
set_option maxRecDepth 100000 in
theorem b_M_part_87 {D : va_G} {ca : Nat → ClassId} {ad : Nat → Int → Nat → Nat} {L : List Nat} {aS vS : Nat → Nat} {A : Nat → Prop} {p : Program} {l : Launch} {e : Env} {s : State} {m : MethodId} {args : Array Value} {below : List Frame} {meth : Method} {c : Code} {K : Nat} {r : Int} {F9 : zF} {B9 : zB} (X : zX D ca L aS vS A p s m args meth c prog_15_method_88_code 21 (Option.none : Option Jvm.ClassFile.FieldType) "StaveHouseModel") {l13 : Int} {l12 : Int} {l11 : Int} {l1 : Int} {l2 : Int} {l3 : Int} {l4 : Int} {l5 : Int} {l7 : Int} {l9 : Int} {s0 : Int} {F : zF} {B : zB} {H : Heap} {locs : List Loc} {ls : Array Slot} (hf : f_M_part_87 K l13 l12 l11 l1 l2 l3 l4 l5 l7 l9 s0 F B = some (r, F9, B9)) (hZ : zH D ca ad lnM nM L F B A H) (hS : va_S A s.heap H locs) (hl : lv_has ls 21 [(13, .long (lI l13)), (12, .int (iI l12)), (11, .int (iI l11)), (0, .ref (ad 14 0 0)), (1, .ref (ad 13 l1 0)), (2, .int (iI l2)), (3, .int (iI l3)), (4, .int (iI l4)), (5, .long (lI l5)), (7, .long (lI l7)), (9, .int (iI l9))]) : W p l e ({ frames := 6, cells := 0, slots := 0, locals := 190 } : Room) s m args below meth c H locs 0 0 (MQ below (Q_M_part D ca ad L r F9 B9 A) args s 0 0 A) (F0 m 87 ls [.long (lI s0)]) := by
  obtain ⟨hx, hb, hr, hml, hown, hts, hlk, hK, hA, hL, hX⟩ := id X
  replace hf : (if r32 l11 then (if l11 = 0 then f_M_part_146 K s0 l13 l12 l1 l2 l3 l4 l5 l7 F B else if r32 l12 then (if l12 = 0 then if r32 l9 then (if l9 = 0 then f_M_part_146 K s0 l13 l12 l1 l2 l3 l4 l5 l7 F B else if r64 (F 14 0 54) then (if (zcmp (F 14 0 54) 0) = 0 then if 0 ≤ l1 ∧ l1 < 3 then if r32 (F 13 l1 4) then if r32 (F 13 l1 5) then zbind (f_M_compare K l5 l7 (F 13 l1 4) (F 13 l1 5) F B) (fun r35 F35 B35 => if r32 r35 then (if r35 = 0 then zbind (f_M_note_1 K l1 l2 l3 l4 9 0 F35 B35) (fun r38 F38 B38 => some (0, F38, B38)) else f_M_part_146 K s0 l13 l12 l1 l2 l3 l4 l5 l7 F35 B35) else none) else none else none else none else f_M_part_146 K s0 l13 l12 l1 l2 l3 l4 l5 l7 F B) else none) else none else f_M_part_146 K s0 l13 l12 l1 l2 l3 l4 l5 l7 F B) else none) else none) = some (r, F9, B9) := hf
  refine lv_lstore (lv' := [(15, .long (lI s0)), (13, .long (lI l13)), (12, .int (iI l12)), (11, .int (iI l11)), (0, .ref (ad 14 0 0)), (1, .ref (ad 13 l1 0)), (2, .int (iI l2)), (3, .int (iI l3)), (4, .int (iI l4)), (5, .long (lI l5)), (7, .long (lI l7)), (9, .int (iI l9))]) hx hb (D_55 W_prog_15_method_88_code_64 23 rfl rfl) hl (by decide) rfl (fun ls hl => ?_)
  refine lv_iload hx hb (D_21 W_prog_15_method_88_code_64 25 rfl rfl) (lv_at hl 3 rfl) ?_
  obtain ⟨g23, hf⟩ := gif hf
  refine z0eq (tgt := 146) hx hb g23 (D_153 W_prog_15_method_88_code_64 27 rfl rfl rfl) (by decide) (fun h24 => ?_) (fun h24 => ?_)
  · replace hf := gpos hf h24
    exact b_M_part_146 X hf hZ hS (lv_sub hl [0, 1, 2, 4, 5, 6, 7, 8, 9, 10] rfl)
  · replace hf := gneg hf h24
    refine lv_iload hx hb (D_21 W_prog_15_method_88_code_64 30 rfl rfl) (lv_at hl 2 rfl) ?_
    obtain ⟨g25, hf⟩ := gif hf
    refine z0ne (tgt := 146) hx hb g25 (D_154 W_prog_15_method_88_code_96 0 rfl rfl rfl) (by decide) (fun h26 => ?_) (fun h26 => ?_)
    · replace hf := gneg hf h26
      exact b_M_part_146 X hf hZ hS (lv_sub hl [0, 1, 2, 4, 5, 6, 7, 8, 9, 10] rfl)
    · replace hf := gpos hf h26
      refine lv_iload hx hb (D_21 W_prog_15_method_88_code_96 3 rfl rfl) (lv_at hl 11 rfl) ?_
      obtain ⟨g27, hf⟩ := gif hf
      refine z0eq (tgt := 146) hx hb g27 (D_153 W_prog_15_method_88_code_96 5 rfl rfl rfl) (by decide) (fun h28 => ?_) (fun h28 => ?_)
      · replace hf := gpos hf h28
        exact b_M_part_146 X hf hZ hS (lv_sub hl [0, 1, 2, 4, 5, 6, 7, 8, 9, 10] rfl)
      · replace hf := gneg hf h28
        refine lv_aload_n hx hb (D_42 W_prog_15_method_88_code_96 8 rfl rfl) rfl (lv_at hl 4 rfl) ?_
        refine zget (ci := 14) (C := RX14) (T := TX14) (v := .long (lI (F 14 0 54))) (k := 54) hx hb hts inW_14 hown hK hZ (by decide) (by decide) rfl (by decide) k_11_52 rfl (D_180 W_prog_15_method_88_code_96 9 rfl rfl rfl) ?_
        refine lv_lconst (v := lI 0) hx hb (D_9 W_prog_15_method_88_code_96 12 rfl rfl) (by decide) ?_
        obtain ⟨g29, hf⟩ := gif hf
        refine zcmp_r hx hb g29 (by decide) (D_148 W_prog_15_method_88_code_96 13 rfl rfl) ?_
        refine z0ne (tgt := 146) hx hb zcmp_32 (D_154 W_prog_15_method_88_code_96 14 rfl rfl rfl) (by decide) (fun h30 => ?_) (fun h30 => ?_)
        · replace hf := gneg hf h30
          exact b_M_part_146 X hf hZ hS (lv_sub hl [0, 1, 2, 4, 5, 6, 7, 8, 9, 10] rfl)
        · replace hf := gpos hf h30
          refine lv_lload hx hb (D_22 W_prog_15_method_88_code_96 17 rfl rfl) (lv_at hl 9 rfl) ?_
          refine lv_lload hx hb (D_22 W_prog_15_method_88_code_96 19 rfl rfl) (lv_at hl 10 rfl) ?_
          refine lv_aload_n hx hb (D_43 W_prog_15_method_88_code_96 21 rfl rfl) rfl (lv_at hl 5 rfl) ?_
          obtain ⟨g31, hf⟩ := gif hf
          refine zget (ci := 13) (C := RX13) (T := TX13) (v := .int (iI (F 13 l1 4))) (k := 4) hx hb hts inW_13 hown hK hZ g31.1 g31.2 rfl (by decide) k_9_129 rfl (D_180 W_prog_15_method_88_code_96 22 rfl rfl rfl) ?_
          obtain ⟨g33, hf⟩ := gif hf
          refine zi2l hx hb g33 (D_133 W_prog_15_method_88_code_96 25 rfl rfl) ?_
          refine lv_aload_n hx hb (D_43 W_prog_15_method_88_code_96 26 rfl rfl) rfl (lv_at hl 5 rfl) ?_
          refine zget (ci := 13) (C := RX13) (T := TX13) (v := .int (iI (F 13 l1 5))) (k := 5) hx hb hts inW_13 hown hK hZ g31.1 g31.2 rfl (by decide) k_9_130 rfl (D_180 W_prog_15_method_88_code_96 27 rfl rfl rfl) ?_
          obtain ⟨g34, hf⟩ := gif hf
          refine zi2l hx hb g34 (D_133 W_prog_15_method_88_code_96 30 rfl rfl) ?_
          obtain ⟨r35, F35, B35, hc35, hf⟩ := gbind hf
          refine va_calli (va_runS (As := [.long (lI l5), .long (lI l7), .long (lI (F 13 l1 4)), .long (lI (F 13 l1 5))]) (rest := []) ⟨hx, hb, hml, hown, hts⟩ (c_M_compare (l := l) hc35) (va_cwS 4 hts (gdS k_13_104 k_13_105 k_1_9 k_13_106) rfl rfl rfl (by decide +kernel) ⟨Nat.le_of_ble_eq_true rfl, Nat.le_of_ble_eq_true rfl⟩) (zPS X hZ hS [.long (lI l5), .long (lI l7), .long (lI (F 13 l1 4)), .long (lI (F 13 l1 5))]) rfl rfl hl.1 rfl (lv_room (Nat.le_of_ble_eq_true rfl)) (D_184 W_prog_15_method_88_code_96 31 rfl rfl rfl) ⟨Nat.le_of_ble_eq_true rfl, Nat.le_of_ble_eq_true rfl⟩) hS (fun q _ h => zAin X hS q h) (zAin X hS) (fun p35 u35 t35 H35 locs35 ht35 hv35 hw35 hB35 hz35 hk35 hS35 => ?_)
          have hZ35 := zBack X ht35 hB35
          subst hw35
          obtain ⟨g36, hf⟩ := gif hf
          refine z0ne (tgt := 146) hx hb g36 (D_154 W_prog_15_method_88_code_128 2 rfl rfl rfl) (by decide) (fun h37 => ?_) (fun h37 => ?_)
          · replace hf := gneg hf h37
            exact b_M_part_146 X hf hZ35 hS35 (lv_sub hl [0, 1, 2, 4, 5, 6, 7, 8, 9, 10] rfl)
          · replace hf := gpos hf h37
            refine lv_aload_n hx hb (D_42 W_prog_15_method_88_code_128 5 rfl rfl) rfl (lv_at hl 4 rfl) ?_
            refine lv_aload_n hx hb (D_43 W_prog_15_method_88_code_128 6 rfl rfl) rfl (lv_at hl 5 rfl) ?_
            refine lv_iload_n hx hb (D_28 W_prog_15_method_88_code_128 7 rfl rfl) rfl (lv_at hl 6 rfl) ?_
            refine lv_iload_n hx hb (D_29 W_prog_15_method_88_code_128 8 rfl rfl) rfl (lv_at hl 7 rfl) ?_
            refine lv_iload hx hb (D_21 W_prog_15_method_88_code_128 9 rfl rfl) (lv_at hl 8 rfl) ?_
            refine lv_bipush (v := iI 9) hx hb (D_16 W_prog_15_method_88_code_128 11 rfl rfl rfl) (by decide) ?_
            refine lv_iconst (v := iI 0) hx hb (D_3 W_prog_15_method_88_code_128 13 rfl rfl) rfl ?_
            obtain ⟨r38, F38, B38, hc38, hf⟩ := gbind hf
            refine va_callv (va_runV (As := [.ref (ad 13 l1 0), .int (iI l2), .int (iI l3), .int (iI l4), .int (iI 9), .int (iI 0)]) (rest := []) ⟨hx, hb, hml, hown, hts⟩ (c_M_note_1 (l := l) hc38) (cwV 6 hts (gdV k_13_151 k_13_153 ks_178 k_1_9 k_13_154) rfl rfl rfl (by decide +kernel) ⟨Nat.le_of_ble_eq_true rfl, Nat.le_of_ble_eq_true rfl⟩) (zPV X hZ35 hS35 (ci := 14) (by decide) (by decide) (r := (RX14, TX14, 107)) rfl [.ref (ad 13 l1 0), .int (iI l2), .int (iI l3), .int (iI l4), .int (iI 9), .int (iI 0)]) rfl rfl hl.1 rfl (lv_room (Nat.le_of_ble_eq_true rfl)) (D_182 W_prog_15_method_88_code_128 14 rfl rfl rfl) ⟨Nat.le_of_ble_eq_true rfl, Nat.le_of_ble_eq_true rfl⟩) hS35 (fun q _ h => zAin X hS35 q h) (zAin X hS35) (fun u38 t38 H38 locs38 ht38 hv38 hw38 hB38 hz38 hk38 hS38 => ?_)
            have hZ38 := zBack X ht38 hB38
            cases hf
            exact W.vret hx hb hr (fun t ht hW => ⟨⟨(), rfl, trivial, by rw [ht]; exact hZ38, va_K.moved hW.alike hK⟩, hS38.F ht⟩) hS38.2.2 (D_177 W_prog_15_method_88_code_128 17 rfl rfl) hlk

def f_M_part_68 (K : Nat) (l12 : Int) (l11 : Int) (l10 : Int) (l1 : Int) (l2 : Int) (l3 : Int) (l4 : Int) (l5 : Int) (l7 : Int) (l9 : Int) (s0 : Int) (F : zF) (B : zB) : zO := if r32 l12 then (if l12 = 0 then f_M_part_87 K s0 l12 l11 l1 l2 l3 l4 l5 l7 l9 1 F B else if 0 ≤ l1 ∧ l1 < 3 then if 0 ≤ l10 ∧ l10 < 4000 then if r32 (B 13 l1 24 l10) then f_M_part_87 K s0 l12 l11 l1 l2 l3 l4 l5 l7 l9 (B 13 l1 24 l10) F B else none else none else none) else none
set_option maxHeartbeats 4000000 in
set_option maxRecDepth 100000 in
theorem b_M_part_68 {D : va_G} {ca : Nat → ClassId} {ad : Nat → Int → Nat → Nat} {L : List Nat} {aS vS : Nat → Nat} {A : Nat → Prop} {p : Program} {l : Launch} {e : Env} {s : State} {m : MethodId} {args : Array Value} {below : List Frame} {meth : Method} {c : Code} {K : Nat} {r : Int} {F9 : zF} {B9 : zB} (X : zX D ca L aS vS A p s m args meth c prog_15_method_88_code 21 (Option.none : Option Jvm.ClassFile.FieldType) "StaveHouseModel") {l12 : Int} {l11 : Int} {l10 : Int} {l1 : Int} {l2 : Int} {l3 : Int} {l4 : Int} {l5 : Int} {l7 : Int} {l9 : Int} {s0 : Int} {F : zF} {B : zB} {H : Heap} {locs : List Loc} {ls : Array Slot} (hf : f_M_part_68 K l12 l11 l10 l1 l2 l3 l4 l5 l7 l9 s0 F B = some (r, F9, B9)) (hZ : zH D ca ad lnM nM L F B A H) (hS : va_S A s.heap H locs) (hl : lv_has ls 21 [(12, .int (iI l12)), (11, .int (iI l11)), (10, .int (iI l10)), (0, .ref (ad 14 0 0)), (1, .ref (ad 13 l1 0)), (2, .int (iI l2)), (3, .int (iI l3)), (4, .int (iI l4)), (5, .long (lI l5)), (7, .long (lI l7)), (9, .int (iI l9))]) : W p l e ({ frames := 6, cells := 0, slots := 0, locals := 190 } : Room) s m args below meth c H locs 0 0 (MQ below (Q_M_part D ca ad L r F9 B9 A) args s 0 0 A) (F0 m 68 ls [.long (lI s0)]) := by
  obtain ⟨hx, hb, hr, hml, hown, hts, hlk, hK, hA, hL, hX⟩ := id X
  replace hf : (if r32 l12 then (if l12 = 0 then f_M_part_87 K s0 l12 l11 l1 l2 l3 l4 l5 l7 l9 1 F B else if 0 ≤ l1 ∧ l1 < 3 then if 0 ≤ l10 ∧ l10 < 4000 then if r32 (B 13 l1 24 l10) then f_M_part_87 K s0 l12 l11 l1 l2 l3 l4 l5 l7 l9 (B 13 l1 24 l10) F B else none else none else none) else none) = some (r, F9, B9) := hf
  refine lv_lstore (lv' := [(13, .long (lI s0)), (12, .int (iI l12)), (11, .int (iI l11)), (10, .int (iI l10)), (0, .ref (ad 14 0 0)), (1, .ref (ad 13 l1 0)), (2, .int (iI l2)), (3, .int (iI l3)), (4, .int (iI l4)), (5, .long (lI l5)), (7, .long (lI l7)), (9, .int (iI l9))]) hx hb (D_55 W_prog_15_method_88_code_64 4 rfl rfl) hl (by decide) rfl (fun ls hl => ?_)
  refine lv_iload hx hb (D_21 W_prog_15_method_88_code_64 6 rfl rfl) (lv_at hl 1 rfl) ?_
  obtain ⟨g18, hf⟩ := gif hf
  refine z0eq (tgt := 86) hx hb g18 (D_153 W_prog_15_method_88_code_64 8 rfl rfl rfl) (by decide) (fun h19 => ?_) (fun h19 => ?_)
  · replace hf := gpos hf h19
    refine lv_lconst (v := lI 1) hx hb (D_10 W_prog_15_method_88_code_64 22 rfl rfl) (by decide) ?_
    exact b_M_part_87 X hf hZ hS (lv_sub hl [0, 1, 2, 4, 5, 6, 7, 8, 9, 10, 11] rfl)
  · replace hf := gneg hf h19
    refine lv_aload_n hx hb (D_43 W_prog_15_method_88_code_64 11 rfl rfl) rfl (lv_at hl 5 rfl) ?_
    obtain ⟨g20, hf⟩ := gif hf
    refine zget (ci := 13) (C := RX13) (T := TX13) (v := .ref (ad 13 l1 (24 + 1))) (k := 24) hx hb hts inW_13 hown hK hZ g20.1 g20.2 rfl (by decide) k_9_166 rfl (D_180 W_prog_15_method_88_code_64 12 rfl rfl rfl) ?_
    refine lv_iload hx hb (D_21 W_prog_15_method_88_code_64 15 rfl rfl) (lv_at hl 3 rfl) ?_
    obtain ⟨g21, hf⟩ := gif hf
    refine zald (ci := 13) (k := 24) hx hb hK rfl hZ g20.1 g20.2 rfl (Nat.le_of_ble_eq_true rfl) g21.1 g21.2 (D_46 W_prog_15_method_88_code_64 17 rfl rfl) ?_
    obtain ⟨g22, hf⟩ := gif hf
    refine zi2l hx hb g22 (D_133 W_prog_15_method_88_code_64 18 rfl rfl) ?_
    refine lv_goto (tgt := 87) hx hb (D_167 W_prog_15_method_88_code_64 19 rfl rfl rfl) (by decide) ?_
    exact b_M_part_87 X hf hZ hS (lv_sub hl [0, 1, 2, 4, 5, 6, 7, 8, 9, 10, 11] rfl)

def f_M_part_49 (K : Nat) (l11 : Int) (l10 : Int) (l1 : Int) (l2 : Int) (l3 : Int) (l4 : Int) (l5 : Int) (l7 : Int) (l9 : Int) (s0 : Int) (F : zF) (B : zB) : zO := if r32 s0 then (if s0 = 0 then f_M_part_68 K s0 l11 l10 l1 l2 l3 l4 l5 l7 l9 1 F B else if 0 ≤ l1 ∧ l1 < 3 then if 0 ≤ l10 ∧ l10 < 4000 then if r32 (B 13 l1 23 l10) then f_M_part_68 K s0 l11 l10 l1 l2 l3 l4 l5 l7 l9 (B 13 l1 23 l10) F B else none else none else none) else none
set_option maxHeartbeats 4000000 in
set_option maxRecDepth 100000 in
theorem b_M_part_49 {D : va_G} {ca : Nat → ClassId} {ad : Nat → Int → Nat → Nat} {L : List Nat} {aS vS : Nat → Nat} {A : Nat → Prop} {p : Program} {l : Launch} {e : Env} {s : State} {m : MethodId} {args : Array Value} {below : List Frame} {meth : Method} {c : Code} {K : Nat} {r : Int} {F9 : zF} {B9 : zB} (X : zX D ca L aS vS A p s m args meth c prog_15_method_88_code 21 (Option.none : Option Jvm.ClassFile.FieldType) "StaveHouseModel") {l11 : Int} {l10 : Int} {l1 : Int} {l2 : Int} {l3 : Int} {l4 : Int} {l5 : Int} {l7 : Int} {l9 : Int} {s0 : Int} {F : zF} {B : zB} {H : Heap} {locs : List Loc} {ls : Array Slot} (hf : f_M_part_49 K l11 l10 l1 l2 l3 l4 l5 l7 l9 s0 F B = some (r, F9, B9)) (hZ : zH D ca ad lnM nM L F B A H) (hS : va_S A s.heap H locs) (hl : lv_has ls 21 [(11, .int (iI l11)), (10, .int (iI l10)), (0, .ref (ad 14 0 0)), (1, .ref (ad 13 l1 0)), (2, .int (iI l2)), (3, .int (iI l3)), (4, .int (iI l4)), (5, .long (lI l5)), (7, .long (lI l7)), (9, .int (iI l9))]) : W p l e ({ frames := 6, cells := 0, slots := 0, locals := 190 } : Room) s m args below meth c H locs 0 0 (MQ below (Q_M_part D ca ad L r F9 B9 A) args s 0 0 A) (F0 m 49 ls [.int (iI s0)]) := by
  obtain ⟨hx, hb, hr, hml, hown, hts, hlk, hK, hA, hL, hX⟩ := id X
  replace hf : (if r32 s0 then (if s0 = 0 then f_M_part_68 K s0 l11 l10 l1 l2 l3 l4 l5 l7 l9 1 F B else if 0 ≤ l1 ∧ l1 < 3 then if 0 ≤ l10 ∧ l10 < 4000 then if r32 (B 13 l1 23 l10) then f_M_part_68 K s0 l11 l10 l1 l2 l3 l4 l5 l7 l9 (B 13 l1 23 l10) F B else none else none else none) else none) = some (r, F9, B9) := hf
  refine lv_istore (lv' := [(12, .int (iI s0)), (11, .int (iI l11)), (10, .int (iI l10)), (0, .ref (ad 14 0 0)), (1, .ref (ad 13 l1 0)), (2, .int (iI l2)), (3, .int (iI l3)), (4, .int (iI l4)), (5, .long (lI l5)), (7, .long (lI l7)), (9, .int (iI l9))]) hx hb (D_54 W_prog_15_method_88_code_32 17 rfl rfl) hl (by decide) rfl (fun ls hl => ?_)
  refine lv_iload hx hb (D_21 W_prog_15_method_88_code_32 19 rfl rfl) (lv_at hl 0 rfl) ?_
  obtain ⟨g13, hf⟩ := gif hf
  refine z0eq (tgt := 67) hx hb g13 (D_153 W_prog_15_method_88_code_32 21 rfl rfl rfl) (by decide) (fun h14 => ?_) (fun h14 => ?_)
  · replace hf := gpos hf h14
    refine lv_lconst (v := lI 1) hx hb (D_10 W_prog_15_method_88_code_64 3 rfl rfl) (by decide) ?_
    exact b_M_part_68 X hf hZ hS (lv_sub hl [0, 1, 2, 3, 4, 5, 6, 7, 8, 9, 10] rfl)
  · replace hf := gneg hf h14
    refine lv_aload_n hx hb (D_43 W_prog_15_method_88_code_32 24 rfl rfl) rfl (lv_at hl 4 rfl) ?_
    obtain ⟨g15, hf⟩ := gif hf
    refine zget (ci := 13) (C := RX13) (T := TX13) (v := .ref (ad 13 l1 (23 + 1))) (k := 23) hx hb hts inW_13 hown hK hZ g15.1 g15.2 rfl (by decide) k_9_164 rfl (D_180 W_prog_15_method_88_code_32 25 rfl rfl rfl) ?_
    refine lv_iload hx hb (D_21 W_prog_15_method_88_code_32 28 rfl rfl) (lv_at hl 2 rfl) ?_
    obtain ⟨g16, hf⟩ := gif hf
    refine zald (ci := 13) (k := 23) hx hb hK rfl hZ g15.1 g15.2 rfl (Nat.le_of_ble_eq_true rfl) g16.1 g16.2 (D_46 W_prog_15_method_88_code_32 30 rfl rfl) ?_
    obtain ⟨g17, hf⟩ := gif hf
    refine zi2l hx hb g17 (D_133 W_prog_15_method_88_code_32 31 rfl rfl) ?_
    refine lv_goto (tgt := 68) hx hb (D_167 W_prog_15_method_88_code_64 0 rfl rfl rfl) (by decide) ?_
    exact b_M_part_68 X hf hZ hS (lv_sub hl [0, 1, 2, 3, 4, 5, 6, 7, 8, 9, 10] rfl)

def f_M_part_48 (K : Nat) (l11 : Int) (l10 : Int) (l1 : Int) (l2 : Int) (l3 : Int) (l4 : Int) (l5 : Int) (l7 : Int) (l9 : Int) (F : zF) (B : zB) : zO := f_M_part_49 K l11 l10 l1 l2 l3 l4 l5 l7 l9 0 F B
set_option maxHeartbeats 4000000 in
set_option maxRecDepth 100000 in
theorem b_M_part_48 {D : va_G} {ca : Nat → ClassId} {ad : Nat → Int → Nat → Nat} {L : List Nat} {aS vS : Nat → Nat} {A : Nat → Prop} {p : Program} {l : Launch} {e : Env} {s : State} {m : MethodId} {args : Array Value} {below : List Frame} {meth : Method} {c : Code} {K : Nat} {r : Int} {F9 : zF} {B9 : zB} (X : zX D ca L aS vS A p s m args meth c prog_15_method_88_code 21 (Option.none : Option Jvm.ClassFile.FieldType) "StaveHouseModel") {l11 : Int} {l10 : Int} {l1 : Int} {l2 : Int} {l3 : Int} {l4 : Int} {l5 : Int} {l7 : Int} {l9 : Int} {F : zF} {B : zB} {H : Heap} {locs : List Loc} {ls : Array Slot} (hf : f_M_part_48 K l11 l10 l1 l2 l3 l4 l5 l7 l9 F B = some (r, F9, B9)) (hZ : zH D ca ad lnM nM L F B A H) (hS : va_S A s.heap H locs) (hl : lv_has ls 21 [(11, .int (iI l11)), (10, .int (iI l10)), (0, .ref (ad 14 0 0)), (1, .ref (ad 13 l1 0)), (2, .int (iI l2)), (3, .int (iI l3)), (4, .int (iI l4)), (5, .long (lI l5)), (7, .long (lI l7)), (9, .int (iI l9))]) : W p l e ({ frames := 6, cells := 0, slots := 0, locals := 190 } : Room) s m args below meth c H locs 0 0 (MQ below (Q_M_part D ca ad L r F9 B9 A) args s 0 0 A) (F0 m 48 ls []) := by
  obtain ⟨hx, hb, hr, hml, hown, hts, hlk, hK, hA, hL, hX⟩ := id X
  replace hf : (f_M_part_49 K l11 l10 l1 l2 l3 l4 l5 l7 l9 0 F B) = some (r, F9, B9) := hf
  refine lv_iconst (v := iI 0) hx hb (D_3 W_prog_15_method_88_code_32 16 rfl rfl) rfl ?_
  exact b_M_part_49 X hf hZ hS (lv_sub hl [0, 1, 2, 3, 4, 5, 6, 7, 8, 9] rfl)

def f_M_part_28 (K : Nat) (l10 : Int) (l1 : Int) (l2 : Int) (l3 : Int) (l4 : Int) (l5 : Int) (l7 : Int) (l9 : Int) (s0 : Int) (F : zF) (B : zB) : zO := if r32 l3 then (if l3 < 0 then f_M_part_48 K s0 l10 l1 l2 l3 l4 l5 l7 l9 F B else if 0 ≤ l1 ∧ l1 < 3 then if 0 ≤ l10 ∧ l10 < 4000 then if r32 (B 13 l1 22 l10) then (if (B 13 l1 22 l10) ≤ 0 then f_M_part_48 K s0 l10 l1 l2 l3 l4 l5 l7 l9 F B else f_M_part_49 K s0 l10 l1 l2 l3 l4 l5 l7 l9 1 F B) else none else none else none) else none
set_option maxHeartbeats 4000000 in
set_option maxRecDepth 100000 in
theorem b_M_part_28 {D : va_G} {ca : Nat → ClassId} {ad : Nat → Int → Nat → Nat} {L : List Nat} {aS vS : Nat → Nat} {A : Nat → Prop} {p : Program} {l : Launch} {e : Env} {s : State} {m : MethodId} {args : Array Value} {below : List Frame} {meth : Method} {c : Code} {K : Nat} {r : Int} {F9 : zF} {B9 : zB} (X : zX D ca L aS vS A p s m args meth c prog_15_method_88_code 21 (Option.none : Option Jvm.ClassFile.FieldType) "StaveHouseModel") {l10 : Int} {l1 : Int} {l2 : Int} {l3 : Int} {l4 : Int} {l5 : Int} {l7 : Int} {l9 : Int} {s0 : Int} {F : zF} {B : zB} {H : Heap} {locs : List Loc} {ls : Array Slot} (hf : f_M_part_28 K l10 l1 l2 l3 l4 l5 l7 l9 s0 F B = some (r, F9, B9)) (hZ : zH D ca ad lnM nM L F B A H) (hS : va_S A s.heap H locs) (hl : lv_has ls 21 [(10, .int (iI l10)), (0, .ref (ad 14 0 0)), (1, .ref (ad 13 l1 0)), (2, .int (iI l2)), (3, .int (iI l3)), (4, .int (iI l4)), (5, .long (lI l5)), (7, .long (lI l7)), (9, .int (iI l9))]) : W p l e ({ frames := 6, cells := 0, slots := 0, locals := 190 } : Room) s m args below meth c H locs 0 0 (MQ below (Q_M_part D ca ad L r F9 B9 A) args s 0 0 A) (F0 m 28 ls [.int (iI s0)]) := by
  obtain ⟨hx, hb, hr, hml, hown, hts, hlk, hK, hA, hL, hX⟩ := id X
  replace hf : (if r32 l3 then (if l3 < 0 then f_M_part_48 K s0 l10 l1 l2 l3 l4 l5 l7 l9 F B else if 0 ≤ l1 ∧ l1 < 3 then if 0 ≤ l10 ∧ l10 < 4000 then if r32 (B 13 l1 22 l10) then (if (B 13 l1 22 l10) ≤ 0 then f_M_part_48 K s0 l10 l1 l2 l3 l4 l5 l7 l9 F B else f_M_part_49 K s0 l10 l1 l2 l3 l4 l5 l7 l9 1 F B) else none else none else none) else none) = some (r, F9, B9) := hf
  refine lv_istore (lv' := [(11, .int (iI s0)), (10, .int (iI l10)), (0, .ref (ad 14 0 0)), (1, .ref (ad 13 l1 0)), (2, .int (iI l2)), (3, .int (iI l3)), (4, .int (iI l4)), (5, .long (lI l5)), (7, .long (lI l7)), (9, .int (iI l9))]) hx hb (D_54 W_prog_15_method_88_code_0 28 rfl rfl) hl (by decide) rfl (fun ls hl => ?_)
  refine lv_iload_n hx hb (D_29 W_prog_15_method_88_code_0 30 rfl rfl) rfl (lv_at hl 5 rfl) ?_
  obtain ⟨g7, hf⟩ := gif hf
  refine z0lt (tgt := 48) hx hb g7 (D_155 W_prog_15_method_88_code_0 31 rfl rfl rfl) (by decide) (fun h8 => ?_) (fun h8 => ?_)
  · replace hf := gpos hf h8
    exact b_M_part_48 X hf hZ hS (lv_sub hl [0, 1, 2, 3, 4, 5, 6, 7, 8, 9] rfl)
  · replace hf := gneg hf h8
    refine lv_aload_n hx hb (D_43 W_prog_15_method_88_code_32 2 rfl rfl) rfl (lv_at hl 3 rfl) ?_
    obtain ⟨g9, hf⟩ := gif hf
    refine zget (ci := 13) (C := RX13) (T := TX13) (v := .ref (ad 13 l1 (22 + 1))) (k := 22) hx hb hts inW_13 hown hK hZ g9.1 g9.2 rfl (by decide) k_9_162 rfl (D_180 W_prog_15_method_88_code_32 3 rfl rfl rfl) ?_
    refine lv_iload hx hb (D_21 W_prog_15_method_88_code_32 6 rfl rfl) (lv_at hl 1 rfl) ?_
    obtain ⟨g10, hf⟩ := gif hf
    refine zald (ci := 13) (k := 22) hx hb hK rfl hZ g9.1 g9.2 rfl (Nat.le_of_ble_eq_true rfl) g10.1 g10.2 (D_46 W_prog_15_method_88_code_32 8 rfl rfl) ?_
    obtain ⟨g11, hf⟩ := gif hf
    refine z0le (tgt := 48) hx hb g11 (D_158 W_prog_15_method_88_code_32 9 rfl rfl rfl) (by decide) (fun h12 => ?_) (fun h12 => ?_)
    · replace hf := gpos hf h12
      exact b_M_part_48 X hf hZ hS (lv_sub hl [0, 1, 2, 3, 4, 5, 6, 7, 8, 9] rfl)
    · replace hf := gneg hf h12
      refine lv_iconst (v := iI 1) hx hb (D_4 W_prog_15_method_88_code_32 12 rfl rfl) rfl ?_
      refine lv_goto (tgt := 49) hx hb (D_167 W_prog_15_method_88_code_32 13 rfl rfl rfl) (by decide) ?_
      exact b_M_part_49 X hf hZ hS (lv_sub hl [0, 1, 2, 3, 4, 5, 6, 7, 8, 9] rfl)

def f_M_part_23 (K : Nat) (l10 : Int) (l1 : Int) (l2 : Int) (l3 : Int) (l4 : Int) (l5 : Int) (l7 : Int) (l9 : Int) (F : zF) (B : zB) : zO := f_M_part_28 K l10 l1 l2 l3 l4 l5 l7 l9 1 F B
set_option maxHeartbeats 4000000 in
set_option maxRecDepth 100000 in
theorem b_M_part_23 {D : va_G} {ca : Nat → ClassId} {ad : Nat → Int → Nat → Nat} {L : List Nat} {aS vS : Nat → Nat} {A : Nat → Prop} {p : Program} {l : Launch} {e : Env} {s : State} {m : MethodId} {args : Array Value} {below : List Frame} {meth : Method} {c : Code} {K : Nat} {r : Int} {F9 : zF} {B9 : zB} (X : zX D ca L aS vS A p s m args meth c prog_15_method_88_code 21 (Option.none : Option Jvm.ClassFile.FieldType) "StaveHouseModel") {l10 : Int} {l1 : Int} {l2 : Int} {l3 : Int} {l4 : Int} {l5 : Int} {l7 : Int} {l9 : Int} {F : zF} {B : zB} {H : Heap} {locs : List Loc} {ls : Array Slot} (hf : f_M_part_23 K l10 l1 l2 l3 l4 l5 l7 l9 F B = some (r, F9, B9)) (hZ : zH D ca ad lnM nM L F B A H) (hS : va_S A s.heap H locs) (hl : lv_has ls 21 [(10, .int (iI l10)), (0, .ref (ad 14 0 0)), (1, .ref (ad 13 l1 0)), (2, .int (iI l2)), (3, .int (iI l3)), (4, .int (iI l4)), (5, .long (lI l5)), (7, .long (lI l7)), (9, .int (iI l9))]) : W p l e ({ frames := 6, cells := 0, slots := 0, locals := 190 } : Room) s m args below meth c H locs 0 0 (MQ below (Q_M_part D ca ad L r F9 B9 A) args s 0 0 A) (F0 m 23 ls []) := by
  obtain ⟨hx, hb, hr, hml, hown, hts, hlk, hK, hA, hL, hX⟩ := id X
  replace hf : (f_M_part_28 K l10 l1 l2 l3 l4 l5 l7 l9 1 F B) = some (r, F9, B9) := hf
  refine lv_iconst (v := iI 1) hx hb (D_4 W_prog_15_method_88_code_0 23 rfl rfl) rfl ?_
  refine lv_goto (tgt := 28) hx hb (D_167 W_prog_15_method_88_code_0 24 rfl rfl rfl) (by decide) ?_
  exact b_M_part_28 X hf hZ hS (lv_sub hl [0, 1, 2, 3, 4, 5, 6, 7, 8] rfl)

def f_M_part (K : Nat) (l1 : Int) (l2 : Int) (l3 : Int) (l4 : Int) (l5 : Int) (l7 : Int) (l9 : Int) (F : zF) (B : zB) : zO := if r32 l3 then (if l3 < 0 then f_M_part_23 K ((1000 * l2) + l3) l1 l2 l3 l4 l5 l7 l9 F B else if 0 ≤ l1 ∧ l1 < 3 then if 0 ≤ ((1000 * l2) + l3) ∧ ((1000 * l2) + l3) < 4000 then if r32 (B 13 l1 21 ((1000 * l2) + l3)) then (if (B 13 l1 21 ((1000 * l2) + l3)) = 0 then f_M_part_23 K ((1000 * l2) + l3) l1 l2 l3 l4 l5 l7 l9 F B else f_M_part_28 K ((1000 * l2) + l3) l1 l2 l3 l4 l5 l7 l9 0 F B) else none else none else none) else none
set_option maxHeartbeats 4000000 in
set_option maxRecDepth 100000 in
theorem c_M_part {l : Launch} {D : va_G} {ca : Nat → ClassId} {ad : Nat → Int → Nat → Nat} {L : List Nat} {aS vS : Nat → Nat} {sz K : Nat}  {l1 : Int} {l2 : Int} {l3 : Int} {l4 : Int} {l5 : Int} {l7 : Int} {l9 : Int} {F F9 : zF} {B B9 : zB} {r : Int} (hf : f_M_part K l1 l2 l3 l4 l5 l7 l9 F B = some (r, F9, B9)) : Met l ({ cls := "StaveHouseModel", name := "part", desc := "(LStaveHouseModel$Piece;IIIJJZ)V" } : Jvm.MethodName) (Cond.code ({ cls := "StaveHouseModel", name := "part", desc := "(LStaveHouseModel$Piece;IIIJJZ)V" } : Jvm.MethodName) prog_15_method_88_code 21 (Option.none : Option Jvm.ClassFile.FieldType) :: wAll) ({ frames := 6, cells := 0, slots := 0, locals := 190 } : Room) (va_Pc [.ref (ad 14 0 0), .ref (ad 13 l1 0), .int (iI l2), .int (iI l3), .int (iI l4), .long (lI l5), .long (lI l7), .int (iI l9)] (zPre D ca ad lnM nM L aS vS F B sz)) (Q_M_part D ca ad L r F9 B9 (zA L sz)) 0 0 (zA L sz) := by
  refine zMet (Qc := Q_M_part D ca ad L r F9 B9) (lv := [(0, .ref (ad 14 0 0)), (1, .ref (ad 13 l1 0)), (2, .int (iI l2)), (3, .int (iI l3)), (4, .int (iI l4)), (5, .long (lI l5)), (7, .long (lI l7)), (9, .int (iI l9))]) (by decide) (Nat.le_of_ble_eq_true rfl) rfl (fun A p e s m below meth c ls X hZ hS hl => ?_)
  obtain ⟨hx, hb, hr, hml, hown, hts, hlk, hK, hA, hL, hX⟩ := id X
  replace hf : (if r32 l3 then (if l3 < 0 then f_M_part_23 K ((1000 * l2) + l3) l1 l2 l3 l4 l5 l7 l9 F B else if 0 ≤ l1 ∧ l1 < 3 then if 0 ≤ ((1000 * l2) + l3) ∧ ((1000 * l2) + l3) < 4000 then if r32 (B 13 l1 21 ((1000 * l2) + l3)) then (if (B 13 l1 21 ((1000 * l2) + l3)) = 0 then f_M_part_23 K ((1000 * l2) + l3) l1 l2 l3 l4 l5 l7 l9 F B else f_M_part_28 K ((1000 * l2) + l3) l1 l2 l3 l4 l5 l7 l9 0 F B) else none else none else none) else none) = some (r, F9, B9) := hf
  refine lv_sipush (v := iI 1000) hx hb (D_17 W_prog_15_method_88_code_0 0 rfl rfl rfl) (by decide) ?_
  refine lv_iload_n hx hb (D_28 W_prog_15_method_88_code_0 3 rfl rfl) rfl (lv_at hl 2 rfl) ?_
  refine zmul hx hb (D_104 W_prog_15_method_88_code_0 4 rfl rfl) ?_
  refine lv_iload_n hx hb (D_29 W_prog_15_method_88_code_0 5 rfl rfl) rfl (lv_at hl 3 rfl) ?_
  refine zadd hx hb (D_96 W_prog_15_method_88_code_0 6 rfl rfl) ?_
  refine lv_istore (lv' := [(10, .int (iI ((1000 * l2) + l3))), (0, .ref (ad 14 0 0)), (1, .ref (ad 13 l1 0)), (2, .int (iI l2)), (3, .int (iI l3)), (4, .int (iI l4)), (5, .long (lI l5)), (7, .long (lI l7)), (9, .int (iI l9))]) hx hb (D_54 W_prog_15_method_88_code_0 7 rfl rfl) hl (by decide) rfl (fun ls hl => ?_)
  refine lv_iload_n hx hb (D_29 W_prog_15_method_88_code_0 9 rfl rfl) rfl (lv_at hl 4 rfl) ?_
  obtain ⟨g1, hf⟩ := gif hf
  refine z0lt (tgt := 23) hx hb g1 (D_155 W_prog_15_method_88_code_0 10 rfl rfl rfl) (by decide) (fun h2 => ?_) (fun h2 => ?_)
  · replace hf := gpos hf h2
    exact b_M_part_23 X hf hZ hS (lv_sub hl [0, 1, 2, 3, 4, 5, 6, 7, 8] rfl)
  · replace hf := gneg hf h2
    refine lv_aload_n hx hb (D_43 W_prog_15_method_88_code_0 13 rfl rfl) rfl (lv_at hl 2 rfl) ?_
    obtain ⟨g3, hf⟩ := gif hf
    refine zget (ci := 13) (C := RX13) (T := TX13) (v := .ref (ad 13 l1 (21 + 1))) (k := 21) hx hb hts inW_13 hown hK hZ g3.1 g3.2 rfl (by decide) k_9_160 rfl (D_180 W_prog_15_method_88_code_0 14 rfl rfl rfl) ?_
    refine lv_iload hx hb (D_21 W_prog_15_method_88_code_0 17 rfl rfl) (lv_at hl 0 rfl) ?_
    obtain ⟨g4, hf⟩ := gif hf
    refine zald (ci := 13) (k := 21) hx hb hK rfl hZ g3.1 g3.2 rfl (Nat.le_of_ble_eq_true rfl) g4.1 g4.2 (D_46 W_prog_15_method_88_code_0 19 rfl rfl) ?_
    obtain ⟨g5, hf⟩ := gif hf
    refine z0ne (tgt := 27) hx hb g5 (D_154 W_prog_15_method_88_code_0 20 rfl rfl rfl) (by decide) (fun h6 => ?_) (fun h6 => ?_)
    · replace hf := gneg hf h6
      refine lv_iconst (v := iI 0) hx hb (D_3 W_prog_15_method_88_code_0 27 rfl rfl) rfl ?_
      exact b_M_part_28 X hf hZ hS (lv_sub hl [0, 1, 2, 3, 4, 5, 6, 7, 8] rfl)
    · replace hf := gpos hf h6
      exact b_M_part_23 X hf hZ hS (lv_sub hl [0, 1, 2, 3, 4, 5, 6, 7, 8] rfl)

abbrev Q_M_look (D : va_G) (ca : Nat → ClassId) (ad : Nat → Int → Nat → Nat) (L : List Nat) (r : Int) (F : zF) (B : zB) (A : Nat → Prop) : Array Value → State → Outcome → State → Prop := va_Qi (S := Unit) (fun p _ => p = iI r) (fun _ => zPo D ca ad lnM nM L F B A) A
def f_M_look_111 (K : Nat) (s0 : Int) (F : zF) (B : zB) : zO := some (s0, F, B)
set_option maxHeartbeats 4000000 in
set_option maxRecDepth 100000 in
theorem b_M_look_111 {D : va_G} {ca : Nat → ClassId} {ad : Nat → Int → Nat → Nat} {L : List Nat} {aS vS : Nat → Nat} {A : Nat → Prop} {p : Program} {l : Launch} {e : Env} {s : State} {m : MethodId} {args : Array Value} {below : List Frame} {meth : Method} {c : Code} {K : Nat} {r : Int} {F9 : zF} {B9 : zB} (X : zX D ca L aS vS A p s m args meth c prog_15_method_203_code 4 (Option.some Jvm.ClassFile.FieldType.int) "StaveHouseModel") {s0 : Int} {F : zF} {B : zB} {H : Heap} {locs : List Loc} {ls : Array Slot} (hf : f_M_look_111 K s0 F B = some (r, F9, B9)) (hZ : zH D ca ad lnM nM L F B A H) (hS : va_S A s.heap H locs) (hl : lv_has ls 4 []) : W p l e ({ frames := 7, cells := 0, slots := 0, locals := 197 } : Room) s m args below meth c H locs 0 0 (MQ below (Q_M_look D ca ad L r F9 B9 A) args s 0 0 A) (F0 m 111 ls [.int (iI s0)]) := by
  obtain ⟨hx, hb, hr, hml, hown, hts, hlk, hK, hA, hL, hX⟩ := id X
  replace hf : (some (s0, F, B)) = some (r, F9, B9) := hf
  cases hf
  exact W.iret hx hb hr (fun t ht hW => ⟨⟨_, (), rfl, rfl, by rw [ht]; exact hZ, va_K.moved hW.alike hK⟩, hS.F ht⟩) hS.2.2 (D_172 W_prog_15_method_203_code_96 15 rfl rfl) hlk

def f_M_look (K : Nat) (l1 : Int) (l2 : Int) (F : zF) (B : zB) : zO := zbind (f_M_piece K l1 F B) (fun r1 F1 B1 => (if r1 < 0 then some ((-1), F1, B1) else if r32 l2 then (if l2 = 0 then if 0 ≤ r1 ∧ r1 < 3 then some (F1 13 r1 1, F1, B1) else none else (if l2 = 1 then if 0 ≤ r1 ∧ r1 < 3 then some (F1 13 r1 7, F1, B1) else none else (if l2 = 2 then if 0 ≤ r1 ∧ r1 < 3 then some (F1 13 r1 2, F1, B1) else none else (if l2 = 3 then if 0 ≤ r1 ∧ r1 < 3 then if r32 (F1 13 r1 3) then (if (F1 13 r1 3) = 0 then f_M_look_111 K 0 F1 B1 else f_M_look_111 K 1 F1 B1) else none else none else (if l2 = 4 then if 0 ≤ r1 ∧ r1 < 3 then some (F1 13 r1 4, F1, B1) else none else (if l2 = 5 then if 0 ≤ r1 ∧ r1 < 3 then some (F1 13 r1 5, F1, B1) else none else (if l2 = 6 then if 0 ≤ r1 ∧ r1 < 3 then some (F1 13 r1 6, F1, B1) else none else (if l2 = 7 then if 0 ≤ r1 ∧ r1 < 3 then some (F1 13 r1 72, F1, B1) else none else (if l2 = 8 then if 0 ≤ r1 ∧ r1 < 3 then some (F1 13 r1 76, F1, B1) else none else (if l2 = 9 then if 0 ≤ r1 ∧ r1 < 3 then zbind (f_M_keyHeard K r1 F1 B1) (fun r26 F26 B26 => some (r26, F26, B26)) else none else (if l2 = 10 then if 0 ≤ r1 ∧ r1 < 3 then some (F1 13 r1 48, F1, B1) else none else (if l2 = 11 then if 0 ≤ r1 ∧ r1 < 3 then some (F1 13 r1 54, F1, B1) else none else (if l2 = 12 then if 0 ≤ r1 ∧ r1 < 3 then some (F1 13 r1 60, F1, B1) else none else (if l2 = 13 then if 0 ≤ r1 ∧ r1 < 3 then some (F1 13 r1 65, F1, B1) else none else some ((-1), F1, B1))))))))))))))) else none))
set_option maxHeartbeats 4000000 in
set_option maxRecDepth 100000 in
theorem c_M_look {l : Launch} {D : va_G} {ca : Nat → ClassId} {ad : Nat → Int → Nat → Nat} {L : List Nat} {aS vS : Nat → Nat} {sz K : Nat}  {l1 : Int} {l2 : Int} {F F9 : zF} {B B9 : zB} {r : Int} (hf : f_M_look K l1 l2 F B = some (r, F9, B9)) : Met l ({ cls := "StaveHouseModel", name := "look", desc := "(II)I" } : Jvm.MethodName) (Cond.code ({ cls := "StaveHouseModel", name := "look", desc := "(II)I" } : Jvm.MethodName) prog_15_method_203_code 4 (Option.some Jvm.ClassFile.FieldType.int) :: wAll) ({ frames := 7, cells := 0, slots := 0, locals := 197 } : Room) (va_Pc [.ref (ad 14 0 0), .int (iI l1), .int (iI l2)] (zPre D ca ad lnM nM L aS vS F B sz)) (Q_M_look D ca ad L r F9 B9 (zA L sz)) 0 0 (zA L sz) := by
  refine zMet (Qc := Q_M_look D ca ad L r F9 B9) (lv := [(0, .ref (ad 14 0 0)), (1, .int (iI l1)), (2, .int (iI l2))]) (by decide) (Nat.le_of_ble_eq_true rfl) rfl (fun A p e s m below meth c ls X hZ hS hl => ?_)
  obtain ⟨hx, hb, hr, hml, hown, hts, hlk, hK, hA, hL, hX⟩ := id X
  replace hf : (zbind (f_M_piece K l1 F B) (fun r1 F1 B1 => (if r1 < 0 then some ((-1), F1, B1) else if r32 l2 then (if l2 = 0 then if 0 ≤ r1 ∧ r1 < 3 then some (F1 13 r1 1, F1, B1) else none else (if l2 = 1 then if 0 ≤ r1 ∧ r1 < 3 then some (F1 13 r1 7, F1, B1) else none else (if l2 = 2 then if 0 ≤ r1 ∧ r1 < 3 then some (F1 13 r1 2, F1, B1) else none else (if l2 = 3 then if 0 ≤ r1 ∧ r1 < 3 then if r32 (F1 13 r1 3) then (if (F1 13 r1 3) = 0 then f_M_look_111 K 0 F1 B1 else f_M_look_111 K 1 F1 B1) else none else none else (if l2 = 4 then if 0 ≤ r1 ∧ r1 < 3 then some (F1 13 r1 4, F1, B1) else none else (if l2 = 5 then if 0 ≤ r1 ∧ r1 < 3 then some (F1 13 r1 5, F1, B1) else none else (if l2 = 6 then if 0 ≤ r1 ∧ r1 < 3 then some (F1 13 r1 6, F1, B1) else none else (if l2 = 7 then if 0 ≤ r1 ∧ r1 < 3 then some (F1 13 r1 72, F1, B1) else none else (if l2 = 8 then if 0 ≤ r1 ∧ r1 < 3 then some (F1 13 r1 76, F1, B1) else none else (if l2 = 9 then if 0 ≤ r1 ∧ r1 < 3 then zbind (f_M_keyHeard K r1 F1 B1) (fun r26 F26 B26 => some (r26, F26, B26)) else none else (if l2 = 10 then if 0 ≤ r1 ∧ r1 < 3 then some (F1 13 r1 48, F1, B1) else none else (if l2 = 11 then if 0 ≤ r1 ∧ r1 < 3 then some (F1 13 r1 54, F1, B1) else none else (if l2 = 12 then if 0 ≤ r1 ∧ r1 < 3 then some (F1 13 r1 60, F1, B1) else none else (if l2 = 13 then if 0 ≤ r1 ∧ r1 < 3 then some (F1 13 r1 65, F1, B1) else none else some ((-1), F1, B1))))))))))))))) else none))) = some (r, F9, B9) := hf
  refine lv_aload_n hx hb (D_42 W_prog_15_method_203_code_0 0 rfl rfl) rfl (lv_at hl 0 rfl) ?_
  refine lv_iload_n hx hb (D_27 W_prog_15_method_203_code_0 1 rfl rfl) rfl (lv_at hl 1 rfl) ?_
  obtain ⟨r1, F1, B1, hc1, hf⟩ := gbind hf
  refine va_callq (va_runV (As := [.int (iI l1)]) (rest := []) ⟨hx, hb, hml, hown, hts⟩ (c_M_piece (l := l) hc1) (cwV 1 hts (gdV k_12_92 k_12_94 ks_131 k_1_9 k_12_95) rfl rfl rfl (by decide +kernel) ⟨Nat.le_of_ble_eq_true rfl, Nat.le_of_ble_eq_true rfl⟩) (zPV X hZ hS (ci := 14) (by decide) (by decide) (r := (RX14, TX14, 107)) rfl [.int (iI l1)]) rfl rfl hl.1 rfl (lv_room (Nat.le_of_ble_eq_true rfl)) (D_182 W_prog_15_method_203_code_0 2 rfl rfl rfl) ⟨Nat.le_of_ble_eq_true rfl, Nat.le_of_ble_eq_true rfl⟩) hS (fun q _ h => zAin X hS q h) (zAin X hS) (fun p1 u1 t1 H1 locs1 ht1 hv1 hw1 hB1 hz1 hk1 hS1 => ?_)
  have hZ1 := zBack X ht1 hB1
  subst hw1
  refine zastore_n (lv' := [(0, .ref (ad 14 0 0)), (1, .int (iI l1)), (2, .int (iI l2))]) hx hb (D_78 W_prog_15_method_203_code_0 5 rfl rfl) rfl hl (by decide) (fun _ _ => rfl) (fun ls hl => ?_)
  refine zaload_n hx hb (D_45 W_prog_15_method_203_code_0 6 rfl rfl) rfl (lv_at hl 0 rfl) ?_
  refine zifnonnull (tgt := 12) hx hb (D_199 W_prog_15_method_203_code_0 7 rfl rfl rfl) (by decide) (fun h2 => ?_) (fun h2 => ?_)
  · replace hf := gneg hf h2
    refine lv_iload_n hx hb (D_28 W_prog_15_method_203_code_0 12 rfl rfl) rfl (lv_at hl 3 rfl) ?_
    obtain ⟨g3, hf⟩ := gif hf
    by_cases h4 : l2 = 0
    · replace hf := gpos hf h4
      refine lv_tableIn (off := 71) (tgt := 84) hx hb d_15_203_13 (by rw [iI_to g3, h4]; decide) (by rw [iI_to g3, h4]; decide) (by rw [iI_to g3, h4]; rfl) (by decide) ?_
      refine zaload_n hx hb (D_45 W_prog_15_method_203_code_64 20 rfl rfl) rfl (lv_at hl 0 rfl) ?_
      obtain ⟨g5, hf⟩ := gif hf
      refine zunrf g5.1 ?_
      refine zget (ci := 13) (C := RX13) (T := TX13) (v := .int (iI (F1 13 r1 1))) (k := 1) hx hb hts inW_13 hown hK hZ1 g5.1 g5.2 rfl (by decide) k_9_126 rfl (D_180 W_prog_15_method_203_code_64 21 rfl rfl rfl) ?_
      cases hf
      exact W.iret hx hb hr (fun t ht hW => ⟨⟨_, (), rfl, rfl, by rw [ht]; exact hZ1, va_K.moved hW.alike hK⟩, hS1.F ht⟩) hS1.2.2 (D_172 W_prog_15_method_203_code_64 24 rfl rfl) hlk
    replace hf := gneg hf h4
    by_cases h6 : l2 = 1
    · replace hf := gpos hf h6
      refine lv_tableIn (off := 76) (tgt := 89) hx hb d_15_203_13 (by rw [iI_to g3, h6]; decide) (by rw [iI_to g3, h6]; decide) (by rw [iI_to g3, h6]; rfl) (by decide) ?_
      refine zaload_n hx hb (D_45 W_prog_15_method_203_code_64 25 rfl rfl) rfl (lv_at hl 0 rfl) ?_
      obtain ⟨g7, hf⟩ := gif hf
      refine zunrf g7.1 ?_
      refine zget (ci := 13) (C := RX13) (T := TX13) (v := .int (iI (F1 13 r1 7))) (k := 7) hx hb hts inW_13 hown hK hZ1 g7.1 g7.2 rfl (by decide) k_9_132 rfl (D_180 W_prog_15_method_203_code_64 26 rfl rfl rfl) ?_
      cases hf
      exact W.iret hx hb hr (fun t ht hW => ⟨⟨_, (), rfl, rfl, by rw [ht]; exact hZ1, va_K.moved hW.alike hK⟩, hS1.F ht⟩) hS1.2.2 (D_172 W_prog_15_method_203_code_64 29 rfl rfl) hlk
    replace hf := gneg hf h6
    by_cases h8 : l2 = 2
    · replace hf := gpos hf h8
      refine lv_tableIn (off := 81) (tgt := 94) hx hb d_15_203_13 (by rw [iI_to g3, h8]; decide) (by rw [iI_to g3, h8]; decide) (by rw [iI_to g3, h8]; rfl) (by decide) ?_
      refine zaload_n hx hb (D_45 W_prog_15_method_203_code_64 30 rfl rfl) rfl (lv_at hl 0 rfl) ?_
      obtain ⟨g9, hf⟩ := gif hf
      refine zunrf g9.1 ?_
      refine zget (ci := 13) (C := RX13) (T := TX13) (v := .int (iI (F1 13 r1 2))) (k := 2) hx hb hts inW_13 hown hK hZ1 g9.1 g9.2 rfl (by decide) k_9_127 rfl (D_180 W_prog_15_method_203_code_64 31 rfl rfl rfl) ?_
      cases hf
      exact W.iret hx hb hr (fun t ht hW => ⟨⟨_, (), rfl, rfl, by rw [ht]; exact hZ1, va_K.moved hW.alike hK⟩, hS1.F ht⟩) hS1.2.2 (D_172 W_prog_15_method_203_code_96 2 rfl rfl) hlk
    replace hf := gneg hf h8
    by_cases h10 : l2 = 3
    · replace hf := gpos hf h10
      refine lv_tableIn (off := 86) (tgt := 99) hx hb d_15_203_13 (by rw [iI_to g3, h10]; decide) (by rw [iI_to g3, h10]; decide) (by rw [iI_to g3, h10]; rfl) (by decide) ?_
      refine zaload_n hx hb (D_45 W_prog_15_method_203_code_96 3 rfl rfl) rfl (lv_at hl 0 rfl) ?_
      obtain ⟨g11, hf⟩ := gif hf
      refine zunrf g11.1 ?_
      refine zget (ci := 13) (C := RX13) (T := TX13) (v := .int (iI (F1 13 r1 3))) (k := 3) hx hb hts inW_13 hown hK hZ1 g11.1 g11.2 rfl (by decide) k_9_128 rfl (D_180 W_prog_15_method_203_code_96 4 rfl rfl rfl) ?_
      obtain ⟨g12, hf⟩ := gif hf
      refine z0eq (tgt := 110) hx hb g12 (D_153 W_prog_15_method_203_code_96 7 rfl rfl rfl) (by decide) (fun h13 => ?_) (fun h13 => ?_)
      · replace hf := gpos hf h13
        refine lv_iconst (v := iI 0) hx hb (D_3 W_prog_15_method_203_code_96 14 rfl rfl) rfl ?_
        exact b_M_look_111 X hf hZ1 hS1 (lv_sub hl [] rfl)
      · replace hf := gneg hf h13
        refine lv_iconst (v := iI 1) hx hb (D_4 W_prog_15_method_203_code_96 10 rfl rfl) rfl ?_
        refine lv_goto (tgt := 111) hx hb (D_167 W_prog_15_method_203_code_96 11 rfl rfl rfl) (by decide) ?_
        exact b_M_look_111 X hf hZ1 hS1 (lv_sub hl [] rfl)
    replace hf := gneg hf h10
    by_cases h14 : l2 = 4
    · replace hf := gpos hf h14
      refine lv_tableIn (off := 99) (tgt := 112) hx hb d_15_203_13 (by rw [iI_to g3, h14]; decide) (by rw [iI_to g3, h14]; decide) (by rw [iI_to g3, h14]; rfl) (by decide) ?_
      refine zaload_n hx hb (D_45 W_prog_15_method_203_code_96 16 rfl rfl) rfl (lv_at hl 0 rfl) ?_
      obtain ⟨g15, hf⟩ := gif hf
      refine zunrf g15.1 ?_
      refine zget (ci := 13) (C := RX13) (T := TX13) (v := .int (iI (F1 13 r1 4))) (k := 4) hx hb hts inW_13 hown hK hZ1 g15.1 g15.2 rfl (by decide) k_9_129 rfl (D_180 W_prog_15_method_203_code_96 17 rfl rfl rfl) ?_
      cases hf
      exact W.iret hx hb hr (fun t ht hW => ⟨⟨_, (), rfl, rfl, by rw [ht]; exact hZ1, va_K.moved hW.alike hK⟩, hS1.F ht⟩) hS1.2.2 (D_172 W_prog_15_method_203_code_96 20 rfl rfl) hlk
    replace hf := gneg hf h14
    by_cases h16 : l2 = 5
    · replace hf := gpos hf h16
      refine lv_tableIn (off := 104) (tgt := 117) hx hb d_15_203_13 (by rw [iI_to g3, h16]; decide) (by rw [iI_to g3, h16]; decide) (by rw [iI_to g3, h16]; rfl) (by decide) ?_
      refine zaload_n hx hb (D_45 W_prog_15_method_203_code_96 21 rfl rfl) rfl (lv_at hl 0 rfl) ?_
      obtain ⟨g17, hf⟩ := gif hf
      refine zunrf g17.1 ?_
      refine zget (ci := 13) (C := RX13) (T := TX13) (v := .int (iI (F1 13 r1 5))) (k := 5) hx hb hts inW_13 hown hK hZ1 g17.1 g17.2 rfl (by decide) k_9_130 rfl (D_180 W_prog_15_method_203_code_96 22 rfl rfl rfl) ?_
      cases hf
      exact W.iret hx hb hr (fun t ht hW => ⟨⟨_, (), rfl, rfl, by rw [ht]; exact hZ1, va_K.moved hW.alike hK⟩, hS1.F ht⟩) hS1.2.2 (D_172 W_prog_15_method_203_code_96 25 rfl rfl) hlk
    replace hf := gneg hf h16
    by_cases h18 : l2 = 6
    · replace hf := gpos hf h18
      refine lv_tableIn (off := 109) (tgt := 122) hx hb d_15_203_13 (by rw [iI_to g3, h18]; decide) (by rw [iI_to g3, h18]; decide) (by rw [iI_to g3, h18]; rfl) (by decide) ?_
      refine zaload_n hx hb (D_45 W_prog_15_method_203_code_96 26 rfl rfl) rfl (lv_at hl 0 rfl) ?_
      obtain ⟨g19, hf⟩ := gif hf
      refine zunrf g19.1 ?_
      refine zget (ci := 13) (C := RX13) (T := TX13) (v := .int (iI (F1 13 r1 6))) (k := 6) hx hb hts inW_13 hown hK hZ1 g19.1 g19.2 rfl (by decide) k_9_131 rfl (D_180 W_prog_15_method_203_code_96 27 rfl rfl rfl) ?_
      cases hf
      exact W.iret hx hb hr (fun t ht hW => ⟨⟨_, (), rfl, rfl, by rw [ht]; exact hZ1, va_K.moved hW.alike hK⟩, hS1.F ht⟩) hS1.2.2 (D_172 W_prog_15_method_203_code_96 30 rfl rfl) hlk
    replace hf := gneg hf h18
    by_cases h20 : l2 = 7
    · replace hf := gpos hf h20
      refine lv_tableIn (off := 114) (tgt := 127) hx hb d_15_203_13 (by rw [iI_to g3, h20]; decide) (by rw [iI_to g3, h20]; decide) (by rw [iI_to g3, h20]; rfl) (by decide) ?_
      refine zaload_n hx hb (D_45 W_prog_15_method_203_code_96 31 rfl rfl) rfl (lv_at hl 0 rfl) ?_
      obtain ⟨g21, hf⟩ := gif hf
      refine zunrf g21.1 ?_
      refine zget (ci := 13) (C := RX13) (T := TX13) (v := .int (iI (F1 13 r1 72))) (k := 72) hx hb hts inW_13 hown hK hZ1 g21.1 g21.2 rfl (by decide) k_10_11 rfl (D_180 W_prog_15_method_203_code_128 0 rfl rfl rfl) ?_
      cases hf
      exact W.iret hx hb hr (fun t ht hW => ⟨⟨_, (), rfl, rfl, by rw [ht]; exact hZ1, va_K.moved hW.alike hK⟩, hS1.F ht⟩) hS1.2.2 (D_172 W_prog_15_method_203_code_128 3 rfl rfl) hlk
    replace hf := gneg hf h20
    by_cases h22 : l2 = 8
    · replace hf := gpos hf h22
      refine lv_tableIn (off := 119) (tgt := 132) hx hb d_15_203_13 (by rw [iI_to g3, h22]; decide) (by rw [iI_to g3, h22]; decide) (by rw [iI_to g3, h22]; rfl) (by decide) ?_
      refine zaload_n hx hb (D_45 W_prog_15_method_203_code_128 4 rfl rfl) rfl (lv_at hl 0 rfl) ?_
      obtain ⟨g23, hf⟩ := gif hf
      refine zunrf g23.1 ?_
      refine zget (ci := 13) (C := RX13) (T := TX13) (v := .int (iI (F1 13 r1 76))) (k := 76) hx hb hts inW_13 hown hK hZ1 g23.1 g23.2 rfl (by decide) k_10_18 rfl (D_180 W_prog_15_method_203_code_128 5 rfl rfl rfl) ?_
      cases hf
      exact W.iret hx hb hr (fun t ht hW => ⟨⟨_, (), rfl, rfl, by rw [ht]; exact hZ1, va_K.moved hW.alike hK⟩, hS1.F ht⟩) hS1.2.2 (D_172 W_prog_15_method_203_code_128 8 rfl rfl) hlk
    replace hf := gneg hf h22
    by_cases h24 : l2 = 9
    · replace hf := gpos hf h24
      refine lv_tableIn (off := 124) (tgt := 137) hx hb d_15_203_13 (by rw [iI_to g3, h24]; decide) (by rw [iI_to g3, h24]; decide) (by rw [iI_to g3, h24]; rfl) (by decide) ?_
      refine lv_aload_n hx hb (D_42 W_prog_15_method_203_code_128 9 rfl rfl) rfl (lv_at hl 1 rfl) ?_
      refine zaload_n hx hb (D_45 W_prog_15_method_203_code_128 10 rfl rfl) rfl (lv_at hl 0 rfl) ?_
      obtain ⟨g25, hf⟩ := gif hf
      refine W.eq (g2 := F0 m 139 ls [.ref (ad 13 r1 0), .ref (ad 14 0 0)]) (by rw [zrf_pos (ad := ad) (t := 13) g25.1]; try rfl) ?_
      obtain ⟨r26, F26, B26, hc26, hf⟩ := gbind hf
      refine va_calli (va_runV (As := [.ref (ad 13 r1 0)]) (rest := []) ⟨hx, hb, hml, hown, hts⟩ (c_M_keyHeard (l := l) hc26) (cwV 1 hts (gdV k_15_146 k_15_148 ks_253 k_1_9 k_15_149) rfl rfl rfl (by decide +kernel) ⟨Nat.le_of_ble_eq_true rfl, Nat.le_of_ble_eq_true rfl⟩) (zPV X hZ1 hS1 (ci := 14) (by decide) (by decide) (r := (RX14, TX14, 107)) rfl [.ref (ad 13 r1 0)]) rfl rfl hl.1 rfl (lv_room (Nat.le_of_ble_eq_true rfl)) (D_182 W_prog_15_method_203_code_128 11 rfl rfl rfl) ⟨Nat.le_of_ble_eq_true rfl, Nat.le_of_ble_eq_true rfl⟩) hS1 (fun q _ h => zAin X hS1 q h) (zAin X hS1) (fun p26 u26 t26 H26 locs26 ht26 hv26 hw26 hB26 hz26 hk26 hS26 => ?_)
      have hZ26 := zBack X ht26 hB26
      subst hw26
      cases hf
      exact W.iret hx hb hr (fun t ht hW => ⟨⟨_, (), rfl, rfl, by rw [ht]; exact hZ26, va_K.moved hW.alike hK⟩, hS26.F ht⟩) hS26.2.2 (D_172 W_prog_15_method_203_code_128 14 rfl rfl) hlk
    replace hf := gneg hf h24
    by_cases h27 : l2 = 10
    · replace hf := gpos hf h27
      refine lv_tableIn (off := 130) (tgt := 143) hx hb d_15_203_13 (by rw [iI_to g3, h27]; decide) (by rw [iI_to g3, h27]; decide) (by rw [iI_to g3, h27]; rfl) (by decide) ?_
      refine zaload_n hx hb (D_45 W_prog_15_method_203_code_128 15 rfl rfl) rfl (lv_at hl 0 rfl) ?_
      obtain ⟨g28, hf⟩ := gif hf
      refine zunrf g28.1 ?_
      refine zget (ci := 13) (C := RX13) (T := TX13) (v := .int (iI (F1 13 r1 48))) (k := 48) hx hb hts inW_13 hown hK hZ1 g28.1 g28.2 rfl (by decide) k_9_212 rfl (D_180 W_prog_15_method_203_code_128 16 rfl rfl rfl) ?_
      cases hf
      exact W.iret hx hb hr (fun t ht hW => ⟨⟨_, (), rfl, rfl, by rw [ht]; exact hZ1, va_K.moved hW.alike hK⟩, hS1.F ht⟩) hS1.2.2 (D_172 W_prog_15_method_203_code_128 19 rfl rfl) hlk
    replace hf := gneg hf h27
    by_cases h29 : l2 = 11
    · replace hf := gpos hf h29
      refine lv_tableIn (off := 135) (tgt := 148) hx hb d_15_203_13 (by rw [iI_to g3, h29]; decide) (by rw [iI_to g3, h29]; decide) (by rw [iI_to g3, h29]; rfl) (by decide) ?_
      refine zaload_n hx hb (D_45 W_prog_15_method_203_code_128 20 rfl rfl) rfl (lv_at hl 0 rfl) ?_
      obtain ⟨g30, hf⟩ := gif hf
      refine zunrf g30.1 ?_
      refine zget (ci := 13) (C := RX13) (T := TX13) (v := .int (iI (F1 13 r1 54))) (k := 54) hx hb hts inW_13 hown hK hZ1 g30.1 g30.2 rfl (by decide) k_9_222 rfl (D_180 W_prog_15_method_203_code_128 21 rfl rfl rfl) ?_
      cases hf
      exact W.iret hx hb hr (fun t ht hW => ⟨⟨_, (), rfl, rfl, by rw [ht]; exact hZ1, va_K.moved hW.alike hK⟩, hS1.F ht⟩) hS1.2.2 (D_172 W_prog_15_method_203_code_128 24 rfl rfl) hlk
    replace hf := gneg hf h29
    by_cases h31 : l2 = 12
    · replace hf := gpos hf h31
      refine lv_tableIn (off := 140) (tgt := 153) hx hb d_15_203_13 (by rw [iI_to g3, h31]; decide) (by rw [iI_to g3, h31]; decide) (by rw [iI_to g3, h31]; rfl) (by decide) ?_
      refine zaload_n hx hb (D_45 W_prog_15_method_203_code_128 25 rfl rfl) rfl (lv_at hl 0 rfl) ?_
      obtain ⟨g33, hf⟩ := gif hf
      refine zunrf g33.1 ?_
      refine zget (ci := 13) (C := RX13) (T := TX13) (v := .int (iI (F1 13 r1 60))) (k := 60) hx hb hts inW_13 hown hK hZ1 g33.1 g33.2 rfl (by decide) k_9_233 rfl (D_180 W_prog_15_method_203_code_128 26 rfl rfl rfl) ?_
      cases hf
      exact W.iret hx hb hr (fun t ht hW => ⟨⟨_, (), rfl, rfl, by rw [ht]; exact hZ1, va_K.moved hW.alike hK⟩, hS1.F ht⟩) hS1.2.2 (D_172 W_prog_15_method_203_code_128 29 rfl rfl) hlk
    replace hf := gneg hf h31
    by_cases h34 : l2 = 13
    · replace hf := gpos hf h34
      refine lv_tableIn (off := 145) (tgt := 158) hx hb d_15_203_13 (by rw [iI_to g3, h34]; decide) (by rw [iI_to g3, h34]; decide) (by rw [iI_to g3, h34]; rfl) (by decide) ?_
      refine zaload_n hx hb (D_45 W_prog_15_method_203_code_128 30 rfl rfl) rfl (lv_at hl 0 rfl) ?_
      obtain ⟨g35, hf⟩ := gif hf
      refine zunrf g35.1 ?_
      refine zget (ci := 13) (C := RX13) (T := TX13) (v := .int (iI (F1 13 r1 65))) (k := 65) hx hb hts inW_13 hown hK hZ1 g35.1 g35.2 rfl (by decide) k_10_2 rfl (D_180 W_prog_15_method_203_code_128 31 rfl rfl rfl) ?_
      cases hf
      exact W.iret hx hb hr (fun t ht hW => ⟨⟨_, (), rfl, rfl, by rw [ht]; exact hZ1, va_K.moved hW.alike hK⟩, hS1.F ht⟩) hS1.2.2 (D_172 W_prog_15_method_203_code_160 2 rfl rfl) hlk
    replace hf := gneg hf h34
    refine lv_tableOut (tgt := 163) hx hb d_15_203_13 (by rw [iI_to g3]; omega) (by decide) ?_
    refine lv_iconst (v := iI (-1)) hx hb (D_2 W_prog_15_method_203_code_160 3 rfl rfl) rfl ?_
    cases hf
    exact W.iret hx hb hr (fun t ht hW => ⟨⟨_, (), rfl, rfl, by rw [ht]; exact hZ1, va_K.moved hW.alike hK⟩, hS1.F ht⟩) hS1.2.2 (D_172 W_prog_15_method_203_code_160 4 rfl rfl) hlk
  · replace hf := gpos hf h2
    refine lv_iconst (v := iI (-1)) hx hb (D_2 W_prog_15_method_203_code_0 10 rfl rfl) rfl ?_
    cases hf
    exact W.iret hx hb hr (fun t ht hW => ⟨⟨_, (), rfl, rfl, by rw [ht]; exact hZ1, va_K.moved hW.alike hK⟩, hS1.F ht⟩) hS1.2.2 (D_172 W_prog_15_method_203_code_0 11 rfl rfl) hlk

abbrev Q_M_pieces (D : va_G) (ca : Nat → ClassId) (ad : Nat → Int → Nat → Nat) (L : List Nat) (r : Int) (F : zF) (B : zB) (A : Nat → Prop) : Array Value → State → Outcome → State → Prop := va_Qv (S := Unit) (fun _ => True) (fun _ => zPo D ca ad lnM nM L F B A) A
def f_M_pieces_215 (K : Nat)  (F : zF) (B : zB) : zO := some (0, F, B)
set_option maxHeartbeats 4000000 in
set_option maxRecDepth 100000 in
theorem b_M_pieces_215 {D : va_G} {ca : Nat → ClassId} {ad : Nat → Int → Nat → Nat} {L : List Nat} {aS vS : Nat → Nat} {A : Nat → Prop} {p : Program} {l : Launch} {e : Env} {s : State} {m : MethodId} {args : Array Value} {below : List Frame} {meth : Method} {c : Code} {K : Nat} {r : Int} {F9 : zF} {B9 : zB} (X : zX D ca L aS vS A p s m args meth c prog_15_method_87_code 27 (Option.none : Option Jvm.ClassFile.FieldType) "StaveHouseModel")  {F : zF} {B : zB} {H : Heap} {locs : List Loc} {ls : Array Slot} (hf : f_M_pieces_215 K  F B = some (r, F9, B9)) (hZ : zH D ca ad lnM nM L F B A H) (hS : va_S A s.heap H locs) (hl : lv_has ls 27 []) : W p l e ({ frames := 7, cells := 0, slots := 0, locals := 230 } : Room) s m args below meth c H locs 0 0 (MQ below (Q_M_pieces D ca ad L r F9 B9 A) args s 0 0 A) (F0 m 215 ls []) := by
  obtain ⟨hx, hb, hr, hml, hown, hts, hlk, hK, hA, hL, hX⟩ := id X
  replace hf : (some (0, F, B)) = some (r, F9, B9) := hf
  cases hf
  exact W.vret hx hb hr (fun t ht hW => ⟨⟨(), rfl, trivial, by rw [ht]; exact hZ, va_K.moved hW.alike hK⟩, hS.F ht⟩) hS.2.2 (D_177 W_prog_15_method_87_code_192 23 rfl rfl) hlk

def f_M_pieces_111 (rec16 : Int → Int → Int → Int → Int → Int → Int → Int → zF → zB → zO) (K : Nat) (l25 : Int) (l23 : Int) (l21 : Int) (l19 : Int) (l17 : Int) (l15 : Int) (l13 : Int) (l1 : Int) (l2 : Int) (l3 : Int) (l12 : Int) (F : zF) (B : zB) : zO := if 0 ≤ l1 ∧ l1 < 3 then if r32 (F 13 l1 4) then if r32 (F 13 l1 5) then zbind (f_M_minus K l13 l15 (l21 * (F 13 l1 4)) (F 13 l1 5) F B) (fun r19 F19 B19 => if r32 l21 then zbind (f_M_part K l1 l2 l3 l21 l23 l25 l12 (zup3 (zup3 F19 14 0 54 (F19 14 0 0)) 14 0 55 (F19 14 0 1)) B19) (fun r23 F23 B23 => zbind (f_M_plus K l13 l15 l23 l25 F23 B23) (fun r24 F24 B24 => zbind (f_M_minus K l17 l19 l23 l25 F24 B24) (fun r25 F25 B25 => rec16 (F25 14 0 1) (F25 14 0 0) (F24 14 0 1) (F24 14 0 0) l1 l2 l3 l12 F25 B25))) else none) else none else none else none
set_option maxHeartbeats 4000000 in
set_option maxRecDepth 100000 in
theorem b_M_pieces_111 {D : va_G} {ca : Nat → ClassId} {ad : Nat → Int → Nat → Nat} {L : List Nat} {aS vS : Nat → Nat} {A : Nat → Prop} {p : Program} {l : Launch} {e : Env} {s : State} {m : MethodId} {args : Array Value} {below : List Frame} {meth : Method} {c : Code} {K : Nat} {r : Int} {F9 : zF} {B9 : zB} (X : zX D ca L aS vS A p s m args meth c prog_15_method_87_code 27 (Option.none : Option Jvm.ClassFile.FieldType) "StaveHouseModel") {rec16 : Int → Int → Int → Int → Int → Int → Int → Int → zF → zB → zO} (hrec16 : ∀ {l19 : Int} {l17 : Int} {l15 : Int} {l13 : Int} {l1 : Int} {l2 : Int} {l3 : Int} {l12 : Int} {F : zF} {B : zB} {H : Heap} {locs : List Loc} {ls : Array Slot}, rec16 l19 l17 l15 l13 l1 l2 l3 l12 F B = some (r, F9, B9) → zH D ca ad lnM nM L F B A H → va_S A s.heap H locs → lv_has ls 27 [(19, .long (lI l19)), (17, .long (lI l17)), (15, .long (lI l15)), (13, .long (lI l13)), (0, .ref (ad 14 0 0)), (1, .ref (ad 13 l1 0)), (2, .int (iI l2)), (3, .int (iI l3)), (12, .int (iI l12))] → W p l e ({ frames := 7, cells := 0, slots := 0, locals := 230 } : Room) s m args below meth c H locs 0 0 (MQ below (Q_M_pieces D ca ad L r F9 B9 A) args s 0 0 A) (F0 m 16 ls [])) {l25 : Int} {l23 : Int} {l21 : Int} {l19 : Int} {l17 : Int} {l15 : Int} {l13 : Int} {l1 : Int} {l2 : Int} {l3 : Int} {l12 : Int} {F : zF} {B : zB} {H : Heap} {locs : List Loc} {ls : Array Slot} (hf : f_M_pieces_111 rec16 K l25 l23 l21 l19 l17 l15 l13 l1 l2 l3 l12 F B = some (r, F9, B9)) (hZ : zH D ca ad lnM nM L F B A H) (hS : va_S A s.heap H locs) (hl : lv_has ls 27 [(25, .long (lI l25)), (23, .long (lI l23)), (21, .long (lI l21)), (19, .long (lI l19)), (17, .long (lI l17)), (15, .long (lI l15)), (13, .long (lI l13)), (0, .ref (ad 14 0 0)), (1, .ref (ad 13 l1 0)), (2, .int (iI l2)), (3, .int (iI l3)), (12, .int (iI l12))]) : W p l e ({ frames := 7, cells := 0, slots := 0, locals := 230 } : Room) s m args below meth c H locs 0 0 (MQ below (Q_M_pieces D ca ad L r F9 B9 A) args s 0 0 A) (F0 m 111 ls []) := by
  obtain ⟨hx, hb, hr, hml, hown, hts, hlk, hK, hA, hL, hX⟩ := id X
  replace hf : (if 0 ≤ l1 ∧ l1 < 3 then if r32 (F 13 l1 4) then if r32 (F 13 l1 5) then zbind (f_M_minus K l13 l15 (l21 * (F 13 l1 4)) (F 13 l1 5) F B) (fun r19 F19 B19 => if r32 l21 then zbind (f_M_part K l1 l2 l3 l21 l23 l25 l12 (zup3 (zup3 F19 14 0 54 (F19 14 0 0)) 14 0 55 (F19 14 0 1)) B19) (fun r23 F23 B23 => zbind (f_M_plus K l13 l15 l23 l25 F23 B23) (fun r24 F24 B24 => zbind (f_M_minus K l17 l19 l23 l25 F24 B24) (fun r25 F25 B25 => rec16 (F25 14 0 1) (F25 14 0 0) (F24 14 0 1) (F24 14 0 0) l1 l2 l3 l12 F25 B25))) else none) else none else none else none) = some (r, F9, B9) := hf
  refine lv_aload_n hx hb (D_42 W_prog_15_method_87_code_96 15 rfl rfl) rfl (lv_at hl 7 rfl) ?_
  refine lv_lload hx hb (D_22 W_prog_15_method_87_code_96 16 rfl rfl) (lv_at hl 6 rfl) ?_
  refine lv_lload hx hb (D_22 W_prog_15_method_87_code_96 18 rfl rfl) (lv_at hl 5 rfl) ?_
  refine lv_lload hx hb (D_22 W_prog_15_method_87_code_96 20 rfl rfl) (lv_at hl 2 rfl) ?_
  refine lv_aload_n hx hb (D_43 W_prog_15_method_87_code_96 22 rfl rfl) rfl (lv_at hl 8 rfl) ?_
  obtain ⟨g16, hf⟩ := gif hf
  refine zget (ci := 13) (C := RX13) (T := TX13) (v := .int (iI (F 13 l1 4))) (k := 4) hx hb hts inW_13 hown hK hZ g16.1 g16.2 rfl (by decide) k_9_129 rfl (D_180 W_prog_15_method_87_code_96 23 rfl rfl rfl) ?_
  obtain ⟨g17, hf⟩ := gif hf
  refine zi2l hx hb g17 (D_133 W_prog_15_method_87_code_96 26 rfl rfl) ?_
  refine zlmul hx hb (D_105 W_prog_15_method_87_code_96 27 rfl rfl) ?_
  refine lv_aload_n hx hb (D_43 W_prog_15_method_87_code_96 28 rfl rfl) rfl (lv_at hl 8 rfl) ?_
  refine zget (ci := 13) (C := RX13) (T := TX13) (v := .int (iI (F 13 l1 5))) (k := 5) hx hb hts inW_13 hown hK hZ g16.1 g16.2 rfl (by decide) k_9_130 rfl (D_180 W_prog_15_method_87_code_96 29 rfl rfl rfl) ?_
  obtain ⟨g18, hf⟩ := gif hf
  refine zi2l hx hb g18 (D_133 W_prog_15_method_87_code_128 0 rfl rfl) ?_
  obtain ⟨r19, F19, B19, hc19, hf⟩ := gbind hf
  refine va_callv (va_runV (As := [.long (lI l13), .long (lI l15), .long (lI (l21 * (F 13 l1 4))), .long (lI (F 13 l1 5))]) (rest := []) ⟨hx, hb, hml, hown, hts⟩ (c_M_minus (l := l) hc19) (cwV 4 hts (gdV k_13_132 k_13_134 ks_174 k_1_9 k_13_135) rfl rfl rfl (by decide +kernel) ⟨Nat.le_of_ble_eq_true rfl, Nat.le_of_ble_eq_true rfl⟩) (zPV X hZ hS (ci := 14) (by decide) (by decide) (r := (RX14, TX14, 107)) rfl [.long (lI l13), .long (lI l15), .long (lI (l21 * (F 13 l1 4))), .long (lI (F 13 l1 5))]) rfl rfl hl.1 rfl (lv_room (Nat.le_of_ble_eq_true rfl)) (D_182 W_prog_15_method_87_code_128 1 rfl rfl rfl) ⟨Nat.le_of_ble_eq_true rfl, Nat.le_of_ble_eq_true rfl⟩) hS (fun q _ h => zAin X hS q h) (zAin X hS) (fun u19 t19 H19 locs19 ht19 hv19 hw19 hB19 hz19 hk19 hS19 => ?_)
  have hZ19 := zBack X ht19 hB19
  refine lv_aload_n hx hb (D_42 W_prog_15_method_87_code_128 4 rfl rfl) rfl (lv_at hl 7 rfl) ?_
  refine lv_aload_n hx hb (D_42 W_prog_15_method_87_code_128 5 rfl rfl) rfl (lv_at hl 7 rfl) ?_
  refine zget (ci := 14) (C := RX14) (T := TX14) (v := .long (lI (F19 14 0 0))) (k := 0) hx hb hts inW_14 hown hK hZ19 (by decide) (by decide) rfl (by decide) k_10_238 rfl (D_180 W_prog_15_method_87_code_128 6 rfl rfl rfl) ?_
  refine zput (ci := 14) (C := RX14) (T := TX14) (k := 54) (v := (F19 14 0 0)) (w := .long (lI (F19 14 0 0))) hx hb hts inW_14 tyX14 tyX14_ok nmX14 hown hK hZ19 hS19 (by decide) (by decide) rfl (by decide) k_11_52 rfl (fun G h => congrArg (fun q => Value.long (lI q)) h) rfl rfl (zno (by decide)) (D_181 W_prog_15_method_87_code_128 9 rfl rfl rfl) (fun H20 locs20 hZ20 hS20 => ?_)
  refine lv_aload_n hx hb (D_42 W_prog_15_method_87_code_128 12 rfl rfl) rfl (lv_at hl 7 rfl) ?_
  refine lv_aload_n hx hb (D_42 W_prog_15_method_87_code_128 13 rfl rfl) rfl (lv_at hl 7 rfl) ?_
  refine zget (ci := 14) (C := RX14) (T := TX14) (v := .long (lI (F19 14 0 1))) (k := 1) hx hb hts inW_14 hown hK hZ20 (by decide) (by decide) rfl (by decide) k_10_239 rfl (D_180 W_prog_15_method_87_code_128 14 rfl rfl rfl) ?_
  refine zput (ci := 14) (C := RX14) (T := TX14) (k := 55) (v := (F19 14 0 1)) (w := .long (lI (F19 14 0 1))) hx hb hts inW_14 tyX14 tyX14_ok nmX14 hown hK hZ20 hS20 (by decide) (by decide) rfl (by decide) k_11_53 rfl (fun G h => congrArg (fun q => Value.long (lI q)) h) rfl rfl (zno (by decide)) (D_181 W_prog_15_method_87_code_128 17 rfl rfl rfl) (fun H21 locs21 hZ21 hS21 => ?_)
  refine lv_aload_n hx hb (D_42 W_prog_15_method_87_code_128 20 rfl rfl) rfl (lv_at hl 7 rfl) ?_
  refine lv_aload_n hx hb (D_43 W_prog_15_method_87_code_128 21 rfl rfl) rfl (lv_at hl 8 rfl) ?_
  refine lv_iload_n hx hb (D_28 W_prog_15_method_87_code_128 22 rfl rfl) rfl (lv_at hl 9 rfl) ?_
  refine lv_iload_n hx hb (D_29 W_prog_15_method_87_code_128 23 rfl rfl) rfl (lv_at hl 10 rfl) ?_
  refine lv_lload hx hb (D_22 W_prog_15_method_87_code_128 24 rfl rfl) (lv_at hl 2 rfl) ?_
  obtain ⟨g22, hf⟩ := gif hf
  refine zl2i hx hb g22 (D_136 W_prog_15_method_87_code_128 26 rfl rfl) ?_
  refine lv_lload hx hb (D_22 W_prog_15_method_87_code_128 27 rfl rfl) (lv_at hl 1 rfl) ?_
  refine lv_lload hx hb (D_22 W_prog_15_method_87_code_128 29 rfl rfl) (lv_at hl 0 rfl) ?_
  refine lv_iload hx hb (D_21 W_prog_15_method_87_code_128 31 rfl rfl) (lv_at hl 11 rfl) ?_
  obtain ⟨r23, F23, B23, hc23, hf⟩ := gbind hf
  refine va_callv (va_runV (As := [.ref (ad 13 l1 0), .int (iI l2), .int (iI l3), .int (iI l21), .long (lI l23), .long (lI l25), .int (iI l12)]) (rest := []) ⟨hx, hb, hml, hown, hts⟩ (c_M_part (l := l) hc23) (cwV 7 hts (gdV k_13_147 k_13_149 ks_177 k_1_9 k_13_150) rfl rfl rfl (by decide +kernel) ⟨Nat.le_of_ble_eq_true rfl, Nat.le_of_ble_eq_true rfl⟩) (zPV X hZ21 hS21 (ci := 14) (by decide) (by decide) (r := (RX14, TX14, 107)) rfl [.ref (ad 13 l1 0), .int (iI l2), .int (iI l3), .int (iI l21), .long (lI l23), .long (lI l25), .int (iI l12)]) rfl rfl hl.1 rfl (lv_room (Nat.le_of_ble_eq_true rfl)) (D_182 W_prog_15_method_87_code_160 1 rfl rfl rfl) ⟨Nat.le_of_ble_eq_true rfl, Nat.le_of_ble_eq_true rfl⟩) hS21 (fun q _ h => zAin X hS21 q h) (zAin X hS21) (fun u23 t23 H23 locs23 ht23 hv23 hw23 hB23 hz23 hk23 hS23 => ?_)
  have hZ23 := zBack X ht23 hB23
  refine lv_aload_n hx hb (D_42 W_prog_15_method_87_code_160 4 rfl rfl) rfl (lv_at hl 7 rfl) ?_
  refine lv_lload hx hb (D_22 W_prog_15_method_87_code_160 5 rfl rfl) (lv_at hl 6 rfl) ?_
  refine lv_lload hx hb (D_22 W_prog_15_method_87_code_160 7 rfl rfl) (lv_at hl 5 rfl) ?_
  refine lv_lload hx hb (D_22 W_prog_15_method_87_code_160 9 rfl rfl) (lv_at hl 1 rfl) ?_
  refine lv_lload hx hb (D_22 W_prog_15_method_87_code_160 11 rfl rfl) (lv_at hl 0 rfl) ?_
  obtain ⟨r24, F24, B24, hc24, hf⟩ := gbind hf
  refine va_callv (va_runV (As := [.long (lI l13), .long (lI l15), .long (lI l23), .long (lI l25)]) (rest := []) ⟨hx, hb, hml, hown, hts⟩ (c_M_plus (l := l) hc24) (cwV 4 hts (gdV k_12_147 k_12_149 ks_135 k_1_9 k_12_150) rfl rfl rfl (by decide +kernel) ⟨Nat.le_of_ble_eq_true rfl, Nat.le_of_ble_eq_true rfl⟩) (zPV X hZ23 hS23 (ci := 14) (by decide) (by decide) (r := (RX14, TX14, 107)) rfl [.long (lI l13), .long (lI l15), .long (lI l23), .long (lI l25)]) rfl rfl hl.1 rfl (lv_room (Nat.le_of_ble_eq_true rfl)) (D_182 W_prog_15_method_87_code_160 13 rfl rfl rfl) ⟨Nat.le_of_ble_eq_true rfl, Nat.le_of_ble_eq_true rfl⟩) hS23 (fun q _ h => zAin X hS23 q h) (zAin X hS23) (fun u24 t24 H24 locs24 ht24 hv24 hw24 hB24 hz24 hk24 hS24 => ?_)
  have hZ24 := zBack X ht24 hB24
  refine lv_aload_n hx hb (D_42 W_prog_15_method_87_code_160 16 rfl rfl) rfl (lv_at hl 7 rfl) ?_
  refine zget (ci := 14) (C := RX14) (T := TX14) (v := .long (lI (F24 14 0 0))) (k := 0) hx hb hts inW_14 hown hK hZ24 (by decide) (by decide) rfl (by decide) k_10_238 rfl (D_180 W_prog_15_method_87_code_160 17 rfl rfl rfl) ?_
  refine lv_lstore (lv' := [(13, .long (lI (F24 14 0 0))), (25, .long (lI l25)), (23, .long (lI l23)), (21, .long (lI l21)), (19, .long (lI l19)), (17, .long (lI l17)), (15, .long (lI l15)), (0, .ref (ad 14 0 0)), (1, .ref (ad 13 l1 0)), (2, .int (iI l2)), (3, .int (iI l3)), (12, .int (iI l12))]) hx hb (D_55 W_prog_15_method_87_code_160 20 rfl rfl) hl (by decide) rfl (fun ls hl => ?_)
  refine lv_aload_n hx hb (D_42 W_prog_15_method_87_code_160 22 rfl rfl) rfl (lv_at hl 7 rfl) ?_
  refine zget (ci := 14) (C := RX14) (T := TX14) (v := .long (lI (F24 14 0 1))) (k := 1) hx hb hts inW_14 hown hK hZ24 (by decide) (by decide) rfl (by decide) k_10_239 rfl (D_180 W_prog_15_method_87_code_160 23 rfl rfl rfl) ?_
  refine lv_lstore (lv' := [(15, .long (lI (F24 14 0 1))), (13, .long (lI (F24 14 0 0))), (25, .long (lI l25)), (23, .long (lI l23)), (21, .long (lI l21)), (19, .long (lI l19)), (17, .long (lI l17)), (0, .ref (ad 14 0 0)), (1, .ref (ad 13 l1 0)), (2, .int (iI l2)), (3, .int (iI l3)), (12, .int (iI l12))]) hx hb (D_55 W_prog_15_method_87_code_160 26 rfl rfl) hl (by decide) rfl (fun ls hl => ?_)
  refine lv_aload_n hx hb (D_42 W_prog_15_method_87_code_160 28 rfl rfl) rfl (lv_at hl 7 rfl) ?_
  refine lv_lload hx hb (D_22 W_prog_15_method_87_code_160 29 rfl rfl) (lv_at hl 6 rfl) ?_
  refine lv_lload hx hb (D_22 W_prog_15_method_87_code_160 31 rfl rfl) (lv_at hl 5 rfl) ?_
  refine lv_lload hx hb (D_22 W_prog_15_method_87_code_192 1 rfl rfl) (lv_at hl 3 rfl) ?_
  refine lv_lload hx hb (D_22 W_prog_15_method_87_code_192 3 rfl rfl) (lv_at hl 2 rfl) ?_
  obtain ⟨r25, F25, B25, hc25, hf⟩ := gbind hf
  refine va_callv (va_runV (As := [.long (lI l17), .long (lI l19), .long (lI l23), .long (lI l25)]) (rest := []) ⟨hx, hb, hml, hown, hts⟩ (c_M_minus (l := l) hc25) (cwV 4 hts (gdV k_13_132 k_13_134 ks_174 k_1_9 k_13_135) rfl rfl rfl (by decide +kernel) ⟨Nat.le_of_ble_eq_true rfl, Nat.le_of_ble_eq_true rfl⟩) (zPV X hZ24 hS24 (ci := 14) (by decide) (by decide) (r := (RX14, TX14, 107)) rfl [.long (lI l17), .long (lI l19), .long (lI l23), .long (lI l25)]) rfl rfl hl.1 rfl (lv_room (Nat.le_of_ble_eq_true rfl)) (D_182 W_prog_15_method_87_code_192 5 rfl rfl rfl) ⟨Nat.le_of_ble_eq_true rfl, Nat.le_of_ble_eq_true rfl⟩) hS24 (fun q _ h => zAin X hS24 q h) (zAin X hS24) (fun u25 t25 H25 locs25 ht25 hv25 hw25 hB25 hz25 hk25 hS25 => ?_)
  have hZ25 := zBack X ht25 hB25
  refine lv_aload_n hx hb (D_42 W_prog_15_method_87_code_192 8 rfl rfl) rfl (lv_at hl 7 rfl) ?_
  refine zget (ci := 14) (C := RX14) (T := TX14) (v := .long (lI (F25 14 0 0))) (k := 0) hx hb hts inW_14 hown hK hZ25 (by decide) (by decide) rfl (by decide) k_10_238 rfl (D_180 W_prog_15_method_87_code_192 9 rfl rfl rfl) ?_
  refine lv_lstore (lv' := [(17, .long (lI (F25 14 0 0))), (15, .long (lI (F24 14 0 1))), (13, .long (lI (F24 14 0 0))), (25, .long (lI l25)), (23, .long (lI l23)), (21, .long (lI l21)), (19, .long (lI l19)), (0, .ref (ad 14 0 0)), (1, .ref (ad 13 l1 0)), (2, .int (iI l2)), (3, .int (iI l3)), (12, .int (iI l12))]) hx hb (D_55 W_prog_15_method_87_code_192 12 rfl rfl) hl (by decide) rfl (fun ls hl => ?_)
  refine lv_aload_n hx hb (D_42 W_prog_15_method_87_code_192 14 rfl rfl) rfl (lv_at hl 7 rfl) ?_
  refine zget (ci := 14) (C := RX14) (T := TX14) (v := .long (lI (F25 14 0 1))) (k := 1) hx hb hts inW_14 hown hK hZ25 (by decide) (by decide) rfl (by decide) k_10_239 rfl (D_180 W_prog_15_method_87_code_192 15 rfl rfl rfl) ?_
  refine lv_lstore (lv' := [(19, .long (lI (F25 14 0 1))), (17, .long (lI (F25 14 0 0))), (15, .long (lI (F24 14 0 1))), (13, .long (lI (F24 14 0 0))), (25, .long (lI l25)), (23, .long (lI l23)), (21, .long (lI l21)), (0, .ref (ad 14 0 0)), (1, .ref (ad 13 l1 0)), (2, .int (iI l2)), (3, .int (iI l3)), (12, .int (iI l12))]) hx hb (D_55 W_prog_15_method_87_code_192 18 rfl rfl) hl (by decide) rfl (fun ls hl => ?_)
  refine lv_goto (tgt := 16) hx hb (D_167 W_prog_15_method_87_code_192 20 rfl rfl rfl) (by decide) ?_
  exact hrec16 hf hZ25 hS25 (lv_sub hl [0, 1, 2, 3, 7, 8, 9, 10, 11] rfl)

def f_M_pieces_16 (K : Nat) : Nat → Int → Int → Int → Int → Int → Int → Int → Int → zF → zB → zO
  | 0, _, _, _, _, _, _, _, _, _, _ => none
  | n + 1, l19, l17, l15, l13, l1, l2, l3, l12, F, B => if r64 l17 then (if (zcmp l17 0) ≤ 0 then f_M_pieces_215 K F B else if 0 ≤ l1 ∧ l1 < 3 then if 0 ≤ l2 ∧ l2 < 4 then if r32 (B 13 l1 13 l2) then (if 800 < (B 13 l1 13 l2) then f_M_pieces_215 K F B else if r32 (F 13 l1 4) then if r32 (F 13 l1 5) then zbind (f_M_often K l13 l15 (F 13 l1 4) (F 13 l1 5) F B) (fun r9 F9 B9 => if r32 (F9 13 l1 4) then if r32 (F9 13 l1 5) then zbind (f_M_minus K ((r9 + 1) * (F9 13 l1 4)) (F9 13 l1 5) l13 l15 F9 B9) (fun r12 F12 B12 => zbind (f_M_compare K l17 l19 (F12 14 0 0) (F12 14 0 1) F12 B12) (fun r13 F13 B13 => if r32 r13 then (if 0 ≤ r13 then f_M_pieces_111 (f_M_pieces_16 K n) K (F12 14 0 1) (F12 14 0 0) r9 l19 l17 l15 l13 l1 l2 l3 l12 F13 B13 else f_M_pieces_111 (f_M_pieces_16 K n) K l19 l17 r9 l19 l17 l15 l13 l1 l2 l3 l12 F13 B13) else none)) else none else none) else none else none) else none else none else none) else none
set_option maxHeartbeats 4000000 in
set_option maxRecDepth 100000 in
theorem b_M_pieces_16 {D : va_G} {ca : Nat → ClassId} {ad : Nat → Int → Nat → Nat} {L : List Nat} {aS vS : Nat → Nat} {A : Nat → Prop} {p : Program} {l : Launch} {e : Env} {s : State} {m : MethodId} {args : Array Value} {below : List Frame} {meth : Method} {c : Code} {K : Nat} {r : Int} {F9 : zF} {B9 : zB} (X : zX D ca L aS vS A p s m args meth c prog_15_method_87_code 27 (Option.none : Option Jvm.ClassFile.FieldType) "StaveHouseModel") : ∀ {n : Nat} {l19 : Int} {l17 : Int} {l15 : Int} {l13 : Int} {l1 : Int} {l2 : Int} {l3 : Int} {l12 : Int} {F : zF} {B : zB} {H : Heap} {locs : List Loc} {ls : Array Slot}, f_M_pieces_16 K n l19 l17 l15 l13 l1 l2 l3 l12 F B = some (r, F9, B9) → zH D ca ad lnM nM L F B A H → va_S A s.heap H locs → lv_has ls 27 [(19, .long (lI l19)), (17, .long (lI l17)), (15, .long (lI l15)), (13, .long (lI l13)), (0, .ref (ad 14 0 0)), (1, .ref (ad 13 l1 0)), (2, .int (iI l2)), (3, .int (iI l3)), (12, .int (iI l12))] → W p l e ({ frames := 7, cells := 0, slots := 0, locals := 230 } : Room) s m args below meth c H locs 0 0 (MQ below (Q_M_pieces D ca ad L r F9 B9 A) args s 0 0 A) (F0 m 16 ls []) := by
  obtain ⟨hx, hb, hr, hml, hown, hts, hlk, hK, hA, hL, hX⟩ := id X
  intro n
  induction n with
  | zero =>
    intros
    rename_i hf _ _ _
    cases hf
  | succ n ih =>
    intro l19 l17 l15 l13 l1 l2 l3 l12 F B H locs ls hf hZ hS hl
    replace hf : (if r64 l17 then (if (zcmp l17 0) ≤ 0 then f_M_pieces_215 K F B else if 0 ≤ l1 ∧ l1 < 3 then if 0 ≤ l2 ∧ l2 < 4 then if r32 (B 13 l1 13 l2) then (if 800 < (B 13 l1 13 l2) then f_M_pieces_215 K F B else if r32 (F 13 l1 4) then if r32 (F 13 l1 5) then zbind (f_M_often K l13 l15 (F 13 l1 4) (F 13 l1 5) F B) (fun r9 F9 B9 => if r32 (F9 13 l1 4) then if r32 (F9 13 l1 5) then zbind (f_M_minus K ((r9 + 1) * (F9 13 l1 4)) (F9 13 l1 5) l13 l15 F9 B9) (fun r12 F12 B12 => zbind (f_M_compare K l17 l19 (F12 14 0 0) (F12 14 0 1) F12 B12) (fun r13 F13 B13 => if r32 r13 then (if 0 ≤ r13 then f_M_pieces_111 (f_M_pieces_16 K n) K (F12 14 0 1) (F12 14 0 0) r9 l19 l17 l15 l13 l1 l2 l3 l12 F13 B13 else f_M_pieces_111 (f_M_pieces_16 K n) K l19 l17 r9 l19 l17 l15 l13 l1 l2 l3 l12 F13 B13) else none)) else none else none) else none else none) else none else none else none) else none) = some (r, F9, B9) := hf
    refine lv_lload hx hb (D_22 W_prog_15_method_87_code_0 16 rfl rfl) (lv_at hl 1 rfl) ?_
    refine lv_lconst (v := lI 0) hx hb (D_9 W_prog_15_method_87_code_0 18 rfl rfl) (by decide) ?_
    obtain ⟨g1, hf⟩ := gif hf
    refine zcmp_r hx hb g1 (by decide) (D_148 W_prog_15_method_87_code_0 19 rfl rfl) ?_
    refine z0le (tgt := 215) hx hb zcmp_32 (D_158 W_prog_15_method_87_code_0 20 rfl rfl rfl) (by decide) (fun h2 => ?_) (fun h2 => ?_)
    · replace hf := gpos hf h2
      exact b_M_pieces_215 X hf hZ hS (lv_sub hl [] rfl)
    · replace hf := gneg hf h2
      refine lv_aload_n hx hb (D_43 W_prog_15_method_87_code_0 23 rfl rfl) rfl (lv_at hl 5 rfl) ?_
      obtain ⟨g3, hf⟩ := gif hf
      refine zget (ci := 13) (C := RX13) (T := TX13) (v := .ref (ad 13 l1 (13 + 1))) (k := 13) hx hb hts inW_13 hown hK hZ g3.1 g3.2 rfl (by decide) k_9_144 rfl (D_180 W_prog_15_method_87_code_0 24 rfl rfl rfl) ?_
      refine lv_iload_n hx hb (D_28 W_prog_15_method_87_code_0 27 rfl rfl) rfl (lv_at hl 6 rfl) ?_
      obtain ⟨g4, hf⟩ := gif hf
      refine zald (ci := 13) (k := 13) hx hb hK rfl hZ g3.1 g3.2 rfl (Nat.le_of_ble_eq_true rfl) g4.1 g4.2 (D_46 W_prog_15_method_87_code_0 28 rfl rfl) ?_
      refine lv_sipush (v := iI 800) hx hb (D_17 W_prog_15_method_87_code_0 29 rfl rfl rfl) (by decide) ?_
      obtain ⟨g5, hf⟩ := gif hf
      refine zgt (tgt := 215) hx hb g5 (by decide) (D_163 W_prog_15_method_87_code_32 0 rfl rfl rfl) (by decide) (fun h6 => ?_) (fun h6 => ?_)
      · replace hf := gpos hf h6
        exact b_M_pieces_215 X hf hZ hS (lv_sub hl [] rfl)
      · replace hf := gneg hf h6
        refine lv_lload hx hb (D_22 W_prog_15_method_87_code_32 3 rfl rfl) (lv_at hl 3 rfl) ?_
        refine lv_lload hx hb (D_22 W_prog_15_method_87_code_32 5 rfl rfl) (lv_at hl 2 rfl) ?_
        refine lv_aload_n hx hb (D_43 W_prog_15_method_87_code_32 7 rfl rfl) rfl (lv_at hl 5 rfl) ?_
        refine zget (ci := 13) (C := RX13) (T := TX13) (v := .int (iI (F 13 l1 4))) (k := 4) hx hb hts inW_13 hown hK hZ g3.1 g3.2 rfl (by decide) k_9_129 rfl (D_180 W_prog_15_method_87_code_32 8 rfl rfl rfl) ?_
        obtain ⟨g7, hf⟩ := gif hf
        refine zi2l hx hb g7 (D_133 W_prog_15_method_87_code_32 11 rfl rfl) ?_
        refine lv_aload_n hx hb (D_43 W_prog_15_method_87_code_32 12 rfl rfl) rfl (lv_at hl 5 rfl) ?_
        refine zget (ci := 13) (C := RX13) (T := TX13) (v := .int (iI (F 13 l1 5))) (k := 5) hx hb hts inW_13 hown hK hZ g3.1 g3.2 rfl (by decide) k_9_130 rfl (D_180 W_prog_15_method_87_code_32 13 rfl rfl rfl) ?_
        obtain ⟨g8, hf⟩ := gif hf
        refine zi2l hx hb g8 (D_133 W_prog_15_method_87_code_32 16 rfl rfl) ?_
        obtain ⟨r9, F9, B9, hc9, hf⟩ := gbind hf
        refine va_calll (va_runS (As := [.long (lI l13), .long (lI l15), .long (lI (F 13 l1 4)), .long (lI (F 13 l1 5))]) (rest := []) ⟨hx, hb, hml, hown, hts⟩ (c_M_often (l := l) hc9) (va_cwS 4 hts (gdS k_13_144 k_13_145 k_1_9 k_13_146) rfl rfl rfl (by decide +kernel) ⟨Nat.le_of_ble_eq_true rfl, Nat.le_of_ble_eq_true rfl⟩) (zPS X hZ hS [.long (lI l13), .long (lI l15), .long (lI (F 13 l1 4)), .long (lI (F 13 l1 5))]) rfl rfl hl.1 rfl (lv_room (Nat.le_of_ble_eq_true rfl)) (D_184 W_prog_15_method_87_code_32 17 rfl rfl rfl) ⟨Nat.le_of_ble_eq_true rfl, Nat.le_of_ble_eq_true rfl⟩) hS (fun q _ h => zAin X hS q h) (zAin X hS) (fun p9 u9 t9 H9 locs9 ht9 hv9 hw9 hB9 hz9 hk9 hS9 => ?_)
        have hZ9 := zBack X ht9 hB9
        subst hw9
        refine lv_lstore (lv' := [(21, .long (lI r9)), (19, .long (lI l19)), (17, .long (lI l17)), (15, .long (lI l15)), (13, .long (lI l13)), (0, .ref (ad 14 0 0)), (1, .ref (ad 13 l1 0)), (2, .int (iI l2)), (3, .int (iI l3)), (12, .int (iI l12))]) hx hb (D_55 W_prog_15_method_87_code_32 20 rfl rfl) hl (by decide) rfl (fun ls hl => ?_)
        refine lv_aload_n hx hb (D_42 W_prog_15_method_87_code_32 22 rfl rfl) rfl (lv_at hl 5 rfl) ?_
        refine lv_lload hx hb (D_22 W_prog_15_method_87_code_32 23 rfl rfl) (lv_at hl 0 rfl) ?_
        refine lv_lconst (v := lI 1) hx hb (D_10 W_prog_15_method_87_code_32 25 rfl rfl) (by decide) ?_
        refine zladd hx hb (D_97 W_prog_15_method_87_code_32 26 rfl rfl) ?_
        refine lv_aload_n hx hb (D_43 W_prog_15_method_87_code_32 27 rfl rfl) rfl (lv_at hl 6 rfl) ?_
        refine zget (ci := 13) (C := RX13) (T := TX13) (v := .int (iI (F9 13 l1 4))) (k := 4) hx hb hts inW_13 hown hK hZ9 g3.1 g3.2 rfl (by decide) k_9_129 rfl (D_180 W_prog_15_method_87_code_32 28 rfl rfl rfl) ?_
        obtain ⟨g10, hf⟩ := gif hf
        refine zi2l hx hb g10 (D_133 W_prog_15_method_87_code_32 31 rfl rfl) ?_
        refine zlmul hx hb (D_105 W_prog_15_method_87_code_64 0 rfl rfl) ?_
        refine lv_aload_n hx hb (D_43 W_prog_15_method_87_code_64 1 rfl rfl) rfl (lv_at hl 6 rfl) ?_
        refine zget (ci := 13) (C := RX13) (T := TX13) (v := .int (iI (F9 13 l1 5))) (k := 5) hx hb hts inW_13 hown hK hZ9 g3.1 g3.2 rfl (by decide) k_9_130 rfl (D_180 W_prog_15_method_87_code_64 2 rfl rfl rfl) ?_
        obtain ⟨g11, hf⟩ := gif hf
        refine zi2l hx hb g11 (D_133 W_prog_15_method_87_code_64 5 rfl rfl) ?_
        refine lv_lload hx hb (D_22 W_prog_15_method_87_code_64 6 rfl rfl) (lv_at hl 4 rfl) ?_
        refine lv_lload hx hb (D_22 W_prog_15_method_87_code_64 8 rfl rfl) (lv_at hl 3 rfl) ?_
        obtain ⟨r12, F12, B12, hc12, hf⟩ := gbind hf
        refine va_callv (va_runV (As := [.long (lI ((r9 + 1) * (F9 13 l1 4))), .long (lI (F9 13 l1 5)), .long (lI l13), .long (lI l15)]) (rest := []) ⟨hx, hb, hml, hown, hts⟩ (c_M_minus (l := l) hc12) (cwV 4 hts (gdV k_13_132 k_13_134 ks_174 k_1_9 k_13_135) rfl rfl rfl (by decide +kernel) ⟨Nat.le_of_ble_eq_true rfl, Nat.le_of_ble_eq_true rfl⟩) (zPV X hZ9 hS9 (ci := 14) (by decide) (by decide) (r := (RX14, TX14, 107)) rfl [.long (lI ((r9 + 1) * (F9 13 l1 4))), .long (lI (F9 13 l1 5)), .long (lI l13), .long (lI l15)]) rfl rfl hl.1 rfl (lv_room (Nat.le_of_ble_eq_true rfl)) (D_182 W_prog_15_method_87_code_64 10 rfl rfl rfl) ⟨Nat.le_of_ble_eq_true rfl, Nat.le_of_ble_eq_true rfl⟩) hS9 (fun q _ h => zAin X hS9 q h) (zAin X hS9) (fun u12 t12 H12 locs12 ht12 hv12 hw12 hB12 hz12 hk12 hS12 => ?_)
        have hZ12 := zBack X ht12 hB12
        refine lv_aload_n hx hb (D_42 W_prog_15_method_87_code_64 13 rfl rfl) rfl (lv_at hl 5 rfl) ?_
        refine zget (ci := 14) (C := RX14) (T := TX14) (v := .long (lI (F12 14 0 0))) (k := 0) hx hb hts inW_14 hown hK hZ12 (by decide) (by decide) rfl (by decide) k_10_238 rfl (D_180 W_prog_15_method_87_code_64 14 rfl rfl rfl) ?_
        refine lv_lstore (lv' := [(23, .long (lI (F12 14 0 0))), (21, .long (lI r9)), (19, .long (lI l19)), (17, .long (lI l17)), (15, .long (lI l15)), (13, .long (lI l13)), (0, .ref (ad 14 0 0)), (1, .ref (ad 13 l1 0)), (2, .int (iI l2)), (3, .int (iI l3)), (12, .int (iI l12))]) hx hb (D_55 W_prog_15_method_87_code_64 17 rfl rfl) hl (by decide) rfl (fun ls hl => ?_)
        refine lv_aload_n hx hb (D_42 W_prog_15_method_87_code_64 19 rfl rfl) rfl (lv_at hl 6 rfl) ?_
        refine zget (ci := 14) (C := RX14) (T := TX14) (v := .long (lI (F12 14 0 1))) (k := 1) hx hb hts inW_14 hown hK hZ12 (by decide) (by decide) rfl (by decide) k_10_239 rfl (D_180 W_prog_15_method_87_code_64 20 rfl rfl rfl) ?_
        refine lv_lstore (lv' := [(25, .long (lI (F12 14 0 1))), (23, .long (lI (F12 14 0 0))), (21, .long (lI r9)), (19, .long (lI l19)), (17, .long (lI l17)), (15, .long (lI l15)), (13, .long (lI l13)), (0, .ref (ad 14 0 0)), (1, .ref (ad 13 l1 0)), (2, .int (iI l2)), (3, .int (iI l3)), (12, .int (iI l12))]) hx hb (D_55 W_prog_15_method_87_code_64 23 rfl rfl) hl (by decide) rfl (fun ls hl => ?_)
        refine lv_lload hx hb (D_22 W_prog_15_method_87_code_64 25 rfl rfl) (lv_at hl 4 rfl) ?_
        refine lv_lload hx hb (D_22 W_prog_15_method_87_code_64 27 rfl rfl) (lv_at hl 3 rfl) ?_
        refine lv_lload hx hb (D_22 W_prog_15_method_87_code_64 29 rfl rfl) (lv_at hl 1 rfl) ?_
        refine lv_lload hx hb (D_22 W_prog_15_method_87_code_64 31 rfl rfl) (lv_at hl 0 rfl) ?_
        obtain ⟨r13, F13, B13, hc13, hf⟩ := gbind hf
        refine va_calli (va_runS (As := [.long (lI l17), .long (lI l19), .long (lI (F12 14 0 0)), .long (lI (F12 14 0 1))]) (rest := []) ⟨hx, hb, hml, hown, hts⟩ (c_M_compare (l := l) hc13) (va_cwS 4 hts (gdS k_13_104 k_13_105 k_1_9 k_13_106) rfl rfl rfl (by decide +kernel) ⟨Nat.le_of_ble_eq_true rfl, Nat.le_of_ble_eq_true rfl⟩) (zPS X hZ12 hS12 [.long (lI l17), .long (lI l19), .long (lI (F12 14 0 0)), .long (lI (F12 14 0 1))]) rfl rfl hl.1 rfl (lv_room (Nat.le_of_ble_eq_true rfl)) (D_184 W_prog_15_method_87_code_96 1 rfl rfl rfl) ⟨Nat.le_of_ble_eq_true rfl, Nat.le_of_ble_eq_true rfl⟩) hS12 (fun q _ h => zAin X hS12 q h) (zAin X hS12) (fun p13 u13 t13 H13 locs13 ht13 hv13 hw13 hB13 hz13 hk13 hS13 => ?_)
        have hZ13 := zBack X ht13 hB13
        subst hw13
        obtain ⟨g14, hf⟩ := gif hf
        refine z0ge (tgt := 111) hx hb g14 (D_156 W_prog_15_method_87_code_96 4 rfl rfl rfl) (by decide) (fun h15 => ?_) (fun h15 => ?_)
        · replace hf := gpos hf h15
          exact b_M_pieces_111 X ih hf hZ13 hS13 (lv_sub hl [0, 1, 2, 3, 4, 5, 6, 7, 8, 9, 10, 11] rfl)
        · replace hf := gneg hf h15
          refine lv_lload hx hb (D_22 W_prog_15_method_87_code_96 7 rfl rfl) (lv_at hl 4 rfl) ?_
          refine lv_lstore (lv' := [(23, .long (lI l17)), (25, .long (lI (F12 14 0 1))), (21, .long (lI r9)), (19, .long (lI l19)), (17, .long (lI l17)), (15, .long (lI l15)), (13, .long (lI l13)), (0, .ref (ad 14 0 0)), (1, .ref (ad 13 l1 0)), (2, .int (iI l2)), (3, .int (iI l3)), (12, .int (iI l12))]) hx hb (D_55 W_prog_15_method_87_code_96 9 rfl rfl) hl (by decide) rfl (fun ls hl => ?_)
          refine lv_lload hx hb (D_22 W_prog_15_method_87_code_96 11 rfl rfl) (lv_at hl 3 rfl) ?_
          refine lv_lstore (lv' := [(25, .long (lI l19)), (23, .long (lI l17)), (21, .long (lI r9)), (19, .long (lI l19)), (17, .long (lI l17)), (15, .long (lI l15)), (13, .long (lI l13)), (0, .ref (ad 14 0 0)), (1, .ref (ad 13 l1 0)), (2, .int (iI l2)), (3, .int (iI l3)), (12, .int (iI l12))]) hx hb (D_55 W_prog_15_method_87_code_96 13 rfl rfl) hl (by decide) rfl (fun ls hl => ?_)
          exact b_M_pieces_111 X ih hf hZ13 hS13 (lv_sub hl [0, 1, 2, 3, 4, 5, 6, 7, 8, 9, 10, 11] rfl)

def f_M_pieces (K : Nat) (l1 : Int) (l2 : Int) (l3 : Int) (l4 : Int) (l6 : Int) (l8 : Int) (l10 : Int) (l12 : Int) (F : zF) (B : zB) : zO := f_M_pieces_16 K K l10 l8 l6 l4 l1 l2 l3 l12 F B
set_option maxHeartbeats 4000000 in
set_option maxRecDepth 100000 in
theorem c_M_pieces {l : Launch} {D : va_G} {ca : Nat → ClassId} {ad : Nat → Int → Nat → Nat} {L : List Nat} {aS vS : Nat → Nat} {sz K : Nat}  {l1 : Int} {l2 : Int} {l3 : Int} {l4 : Int} {l6 : Int} {l8 : Int} {l10 : Int} {l12 : Int} {F F9 : zF} {B B9 : zB} {r : Int} (hf : f_M_pieces K l1 l2 l3 l4 l6 l8 l10 l12 F B = some (r, F9, B9)) : Met l ({ cls := "StaveHouseModel", name := "pieces", desc := "(LStaveHouseModel$Piece;IIJJJJZ)V" } : Jvm.MethodName) (Cond.code ({ cls := "StaveHouseModel", name := "pieces", desc := "(LStaveHouseModel$Piece;IIJJJJZ)V" } : Jvm.MethodName) prog_15_method_87_code 27 (Option.none : Option Jvm.ClassFile.FieldType) :: wAll) ({ frames := 7, cells := 0, slots := 0, locals := 230 } : Room) (va_Pc [.ref (ad 14 0 0), .ref (ad 13 l1 0), .int (iI l2), .int (iI l3), .long (lI l4), .long (lI l6), .long (lI l8), .long (lI l10), .int (iI l12)] (zPre D ca ad lnM nM L aS vS F B sz)) (Q_M_pieces D ca ad L r F9 B9 (zA L sz)) 0 0 (zA L sz) := by
  refine zMet (Qc := Q_M_pieces D ca ad L r F9 B9) (lv := [(0, .ref (ad 14 0 0)), (1, .ref (ad 13 l1 0)), (2, .int (iI l2)), (3, .int (iI l3)), (4, .long (lI l4)), (6, .long (lI l6)), (8, .long (lI l8)), (10, .long (lI l10)), (12, .int (iI l12))]) (by decide) (Nat.le_of_ble_eq_true rfl) rfl (fun A p e s m below meth c ls X hZ hS hl => ?_)
  obtain ⟨hx, hb, hr, hml, hown, hts, hlk, hK, hA, hL, hX⟩ := id X
  replace hf : (f_M_pieces_16 K K l10 l8 l6 l4 l1 l2 l3 l12 F B) = some (r, F9, B9) := hf
  refine lv_lload hx hb (D_22 W_prog_15_method_87_code_0 0 rfl rfl) (lv_at hl 4 rfl) ?_
  refine lv_lstore (lv' := [(13, .long (lI l4)), (0, .ref (ad 14 0 0)), (1, .ref (ad 13 l1 0)), (2, .int (iI l2)), (3, .int (iI l3)), (4, .long (lI l4)), (6, .long (lI l6)), (8, .long (lI l8)), (10, .long (lI l10)), (12, .int (iI l12))]) hx hb (D_55 W_prog_15_method_87_code_0 2 rfl rfl) hl (by decide) rfl (fun ls hl => ?_)
  refine lv_lload hx hb (D_22 W_prog_15_method_87_code_0 4 rfl rfl) (lv_at hl 6 rfl) ?_
  refine lv_lstore (lv' := [(15, .long (lI l6)), (13, .long (lI l4)), (0, .ref (ad 14 0 0)), (1, .ref (ad 13 l1 0)), (2, .int (iI l2)), (3, .int (iI l3)), (4, .long (lI l4)), (6, .long (lI l6)), (8, .long (lI l8)), (10, .long (lI l10)), (12, .int (iI l12))]) hx hb (D_55 W_prog_15_method_87_code_0 6 rfl rfl) hl (by decide) rfl (fun ls hl => ?_)
  refine lv_lload hx hb (D_22 W_prog_15_method_87_code_0 8 rfl rfl) (lv_at hl 8 rfl) ?_
  refine lv_lstore (lv' := [(17, .long (lI l8)), (15, .long (lI l6)), (13, .long (lI l4)), (0, .ref (ad 14 0 0)), (1, .ref (ad 13 l1 0)), (2, .int (iI l2)), (3, .int (iI l3)), (4, .long (lI l4)), (6, .long (lI l6)), (8, .long (lI l8)), (10, .long (lI l10)), (12, .int (iI l12))]) hx hb (D_55 W_prog_15_method_87_code_0 10 rfl rfl) hl (by decide) rfl (fun ls hl => ?_)
  refine lv_lload hx hb (D_22 W_prog_15_method_87_code_0 12 rfl rfl) (lv_at hl 10 rfl) ?_
  refine lv_lstore (lv' := [(19, .long (lI l10)), (17, .long (lI l8)), (15, .long (lI l6)), (13, .long (lI l4)), (0, .ref (ad 14 0 0)), (1, .ref (ad 13 l1 0)), (2, .int (iI l2)), (3, .int (iI l3)), (4, .long (lI l4)), (6, .long (lI l6)), (8, .long (lI l8)), (10, .long (lI l10)), (12, .int (iI l12))]) hx hb (D_55 W_prog_15_method_87_code_0 14 rfl rfl) hl (by decide) rfl (fun ls hl => ?_)
  exact b_M_pieces_16 X hf hZ hS (lv_sub hl [0, 1, 2, 3, 4, 5, 6, 7, 12] rfl)

abbrev Q_M_notes (D : va_G) (ca : Nat → ClassId) (ad : Nat → Int → Nat → Nat) (L : List Nat) (r : Int) (F : zF) (B : zB) (A : Nat → Prop) : Array Value → State → Outcome → State → Prop := va_Qi (S := Unit) (fun p _ => p = iI r) (fun _ => zPo D ca ad lnM nM L F B A) A
def f_M_notes_248 (K : Nat) (l1 : Int) (l2 : Int) (F : zF) (B : zB) : zO := if 0 ≤ l1 ∧ l1 < 3 then if 0 ≤ l2 ∧ l2 < 4 then some (B 13 l1 13 l2, F, B) else none else none
set_option maxHeartbeats 4000000 in
set_option maxRecDepth 100000 in
theorem b_M_notes_248 {D : va_G} {ca : Nat → ClassId} {ad : Nat → Int → Nat → Nat} {L : List Nat} {aS vS : Nat → Nat} {A : Nat → Prop} {p : Program} {l : Launch} {e : Env} {s : State} {m : MethodId} {args : Array Value} {below : List Frame} {meth : Method} {c : Code} {K : Nat} {r : Int} {F9 : zF} {B9 : zB} (X : zX D ca L aS vS A p s m args meth c prog_15_method_86_code 10 (Option.some Jvm.ClassFile.FieldType.int) "StaveHouseModel") {l1 : Int} {l2 : Int} {F : zF} {B : zB} {H : Heap} {locs : List Loc} {ls : Array Slot} (hf : f_M_notes_248 K l1 l2 F B = some (r, F9, B9)) (hZ : zH D ca ad lnM nM L F B A H) (hS : va_S A s.heap H locs) (hl : lv_has ls 10 [(1, .ref (ad 13 l1 0)), (2, .int (iI l2))]) : W p l e ({ frames := 8, cells := 0, slots := 0, locals := 276 } : Room) s m args below meth c H locs 0 0 (MQ below (Q_M_notes D ca ad L r F9 B9 A) args s 0 0 A) (F0 m 248 ls []) := by
  obtain ⟨hx, hb, hr, hml, hown, hts, hlk, hK, hA, hL, hX⟩ := id X
  replace hf : (if 0 ≤ l1 ∧ l1 < 3 then if 0 ≤ l2 ∧ l2 < 4 then some (B 13 l1 13 l2, F, B) else none else none) = some (r, F9, B9) := hf
  refine lv_aload_n hx hb (D_43 W_prog_15_method_86_code_224 24 rfl rfl) rfl (lv_at hl 0 rfl) ?_
  obtain ⟨g31, hf⟩ := gif hf
  refine zget (ci := 13) (C := RX13) (T := TX13) (v := .ref (ad 13 l1 (13 + 1))) (k := 13) hx hb hts inW_13 hown hK hZ g31.1 g31.2 rfl (by decide) k_9_144 rfl (D_180 W_prog_15_method_86_code_224 25 rfl rfl rfl) ?_
  refine lv_iload_n hx hb (D_28 W_prog_15_method_86_code_224 28 rfl rfl) rfl (lv_at hl 1 rfl) ?_
  obtain ⟨g33, hf⟩ := gif hf
  refine zald (ci := 13) (k := 13) hx hb hK rfl hZ g31.1 g31.2 rfl (Nat.le_of_ble_eq_true rfl) g33.1 g33.2 (D_46 W_prog_15_method_86_code_224 29 rfl rfl) ?_
  cases hf
  exact W.iret hx hb hr (fun t ht hW => ⟨⟨_, (), rfl, rfl, by rw [ht]; exact hZ, va_K.moved hW.alike hK⟩, hS.F ht⟩) hS.2.2 (D_172 W_prog_15_method_86_code_224 30 rfl rfl) hlk

def f_M_notes_150 (K : Nat) (l6 : Int) (l4 : Int) (l1 : Int) (l2 : Int) (l3 : Int) (F : zF) (B : zB) : zO := if 0 ≤ l1 ∧ l1 < 3 then if r32 (F 13 l1 4) then if r32 (F 13 l1 5) then zbind (f_M_often K l4 l6 (F 13 l1 4) (F 13 l1 5) F B) (fun r18 F18 B18 => if r32 r18 then if r32 (F18 13 l1 4) then if r32 (F18 13 l1 5) then zbind (f_M_isMultiple K l4 l6 (F18 13 l1 4) (F18 13 l1 5) (zup3 F18 13 l1 7 r18) B18) (fun r23 F23 B23 => if r32 r23 then (if r23 = 0 then if r32 (F23 13 l1 4) then if r32 (F23 13 l1 5) then zbind (f_M_minus K ((r18 + 1) * (F23 13 l1 4)) (F23 13 l1 5) l4 l6 (zup3 F23 13 l1 7 (r18 + 1)) B23) (fun r29 F29 B29 => zbind (f_M_pieces K l1 l2 (-1) l4 l6 (F29 14 0 0) (F29 14 0 1) l3 F29 B29) (fun r30 F30 B30 => f_M_notes_248 K l1 l2 F30 B30)) else none else none else f_M_notes_248 K l1 l2 F23 B23) else none) else none else none else none) else none else none else none
set_option maxHeartbeats 4000000 in
set_option maxRecDepth 100000 in
theorem b_M_notes_150 {D : va_G} {ca : Nat → ClassId} {ad : Nat → Int → Nat → Nat} {L : List Nat} {aS vS : Nat → Nat} {A : Nat → Prop} {p : Program} {l : Launch} {e : Env} {s : State} {m : MethodId} {args : Array Value} {below : List Frame} {meth : Method} {c : Code} {K : Nat} {r : Int} {F9 : zF} {B9 : zB} (X : zX D ca L aS vS A p s m args meth c prog_15_method_86_code 10 (Option.some Jvm.ClassFile.FieldType.int) "StaveHouseModel") {l6 : Int} {l4 : Int} {l1 : Int} {l2 : Int} {l3 : Int} {F : zF} {B : zB} {H : Heap} {locs : List Loc} {ls : Array Slot} (hf : f_M_notes_150 K l6 l4 l1 l2 l3 F B = some (r, F9, B9)) (hZ : zH D ca ad lnM nM L F B A H) (hS : va_S A s.heap H locs) (hl : lv_has ls 10 [(6, .long (lI l6)), (4, .long (lI l4)), (0, .ref (ad 14 0 0)), (1, .ref (ad 13 l1 0)), (2, .int (iI l2)), (3, .int (iI l3))]) : W p l e ({ frames := 8, cells := 0, slots := 0, locals := 276 } : Room) s m args below meth c H locs 0 0 (MQ below (Q_M_notes D ca ad L r F9 B9 A) args s 0 0 A) (F0 m 150 ls []) := by
  obtain ⟨hx, hb, hr, hml, hown, hts, hlk, hK, hA, hL, hX⟩ := id X
  replace hf : (if 0 ≤ l1 ∧ l1 < 3 then if r32 (F 13 l1 4) then if r32 (F 13 l1 5) then zbind (f_M_often K l4 l6 (F 13 l1 4) (F 13 l1 5) F B) (fun r18 F18 B18 => if r32 r18 then if r32 (F18 13 l1 4) then if r32 (F18 13 l1 5) then zbind (f_M_isMultiple K l4 l6 (F18 13 l1 4) (F18 13 l1 5) (zup3 F18 13 l1 7 r18) B18) (fun r23 F23 B23 => if r32 r23 then (if r23 = 0 then if r32 (F23 13 l1 4) then if r32 (F23 13 l1 5) then zbind (f_M_minus K ((r18 + 1) * (F23 13 l1 4)) (F23 13 l1 5) l4 l6 (zup3 F23 13 l1 7 (r18 + 1)) B23) (fun r29 F29 B29 => zbind (f_M_pieces K l1 l2 (-1) l4 l6 (F29 14 0 0) (F29 14 0 1) l3 F29 B29) (fun r30 F30 B30 => f_M_notes_248 K l1 l2 F30 B30)) else none else none else f_M_notes_248 K l1 l2 F23 B23) else none) else none else none else none) else none else none else none) = some (r, F9, B9) := hf
  refine lv_lload hx hb (D_22 W_prog_15_method_86_code_128 22 rfl rfl) (lv_at hl 1 rfl) ?_
  refine lv_lload hx hb (D_22 W_prog_15_method_86_code_128 24 rfl rfl) (lv_at hl 0 rfl) ?_
  refine lv_aload_n hx hb (D_43 W_prog_15_method_86_code_128 26 rfl rfl) rfl (lv_at hl 3 rfl) ?_
  obtain ⟨g15, hf⟩ := gif hf
  refine zget (ci := 13) (C := RX13) (T := TX13) (v := .int (iI (F 13 l1 4))) (k := 4) hx hb hts inW_13 hown hK hZ g15.1 g15.2 rfl (by decide) k_9_129 rfl (D_180 W_prog_15_method_86_code_128 27 rfl rfl rfl) ?_
  obtain ⟨g16, hf⟩ := gif hf
  refine zi2l hx hb g16 (D_133 W_prog_15_method_86_code_128 30 rfl rfl) ?_
  refine lv_aload_n hx hb (D_43 W_prog_15_method_86_code_128 31 rfl rfl) rfl (lv_at hl 3 rfl) ?_
  refine zget (ci := 13) (C := RX13) (T := TX13) (v := .int (iI (F 13 l1 5))) (k := 5) hx hb hts inW_13 hown hK hZ g15.1 g15.2 rfl (by decide) k_9_130 rfl (D_180 W_prog_15_method_86_code_160 0 rfl rfl rfl) ?_
  obtain ⟨g17, hf⟩ := gif hf
  refine zi2l hx hb g17 (D_133 W_prog_15_method_86_code_160 3 rfl rfl) ?_
  obtain ⟨r18, F18, B18, hc18, hf⟩ := gbind hf
  refine va_calll (va_runS (As := [.long (lI l4), .long (lI l6), .long (lI (F 13 l1 4)), .long (lI (F 13 l1 5))]) (rest := []) ⟨hx, hb, hml, hown, hts⟩ (c_M_often (l := l) hc18) (va_cwS 4 hts (gdS k_13_144 k_13_145 k_1_9 k_13_146) rfl rfl rfl (by decide +kernel) ⟨Nat.le_of_ble_eq_true rfl, Nat.le_of_ble_eq_true rfl⟩) (zPS X hZ hS [.long (lI l4), .long (lI l6), .long (lI (F 13 l1 4)), .long (lI (F 13 l1 5))]) rfl rfl hl.1 rfl (lv_room (Nat.le_of_ble_eq_true rfl)) (D_184 W_prog_15_method_86_code_160 4 rfl rfl rfl) ⟨Nat.le_of_ble_eq_true rfl, Nat.le_of_ble_eq_true rfl⟩) hS (fun q _ h => zAin X hS q h) (zAin X hS) (fun p18 u18 t18 H18 locs18 ht18 hv18 hw18 hB18 hz18 hk18 hS18 => ?_)
  have hZ18 := zBack X ht18 hB18
  subst hw18
  refine lv_lstore (lv' := [(8, .long (lI r18)), (6, .long (lI l6)), (4, .long (lI l4)), (0, .ref (ad 14 0 0)), (1, .ref (ad 13 l1 0)), (2, .int (iI l2)), (3, .int (iI l3))]) hx hb (D_55 W_prog_15_method_86_code_160 7 rfl rfl) hl (by decide) rfl (fun ls hl => ?_)
  refine lv_aload_n hx hb (D_43 W_prog_15_method_86_code_160 9 rfl rfl) rfl (lv_at hl 4 rfl) ?_
  refine lv_lload hx hb (D_22 W_prog_15_method_86_code_160 10 rfl rfl) (lv_at hl 0 rfl) ?_
  obtain ⟨g19, hf⟩ := gif hf
  refine zl2i hx hb g19 (D_136 W_prog_15_method_86_code_160 12 rfl rfl) ?_
  refine zput (ci := 13) (C := RX13) (T := TX13) (k := 7) (v := r18) (w := .int (iI r18)) hx hb hts inW_13 tyX13 tyX13_ok nmX13 hown hK hZ18 hS18 g15.1 g15.2 rfl (by decide) k_9_132 rfl (fun G h => congrArg (fun q => Value.int (iI q)) h) rfl rfl (zno (by decide)) (D_181 W_prog_15_method_86_code_160 13 rfl rfl rfl) (fun H20 locs20 hZ20 hS20 => ?_)
  refine lv_lload hx hb (D_22 W_prog_15_method_86_code_160 16 rfl rfl) (lv_at hl 2 rfl) ?_
  refine lv_lload hx hb (D_22 W_prog_15_method_86_code_160 18 rfl rfl) (lv_at hl 1 rfl) ?_
  refine lv_aload_n hx hb (D_43 W_prog_15_method_86_code_160 20 rfl rfl) rfl (lv_at hl 4 rfl) ?_
  refine zget (ci := 13) (C := RX13) (T := TX13) (v := .int (iI (F18 13 l1 4))) (k := 4) hx hb hts inW_13 hown hK hZ20 g15.1 g15.2 rfl (by decide) k_9_129 (congrArg (fun q : Int => Value.int (iI q)) (show (zup3 F18 13 l1 7 r18) 13 l1 4 = F18 13 l1 4 by simp [zup3])) (D_180 W_prog_15_method_86_code_160 21 rfl rfl rfl) ?_
  obtain ⟨g21, hf⟩ := gif hf
  refine zi2l hx hb g21 (D_133 W_prog_15_method_86_code_160 24 rfl rfl) ?_
  refine lv_aload_n hx hb (D_43 W_prog_15_method_86_code_160 25 rfl rfl) rfl (lv_at hl 4 rfl) ?_
  refine zget (ci := 13) (C := RX13) (T := TX13) (v := .int (iI (F18 13 l1 5))) (k := 5) hx hb hts inW_13 hown hK hZ20 g15.1 g15.2 rfl (by decide) k_9_130 (congrArg (fun q : Int => Value.int (iI q)) (show (zup3 F18 13 l1 7 r18) 13 l1 5 = F18 13 l1 5 by simp [zup3])) (D_180 W_prog_15_method_86_code_160 26 rfl rfl rfl) ?_
  obtain ⟨g22, hf⟩ := gif hf
  refine zi2l hx hb g22 (D_133 W_prog_15_method_86_code_160 29 rfl rfl) ?_
  obtain ⟨r23, F23, B23, hc23, hf⟩ := gbind hf
  refine va_calli (va_runS (As := [.long (lI l4), .long (lI l6), .long (lI (F18 13 l1 4)), .long (lI (F18 13 l1 5))]) (rest := []) ⟨hx, hb, hml, hown, hts⟩ (c_M_isMultiple (l := l) hc23) (va_cwS 4 hts (gdS k_13_185 k_13_186 k_1_9 k_13_187) rfl rfl rfl (by decide +kernel) ⟨Nat.le_of_ble_eq_true rfl, Nat.le_of_ble_eq_true rfl⟩) (zPS X hZ20 hS20 [.long (lI l4), .long (lI l6), .long (lI (F18 13 l1 4)), .long (lI (F18 13 l1 5))]) rfl rfl hl.1 rfl (lv_room (Nat.le_of_ble_eq_true rfl)) (D_184 W_prog_15_method_86_code_160 30 rfl rfl rfl) ⟨Nat.le_of_ble_eq_true rfl, Nat.le_of_ble_eq_true rfl⟩) hS20 (fun q _ h => zAin X hS20 q h) (zAin X hS20) (fun p23 u23 t23 H23 locs23 ht23 hv23 hw23 hB23 hz23 hk23 hS23 => ?_)
  have hZ23 := zBack X ht23 hB23
  subst hw23
  obtain ⟨g24, hf⟩ := gif hf
  refine z0ne (tgt := 248) hx hb g24 (D_154 W_prog_15_method_86_code_192 1 rfl rfl rfl) (by decide) (fun h25 => ?_) (fun h25 => ?_)
  · replace hf := gneg hf h25
    exact b_M_notes_248 X hf hZ23 hS23 (lv_sub hl [4, 5] rfl)
  · replace hf := gpos hf h25
    refine lv_aload_n hx hb (D_43 W_prog_15_method_86_code_192 4 rfl rfl) rfl (lv_at hl 4 rfl) ?_
    refine lv_lload hx hb (D_22 W_prog_15_method_86_code_192 5 rfl rfl) (lv_at hl 0 rfl) ?_
    refine zl2i hx hb g19 (D_136 W_prog_15_method_86_code_192 7 rfl rfl) ?_
    refine lv_iconst (v := iI 1) hx hb (D_4 W_prog_15_method_86_code_192 8 rfl rfl) rfl ?_
    refine zadd hx hb (D_96 W_prog_15_method_86_code_192 9 rfl rfl) ?_
    refine zput (ci := 13) (C := RX13) (T := TX13) (k := 7) (v := (r18 + 1)) (w := .int (iI (r18 + 1))) hx hb hts inW_13 tyX13 tyX13_ok nmX13 hown hK hZ23 hS23 g15.1 g15.2 rfl (by decide) k_9_132 rfl (fun G h => congrArg (fun q => Value.int (iI q)) h) rfl rfl (zno (by decide)) (D_181 W_prog_15_method_86_code_192 10 rfl rfl rfl) (fun H26 locs26 hZ26 hS26 => ?_)
    refine lv_aload_n hx hb (D_42 W_prog_15_method_86_code_192 13 rfl rfl) rfl (lv_at hl 3 rfl) ?_
    refine lv_lload hx hb (D_22 W_prog_15_method_86_code_192 14 rfl rfl) (lv_at hl 0 rfl) ?_
    refine lv_lconst (v := lI 1) hx hb (D_10 W_prog_15_method_86_code_192 16 rfl rfl) (by decide) ?_
    refine zladd hx hb (D_97 W_prog_15_method_86_code_192 17 rfl rfl) ?_
    refine lv_aload_n hx hb (D_43 W_prog_15_method_86_code_192 18 rfl rfl) rfl (lv_at hl 4 rfl) ?_
    refine zget (ci := 13) (C := RX13) (T := TX13) (v := .int (iI (F23 13 l1 4))) (k := 4) hx hb hts inW_13 hown hK hZ26 g15.1 g15.2 rfl (by decide) k_9_129 (congrArg (fun q : Int => Value.int (iI q)) (show (zup3 F23 13 l1 7 (r18 + 1)) 13 l1 4 = F23 13 l1 4 by simp [zup3])) (D_180 W_prog_15_method_86_code_192 19 rfl rfl rfl) ?_
    obtain ⟨g27, hf⟩ := gif hf
    refine zi2l hx hb g27 (D_133 W_prog_15_method_86_code_192 22 rfl rfl) ?_
    refine zlmul hx hb (D_105 W_prog_15_method_86_code_192 23 rfl rfl) ?_
    refine lv_aload_n hx hb (D_43 W_prog_15_method_86_code_192 24 rfl rfl) rfl (lv_at hl 4 rfl) ?_
    refine zget (ci := 13) (C := RX13) (T := TX13) (v := .int (iI (F23 13 l1 5))) (k := 5) hx hb hts inW_13 hown hK hZ26 g15.1 g15.2 rfl (by decide) k_9_130 (congrArg (fun q : Int => Value.int (iI q)) (show (zup3 F23 13 l1 7 (r18 + 1)) 13 l1 5 = F23 13 l1 5 by simp [zup3])) (D_180 W_prog_15_method_86_code_192 25 rfl rfl rfl) ?_
    obtain ⟨g28, hf⟩ := gif hf
    refine zi2l hx hb g28 (D_133 W_prog_15_method_86_code_192 28 rfl rfl) ?_
    refine lv_lload hx hb (D_22 W_prog_15_method_86_code_192 29 rfl rfl) (lv_at hl 2 rfl) ?_
    refine lv_lload hx hb (D_22 W_prog_15_method_86_code_192 31 rfl rfl) (lv_at hl 1 rfl) ?_
    obtain ⟨r29, F29, B29, hc29, hf⟩ := gbind hf
    refine va_callv (va_runV (As := [.long (lI ((r18 + 1) * (F23 13 l1 4))), .long (lI (F23 13 l1 5)), .long (lI l4), .long (lI l6)]) (rest := []) ⟨hx, hb, hml, hown, hts⟩ (c_M_minus (l := l) hc29) (cwV 4 hts (gdV k_13_132 k_13_134 ks_174 k_1_9 k_13_135) rfl rfl rfl (by decide +kernel) ⟨Nat.le_of_ble_eq_true rfl, Nat.le_of_ble_eq_true rfl⟩) (zPV X hZ26 hS26 (ci := 14) (by decide) (by decide) (r := (RX14, TX14, 107)) rfl [.long (lI ((r18 + 1) * (F23 13 l1 4))), .long (lI (F23 13 l1 5)), .long (lI l4), .long (lI l6)]) rfl rfl hl.1 rfl (lv_room (Nat.le_of_ble_eq_true rfl)) (D_182 W_prog_15_method_86_code_224 1 rfl rfl rfl) ⟨Nat.le_of_ble_eq_true rfl, Nat.le_of_ble_eq_true rfl⟩) hS26 (fun q _ h => zAin X hS26 q h) (zAin X hS26) (fun u29 t29 H29 locs29 ht29 hv29 hw29 hB29 hz29 hk29 hS29 => ?_)
    have hZ29 := zBack X ht29 hB29
    refine lv_aload_n hx hb (D_42 W_prog_15_method_86_code_224 4 rfl rfl) rfl (lv_at hl 3 rfl) ?_
    refine lv_aload_n hx hb (D_43 W_prog_15_method_86_code_224 5 rfl rfl) rfl (lv_at hl 4 rfl) ?_
    refine lv_iload_n hx hb (D_28 W_prog_15_method_86_code_224 6 rfl rfl) rfl (lv_at hl 5 rfl) ?_
    refine lv_iconst (v := iI (-1)) hx hb (D_2 W_prog_15_method_86_code_224 7 rfl rfl) rfl ?_
    refine lv_lload hx hb (D_22 W_prog_15_method_86_code_224 8 rfl rfl) (lv_at hl 2 rfl) ?_
    refine lv_lload hx hb (D_22 W_prog_15_method_86_code_224 10 rfl rfl) (lv_at hl 1 rfl) ?_
    refine lv_aload_n hx hb (D_42 W_prog_15_method_86_code_224 12 rfl rfl) rfl (lv_at hl 3 rfl) ?_
    refine zget (ci := 14) (C := RX14) (T := TX14) (v := .long (lI (F29 14 0 0))) (k := 0) hx hb hts inW_14 hown hK hZ29 (by decide) (by decide) rfl (by decide) k_10_238 rfl (D_180 W_prog_15_method_86_code_224 13 rfl rfl rfl) ?_
    refine lv_aload_n hx hb (D_42 W_prog_15_method_86_code_224 16 rfl rfl) rfl (lv_at hl 3 rfl) ?_
    refine zget (ci := 14) (C := RX14) (T := TX14) (v := .long (lI (F29 14 0 1))) (k := 1) hx hb hts inW_14 hown hK hZ29 (by decide) (by decide) rfl (by decide) k_10_239 rfl (D_180 W_prog_15_method_86_code_224 17 rfl rfl rfl) ?_
    refine lv_iload_n hx hb (D_29 W_prog_15_method_86_code_224 20 rfl rfl) rfl (lv_at hl 6 rfl) ?_
    obtain ⟨r30, F30, B30, hc30, hf⟩ := gbind hf
    refine va_callv (va_runV (As := [.ref (ad 13 l1 0), .int (iI l2), .int (iI (-1)), .long (lI l4), .long (lI l6), .long (lI (F29 14 0 0)), .long (lI (F29 14 0 1)), .int (iI l3)]) (rest := []) ⟨hx, hb, hml, hown, hts⟩ (c_M_pieces (l := l) hc30) (cwV 8 hts (gdV k_13_140 k_13_142 ks_176 k_1_9 k_13_143) rfl rfl rfl (by decide +kernel) ⟨Nat.le_of_ble_eq_true rfl, Nat.le_of_ble_eq_true rfl⟩) (zPV X hZ29 hS29 (ci := 14) (by decide) (by decide) (r := (RX14, TX14, 107)) rfl [.ref (ad 13 l1 0), .int (iI l2), .int (iI (-1)), .long (lI l4), .long (lI l6), .long (lI (F29 14 0 0)), .long (lI (F29 14 0 1)), .int (iI l3)]) rfl rfl hl.1 rfl (lv_room (Nat.le_of_ble_eq_true rfl)) (D_182 W_prog_15_method_86_code_224 21 rfl rfl rfl) ⟨Nat.le_of_ble_eq_true rfl, Nat.le_of_ble_eq_true rfl⟩) hS29 (fun q _ h => zAin X hS29 q h) (zAin X hS29) (fun u30 t30 H30 locs30 ht30 hv30 hw30 hB30 hz30 hk30 hS30 => ?_)
    have hZ30 := zBack X ht30 hB30
    exact b_M_notes_248 X hf hZ30 hS30 (lv_sub hl [4, 5] rfl)

def f_M_notes_22 (K : Nat) : Nat → Int → Int → Int → Int → Int → Int → zF → zB → zO
  | 0, _, _, _, _, _, _, _, _ => none
  | n + 1, l8, l6, l4, l1, l2, l3, F, B => if 0 ≤ l1 ∧ l1 < 3 then if 0 ≤ l2 ∧ l2 < 4 then if r32 l8 then if r32 (B 13 l1 12 l2) then (if (B 13 l1 12 l2) ≤ l8 then f_M_notes_150 K l6 l4 l1 l2 l3 F B else if r32 (B 13 l1 13 l2) then (if 800 < (B 13 l1 13 l2) then f_M_notes_150 K l6 l4 l1 l2 l3 F B else if 0 ≤ ((1000 * l2) + l8) ∧ ((1000 * l2) + l8) < 4000 then zbind (f_M_pieces K l1 l2 l8 (B 13 l1 14 ((1000 * l2) + l8)) (B 13 l1 15 ((1000 * l2) + l8)) (B 13 l1 16 ((1000 * l2) + l8)) (B 13 l1 17 ((1000 * l2) + l8)) l3 F B) (fun r13 F13 B13 => zbind (f_M_plus K (B13 13 l1 14 ((1000 * l2) + l8)) (B13 13 l1 15 ((1000 * l2) + l8)) (B13 13 l1 16 ((1000 * l2) + l8)) (B13 13 l1 17 ((1000 * l2) + l8)) F13 B13) (fun r14 F14 B14 => f_M_notes_22 K n (l8 + 1) (F14 14 0 1) (F14 14 0 0) l1 l2 l3 F14 B14)) else none) else none) else none else none else none else none
set_option maxHeartbeats 4000000 in
set_option maxRecDepth 100000 in
theorem b_M_notes_22 {D : va_G} {ca : Nat → ClassId} {ad : Nat → Int → Nat → Nat} {L : List Nat} {aS vS : Nat → Nat} {A : Nat → Prop} {p : Program} {l : Launch} {e : Env} {s : State} {m : MethodId} {args : Array Value} {below : List Frame} {meth : Method} {c : Code} {K : Nat} {r : Int} {F9 : zF} {B9 : zB} (X : zX D ca L aS vS A p s m args meth c prog_15_method_86_code 10 (Option.some Jvm.ClassFile.FieldType.int) "StaveHouseModel") : ∀ {n : Nat} {l8 : Int} {l6 : Int} {l4 : Int} {l1 : Int} {l2 : Int} {l3 : Int} {F : zF} {B : zB} {H : Heap} {locs : List Loc} {ls : Array Slot}, f_M_notes_22 K n l8 l6 l4 l1 l2 l3 F B = some (r, F9, B9) → zH D ca ad lnM nM L F B A H → va_S A s.heap H locs → lv_has ls 10 [(8, .int (iI l8)), (6, .long (lI l6)), (4, .long (lI l4)), (0, .ref (ad 14 0 0)), (1, .ref (ad 13 l1 0)), (2, .int (iI l2)), (3, .int (iI l3))] → W p l e ({ frames := 8, cells := 0, slots := 0, locals := 276 } : Room) s m args below meth c H locs 0 0 (MQ below (Q_M_notes D ca ad L r F9 B9 A) args s 0 0 A) (F0 m 22 ls []) := by
  obtain ⟨hx, hb, hr, hml, hown, hts, hlk, hK, hA, hL, hX⟩ := id X
  intro n
  induction n with
  | zero =>
    intros
    rename_i hf _ _ _
    cases hf
  | succ n ih =>
    intro l8 l6 l4 l1 l2 l3 F B H locs ls hf hZ hS hl
    replace hf : (if 0 ≤ l1 ∧ l1 < 3 then if 0 ≤ l2 ∧ l2 < 4 then if r32 l8 then if r32 (B 13 l1 12 l2) then (if (B 13 l1 12 l2) ≤ l8 then f_M_notes_150 K l6 l4 l1 l2 l3 F B else if r32 (B 13 l1 13 l2) then (if 800 < (B 13 l1 13 l2) then f_M_notes_150 K l6 l4 l1 l2 l3 F B else if 0 ≤ ((1000 * l2) + l8) ∧ ((1000 * l2) + l8) < 4000 then zbind (f_M_pieces K l1 l2 l8 (B 13 l1 14 ((1000 * l2) + l8)) (B 13 l1 15 ((1000 * l2) + l8)) (B 13 l1 16 ((1000 * l2) + l8)) (B 13 l1 17 ((1000 * l2) + l8)) l3 F B) (fun r13 F13 B13 => zbind (f_M_plus K (B13 13 l1 14 ((1000 * l2) + l8)) (B13 13 l1 15 ((1000 * l2) + l8)) (B13 13 l1 16 ((1000 * l2) + l8)) (B13 13 l1 17 ((1000 * l2) + l8)) F13 B13) (fun r14 F14 B14 => f_M_notes_22 K n (l8 + 1) (F14 14 0 1) (F14 14 0 0) l1 l2 l3 F14 B14)) else none) else none) else none else none else none else none) = some (r, F9, B9) := hf
    refine lv_iload hx hb (D_21 W_prog_15_method_86_code_0 22 rfl rfl) (lv_at hl 0 rfl) ?_
    refine lv_aload_n hx hb (D_43 W_prog_15_method_86_code_0 24 rfl rfl) rfl (lv_at hl 4 rfl) ?_
    obtain ⟨g5, hf⟩ := gif hf
    refine zget (ci := 13) (C := RX13) (T := TX13) (v := .ref (ad 13 l1 (12 + 1))) (k := 12) hx hb hts inW_13 hown hK hZ g5.1 g5.2 rfl (by decide) k_9_142 rfl (D_180 W_prog_15_method_86_code_0 25 rfl rfl rfl) ?_
    refine lv_iload_n hx hb (D_28 W_prog_15_method_86_code_0 28 rfl rfl) rfl (lv_at hl 5 rfl) ?_
    obtain ⟨g6, hf⟩ := gif hf
    refine zald (ci := 13) (k := 12) hx hb hK rfl hZ g5.1 g5.2 rfl (Nat.le_of_ble_eq_true rfl) g6.1 g6.2 (D_46 W_prog_15_method_86_code_0 29 rfl rfl) ?_
    obtain ⟨g7, hf⟩ := gif hf
    obtain ⟨g8, hf⟩ := gif hf
    refine zge (tgt := 150) hx hb g7 g8 (D_162 W_prog_15_method_86_code_0 30 rfl rfl rfl) (by decide) (fun h9 => ?_) (fun h9 => ?_)
    · replace hf := gpos hf h9
      exact b_M_notes_150 X hf hZ hS (lv_sub hl [1, 2, 3, 4, 5, 6] rfl)
    · replace hf := gneg hf h9
      refine lv_aload_n hx hb (D_43 W_prog_15_method_86_code_32 1 rfl rfl) rfl (lv_at hl 4 rfl) ?_
      refine zget (ci := 13) (C := RX13) (T := TX13) (v := .ref (ad 13 l1 (13 + 1))) (k := 13) hx hb hts inW_13 hown hK hZ g5.1 g5.2 rfl (by decide) k_9_144 rfl (D_180 W_prog_15_method_86_code_32 2 rfl rfl rfl) ?_
      refine lv_iload_n hx hb (D_28 W_prog_15_method_86_code_32 5 rfl rfl) rfl (lv_at hl 5 rfl) ?_
      refine zald (ci := 13) (k := 13) hx hb hK rfl hZ g5.1 g5.2 rfl (Nat.le_of_ble_eq_true rfl) g6.1 g6.2 (D_46 W_prog_15_method_86_code_32 6 rfl rfl) ?_
      refine lv_sipush (v := iI 800) hx hb (D_17 W_prog_15_method_86_code_32 7 rfl rfl rfl) (by decide) ?_
      obtain ⟨g10, hf⟩ := gif hf
      refine zgt (tgt := 150) hx hb g10 (by decide) (D_163 W_prog_15_method_86_code_32 10 rfl rfl rfl) (by decide) (fun h11 => ?_) (fun h11 => ?_)
      · replace hf := gpos hf h11
        exact b_M_notes_150 X hf hZ hS (lv_sub hl [1, 2, 3, 4, 5, 6] rfl)
      · replace hf := gneg hf h11
        refine lv_sipush (v := iI 1000) hx hb (D_17 W_prog_15_method_86_code_32 13 rfl rfl rfl) (by decide) ?_
        refine lv_iload_n hx hb (D_28 W_prog_15_method_86_code_32 16 rfl rfl) rfl (lv_at hl 5 rfl) ?_
        refine zmul hx hb (D_104 W_prog_15_method_86_code_32 17 rfl rfl) ?_
        refine lv_iload hx hb (D_21 W_prog_15_method_86_code_32 18 rfl rfl) (lv_at hl 0 rfl) ?_
        refine zadd hx hb (D_96 W_prog_15_method_86_code_32 20 rfl rfl) ?_
        refine lv_istore (lv' := [(9, .int (iI ((1000 * l2) + l8))), (8, .int (iI l8)), (6, .long (lI l6)), (4, .long (lI l4)), (0, .ref (ad 14 0 0)), (1, .ref (ad 13 l1 0)), (2, .int (iI l2)), (3, .int (iI l3))]) hx hb (D_54 W_prog_15_method_86_code_32 21 rfl rfl) hl (by decide) rfl (fun ls hl => ?_)
        refine lv_aload_n hx hb (D_43 W_prog_15_method_86_code_32 23 rfl rfl) rfl (lv_at hl 5 rfl) ?_
        refine zget (ci := 13) (C := RX13) (T := TX13) (v := .ref (ad 13 l1 (14 + 1))) (k := 14) hx hb hts inW_13 hown hK hZ g5.1 g5.2 rfl (by decide) k_9_146 rfl (D_180 W_prog_15_method_86_code_32 24 rfl rfl rfl) ?_
        refine lv_iload hx hb (D_21 W_prog_15_method_86_code_32 27 rfl rfl) (lv_at hl 0 rfl) ?_
        obtain ⟨g12, hf⟩ := gif hf
        refine zlald (ci := 13) (k := 14) hx hb hK rfl hZ g5.1 g5.2 rfl (Nat.le_of_ble_eq_true rfl) g12.1 g12.2 (D_47 W_prog_15_method_86_code_32 29 rfl rfl) ?_
        refine lv_lstore (lv' := [(4, .long (lI (B 13 l1 14 ((1000 * l2) + l8)))), (9, .int (iI ((1000 * l2) + l8))), (8, .int (iI l8)), (6, .long (lI l6)), (0, .ref (ad 14 0 0)), (1, .ref (ad 13 l1 0)), (2, .int (iI l2)), (3, .int (iI l3))]) hx hb (D_55 W_prog_15_method_86_code_32 30 rfl rfl) hl (by decide) rfl (fun ls hl => ?_)
        refine lv_aload_n hx hb (D_43 W_prog_15_method_86_code_64 0 rfl rfl) rfl (lv_at hl 5 rfl) ?_
        refine zget (ci := 13) (C := RX13) (T := TX13) (v := .ref (ad 13 l1 (15 + 1))) (k := 15) hx hb hts inW_13 hown hK hZ g5.1 g5.2 rfl (by decide) k_9_148 rfl (D_180 W_prog_15_method_86_code_64 1 rfl rfl rfl) ?_
        refine lv_iload hx hb (D_21 W_prog_15_method_86_code_64 4 rfl rfl) (lv_at hl 1 rfl) ?_
        refine zlald (ci := 13) (k := 15) hx hb hK rfl hZ g5.1 g5.2 rfl (Nat.le_of_ble_eq_true rfl) g12.1 g12.2 (D_47 W_prog_15_method_86_code_64 6 rfl rfl) ?_
        refine lv_lstore (lv' := [(6, .long (lI (B 13 l1 15 ((1000 * l2) + l8)))), (4, .long (lI (B 13 l1 14 ((1000 * l2) + l8)))), (9, .int (iI ((1000 * l2) + l8))), (8, .int (iI l8)), (0, .ref (ad 14 0 0)), (1, .ref (ad 13 l1 0)), (2, .int (iI l2)), (3, .int (iI l3))]) hx hb (D_55 W_prog_15_method_86_code_64 7 rfl rfl) hl (by decide) rfl (fun ls hl => ?_)
        refine lv_aload_n hx hb (D_42 W_prog_15_method_86_code_64 9 rfl rfl) rfl (lv_at hl 4 rfl) ?_
        refine lv_aload_n hx hb (D_43 W_prog_15_method_86_code_64 10 rfl rfl) rfl (lv_at hl 5 rfl) ?_
        refine lv_iload_n hx hb (D_28 W_prog_15_method_86_code_64 11 rfl rfl) rfl (lv_at hl 6 rfl) ?_
        refine lv_iload hx hb (D_21 W_prog_15_method_86_code_64 12 rfl rfl) (lv_at hl 3 rfl) ?_
        refine lv_lload hx hb (D_22 W_prog_15_method_86_code_64 14 rfl rfl) (lv_at hl 1 rfl) ?_
        refine lv_lload hx hb (D_22 W_prog_15_method_86_code_64 16 rfl rfl) (lv_at hl 0 rfl) ?_
        refine lv_aload_n hx hb (D_43 W_prog_15_method_86_code_64 18 rfl rfl) rfl (lv_at hl 5 rfl) ?_
        refine zget (ci := 13) (C := RX13) (T := TX13) (v := .ref (ad 13 l1 (16 + 1))) (k := 16) hx hb hts inW_13 hown hK hZ g5.1 g5.2 rfl (by decide) k_9_150 rfl (D_180 W_prog_15_method_86_code_64 19 rfl rfl rfl) ?_
        refine lv_iload hx hb (D_21 W_prog_15_method_86_code_64 22 rfl rfl) (lv_at hl 2 rfl) ?_
        refine zlald (ci := 13) (k := 16) hx hb hK rfl hZ g5.1 g5.2 rfl (Nat.le_of_ble_eq_true rfl) g12.1 g12.2 (D_47 W_prog_15_method_86_code_64 24 rfl rfl) ?_
        refine lv_aload_n hx hb (D_43 W_prog_15_method_86_code_64 25 rfl rfl) rfl (lv_at hl 5 rfl) ?_
        refine zget (ci := 13) (C := RX13) (T := TX13) (v := .ref (ad 13 l1 (17 + 1))) (k := 17) hx hb hts inW_13 hown hK hZ g5.1 g5.2 rfl (by decide) k_9_152 rfl (D_180 W_prog_15_method_86_code_64 26 rfl rfl rfl) ?_
        refine lv_iload hx hb (D_21 W_prog_15_method_86_code_64 29 rfl rfl) (lv_at hl 2 rfl) ?_
        refine zlald (ci := 13) (k := 17) hx hb hK rfl hZ g5.1 g5.2 rfl (Nat.le_of_ble_eq_true rfl) g12.1 g12.2 (D_47 W_prog_15_method_86_code_64 31 rfl rfl) ?_
        refine lv_iload_n hx hb (D_29 W_prog_15_method_86_code_96 0 rfl rfl) rfl (lv_at hl 7 rfl) ?_
        obtain ⟨r13, F13, B13, hc13, hf⟩ := gbind hf
        refine va_callv (va_runV (As := [.ref (ad 13 l1 0), .int (iI l2), .int (iI l8), .long (lI (B 13 l1 14 ((1000 * l2) + l8))), .long (lI (B 13 l1 15 ((1000 * l2) + l8))), .long (lI (B 13 l1 16 ((1000 * l2) + l8))), .long (lI (B 13 l1 17 ((1000 * l2) + l8))), .int (iI l3)]) (rest := []) ⟨hx, hb, hml, hown, hts⟩ (c_M_pieces (l := l) hc13) (cwV 8 hts (gdV k_13_140 k_13_142 ks_176 k_1_9 k_13_143) rfl rfl rfl (by decide +kernel) ⟨Nat.le_of_ble_eq_true rfl, Nat.le_of_ble_eq_true rfl⟩) (zPV X hZ hS (ci := 14) (by decide) (by decide) (r := (RX14, TX14, 107)) rfl [.ref (ad 13 l1 0), .int (iI l2), .int (iI l8), .long (lI (B 13 l1 14 ((1000 * l2) + l8))), .long (lI (B 13 l1 15 ((1000 * l2) + l8))), .long (lI (B 13 l1 16 ((1000 * l2) + l8))), .long (lI (B 13 l1 17 ((1000 * l2) + l8))), .int (iI l3)]) rfl rfl hl.1 rfl (lv_room (Nat.le_of_ble_eq_true rfl)) (D_182 W_prog_15_method_86_code_96 1 rfl rfl rfl) ⟨Nat.le_of_ble_eq_true rfl, Nat.le_of_ble_eq_true rfl⟩) hS (fun q _ h => zAin X hS q h) (zAin X hS) (fun u13 t13 H13 locs13 ht13 hv13 hw13 hB13 hz13 hk13 hS13 => ?_)
        have hZ13 := zBack X ht13 hB13
        refine lv_aload_n hx hb (D_42 W_prog_15_method_86_code_96 4 rfl rfl) rfl (lv_at hl 4 rfl) ?_
        refine lv_aload_n hx hb (D_43 W_prog_15_method_86_code_96 5 rfl rfl) rfl (lv_at hl 5 rfl) ?_
        refine zget (ci := 13) (C := RX13) (T := TX13) (v := .ref (ad 13 l1 (14 + 1))) (k := 14) hx hb hts inW_13 hown hK hZ13 g5.1 g5.2 rfl (by decide) k_9_146 rfl (D_180 W_prog_15_method_86_code_96 6 rfl rfl rfl) ?_
        refine lv_iload hx hb (D_21 W_prog_15_method_86_code_96 9 rfl rfl) (lv_at hl 2 rfl) ?_
        refine zlald (ci := 13) (k := 14) hx hb hK rfl hZ13 g5.1 g5.2 rfl (Nat.le_of_ble_eq_true rfl) g12.1 g12.2 (D_47 W_prog_15_method_86_code_96 11 rfl rfl) ?_
        refine lv_aload_n hx hb (D_43 W_prog_15_method_86_code_96 12 rfl rfl) rfl (lv_at hl 5 rfl) ?_
        refine zget (ci := 13) (C := RX13) (T := TX13) (v := .ref (ad 13 l1 (15 + 1))) (k := 15) hx hb hts inW_13 hown hK hZ13 g5.1 g5.2 rfl (by decide) k_9_148 rfl (D_180 W_prog_15_method_86_code_96 13 rfl rfl rfl) ?_
        refine lv_iload hx hb (D_21 W_prog_15_method_86_code_96 16 rfl rfl) (lv_at hl 2 rfl) ?_
        refine zlald (ci := 13) (k := 15) hx hb hK rfl hZ13 g5.1 g5.2 rfl (Nat.le_of_ble_eq_true rfl) g12.1 g12.2 (D_47 W_prog_15_method_86_code_96 18 rfl rfl) ?_
        refine lv_aload_n hx hb (D_43 W_prog_15_method_86_code_96 19 rfl rfl) rfl (lv_at hl 5 rfl) ?_
        refine zget (ci := 13) (C := RX13) (T := TX13) (v := .ref (ad 13 l1 (16 + 1))) (k := 16) hx hb hts inW_13 hown hK hZ13 g5.1 g5.2 rfl (by decide) k_9_150 rfl (D_180 W_prog_15_method_86_code_96 20 rfl rfl rfl) ?_
        refine lv_iload hx hb (D_21 W_prog_15_method_86_code_96 23 rfl rfl) (lv_at hl 2 rfl) ?_
        refine zlald (ci := 13) (k := 16) hx hb hK rfl hZ13 g5.1 g5.2 rfl (Nat.le_of_ble_eq_true rfl) g12.1 g12.2 (D_47 W_prog_15_method_86_code_96 25 rfl rfl) ?_
        refine lv_aload_n hx hb (D_43 W_prog_15_method_86_code_96 26 rfl rfl) rfl (lv_at hl 5 rfl) ?_
        refine zget (ci := 13) (C := RX13) (T := TX13) (v := .ref (ad 13 l1 (17 + 1))) (k := 17) hx hb hts inW_13 hown hK hZ13 g5.1 g5.2 rfl (by decide) k_9_152 rfl (D_180 W_prog_15_method_86_code_96 27 rfl rfl rfl) ?_
        refine lv_iload hx hb (D_21 W_prog_15_method_86_code_96 30 rfl rfl) (lv_at hl 2 rfl) ?_
        refine zlald (ci := 13) (k := 17) hx hb hK rfl hZ13 g5.1 g5.2 rfl (Nat.le_of_ble_eq_true rfl) g12.1 g12.2 (D_47 W_prog_15_method_86_code_128 0 rfl rfl) ?_
        obtain ⟨r14, F14, B14, hc14, hf⟩ := gbind hf
        refine va_callv (va_runV (As := [.long (lI (B13 13 l1 14 ((1000 * l2) + l8))), .long (lI (B13 13 l1 15 ((1000 * l2) + l8))), .long (lI (B13 13 l1 16 ((1000 * l2) + l8))), .long (lI (B13 13 l1 17 ((1000 * l2) + l8)))]) (rest := []) ⟨hx, hb, hml, hown, hts⟩ (c_M_plus (l := l) hc14) (cwV 4 hts (gdV k_12_147 k_12_149 ks_135 k_1_9 k_12_150) rfl rfl rfl (by decide +kernel) ⟨Nat.le_of_ble_eq_true rfl, Nat.le_of_ble_eq_true rfl⟩) (zPV X hZ13 hS13 (ci := 14) (by decide) (by decide) (r := (RX14, TX14, 107)) rfl [.long (lI (B13 13 l1 14 ((1000 * l2) + l8))), .long (lI (B13 13 l1 15 ((1000 * l2) + l8))), .long (lI (B13 13 l1 16 ((1000 * l2) + l8))), .long (lI (B13 13 l1 17 ((1000 * l2) + l8)))]) rfl rfl hl.1 rfl (lv_room (Nat.le_of_ble_eq_true rfl)) (D_182 W_prog_15_method_86_code_128 1 rfl rfl rfl) ⟨Nat.le_of_ble_eq_true rfl, Nat.le_of_ble_eq_true rfl⟩) hS13 (fun q _ h => zAin X hS13 q h) (zAin X hS13) (fun u14 t14 H14 locs14 ht14 hv14 hw14 hB14 hz14 hk14 hS14 => ?_)
        have hZ14 := zBack X ht14 hB14
        refine lv_aload_n hx hb (D_42 W_prog_15_method_86_code_128 4 rfl rfl) rfl (lv_at hl 4 rfl) ?_
        refine zget (ci := 14) (C := RX14) (T := TX14) (v := .long (lI (F14 14 0 0))) (k := 0) hx hb hts inW_14 hown hK hZ14 (by decide) (by decide) rfl (by decide) k_10_238 rfl (D_180 W_prog_15_method_86_code_128 5 rfl rfl rfl) ?_
        refine lv_lstore (lv' := [(4, .long (lI (F14 14 0 0))), (6, .long (lI (B 13 l1 15 ((1000 * l2) + l8)))), (9, .int (iI ((1000 * l2) + l8))), (8, .int (iI l8)), (0, .ref (ad 14 0 0)), (1, .ref (ad 13 l1 0)), (2, .int (iI l2)), (3, .int (iI l3))]) hx hb (D_55 W_prog_15_method_86_code_128 8 rfl rfl) hl (by decide) rfl (fun ls hl => ?_)
        refine lv_aload_n hx hb (D_42 W_prog_15_method_86_code_128 10 rfl rfl) rfl (lv_at hl 4 rfl) ?_
        refine zget (ci := 14) (C := RX14) (T := TX14) (v := .long (lI (F14 14 0 1))) (k := 1) hx hb hts inW_14 hown hK hZ14 (by decide) (by decide) rfl (by decide) k_10_239 rfl (D_180 W_prog_15_method_86_code_128 11 rfl rfl rfl) ?_
        refine lv_lstore (lv' := [(6, .long (lI (F14 14 0 1))), (4, .long (lI (F14 14 0 0))), (9, .int (iI ((1000 * l2) + l8))), (8, .int (iI l8)), (0, .ref (ad 14 0 0)), (1, .ref (ad 13 l1 0)), (2, .int (iI l2)), (3, .int (iI l3))]) hx hb (D_55 W_prog_15_method_86_code_128 14 rfl rfl) hl (by decide) rfl (fun ls hl => ?_)
        refine lv_iinc (v := iI (l8 + 1)) (lv' := [(8, .int (iI (l8 + 1))), (6, .long (lI (F14 14 0 1))), (4, .long (lI (F14 14 0 0))), (9, .int (iI ((1000 * l2) + l8))), (0, .ref (ad 14 0 0)), (1, .ref (ad 13 l1 0)), (2, .int (iI l2)), (3, .int (iI l3))]) hx hb d_15_86_144 hl (k := 3) rfl (iI_add _ 1) (by decide) rfl (fun ls hl => ?_)
        refine lv_goto (tgt := 22) hx hb (D_167 W_prog_15_method_86_code_128 19 rfl rfl rfl) (by decide) ?_
        exact ih hf hZ14 hS14 (lv_sub hl [0, 1, 2, 4, 5, 6, 7] rfl)

def f_M_notes (K : Nat) (l1 : Int) (l2 : Int) (l3 : Int) (F : zF) (B : zB) : zO := if 0 ≤ l1 ∧ l1 < 3 then if 0 ≤ l2 ∧ l2 < 4 then zbind (f_M_is K 0 1 F (zup4 B 13 l1 13 l2 0)) (fun r4 F4 B4 => f_M_notes_22 K K 0 1 0 l1 l2 l3 F4 B4) else none else none
set_option maxHeartbeats 4000000 in
set_option maxRecDepth 100000 in
theorem c_M_notes {l : Launch} {D : va_G} {ca : Nat → ClassId} {ad : Nat → Int → Nat → Nat} {L : List Nat} {aS vS : Nat → Nat} {sz K : Nat}  {l1 : Int} {l2 : Int} {l3 : Int} {F F9 : zF} {B B9 : zB} {r : Int} (hf : f_M_notes K l1 l2 l3 F B = some (r, F9, B9)) : Met l ({ cls := "StaveHouseModel", name := "notes", desc := "(LStaveHouseModel$Piece;IZ)I" } : Jvm.MethodName) (Cond.code ({ cls := "StaveHouseModel", name := "notes", desc := "(LStaveHouseModel$Piece;IZ)I" } : Jvm.MethodName) prog_15_method_86_code 10 (Option.some Jvm.ClassFile.FieldType.int) :: wAll) ({ frames := 8, cells := 0, slots := 0, locals := 276 } : Room) (va_Pc [.ref (ad 14 0 0), .ref (ad 13 l1 0), .int (iI l2), .int (iI l3)] (zPre D ca ad lnM nM L aS vS F B sz)) (Q_M_notes D ca ad L r F9 B9 (zA L sz)) 0 0 (zA L sz) := by
  refine zMet (Qc := Q_M_notes D ca ad L r F9 B9) (lv := [(0, .ref (ad 14 0 0)), (1, .ref (ad 13 l1 0)), (2, .int (iI l2)), (3, .int (iI l3))]) (by decide) (Nat.le_of_ble_eq_true rfl) rfl (fun A p e s m below meth c ls X hZ hS hl => ?_)
  obtain ⟨hx, hb, hr, hml, hown, hts, hlk, hK, hA, hL, hX⟩ := id X
  replace hf : (if 0 ≤ l1 ∧ l1 < 3 then if 0 ≤ l2 ∧ l2 < 4 then zbind (f_M_is K 0 1 F (zup4 B 13 l1 13 l2 0)) (fun r4 F4 B4 => f_M_notes_22 K K 0 1 0 l1 l2 l3 F4 B4) else none else none) = some (r, F9, B9) := hf
  refine lv_aload_n hx hb (D_43 W_prog_15_method_86_code_0 0 rfl rfl) rfl (lv_at hl 1 rfl) ?_
  obtain ⟨g1, hf⟩ := gif hf
  refine zget (ci := 13) (C := RX13) (T := TX13) (v := .ref (ad 13 l1 (13 + 1))) (k := 13) hx hb hts inW_13 hown hK hZ g1.1 g1.2 rfl (by decide) k_9_144 rfl (D_180 W_prog_15_method_86_code_0 1 rfl rfl rfl) ?_
  refine lv_iload_n hx hb (D_28 W_prog_15_method_86_code_0 4 rfl rfl) rfl (lv_at hl 2 rfl) ?_
  refine lv_iconst (v := iI 0) hx hb (D_3 W_prog_15_method_86_code_0 5 rfl rfl) rfl ?_
  obtain ⟨g2, hf⟩ := gif hf
  refine zast (ci := 13) (k := 13) hx hb hK rfl hZ hS g1.1 g1.2 rfl (Nat.le_of_ble_eq_true rfl) g2.1 g2.2 (D_79 W_prog_15_method_86_code_0 6 rfl rfl) (fun H3 locs3 hZ3 hS3 => ?_)
  refine lv_aload_n hx hb (D_42 W_prog_15_method_86_code_0 7 rfl rfl) rfl (lv_at hl 0 rfl) ?_
  refine lv_lconst (v := lI 0) hx hb (D_9 W_prog_15_method_86_code_0 8 rfl rfl) (by decide) ?_
  refine lv_lconst (v := lI 1) hx hb (D_10 W_prog_15_method_86_code_0 9 rfl rfl) (by decide) ?_
  obtain ⟨r4, F4, B4, hc4, hf⟩ := gbind hf
  refine va_callv (va_runV (As := [.long (lI 0), .long (lI 1)]) (rest := []) ⟨hx, hb, hml, hown, hts⟩ (c_M_is (l := l) hc4) (cwV 2 hts (gdV k_12_154 k_12_156 ks_136 k_1_9 k_12_157) rfl rfl rfl (by decide +kernel) ⟨Nat.le_of_ble_eq_true rfl, Nat.le_of_ble_eq_true rfl⟩) (zPV X hZ3 hS3 (ci := 14) (by decide) (by decide) (r := (RX14, TX14, 107)) rfl [.long (lI 0), .long (lI 1)]) rfl rfl hl.1 rfl (lv_room (Nat.le_of_ble_eq_true rfl)) (D_182 W_prog_15_method_86_code_0 10 rfl rfl rfl) ⟨Nat.le_of_ble_eq_true rfl, Nat.le_of_ble_eq_true rfl⟩) hS3 (fun q _ h => zAin X hS3 q h) (zAin X hS3) (fun u4 t4 H4 locs4 ht4 hv4 hw4 hB4 hz4 hk4 hS4 => ?_)
  have hZ4 := zBack X ht4 hB4
  refine lv_lconst (v := lI 0) hx hb (D_9 W_prog_15_method_86_code_0 13 rfl rfl) (by decide) ?_
  refine lv_lstore (lv' := [(4, .long (lI 0)), (0, .ref (ad 14 0 0)), (1, .ref (ad 13 l1 0)), (2, .int (iI l2)), (3, .int (iI l3))]) hx hb (D_55 W_prog_15_method_86_code_0 14 rfl rfl) hl (by decide) rfl (fun ls hl => ?_)
  refine lv_lconst (v := lI 1) hx hb (D_10 W_prog_15_method_86_code_0 16 rfl rfl) (by decide) ?_
  refine lv_lstore (lv' := [(6, .long (lI 1)), (4, .long (lI 0)), (0, .ref (ad 14 0 0)), (1, .ref (ad 13 l1 0)), (2, .int (iI l2)), (3, .int (iI l3))]) hx hb (D_55 W_prog_15_method_86_code_0 17 rfl rfl) hl (by decide) rfl (fun ls hl => ?_)
  refine lv_iconst (v := iI 0) hx hb (D_3 W_prog_15_method_86_code_0 19 rfl rfl) rfl ?_
  refine lv_istore (lv' := [(8, .int (iI 0)), (6, .long (lI 1)), (4, .long (lI 0)), (0, .ref (ad 14 0 0)), (1, .ref (ad 13 l1 0)), (2, .int (iI l2)), (3, .int (iI l3))]) hx hb (D_54 W_prog_15_method_86_code_0 20 rfl rfl) hl (by decide) rfl (fun ls hl => ?_)
  exact b_M_notes_22 X hf hZ4 hS4 (lv_sub hl [0, 1, 2, 3, 4, 5, 6] rfl)

abbrev Q_M_judge (D : va_G) (ca : Nat → ClassId) (ad : Nat → Int → Nat → Nat) (L : List Nat) (r : Int) (F : zF) (B : zB) (A : Nat → Prop) : Array Value → State → Outcome → State → Prop := va_Qv (S := Unit) (fun _ => True) (fun _ => zPo D ca ad lnM nM L F B A) A
def f_M_judge_325 (K : Nat)  (F : zF) (B : zB) : zO := some (0, F, B)
set_option maxHeartbeats 4000000 in
set_option maxRecDepth 100000 in
theorem b_M_judge_325 {D : va_G} {ca : Nat → ClassId} {ad : Nat → Int → Nat → Nat} {L : List Nat} {aS vS : Nat → Nat} {A : Nat → Prop} {p : Program} {l : Launch} {e : Env} {s : State} {m : MethodId} {args : Array Value} {below : List Frame} {meth : Method} {c : Code} {K : Nat} {r : Int} {F9 : zF} {B9 : zB} (X : zX D ca L aS vS A p s m args meth c prog_15_method_73_code 6 (Option.none : Option Jvm.ClassFile.FieldType) "StaveHouseModel")  {F : zF} {B : zB} {H : Heap} {locs : List Loc} {ls : Array Slot} (hf : f_M_judge_325 K  F B = some (r, F9, B9)) (hZ : zH D ca ad lnM nM L F B A H) (hS : va_S A s.heap H locs) (hl : lv_has ls 6 []) : W p l e ({ frames := 9, cells := 0, slots := 0, locals := 305 } : Room) s m args below meth c H locs 0 0 (MQ below (Q_M_judge D ca ad L r F9 B9 A) args s 0 0 A) (F0 m 325 ls []) := by
  obtain ⟨hx, hb, hr, hml, hown, hts, hlk, hK, hA, hL, hX⟩ := id X
  replace hf : (some (0, F, B)) = some (r, F9, B9) := hf
  cases hf
  exact W.vret hx hb hr (fun t ht hW => ⟨⟨(), rfl, trivial, by rw [ht]; exact hZ, va_K.moved hW.alike hK⟩, hS.F ht⟩) hS.2.2 (D_177 W_prog_15_method_73_code_320 5 rfl rfl) hlk

def f_M_judge_284 (K : Nat)  (F : zF) (B : zB) : zO := zbind (f_M_good K F B) (fun r62 F62 B62 => if r32 r62 then (if r62 = 0 then f_M_judge_325 K F62 B62 else if 0 ≤ (F62 14 0 6) ∧ (F62 14 0 6) < 3 then zbind (f_M_notes K (F62 14 0 6) (F62 14 0 35) 1 F62 B62) (fun r67 F67 B67 => if r32 r67 then (if r67 ≤ 800 then f_M_judge_325 K F67 B67 else if 0 ≤ (F67 14 0 35) ∧ (F67 14 0 35) < 4 then zbind (f_M_failAt K 14 (B67 14 0 28 (F67 14 0 35)) F67 B67) (fun r71 F71 B71 => f_M_judge_325 K F71 B71) else none) else none) else none) else none)
set_option maxHeartbeats 4000000 in
set_option maxRecDepth 100000 in
theorem b_M_judge_284 {D : va_G} {ca : Nat → ClassId} {ad : Nat → Int → Nat → Nat} {L : List Nat} {aS vS : Nat → Nat} {A : Nat → Prop} {p : Program} {l : Launch} {e : Env} {s : State} {m : MethodId} {args : Array Value} {below : List Frame} {meth : Method} {c : Code} {K : Nat} {r : Int} {F9 : zF} {B9 : zB} (X : zX D ca L aS vS A p s m args meth c prog_15_method_73_code 6 (Option.none : Option Jvm.ClassFile.FieldType) "StaveHouseModel")  {F : zF} {B : zB} {H : Heap} {locs : List Loc} {ls : Array Slot} (hf : f_M_judge_284 K  F B = some (r, F9, B9)) (hZ : zH D ca ad lnM nM L F B A H) (hS : va_S A s.heap H locs) (hl : lv_has ls 6 [(0, .ref (ad 14 0 0))]) : W p l e ({ frames := 9, cells := 0, slots := 0, locals := 305 } : Room) s m args below meth c H locs 0 0 (MQ below (Q_M_judge D ca ad L r F9 B9 A) args s 0 0 A) (F0 m 284 ls []) := by
  obtain ⟨hx, hb, hr, hml, hown, hts, hlk, hK, hA, hL, hX⟩ := id X
  replace hf : (zbind (f_M_good K F B) (fun r62 F62 B62 => if r32 r62 then (if r62 = 0 then f_M_judge_325 K F62 B62 else if 0 ≤ (F62 14 0 6) ∧ (F62 14 0 6) < 3 then zbind (f_M_notes K (F62 14 0 6) (F62 14 0 35) 1 F62 B62) (fun r67 F67 B67 => if r32 r67 then (if r67 ≤ 800 then f_M_judge_325 K F67 B67 else if 0 ≤ (F67 14 0 35) ∧ (F67 14 0 35) < 4 then zbind (f_M_failAt K 14 (B67 14 0 28 (F67 14 0 35)) F67 B67) (fun r71 F71 B71 => f_M_judge_325 K F71 B71) else none) else none) else none) else none)) = some (r, F9, B9) := hf
  refine lv_aload_n hx hb (D_42 W_prog_15_method_73_code_256 28 rfl rfl) rfl (lv_at hl 0 rfl) ?_
  obtain ⟨r62, F62, B62, hc62, hf⟩ := gbind hf
  refine va_calli (va_runV (As := []) (rest := []) ⟨hx, hb, hml, hown, hts⟩ (c_M_good (l := l) hc62) (cwV 0 hts (gdV k_13_15 k_13_17 ks_152 k_1_9 k_13_18) rfl rfl rfl (by decide +kernel) ⟨Nat.le_of_ble_eq_true rfl, Nat.le_of_ble_eq_true rfl⟩) (zPV X hZ hS (ci := 14) (by decide) (by decide) (r := (RX14, TX14, 107)) rfl []) rfl rfl hl.1 rfl (lv_room (Nat.le_of_ble_eq_true rfl)) (D_182 W_prog_15_method_73_code_256 29 rfl rfl rfl) ⟨Nat.le_of_ble_eq_true rfl, Nat.le_of_ble_eq_true rfl⟩) hS (fun q _ h => zAin X hS q h) (zAin X hS) (fun p62 u62 t62 H62 locs62 ht62 hv62 hw62 hB62 hz62 hk62 hS62 => ?_)
  have hZ62 := zBack X ht62 hB62
  subst hw62
  obtain ⟨g63, hf⟩ := gif hf
  refine z0eq (tgt := 325) hx hb g63 (D_153 W_prog_15_method_73_code_288 0 rfl rfl rfl) (by decide) (fun h65 => ?_) (fun h65 => ?_)
  · replace hf := gpos hf h65
    exact b_M_judge_325 X hf hZ62 hS62 (lv_sub hl [] rfl)
  · replace hf := gneg hf h65
    refine lv_aload_n hx hb (D_42 W_prog_15_method_73_code_288 3 rfl rfl) rfl (lv_at hl 0 rfl) ?_
    refine lv_aload_n hx hb (D_42 W_prog_15_method_73_code_288 4 rfl rfl) rfl (lv_at hl 0 rfl) ?_
    refine zget (ci := 14) (C := RX14) (T := TX14) (v := va_rf (zrf ad 13 (F62 14 0 6))) (k := 6) hx hb hts inW_14 hown hK hZ62 (by decide) (by decide) rfl (by decide) k_11_4 rfl (D_180 W_prog_15_method_73_code_288 5 rfl rfl rfl) ?_
    refine lv_aload_n hx hb (D_42 W_prog_15_method_73_code_288 8 rfl rfl) rfl (lv_at hl 0 rfl) ?_
    refine zget (ci := 14) (C := RX14) (T := TX14) (v := .int (iI (F62 14 0 35))) (k := 35) hx hb hts inW_14 hown hK hZ62 (by decide) (by decide) rfl (by decide) k_11_33 rfl (D_180 W_prog_15_method_73_code_288 9 rfl rfl rfl) ?_
    refine lv_iconst (v := iI 1) hx hb (D_4 W_prog_15_method_73_code_288 12 rfl rfl) rfl ?_
    obtain ⟨g66, hf⟩ := gif hf
    refine W.eq (g2 := F0 m 301 ls [.int (iI 1), .int (iI (F62 14 0 35)), .ref (ad 13 (F62 14 0 6) 0), .ref (ad 14 0 0)]) (by rw [zrf_pos (ad := ad) (t := 13) g66.1]; try rfl) ?_
    obtain ⟨r67, F67, B67, hc67, hf⟩ := gbind hf
    refine va_calli (va_runV (As := [.ref (ad 13 (F62 14 0 6) 0), .int (iI (F62 14 0 35)), .int (iI 1)]) (rest := []) ⟨hx, hb, hml, hown, hts⟩ (c_M_notes (l := l) hc67) (cwV 3 hts (gdV k_13_136 k_13_138 ks_175 k_1_9 k_13_139) rfl rfl rfl (by decide +kernel) ⟨Nat.le_of_ble_eq_true rfl, Nat.le_of_ble_eq_true rfl⟩) (zPV X hZ62 hS62 (ci := 14) (by decide) (by decide) (r := (RX14, TX14, 107)) rfl [.ref (ad 13 (F62 14 0 6) 0), .int (iI (F62 14 0 35)), .int (iI 1)]) rfl rfl hl.1 rfl (lv_room (Nat.le_of_ble_eq_true rfl)) (D_182 W_prog_15_method_73_code_288 13 rfl rfl rfl) ⟨Nat.le_of_ble_eq_true rfl, Nat.le_of_ble_eq_true rfl⟩) hS62 (fun q _ h => zAin X hS62 q h) (zAin X hS62) (fun p67 u67 t67 H67 locs67 ht67 hv67 hw67 hB67 hz67 hk67 hS67 => ?_)
    have hZ67 := zBack X ht67 hB67
    subst hw67
    refine lv_sipush (v := iI 800) hx hb (D_17 W_prog_15_method_73_code_288 16 rfl rfl rfl) (by decide) ?_
    obtain ⟨g68, hf⟩ := gif hf
    refine zle (tgt := 325) hx hb g68 (by decide) (D_164 W_prog_15_method_73_code_288 19 rfl rfl rfl) (by decide) (fun h69 => ?_) (fun h69 => ?_)
    · replace hf := gpos hf h69
      exact b_M_judge_325 X hf hZ67 hS67 (lv_sub hl [] rfl)
    · replace hf := gneg hf h69
      refine lv_aload_n hx hb (D_42 W_prog_15_method_73_code_288 22 rfl rfl) rfl (lv_at hl 0 rfl) ?_
      refine lv_bipush (v := iI 14) hx hb (D_16 W_prog_15_method_73_code_288 23 rfl rfl rfl) (by decide) ?_
      refine lv_aload_n hx hb (D_42 W_prog_15_method_73_code_288 25 rfl rfl) rfl (lv_at hl 0 rfl) ?_
      refine zget (ci := 14) (C := RX14) (T := TX14) (v := .ref (ad 14 0 (28 + 1))) (k := 28) hx hb hts inW_14 hown hK hZ67 (by decide) (by decide) rfl (by decide) k_11_26 rfl (D_180 W_prog_15_method_73_code_288 26 rfl rfl rfl) ?_
      refine lv_aload_n hx hb (D_42 W_prog_15_method_73_code_288 29 rfl rfl) rfl (lv_at hl 0 rfl) ?_
      refine zget (ci := 14) (C := RX14) (T := TX14) (v := .int (iI (F67 14 0 35))) (k := 35) hx hb hts inW_14 hown hK hZ67 (by decide) (by decide) rfl (by decide) k_11_33 rfl (D_180 W_prog_15_method_73_code_288 30 rfl rfl rfl) ?_
      obtain ⟨g70, hf⟩ := gif hf
      refine zald (ci := 14) (k := 28) hx hb hK rfl hZ67 (by decide) (by decide) rfl (Nat.le_of_ble_eq_true rfl) g70.1 g70.2 (D_46 W_prog_15_method_73_code_320 1 rfl rfl) ?_
      obtain ⟨r71, F71, B71, hc71, hf⟩ := gbind hf
      refine va_callv (va_runV (As := [.int (iI 14), .int (iI (B67 14 0 28 (F67 14 0 35)))]) (rest := []) ⟨hx, hb, hml, hown, hts⟩ (c_M_failAt (l := l) hc71) (cwV 2 hts (gdV k_14_132 k_14_134 ks_205 k_1_9 k_14_135) rfl rfl rfl (by decide +kernel) ⟨Nat.le_of_ble_eq_true rfl, Nat.le_of_ble_eq_true rfl⟩) (zPV X hZ67 hS67 (ci := 14) (by decide) (by decide) (r := (RX14, TX14, 107)) rfl [.int (iI 14), .int (iI (B67 14 0 28 (F67 14 0 35)))]) rfl rfl hl.1 rfl (lv_room (Nat.le_of_ble_eq_true rfl)) (D_182 W_prog_15_method_73_code_320 2 rfl rfl rfl) ⟨Nat.le_of_ble_eq_true rfl, Nat.le_of_ble_eq_true rfl⟩) hS67 (fun q _ h => zAin X hS67 q h) (zAin X hS67) (fun u71 t71 H71 locs71 ht71 hv71 hw71 hB71 hz71 hk71 hS71 => ?_)
      have hZ71 := zBack X ht71 hB71
      exact b_M_judge_325 X hf hZ71 hS71 (lv_sub hl [] rfl)

def f_M_judge_265 (K : Nat) (l2 : Int) (F : zF) (B : zB) : zO := if r32 l2 then (if l2 = 0 then f_M_judge_284 K F B else if 0 ≤ (F 14 0 35) ∧ (F 14 0 35) < 4 then zbind (f_M_failAt K 11 (B 14 0 28 (F 14 0 35)) F B) (fun r61 F61 B61 => f_M_judge_284 K F61 B61) else none) else none
set_option maxHeartbeats 4000000 in
set_option maxRecDepth 100000 in
theorem b_M_judge_265 {D : va_G} {ca : Nat → ClassId} {ad : Nat → Int → Nat → Nat} {L : List Nat} {aS vS : Nat → Nat} {A : Nat → Prop} {p : Program} {l : Launch} {e : Env} {s : State} {m : MethodId} {args : Array Value} {below : List Frame} {meth : Method} {c : Code} {K : Nat} {r : Int} {F9 : zF} {B9 : zB} (X : zX D ca L aS vS A p s m args meth c prog_15_method_73_code 6 (Option.none : Option Jvm.ClassFile.FieldType) "StaveHouseModel") {l2 : Int} {F : zF} {B : zB} {H : Heap} {locs : List Loc} {ls : Array Slot} (hf : f_M_judge_265 K l2 F B = some (r, F9, B9)) (hZ : zH D ca ad lnM nM L F B A H) (hS : va_S A s.heap H locs) (hl : lv_has ls 6 [(2, .int (iI l2)), (0, .ref (ad 14 0 0))]) : W p l e ({ frames := 9, cells := 0, slots := 0, locals := 305 } : Room) s m args below meth c H locs 0 0 (MQ below (Q_M_judge D ca ad L r F9 B9 A) args s 0 0 A) (F0 m 265 ls []) := by
  obtain ⟨hx, hb, hr, hml, hown, hts, hlk, hK, hA, hL, hX⟩ := id X
  replace hf : (if r32 l2 then (if l2 = 0 then f_M_judge_284 K F B else if 0 ≤ (F 14 0 35) ∧ (F 14 0 35) < 4 then zbind (f_M_failAt K 11 (B 14 0 28 (F 14 0 35)) F B) (fun r61 F61 B61 => f_M_judge_284 K F61 B61) else none) else none) = some (r, F9, B9) := hf
  refine lv_iload_n hx hb (D_28 W_prog_15_method_73_code_256 9 rfl rfl) rfl (lv_at hl 0 rfl) ?_
  obtain ⟨g58, hf⟩ := gif hf
  refine z0eq (tgt := 284) hx hb g58 (D_153 W_prog_15_method_73_code_256 10 rfl rfl rfl) (by decide) (fun h59 => ?_) (fun h59 => ?_)
  · replace hf := gpos hf h59
    exact b_M_judge_284 X hf hZ hS (lv_sub hl [1] rfl)
  · replace hf := gneg hf h59
    refine lv_aload_n hx hb (D_42 W_prog_15_method_73_code_256 13 rfl rfl) rfl (lv_at hl 1 rfl) ?_
    refine lv_bipush (v := iI 11) hx hb (D_16 W_prog_15_method_73_code_256 14 rfl rfl rfl) (by decide) ?_
    refine lv_aload_n hx hb (D_42 W_prog_15_method_73_code_256 16 rfl rfl) rfl (lv_at hl 1 rfl) ?_
    refine zget (ci := 14) (C := RX14) (T := TX14) (v := .ref (ad 14 0 (28 + 1))) (k := 28) hx hb hts inW_14 hown hK hZ (by decide) (by decide) rfl (by decide) k_11_26 rfl (D_180 W_prog_15_method_73_code_256 17 rfl rfl rfl) ?_
    refine lv_aload_n hx hb (D_42 W_prog_15_method_73_code_256 20 rfl rfl) rfl (lv_at hl 1 rfl) ?_
    refine zget (ci := 14) (C := RX14) (T := TX14) (v := .int (iI (F 14 0 35))) (k := 35) hx hb hts inW_14 hown hK hZ (by decide) (by decide) rfl (by decide) k_11_33 rfl (D_180 W_prog_15_method_73_code_256 21 rfl rfl rfl) ?_
    obtain ⟨g60, hf⟩ := gif hf
    refine zald (ci := 14) (k := 28) hx hb hK rfl hZ (by decide) (by decide) rfl (Nat.le_of_ble_eq_true rfl) g60.1 g60.2 (D_46 W_prog_15_method_73_code_256 24 rfl rfl) ?_
    obtain ⟨r61, F61, B61, hc61, hf⟩ := gbind hf
    refine va_callv (va_runV (As := [.int (iI 11), .int (iI (B 14 0 28 (F 14 0 35)))]) (rest := []) ⟨hx, hb, hml, hown, hts⟩ (c_M_failAt (l := l) hc61) (cwV 2 hts (gdV k_14_132 k_14_134 ks_205 k_1_9 k_14_135) rfl rfl rfl (by decide +kernel) ⟨Nat.le_of_ble_eq_true rfl, Nat.le_of_ble_eq_true rfl⟩) (zPV X hZ hS (ci := 14) (by decide) (by decide) (r := (RX14, TX14, 107)) rfl [.int (iI 11), .int (iI (B 14 0 28 (F 14 0 35)))]) rfl rfl hl.1 rfl (lv_room (Nat.le_of_ble_eq_true rfl)) (D_182 W_prog_15_method_73_code_256 25 rfl rfl rfl) ⟨Nat.le_of_ble_eq_true rfl, Nat.le_of_ble_eq_true rfl⟩) hS (fun q _ h => zAin X hS q h) (zAin X hS) (fun u61 t61 H61 locs61 ht61 hv61 hw61 hB61 hz61 hk61 hS61 => ?_)
    have hZ61 := zBack X ht61 hB61
    exact b_M_judge_284 X hf hZ61 hS61 (lv_sub hl [1] rfl)

def f_M_judge_248 (rec48 : Int → Int → Int → zF → zB → zO) (K : Nat) (l4 : Int) (l3 : Int) (l2 : Int) (l1 : Int) (F : zF) (B : zB) : zO := if 0 ≤ (F 14 0 6) ∧ (F 14 0 6) < 3 then if 0 ≤ l4 ∧ l4 < 4000 then if (l2 = 0 ∨ l2 = 1) then rec48 (l3 + 1) l2 l1 F (zup4 B 13 (F 14 0 6) 27 l4 l2) else none else none else none
set_option maxHeartbeats 4000000 in
set_option maxRecDepth 100000 in
theorem b_M_judge_248 {D : va_G} {ca : Nat → ClassId} {ad : Nat → Int → Nat → Nat} {L : List Nat} {aS vS : Nat → Nat} {A : Nat → Prop} {p : Program} {l : Launch} {e : Env} {s : State} {m : MethodId} {args : Array Value} {below : List Frame} {meth : Method} {c : Code} {K : Nat} {r : Int} {F9 : zF} {B9 : zB} (X : zX D ca L aS vS A p s m args meth c prog_15_method_73_code 6 (Option.none : Option Jvm.ClassFile.FieldType) "StaveHouseModel") {rec48 : Int → Int → Int → zF → zB → zO} (hrec48 : ∀ {l3 : Int} {l2 : Int} {l1 : Int} {F : zF} {B : zB} {H : Heap} {locs : List Loc} {ls : Array Slot}, rec48 l3 l2 l1 F B = some (r, F9, B9) → zH D ca ad lnM nM L F B A H → va_S A s.heap H locs → lv_has ls 6 [(3, .int (iI l3)), (2, .int (iI l2)), (1, .int (iI l1)), (0, .ref (ad 14 0 0))] → W p l e ({ frames := 9, cells := 0, slots := 0, locals := 305 } : Room) s m args below meth c H locs 0 0 (MQ below (Q_M_judge D ca ad L r F9 B9 A) args s 0 0 A) (F0 m 48 ls [])) {l4 : Int} {l3 : Int} {l2 : Int} {l1 : Int} {F : zF} {B : zB} {H : Heap} {locs : List Loc} {ls : Array Slot} (hf : f_M_judge_248 rec48 K l4 l3 l2 l1 F B = some (r, F9, B9)) (hZ : zH D ca ad lnM nM L F B A H) (hS : va_S A s.heap H locs) (hl : lv_has ls 6 [(4, .int (iI l4)), (3, .int (iI l3)), (2, .int (iI l2)), (1, .int (iI l1)), (0, .ref (ad 14 0 0))]) : W p l e ({ frames := 9, cells := 0, slots := 0, locals := 305 } : Room) s m args below meth c H locs 0 0 (MQ below (Q_M_judge D ca ad L r F9 B9 A) args s 0 0 A) (F0 m 248 ls []) := by
  obtain ⟨hx, hb, hr, hml, hown, hts, hlk, hK, hA, hL, hX⟩ := id X
  replace hf : (if 0 ≤ (F 14 0 6) ∧ (F 14 0 6) < 3 then if 0 ≤ l4 ∧ l4 < 4000 then if (l2 = 0 ∨ l2 = 1) then rec48 (l3 + 1) l2 l1 F (zup4 B 13 (F 14 0 6) 27 l4 l2) else none else none else none) = some (r, F9, B9) := hf
  refine lv_aload_n hx hb (D_42 W_prog_15_method_73_code_224 24 rfl rfl) rfl (lv_at hl 4 rfl) ?_
  refine zget (ci := 14) (C := RX14) (T := TX14) (v := va_rf (zrf ad 13 (F 14 0 6))) (k := 6) hx hb hts inW_14 hown hK hZ (by decide) (by decide) rfl (by decide) k_11_4 rfl (D_180 W_prog_15_method_73_code_224 25 rfl rfl rfl) ?_
  obtain ⟨g54, hf⟩ := gif hf
  refine zunrf g54.1 ?_
  refine zget (ci := 13) (C := RX13) (T := TX13) (v := .ref (ad 13 (F 14 0 6) (27 + 1))) (k := 27) hx hb hts inW_13 hown hK hZ g54.1 g54.2 rfl (by decide) k_9_172 rfl (D_180 W_prog_15_method_73_code_224 28 rfl rfl rfl) ?_
  refine lv_iload hx hb (D_21 W_prog_15_method_73_code_224 31 rfl rfl) (lv_at hl 0 rfl) ?_
  refine lv_iload_n hx hb (D_28 W_prog_15_method_73_code_256 1 rfl rfl) rfl (lv_at hl 2 rfl) ?_
  obtain ⟨g55, hf⟩ := gif hf
  obtain ⟨g57, hf⟩ := gif hf
  refine zzast (ci := 13) (k := 27) hx hb hK rfl hZ hS g54.1 g54.2 rfl (Nat.le_of_ble_eq_true rfl) g57 g55.1 g55.2 (D_84 W_prog_15_method_73_code_256 2 rfl rfl) (fun H56 locs56 hZ56 hS56 => ?_)
  refine lv_iinc (v := iI (l3 + 1)) (lv' := [(3, .int (iI (l3 + 1))), (4, .int (iI l4)), (2, .int (iI l2)), (1, .int (iI l1)), (0, .ref (ad 14 0 0))]) hx hb d_15_73_259 hl (k := 1) rfl (iI_add _ 1) (by decide) rfl (fun ls hl => ?_)
  refine lv_goto (tgt := 48) hx hb (D_167 W_prog_15_method_73_code_256 6 rfl rfl rfl) (by decide) ?_
  exact hrec48 hf hZ56 hS56 (lv_sub hl [0, 2, 3, 4] rfl)

def f_M_judge_239 (rec48 : Int → Int → Int → zF → zB → zO) (K : Nat) (l5 : Int) (l4 : Int) (l3 : Int) (l2 : Int) (l1 : Int) (F : zF) (B : zB) : zO := if r32 (zand l5 2) then (if (zand l5 2) ≤ 0 then f_M_judge_248 rec48 K l4 l3 l2 l1 F B else f_M_judge_248 rec48 K l4 l3 1 l1 F B) else none
set_option maxHeartbeats 4000000 in
set_option maxRecDepth 100000 in
theorem b_M_judge_239 {D : va_G} {ca : Nat → ClassId} {ad : Nat → Int → Nat → Nat} {L : List Nat} {aS vS : Nat → Nat} {A : Nat → Prop} {p : Program} {l : Launch} {e : Env} {s : State} {m : MethodId} {args : Array Value} {below : List Frame} {meth : Method} {c : Code} {K : Nat} {r : Int} {F9 : zF} {B9 : zB} (X : zX D ca L aS vS A p s m args meth c prog_15_method_73_code 6 (Option.none : Option Jvm.ClassFile.FieldType) "StaveHouseModel") {rec48 : Int → Int → Int → zF → zB → zO} (hrec48 : ∀ {l3 : Int} {l2 : Int} {l1 : Int} {F : zF} {B : zB} {H : Heap} {locs : List Loc} {ls : Array Slot}, rec48 l3 l2 l1 F B = some (r, F9, B9) → zH D ca ad lnM nM L F B A H → va_S A s.heap H locs → lv_has ls 6 [(3, .int (iI l3)), (2, .int (iI l2)), (1, .int (iI l1)), (0, .ref (ad 14 0 0))] → W p l e ({ frames := 9, cells := 0, slots := 0, locals := 305 } : Room) s m args below meth c H locs 0 0 (MQ below (Q_M_judge D ca ad L r F9 B9 A) args s 0 0 A) (F0 m 48 ls [])) {l5 : Int} {l4 : Int} {l3 : Int} {l2 : Int} {l1 : Int} {F : zF} {B : zB} {H : Heap} {locs : List Loc} {ls : Array Slot} (hf : f_M_judge_239 rec48 K l5 l4 l3 l2 l1 F B = some (r, F9, B9)) (hZ : zH D ca ad lnM nM L F B A H) (hS : va_S A s.heap H locs) (hl : lv_has ls 6 [(5, .int (iI l5)), (4, .int (iI l4)), (3, .int (iI l3)), (2, .int (iI l2)), (1, .int (iI l1)), (0, .ref (ad 14 0 0))]) : W p l e ({ frames := 9, cells := 0, slots := 0, locals := 305 } : Room) s m args below meth c H locs 0 0 (MQ below (Q_M_judge D ca ad L r F9 B9 A) args s 0 0 A) (F0 m 239 ls []) := by
  obtain ⟨hx, hb, hr, hml, hown, hts, hlk, hK, hA, hL, hX⟩ := id X
  replace hf : (if r32 (zand l5 2) then (if (zand l5 2) ≤ 0 then f_M_judge_248 rec48 K l4 l3 l2 l1 F B else f_M_judge_248 rec48 K l4 l3 1 l1 F B) else none) = some (r, F9, B9) := hf
  refine lv_iload hx hb (D_21 W_prog_15_method_73_code_224 15 rfl rfl) (lv_at hl 0 rfl) ?_
  refine lv_iconst (v := iI 2) hx hb (D_5 W_prog_15_method_73_code_224 17 rfl rfl) rfl ?_
  refine zand_r hx hb (D_126 W_prog_15_method_73_code_224 18 rfl rfl) ?_
  obtain ⟨g52, hf⟩ := gif hf
  refine z0le (tgt := 248) hx hb g52 (D_158 W_prog_15_method_73_code_224 19 rfl rfl rfl) (by decide) (fun h53 => ?_) (fun h53 => ?_)
  · replace hf := gpos hf h53
    exact b_M_judge_248 X hrec48 hf hZ hS (lv_sub hl [1, 2, 3, 4, 5] rfl)
  · replace hf := gneg hf h53
    refine lv_iconst (v := iI 1) hx hb (D_4 W_prog_15_method_73_code_224 22 rfl rfl) rfl ?_
    refine lv_istore_n (lv' := [(2, .int (iI 1)), (5, .int (iI l5)), (4, .int (iI l4)), (3, .int (iI l3)), (1, .int (iI l1)), (0, .ref (ad 14 0 0))]) hx hb (D_61 W_prog_15_method_73_code_224 23 rfl rfl) rfl hl (by decide) rfl (fun ls hl => ?_)
    exact b_M_judge_248 X hrec48 hf hZ hS (lv_sub hl [2, 3, 0, 4, 5] rfl)

def f_M_judge_212 (rec48 : Int → Int → Int → zF → zB → zO) (K : Nat) (l5 : Int) (l4 : Int) (l3 : Int) (l2 : Int) (l1 : Int) (F : zF) (B : zB) : zO := if r32 (zand l5 2) then (if (zand l5 2) ≤ 0 then f_M_judge_239 rec48 K l5 l4 l3 l2 l1 F B else if r32 l2 then (if l2 = 0 then f_M_judge_239 rec48 K l5 l4 l3 l2 l1 F B else if 0 ≤ (F 14 0 6) ∧ (F 14 0 6) < 3 then if 0 ≤ l4 ∧ l4 < 4000 then zbind (f_M_failAt K 11 (B 13 (F 14 0 6) 20 l4) F B) (fun r51 F51 B51 => f_M_judge_239 rec48 K l5 l4 l3 l2 l1 F51 B51) else none else none) else none) else none
set_option maxHeartbeats 4000000 in
set_option maxRecDepth 100000 in
theorem b_M_judge_212 {D : va_G} {ca : Nat → ClassId} {ad : Nat → Int → Nat → Nat} {L : List Nat} {aS vS : Nat → Nat} {A : Nat → Prop} {p : Program} {l : Launch} {e : Env} {s : State} {m : MethodId} {args : Array Value} {below : List Frame} {meth : Method} {c : Code} {K : Nat} {r : Int} {F9 : zF} {B9 : zB} (X : zX D ca L aS vS A p s m args meth c prog_15_method_73_code 6 (Option.none : Option Jvm.ClassFile.FieldType) "StaveHouseModel") {rec48 : Int → Int → Int → zF → zB → zO} (hrec48 : ∀ {l3 : Int} {l2 : Int} {l1 : Int} {F : zF} {B : zB} {H : Heap} {locs : List Loc} {ls : Array Slot}, rec48 l3 l2 l1 F B = some (r, F9, B9) → zH D ca ad lnM nM L F B A H → va_S A s.heap H locs → lv_has ls 6 [(3, .int (iI l3)), (2, .int (iI l2)), (1, .int (iI l1)), (0, .ref (ad 14 0 0))] → W p l e ({ frames := 9, cells := 0, slots := 0, locals := 305 } : Room) s m args below meth c H locs 0 0 (MQ below (Q_M_judge D ca ad L r F9 B9 A) args s 0 0 A) (F0 m 48 ls [])) {l5 : Int} {l4 : Int} {l3 : Int} {l2 : Int} {l1 : Int} {F : zF} {B : zB} {H : Heap} {locs : List Loc} {ls : Array Slot} (hf : f_M_judge_212 rec48 K l5 l4 l3 l2 l1 F B = some (r, F9, B9)) (hZ : zH D ca ad lnM nM L F B A H) (hS : va_S A s.heap H locs) (hl : lv_has ls 6 [(5, .int (iI l5)), (4, .int (iI l4)), (3, .int (iI l3)), (2, .int (iI l2)), (1, .int (iI l1)), (0, .ref (ad 14 0 0))]) : W p l e ({ frames := 9, cells := 0, slots := 0, locals := 305 } : Room) s m args below meth c H locs 0 0 (MQ below (Q_M_judge D ca ad L r F9 B9 A) args s 0 0 A) (F0 m 212 ls []) := by
  obtain ⟨hx, hb, hr, hml, hown, hts, hlk, hK, hA, hL, hX⟩ := id X
  replace hf : (if r32 (zand l5 2) then (if (zand l5 2) ≤ 0 then f_M_judge_239 rec48 K l5 l4 l3 l2 l1 F B else if r32 l2 then (if l2 = 0 then f_M_judge_239 rec48 K l5 l4 l3 l2 l1 F B else if 0 ≤ (F 14 0 6) ∧ (F 14 0 6) < 3 then if 0 ≤ l4 ∧ l4 < 4000 then zbind (f_M_failAt K 11 (B 13 (F 14 0 6) 20 l4) F B) (fun r51 F51 B51 => f_M_judge_239 rec48 K l5 l4 l3 l2 l1 F51 B51) else none else none) else none) else none) = some (r, F9, B9) := hf
  refine lv_iload hx hb (D_21 W_prog_15_method_73_code_192 20 rfl rfl) (lv_at hl 0 rfl) ?_
  refine lv_iconst (v := iI 2) hx hb (D_5 W_prog_15_method_73_code_192 22 rfl rfl) rfl ?_
  refine zand_r hx hb (D_126 W_prog_15_method_73_code_192 23 rfl rfl) ?_
  obtain ⟨g45, hf⟩ := gif hf
  refine z0le (tgt := 239) hx hb g45 (D_158 W_prog_15_method_73_code_192 24 rfl rfl rfl) (by decide) (fun h46 => ?_) (fun h46 => ?_)
  · replace hf := gpos hf h46
    exact b_M_judge_239 X hrec48 hf hZ hS (lv_sub hl [0, 1, 2, 3, 4, 5] rfl)
  · replace hf := gneg hf h46
    refine lv_iload_n hx hb (D_28 W_prog_15_method_73_code_192 27 rfl rfl) rfl (lv_at hl 3 rfl) ?_
    obtain ⟨g47, hf⟩ := gif hf
    refine z0eq (tgt := 239) hx hb g47 (D_153 W_prog_15_method_73_code_192 28 rfl rfl rfl) (by decide) (fun h48 => ?_) (fun h48 => ?_)
    · replace hf := gpos hf h48
      exact b_M_judge_239 X hrec48 hf hZ hS (lv_sub hl [0, 1, 2, 3, 4, 5] rfl)
    · replace hf := gneg hf h48
      refine lv_aload_n hx hb (D_42 W_prog_15_method_73_code_192 31 rfl rfl) rfl (lv_at hl 5 rfl) ?_
      refine lv_bipush (v := iI 11) hx hb (D_16 W_prog_15_method_73_code_224 0 rfl rfl rfl) (by decide) ?_
      refine lv_aload_n hx hb (D_42 W_prog_15_method_73_code_224 2 rfl rfl) rfl (lv_at hl 5 rfl) ?_
      refine zget (ci := 14) (C := RX14) (T := TX14) (v := va_rf (zrf ad 13 (F 14 0 6))) (k := 6) hx hb hts inW_14 hown hK hZ (by decide) (by decide) rfl (by decide) k_11_4 rfl (D_180 W_prog_15_method_73_code_224 3 rfl rfl rfl) ?_
      obtain ⟨g49, hf⟩ := gif hf
      refine zunrf g49.1 ?_
      refine zget (ci := 13) (C := RX13) (T := TX13) (v := .ref (ad 13 (F 14 0 6) (20 + 1))) (k := 20) hx hb hts inW_13 hown hK hZ g49.1 g49.2 rfl (by decide) k_9_158 rfl (D_180 W_prog_15_method_73_code_224 6 rfl rfl rfl) ?_
      refine lv_iload hx hb (D_21 W_prog_15_method_73_code_224 9 rfl rfl) (lv_at hl 1 rfl) ?_
      obtain ⟨g50, hf⟩ := gif hf
      refine zald (ci := 13) (k := 20) hx hb hK rfl hZ g49.1 g49.2 rfl (Nat.le_of_ble_eq_true rfl) g50.1 g50.2 (D_46 W_prog_15_method_73_code_224 11 rfl rfl) ?_
      obtain ⟨r51, F51, B51, hc51, hf⟩ := gbind hf
      refine va_callv (va_runV (As := [.int (iI 11), .int (iI (B 13 (F 14 0 6) 20 l4))]) (rest := []) ⟨hx, hb, hml, hown, hts⟩ (c_M_failAt (l := l) hc51) (cwV 2 hts (gdV k_14_132 k_14_134 ks_205 k_1_9 k_14_135) rfl rfl rfl (by decide +kernel) ⟨Nat.le_of_ble_eq_true rfl, Nat.le_of_ble_eq_true rfl⟩) (zPV X hZ hS (ci := 14) (by decide) (by decide) (r := (RX14, TX14, 107)) rfl [.int (iI 11), .int (iI (B 13 (F 14 0 6) 20 l4))]) rfl rfl hl.1 rfl (lv_room (Nat.le_of_ble_eq_true rfl)) (D_182 W_prog_15_method_73_code_224 12 rfl rfl rfl) ⟨Nat.le_of_ble_eq_true rfl, Nat.le_of_ble_eq_true rfl⟩) hS (fun q _ h => zAin X hS q h) (zAin X hS) (fun u51 t51 H51 locs51 ht51 hv51 hw51 hB51 hz51 hk51 hS51 => ?_)
      have hZ51 := zBack X ht51 hB51
      exact b_M_judge_239 X hrec48 hf hZ51 hS51 (lv_sub hl [0, 1, 2, 3, 4, 5] rfl)

def f_M_judge_203 (rec48 : Int → Int → Int → zF → zB → zO) (K : Nat) (l5 : Int) (l4 : Int) (l3 : Int) (l2 : Int) (l1 : Int) (F : zF) (B : zB) : zO := if r32 (zand l5 4) then (if (zand l5 4) ≤ 0 then f_M_judge_212 rec48 K l5 l4 l3 l2 l1 F B else f_M_judge_212 rec48 K l5 l4 l3 0 l1 F B) else none
set_option maxHeartbeats 4000000 in
set_option maxRecDepth 100000 in
theorem b_M_judge_203 {D : va_G} {ca : Nat → ClassId} {ad : Nat → Int → Nat → Nat} {L : List Nat} {aS vS : Nat → Nat} {A : Nat → Prop} {p : Program} {l : Launch} {e : Env} {s : State} {m : MethodId} {args : Array Value} {below : List Frame} {meth : Method} {c : Code} {K : Nat} {r : Int} {F9 : zF} {B9 : zB} (X : zX D ca L aS vS A p s m args meth c prog_15_method_73_code 6 (Option.none : Option Jvm.ClassFile.FieldType) "StaveHouseModel") {rec48 : Int → Int → Int → zF → zB → zO} (hrec48 : ∀ {l3 : Int} {l2 : Int} {l1 : Int} {F : zF} {B : zB} {H : Heap} {locs : List Loc} {ls : Array Slot}, rec48 l3 l2 l1 F B = some (r, F9, B9) → zH D ca ad lnM nM L F B A H → va_S A s.heap H locs → lv_has ls 6 [(3, .int (iI l3)), (2, .int (iI l2)), (1, .int (iI l1)), (0, .ref (ad 14 0 0))] → W p l e ({ frames := 9, cells := 0, slots := 0, locals := 305 } : Room) s m args below meth c H locs 0 0 (MQ below (Q_M_judge D ca ad L r F9 B9 A) args s 0 0 A) (F0 m 48 ls [])) {l5 : Int} {l4 : Int} {l3 : Int} {l2 : Int} {l1 : Int} {F : zF} {B : zB} {H : Heap} {locs : List Loc} {ls : Array Slot} (hf : f_M_judge_203 rec48 K l5 l4 l3 l2 l1 F B = some (r, F9, B9)) (hZ : zH D ca ad lnM nM L F B A H) (hS : va_S A s.heap H locs) (hl : lv_has ls 6 [(5, .int (iI l5)), (4, .int (iI l4)), (3, .int (iI l3)), (2, .int (iI l2)), (1, .int (iI l1)), (0, .ref (ad 14 0 0))]) : W p l e ({ frames := 9, cells := 0, slots := 0, locals := 305 } : Room) s m args below meth c H locs 0 0 (MQ below (Q_M_judge D ca ad L r F9 B9 A) args s 0 0 A) (F0 m 203 ls []) := by
  obtain ⟨hx, hb, hr, hml, hown, hts, hlk, hK, hA, hL, hX⟩ := id X
  replace hf : (if r32 (zand l5 4) then (if (zand l5 4) ≤ 0 then f_M_judge_212 rec48 K l5 l4 l3 l2 l1 F B else f_M_judge_212 rec48 K l5 l4 l3 0 l1 F B) else none) = some (r, F9, B9) := hf
  refine lv_iload hx hb (D_21 W_prog_15_method_73_code_192 11 rfl rfl) (lv_at hl 0 rfl) ?_
  refine lv_iconst (v := iI 4) hx hb (D_7 W_prog_15_method_73_code_192 13 rfl rfl) rfl ?_
  refine zand_r hx hb (D_126 W_prog_15_method_73_code_192 14 rfl rfl) ?_
  obtain ⟨g43, hf⟩ := gif hf
  refine z0le (tgt := 212) hx hb g43 (D_158 W_prog_15_method_73_code_192 15 rfl rfl rfl) (by decide) (fun h44 => ?_) (fun h44 => ?_)
  · replace hf := gpos hf h44
    exact b_M_judge_212 X hrec48 hf hZ hS (lv_sub hl [0, 1, 2, 3, 4, 5] rfl)
  · replace hf := gneg hf h44
    refine lv_iconst (v := iI 0) hx hb (D_3 W_prog_15_method_73_code_192 18 rfl rfl) rfl ?_
    refine lv_istore_n (lv' := [(2, .int (iI 0)), (5, .int (iI l5)), (4, .int (iI l4)), (3, .int (iI l3)), (1, .int (iI l1)), (0, .ref (ad 14 0 0))]) hx hb (D_61 W_prog_15_method_73_code_192 19 rfl rfl) rfl hl (by decide) rfl (fun ls hl => ?_)
    exact b_M_judge_212 X hrec48 hf hZ hS (lv_sub hl [1, 2, 3, 0, 4, 5] rfl)

def f_M_judge_176 (rec48 : Int → Int → Int → zF → zB → zO) (K : Nat) (l5 : Int) (l4 : Int) (l3 : Int) (l2 : Int) (l1 : Int) (F : zF) (B : zB) : zO := if r32 (zand l5 4) then (if (zand l5 4) ≤ 0 then f_M_judge_203 rec48 K l5 l4 l3 l2 l1 F B else if r32 l2 then (if l2 = 0 then if 0 ≤ (F 14 0 6) ∧ (F 14 0 6) < 3 then if 0 ≤ l4 ∧ l4 < 4000 then zbind (f_M_failAt K 11 (B 13 (F 14 0 6) 20 l4) F B) (fun r42 F42 B42 => f_M_judge_203 rec48 K l5 l4 l3 l2 l1 F42 B42) else none else none else f_M_judge_203 rec48 K l5 l4 l3 l2 l1 F B) else none) else none
set_option maxHeartbeats 4000000 in
set_option maxRecDepth 100000 in
theorem b_M_judge_176 {D : va_G} {ca : Nat → ClassId} {ad : Nat → Int → Nat → Nat} {L : List Nat} {aS vS : Nat → Nat} {A : Nat → Prop} {p : Program} {l : Launch} {e : Env} {s : State} {m : MethodId} {args : Array Value} {below : List Frame} {meth : Method} {c : Code} {K : Nat} {r : Int} {F9 : zF} {B9 : zB} (X : zX D ca L aS vS A p s m args meth c prog_15_method_73_code 6 (Option.none : Option Jvm.ClassFile.FieldType) "StaveHouseModel") {rec48 : Int → Int → Int → zF → zB → zO} (hrec48 : ∀ {l3 : Int} {l2 : Int} {l1 : Int} {F : zF} {B : zB} {H : Heap} {locs : List Loc} {ls : Array Slot}, rec48 l3 l2 l1 F B = some (r, F9, B9) → zH D ca ad lnM nM L F B A H → va_S A s.heap H locs → lv_has ls 6 [(3, .int (iI l3)), (2, .int (iI l2)), (1, .int (iI l1)), (0, .ref (ad 14 0 0))] → W p l e ({ frames := 9, cells := 0, slots := 0, locals := 305 } : Room) s m args below meth c H locs 0 0 (MQ below (Q_M_judge D ca ad L r F9 B9 A) args s 0 0 A) (F0 m 48 ls [])) {l5 : Int} {l4 : Int} {l3 : Int} {l2 : Int} {l1 : Int} {F : zF} {B : zB} {H : Heap} {locs : List Loc} {ls : Array Slot} (hf : f_M_judge_176 rec48 K l5 l4 l3 l2 l1 F B = some (r, F9, B9)) (hZ : zH D ca ad lnM nM L F B A H) (hS : va_S A s.heap H locs) (hl : lv_has ls 6 [(5, .int (iI l5)), (4, .int (iI l4)), (3, .int (iI l3)), (2, .int (iI l2)), (1, .int (iI l1)), (0, .ref (ad 14 0 0))]) : W p l e ({ frames := 9, cells := 0, slots := 0, locals := 305 } : Room) s m args below meth c H locs 0 0 (MQ below (Q_M_judge D ca ad L r F9 B9 A) args s 0 0 A) (F0 m 176 ls []) := by
  obtain ⟨hx, hb, hr, hml, hown, hts, hlk, hK, hA, hL, hX⟩ := id X
  replace hf : (if r32 (zand l5 4) then (if (zand l5 4) ≤ 0 then f_M_judge_203 rec48 K l5 l4 l3 l2 l1 F B else if r32 l2 then (if l2 = 0 then if 0 ≤ (F 14 0 6) ∧ (F 14 0 6) < 3 then if 0 ≤ l4 ∧ l4 < 4000 then zbind (f_M_failAt K 11 (B 13 (F 14 0 6) 20 l4) F B) (fun r42 F42 B42 => f_M_judge_203 rec48 K l5 l4 l3 l2 l1 F42 B42) else none else none else f_M_judge_203 rec48 K l5 l4 l3 l2 l1 F B) else none) else none) = some (r, F9, B9) := hf
  refine lv_iload hx hb (D_21 W_prog_15_method_73_code_160 16 rfl rfl) (lv_at hl 0 rfl) ?_
  refine lv_iconst (v := iI 4) hx hb (D_7 W_prog_15_method_73_code_160 18 rfl rfl) rfl ?_
  refine zand_r hx hb (D_126 W_prog_15_method_73_code_160 19 rfl rfl) ?_
  obtain ⟨g36, hf⟩ := gif hf
  refine z0le (tgt := 203) hx hb g36 (D_158 W_prog_15_method_73_code_160 20 rfl rfl rfl) (by decide) (fun h37 => ?_) (fun h37 => ?_)
  · replace hf := gpos hf h37
    exact b_M_judge_203 X hrec48 hf hZ hS (lv_sub hl [0, 1, 2, 3, 4, 5] rfl)
  · replace hf := gneg hf h37
    refine lv_iload_n hx hb (D_28 W_prog_15_method_73_code_160 23 rfl rfl) rfl (lv_at hl 3 rfl) ?_
    obtain ⟨g38, hf⟩ := gif hf
    refine z0ne (tgt := 203) hx hb g38 (D_154 W_prog_15_method_73_code_160 24 rfl rfl rfl) (by decide) (fun h39 => ?_) (fun h39 => ?_)
    · replace hf := gneg hf h39
      exact b_M_judge_203 X hrec48 hf hZ hS (lv_sub hl [0, 1, 2, 3, 4, 5] rfl)
    · replace hf := gpos hf h39
      refine lv_aload_n hx hb (D_42 W_prog_15_method_73_code_160 27 rfl rfl) rfl (lv_at hl 5 rfl) ?_
      refine lv_bipush (v := iI 11) hx hb (D_16 W_prog_15_method_73_code_160 28 rfl rfl rfl) (by decide) ?_
      refine lv_aload_n hx hb (D_42 W_prog_15_method_73_code_160 30 rfl rfl) rfl (lv_at hl 5 rfl) ?_
      refine zget (ci := 14) (C := RX14) (T := TX14) (v := va_rf (zrf ad 13 (F 14 0 6))) (k := 6) hx hb hts inW_14 hown hK hZ (by decide) (by decide) rfl (by decide) k_11_4 rfl (D_180 W_prog_15_method_73_code_160 31 rfl rfl rfl) ?_
      obtain ⟨g40, hf⟩ := gif hf
      refine zunrf g40.1 ?_
      refine zget (ci := 13) (C := RX13) (T := TX13) (v := .ref (ad 13 (F 14 0 6) (20 + 1))) (k := 20) hx hb hts inW_13 hown hK hZ g40.1 g40.2 rfl (by decide) k_9_158 rfl (D_180 W_prog_15_method_73_code_192 2 rfl rfl rfl) ?_
      refine lv_iload hx hb (D_21 W_prog_15_method_73_code_192 5 rfl rfl) (lv_at hl 1 rfl) ?_
      obtain ⟨g41, hf⟩ := gif hf
      refine zald (ci := 13) (k := 20) hx hb hK rfl hZ g40.1 g40.2 rfl (Nat.le_of_ble_eq_true rfl) g41.1 g41.2 (D_46 W_prog_15_method_73_code_192 7 rfl rfl) ?_
      obtain ⟨r42, F42, B42, hc42, hf⟩ := gbind hf
      refine va_callv (va_runV (As := [.int (iI 11), .int (iI (B 13 (F 14 0 6) 20 l4))]) (rest := []) ⟨hx, hb, hml, hown, hts⟩ (c_M_failAt (l := l) hc42) (cwV 2 hts (gdV k_14_132 k_14_134 ks_205 k_1_9 k_14_135) rfl rfl rfl (by decide +kernel) ⟨Nat.le_of_ble_eq_true rfl, Nat.le_of_ble_eq_true rfl⟩) (zPV X hZ hS (ci := 14) (by decide) (by decide) (r := (RX14, TX14, 107)) rfl [.int (iI 11), .int (iI (B 13 (F 14 0 6) 20 l4))]) rfl rfl hl.1 rfl (lv_room (Nat.le_of_ble_eq_true rfl)) (D_182 W_prog_15_method_73_code_192 8 rfl rfl rfl) ⟨Nat.le_of_ble_eq_true rfl, Nat.le_of_ble_eq_true rfl⟩) hS (fun q _ h => zAin X hS q h) (zAin X hS) (fun u42 t42 H42 locs42 ht42 hv42 hw42 hB42 hz42 hk42 hS42 => ?_)
      have hZ42 := zBack X ht42 hB42
      exact b_M_judge_203 X hrec48 hf hZ42 hS42 (lv_sub hl [0, 1, 2, 3, 4, 5] rfl)

def f_M_judge_160 (rec48 : Int → Int → Int → zF → zB → zO) (K : Nat) (l5 : Int) (l4 : Int) (l3 : Int) (l2 : Int) (l1 : Int) (F : zF) (B : zB) : zO := if 0 ≤ (F 14 0 6) ∧ (F 14 0 6) < 3 then if 0 ≤ l4 ∧ l4 < 4000 then zbind (f_M_failAt K 10 (B 13 (F 14 0 6) 20 l4) F B) (fun r35 F35 B35 => f_M_judge_176 rec48 K l5 l4 l3 l2 l1 F35 B35) else none else none
set_option maxHeartbeats 4000000 in
set_option maxRecDepth 100000 in
theorem b_M_judge_160 {D : va_G} {ca : Nat → ClassId} {ad : Nat → Int → Nat → Nat} {L : List Nat} {aS vS : Nat → Nat} {A : Nat → Prop} {p : Program} {l : Launch} {e : Env} {s : State} {m : MethodId} {args : Array Value} {below : List Frame} {meth : Method} {c : Code} {K : Nat} {r : Int} {F9 : zF} {B9 : zB} (X : zX D ca L aS vS A p s m args meth c prog_15_method_73_code 6 (Option.none : Option Jvm.ClassFile.FieldType) "StaveHouseModel") {rec48 : Int → Int → Int → zF → zB → zO} (hrec48 : ∀ {l3 : Int} {l2 : Int} {l1 : Int} {F : zF} {B : zB} {H : Heap} {locs : List Loc} {ls : Array Slot}, rec48 l3 l2 l1 F B = some (r, F9, B9) → zH D ca ad lnM nM L F B A H → va_S A s.heap H locs → lv_has ls 6 [(3, .int (iI l3)), (2, .int (iI l2)), (1, .int (iI l1)), (0, .ref (ad 14 0 0))] → W p l e ({ frames := 9, cells := 0, slots := 0, locals := 305 } : Room) s m args below meth c H locs 0 0 (MQ below (Q_M_judge D ca ad L r F9 B9 A) args s 0 0 A) (F0 m 48 ls [])) {l5 : Int} {l4 : Int} {l3 : Int} {l2 : Int} {l1 : Int} {F : zF} {B : zB} {H : Heap} {locs : List Loc} {ls : Array Slot} (hf : f_M_judge_160 rec48 K l5 l4 l3 l2 l1 F B = some (r, F9, B9)) (hZ : zH D ca ad lnM nM L F B A H) (hS : va_S A s.heap H locs) (hl : lv_has ls 6 [(5, .int (iI l5)), (4, .int (iI l4)), (3, .int (iI l3)), (2, .int (iI l2)), (1, .int (iI l1)), (0, .ref (ad 14 0 0))]) : W p l e ({ frames := 9, cells := 0, slots := 0, locals := 305 } : Room) s m args below meth c H locs 0 0 (MQ below (Q_M_judge D ca ad L r F9 B9 A) args s 0 0 A) (F0 m 160 ls []) := by
  obtain ⟨hx, hb, hr, hml, hown, hts, hlk, hK, hA, hL, hX⟩ := id X
  replace hf : (if 0 ≤ (F 14 0 6) ∧ (F 14 0 6) < 3 then if 0 ≤ l4 ∧ l4 < 4000 then zbind (f_M_failAt K 10 (B 13 (F 14 0 6) 20 l4) F B) (fun r35 F35 B35 => f_M_judge_176 rec48 K l5 l4 l3 l2 l1 F35 B35) else none else none) = some (r, F9, B9) := hf
  refine lv_aload_n hx hb (D_42 W_prog_15_method_73_code_160 0 rfl rfl) rfl (lv_at hl 5 rfl) ?_
  refine lv_bipush (v := iI 10) hx hb (D_16 W_prog_15_method_73_code_160 1 rfl rfl rfl) (by decide) ?_
  refine lv_aload_n hx hb (D_42 W_prog_15_method_73_code_160 3 rfl rfl) rfl (lv_at hl 5 rfl) ?_
  refine zget (ci := 14) (C := RX14) (T := TX14) (v := va_rf (zrf ad 13 (F 14 0 6))) (k := 6) hx hb hts inW_14 hown hK hZ (by decide) (by decide) rfl (by decide) k_11_4 rfl (D_180 W_prog_15_method_73_code_160 4 rfl rfl rfl) ?_
  obtain ⟨g33, hf⟩ := gif hf
  refine zunrf g33.1 ?_
  refine zget (ci := 13) (C := RX13) (T := TX13) (v := .ref (ad 13 (F 14 0 6) (20 + 1))) (k := 20) hx hb hts inW_13 hown hK hZ g33.1 g33.2 rfl (by decide) k_9_158 rfl (D_180 W_prog_15_method_73_code_160 7 rfl rfl rfl) ?_
  refine lv_iload hx hb (D_21 W_prog_15_method_73_code_160 10 rfl rfl) (lv_at hl 1 rfl) ?_
  obtain ⟨g34, hf⟩ := gif hf
  refine zald (ci := 13) (k := 20) hx hb hK rfl hZ g33.1 g33.2 rfl (Nat.le_of_ble_eq_true rfl) g34.1 g34.2 (D_46 W_prog_15_method_73_code_160 12 rfl rfl) ?_
  obtain ⟨r35, F35, B35, hc35, hf⟩ := gbind hf
  refine va_callv (va_runV (As := [.int (iI 10), .int (iI (B 13 (F 14 0 6) 20 l4))]) (rest := []) ⟨hx, hb, hml, hown, hts⟩ (c_M_failAt (l := l) hc35) (cwV 2 hts (gdV k_14_132 k_14_134 ks_205 k_1_9 k_14_135) rfl rfl rfl (by decide +kernel) ⟨Nat.le_of_ble_eq_true rfl, Nat.le_of_ble_eq_true rfl⟩) (zPV X hZ hS (ci := 14) (by decide) (by decide) (r := (RX14, TX14, 107)) rfl [.int (iI 10), .int (iI (B 13 (F 14 0 6) 20 l4))]) rfl rfl hl.1 rfl (lv_room (Nat.le_of_ble_eq_true rfl)) (D_182 W_prog_15_method_73_code_160 13 rfl rfl rfl) ⟨Nat.le_of_ble_eq_true rfl, Nat.le_of_ble_eq_true rfl⟩) hS (fun q _ h => zAin X hS q h) (zAin X hS) (fun u35 t35 H35 locs35 ht35 hv35 hw35 hB35 hz35 hk35 hS35 => ?_)
  have hZ35 := zBack X ht35 hB35
  exact b_M_judge_176 X hrec48 hf hZ35 hS35 (lv_sub hl [0, 1, 2, 3, 4, 5] rfl)

def f_M_judge_115 (rec48 : Int → Int → Int → zF → zB → zO) (K : Nat) (l4 : Int) (l3 : Int) (l2 : Int) (l1 : Int) (F : zF) (B : zB) : zO := if 0 ≤ (F 14 0 6) ∧ (F 14 0 6) < 3 then if 0 ≤ l4 ∧ l4 < 4000 then if r32 (zand (B 13 (F 14 0 6) 18 l4) 1) then (if (zand (B 13 (F 14 0 6) 18 l4) 1) ≤ 0 then f_M_judge_176 rec48 K (B 13 (F 14 0 6) 18 l4) l4 l3 l2 l1 F B else if r32 (l3 + 1) then if r32 (F 14 0 36) then (if (l3 + 1) = (F 14 0 36) then f_M_judge_160 rec48 K (B 13 (F 14 0 6) 18 l4) l4 l3 l2 l1 F B else zbind (f_M_share K (F 14 0 6) l4 (l4 + 1) F B) (fun r29 F29 B29 => if r32 r29 then (if r29 = 0 then f_M_judge_160 rec48 K (B 13 (F 14 0 6) 18 l4) l4 l3 l2 l1 F29 B29 else f_M_judge_176 rec48 K (B 13 (F 14 0 6) 18 l4) l4 l3 l2 l1 F29 B29) else none)) else none else none) else none else none else none
set_option maxHeartbeats 4000000 in
set_option maxRecDepth 100000 in
theorem b_M_judge_115 {D : va_G} {ca : Nat → ClassId} {ad : Nat → Int → Nat → Nat} {L : List Nat} {aS vS : Nat → Nat} {A : Nat → Prop} {p : Program} {l : Launch} {e : Env} {s : State} {m : MethodId} {args : Array Value} {below : List Frame} {meth : Method} {c : Code} {K : Nat} {r : Int} {F9 : zF} {B9 : zB} (X : zX D ca L aS vS A p s m args meth c prog_15_method_73_code 6 (Option.none : Option Jvm.ClassFile.FieldType) "StaveHouseModel") {rec48 : Int → Int → Int → zF → zB → zO} (hrec48 : ∀ {l3 : Int} {l2 : Int} {l1 : Int} {F : zF} {B : zB} {H : Heap} {locs : List Loc} {ls : Array Slot}, rec48 l3 l2 l1 F B = some (r, F9, B9) → zH D ca ad lnM nM L F B A H → va_S A s.heap H locs → lv_has ls 6 [(3, .int (iI l3)), (2, .int (iI l2)), (1, .int (iI l1)), (0, .ref (ad 14 0 0))] → W p l e ({ frames := 9, cells := 0, slots := 0, locals := 305 } : Room) s m args below meth c H locs 0 0 (MQ below (Q_M_judge D ca ad L r F9 B9 A) args s 0 0 A) (F0 m 48 ls [])) {l4 : Int} {l3 : Int} {l2 : Int} {l1 : Int} {F : zF} {B : zB} {H : Heap} {locs : List Loc} {ls : Array Slot} (hf : f_M_judge_115 rec48 K l4 l3 l2 l1 F B = some (r, F9, B9)) (hZ : zH D ca ad lnM nM L F B A H) (hS : va_S A s.heap H locs) (hl : lv_has ls 6 [(4, .int (iI l4)), (3, .int (iI l3)), (2, .int (iI l2)), (1, .int (iI l1)), (0, .ref (ad 14 0 0))]) : W p l e ({ frames := 9, cells := 0, slots := 0, locals := 305 } : Room) s m args below meth c H locs 0 0 (MQ below (Q_M_judge D ca ad L r F9 B9 A) args s 0 0 A) (F0 m 115 ls []) := by
  obtain ⟨hx, hb, hr, hml, hown, hts, hlk, hK, hA, hL, hX⟩ := id X
  replace hf : (if 0 ≤ (F 14 0 6) ∧ (F 14 0 6) < 3 then if 0 ≤ l4 ∧ l4 < 4000 then if r32 (zand (B 13 (F 14 0 6) 18 l4) 1) then (if (zand (B 13 (F 14 0 6) 18 l4) 1) ≤ 0 then f_M_judge_176 rec48 K (B 13 (F 14 0 6) 18 l4) l4 l3 l2 l1 F B else if r32 (l3 + 1) then if r32 (F 14 0 36) then (if (l3 + 1) = (F 14 0 36) then f_M_judge_160 rec48 K (B 13 (F 14 0 6) 18 l4) l4 l3 l2 l1 F B else zbind (f_M_share K (F 14 0 6) l4 (l4 + 1) F B) (fun r29 F29 B29 => if r32 r29 then (if r29 = 0 then f_M_judge_160 rec48 K (B 13 (F 14 0 6) 18 l4) l4 l3 l2 l1 F29 B29 else f_M_judge_176 rec48 K (B 13 (F 14 0 6) 18 l4) l4 l3 l2 l1 F29 B29) else none)) else none else none) else none else none else none) = some (r, F9, B9) := hf
  refine lv_aload_n hx hb (D_42 W_prog_15_method_73_code_96 19 rfl rfl) rfl (lv_at hl 4 rfl) ?_
  refine zget (ci := 14) (C := RX14) (T := TX14) (v := va_rf (zrf ad 13 (F 14 0 6))) (k := 6) hx hb hts inW_14 hown hK hZ (by decide) (by decide) rfl (by decide) k_11_4 rfl (D_180 W_prog_15_method_73_code_96 20 rfl rfl rfl) ?_
  obtain ⟨g22, hf⟩ := gif hf
  refine zunrf g22.1 ?_
  refine zget (ci := 13) (C := RX13) (T := TX13) (v := .ref (ad 13 (F 14 0 6) (18 + 1))) (k := 18) hx hb hts inW_13 hown hK hZ g22.1 g22.2 rfl (by decide) k_9_154 rfl (D_180 W_prog_15_method_73_code_96 23 rfl rfl rfl) ?_
  refine lv_iload hx hb (D_21 W_prog_15_method_73_code_96 26 rfl rfl) (lv_at hl 0 rfl) ?_
  obtain ⟨g23, hf⟩ := gif hf
  refine zald (ci := 13) (k := 18) hx hb hK rfl hZ g22.1 g22.2 rfl (Nat.le_of_ble_eq_true rfl) g23.1 g23.2 (D_46 W_prog_15_method_73_code_96 28 rfl rfl) ?_
  refine lv_istore (lv' := [(5, .int (iI (B 13 (F 14 0 6) 18 l4))), (4, .int (iI l4)), (3, .int (iI l3)), (2, .int (iI l2)), (1, .int (iI l1)), (0, .ref (ad 14 0 0))]) hx hb (D_54 W_prog_15_method_73_code_96 29 rfl rfl) hl (by decide) rfl (fun ls hl => ?_)
  refine lv_iload hx hb (D_21 W_prog_15_method_73_code_96 31 rfl rfl) (lv_at hl 0 rfl) ?_
  refine lv_iconst (v := iI 1) hx hb (D_4 W_prog_15_method_73_code_128 1 rfl rfl) rfl ?_
  refine zand_r hx hb (D_126 W_prog_15_method_73_code_128 2 rfl rfl) ?_
  obtain ⟨g24, hf⟩ := gif hf
  refine z0le (tgt := 176) hx hb g24 (D_158 W_prog_15_method_73_code_128 3 rfl rfl rfl) (by decide) (fun h25 => ?_) (fun h25 => ?_)
  · replace hf := gpos hf h25
    exact b_M_judge_176 X hrec48 hf hZ hS (lv_sub hl [0, 1, 2, 3, 4, 5] rfl)
  · replace hf := gneg hf h25
    refine lv_iload_n hx hb (D_29 W_prog_15_method_73_code_128 6 rfl rfl) rfl (lv_at hl 2 rfl) ?_
    refine lv_iconst (v := iI 1) hx hb (D_4 W_prog_15_method_73_code_128 7 rfl rfl) rfl ?_
    refine zadd hx hb (D_96 W_prog_15_method_73_code_128 8 rfl rfl) ?_
    refine lv_aload_n hx hb (D_42 W_prog_15_method_73_code_128 9 rfl rfl) rfl (lv_at hl 5 rfl) ?_
    refine zget (ci := 14) (C := RX14) (T := TX14) (v := .int (iI (F 14 0 36))) (k := 36) hx hb hts inW_14 hown hK hZ (by decide) (by decide) rfl (by decide) k_11_34 rfl (D_180 W_prog_15_method_73_code_128 10 rfl rfl rfl) ?_
    obtain ⟨g26, hf⟩ := gif hf
    obtain ⟨g27, hf⟩ := gif hf
    refine zeq (tgt := 160) hx hb g26 g27 (D_159 W_prog_15_method_73_code_128 13 rfl rfl rfl) (by decide) (fun h28 => ?_) (fun h28 => ?_)
    · replace hf := gpos hf h28
      exact b_M_judge_160 X hrec48 hf hZ hS (lv_sub hl [0, 1, 2, 3, 4, 5] rfl)
    · replace hf := gneg hf h28
      refine lv_aload_n hx hb (D_42 W_prog_15_method_73_code_128 16 rfl rfl) rfl (lv_at hl 5 rfl) ?_
      refine zget (ci := 14) (C := RX14) (T := TX14) (v := va_rf (zrf ad 13 (F 14 0 6))) (k := 6) hx hb hts inW_14 hown hK hZ (by decide) (by decide) rfl (by decide) k_11_4 rfl (D_180 W_prog_15_method_73_code_128 17 rfl rfl rfl) ?_
      refine lv_iload hx hb (D_21 W_prog_15_method_73_code_128 20 rfl rfl) (lv_at hl 1 rfl) ?_
      refine lv_iload hx hb (D_21 W_prog_15_method_73_code_128 22 rfl rfl) (lv_at hl 1 rfl) ?_
      refine lv_iconst (v := iI 1) hx hb (D_4 W_prog_15_method_73_code_128 24 rfl rfl) rfl ?_
      refine zadd hx hb (D_96 W_prog_15_method_73_code_128 25 rfl rfl) ?_
      refine W.eq (g2 := F0 m 154 ls [.int (iI (l4 + 1)), .int (iI l4), .ref (ad 13 (F 14 0 6) 0)]) (by rw [zrf_pos (ad := ad) (t := 13) g22.1]; try rfl) ?_
      obtain ⟨r29, F29, B29, hc29, hf⟩ := gbind hf
      refine va_calli (va_runS (As := [.ref (ad 13 (F 14 0 6) 0), .int (iI l4), .int (iI (l4 + 1))]) (rest := []) ⟨hx, hb, hml, hown, hts⟩ (c_M_share (l := l) hc29) (va_cwS 3 hts (gdS k_15_45 k_15_46 k_1_9 k_15_47) rfl rfl rfl (by decide +kernel) ⟨Nat.le_of_ble_eq_true rfl, Nat.le_of_ble_eq_true rfl⟩) (zPS X hZ hS [.ref (ad 13 (F 14 0 6) 0), .int (iI l4), .int (iI (l4 + 1))]) rfl rfl hl.1 rfl (lv_room (Nat.le_of_ble_eq_true rfl)) (D_184 W_prog_15_method_73_code_128 26 rfl rfl rfl) ⟨Nat.le_of_ble_eq_true rfl, Nat.le_of_ble_eq_true rfl⟩) hS (fun q _ h => zAin X hS q h) (zAin X hS) (fun p29 u29 t29 H29 locs29 ht29 hv29 hw29 hB29 hz29 hk29 hS29 => ?_)
      have hZ29 := zBack X ht29 hB29
      subst hw29
      obtain ⟨g30, hf⟩ := gif hf
      refine z0ne (tgt := 176) hx hb g30 (D_154 W_prog_15_method_73_code_128 29 rfl rfl rfl) (by decide) (fun h31 => ?_) (fun h31 => ?_)
      · replace hf := gneg hf h31
        exact b_M_judge_176 X hrec48 hf hZ29 hS29 (lv_sub hl [0, 1, 2, 3, 4, 5] rfl)
      · replace hf := gpos hf h31
        exact b_M_judge_160 X hrec48 hf hZ29 hS29 (lv_sub hl [0, 1, 2, 3, 4, 5] rfl)

def f_M_judge_110 (rec48 : Int → Int → Int → zF → zB → zO) (K : Nat) (l4 : Int) (l3 : Int) (l2 : Int) (l1 : Int) (F : zF) (B : zB) : zO := zbind (f_M_judgeOuter K l3 F B) (fun r21 F21 B21 => f_M_judge_115 rec48 K l4 l3 l2 l1 F21 B21)
set_option maxHeartbeats 4000000 in
set_option maxRecDepth 100000 in
theorem b_M_judge_110 {D : va_G} {ca : Nat → ClassId} {ad : Nat → Int → Nat → Nat} {L : List Nat} {aS vS : Nat → Nat} {A : Nat → Prop} {p : Program} {l : Launch} {e : Env} {s : State} {m : MethodId} {args : Array Value} {below : List Frame} {meth : Method} {c : Code} {K : Nat} {r : Int} {F9 : zF} {B9 : zB} (X : zX D ca L aS vS A p s m args meth c prog_15_method_73_code 6 (Option.none : Option Jvm.ClassFile.FieldType) "StaveHouseModel") {rec48 : Int → Int → Int → zF → zB → zO} (hrec48 : ∀ {l3 : Int} {l2 : Int} {l1 : Int} {F : zF} {B : zB} {H : Heap} {locs : List Loc} {ls : Array Slot}, rec48 l3 l2 l1 F B = some (r, F9, B9) → zH D ca ad lnM nM L F B A H → va_S A s.heap H locs → lv_has ls 6 [(3, .int (iI l3)), (2, .int (iI l2)), (1, .int (iI l1)), (0, .ref (ad 14 0 0))] → W p l e ({ frames := 9, cells := 0, slots := 0, locals := 305 } : Room) s m args below meth c H locs 0 0 (MQ below (Q_M_judge D ca ad L r F9 B9 A) args s 0 0 A) (F0 m 48 ls [])) {l4 : Int} {l3 : Int} {l2 : Int} {l1 : Int} {F : zF} {B : zB} {H : Heap} {locs : List Loc} {ls : Array Slot} (hf : f_M_judge_110 rec48 K l4 l3 l2 l1 F B = some (r, F9, B9)) (hZ : zH D ca ad lnM nM L F B A H) (hS : va_S A s.heap H locs) (hl : lv_has ls 6 [(4, .int (iI l4)), (3, .int (iI l3)), (2, .int (iI l2)), (1, .int (iI l1)), (0, .ref (ad 14 0 0))]) : W p l e ({ frames := 9, cells := 0, slots := 0, locals := 305 } : Room) s m args below meth c H locs 0 0 (MQ below (Q_M_judge D ca ad L r F9 B9 A) args s 0 0 A) (F0 m 110 ls []) := by
  obtain ⟨hx, hb, hr, hml, hown, hts, hlk, hK, hA, hL, hX⟩ := id X
  replace hf : (zbind (f_M_judgeOuter K l3 F B) (fun r21 F21 B21 => f_M_judge_115 rec48 K l4 l3 l2 l1 F21 B21)) = some (r, F9, B9) := hf
  refine lv_aload_n hx hb (D_42 W_prog_15_method_73_code_96 14 rfl rfl) rfl (lv_at hl 4 rfl) ?_
  refine lv_iload_n hx hb (D_29 W_prog_15_method_73_code_96 15 rfl rfl) rfl (lv_at hl 1 rfl) ?_
  obtain ⟨r21, F21, B21, hc21, hf⟩ := gbind hf
  refine va_callv (va_runV (As := [.int (iI l3)]) (rest := []) ⟨hx, hb, hml, hown, hts⟩ (c_M_judgeOuter (l := l) hc21) (cwV 1 hts (gdV k_15_38 k_15_40 ks_239 k_1_9 k_15_41) rfl rfl rfl (by decide +kernel) ⟨Nat.le_of_ble_eq_true rfl, Nat.le_of_ble_eq_true rfl⟩) (zPV X hZ hS (ci := 14) (by decide) (by decide) (r := (RX14, TX14, 107)) rfl [.int (iI l3)]) rfl rfl hl.1 rfl (lv_room (Nat.le_of_ble_eq_true rfl)) (D_182 W_prog_15_method_73_code_96 16 rfl rfl rfl) ⟨Nat.le_of_ble_eq_true rfl, Nat.le_of_ble_eq_true rfl⟩) hS (fun q _ h => zAin X hS q h) (zAin X hS) (fun u21 t21 H21 locs21 ht21 hv21 hw21 hB21 hz21 hk21 hS21 => ?_)
  have hZ21 := zBack X ht21 hB21
  exact b_M_judge_115 X hrec48 hf hZ21 hS21 (lv_sub hl [0, 1, 2, 3, 4] rfl)

def f_M_judge_48 (K : Nat) : Nat → Int → Int → Int → zF → zB → zO
  | 0, _, _, _, _, _ => none
  | n + 1, l3, l2, l1, F, B => if r32 l3 then if r32 (F 14 0 36) then (if (F 14 0 36) ≤ l3 then f_M_judge_265 K l2 F B else zbind (f_M_good K F B) (fun r10 F10 B10 => if r32 r10 then (if r10 = 0 then f_M_judge_265 K l2 F10 B10 else if 0 ≤ (F10 14 0 6) ∧ (F10 14 0 6) < 3 then if 0 ≤ (l1 + l3) ∧ (l1 + l3) < 4000 then if r32 (B10 13 (F10 14 0 6) 25 (l1 + l3)) then (if (B10 13 (F10 14 0 6) 25 (l1 + l3)) ≤ 0 then f_M_judge_115 (f_M_judge_48 K n) K (l1 + l3) l3 l2 l1 F10 B10 else (if l3 = 0 then f_M_judge_110 (f_M_judge_48 K n) K (l1 + l3) l3 l2 l1 F10 B10 else if 0 ≤ ((l1 + l3) - 1) ∧ ((l1 + l3) - 1) < 4000 then if r32 (B10 13 (F10 14 0 6) 25 ((l1 + l3) - 1)) then (if (B10 13 (F10 14 0 6) 25 ((l1 + l3) - 1)) = (B10 13 (F10 14 0 6) 25 (l1 + l3)) then f_M_judge_115 (f_M_judge_48 K n) K (l1 + l3) l3 l2 l1 F10 B10 else f_M_judge_110 (f_M_judge_48 K n) K (l1 + l3) l3 l2 l1 F10 B10) else none else none)) else none else none else none) else none)) else none else none
set_option maxHeartbeats 4000000 in
set_option maxRecDepth 100000 in
theorem b_M_judge_48 {D : va_G} {ca : Nat → ClassId} {ad : Nat → Int → Nat → Nat} {L : List Nat} {aS vS : Nat → Nat} {A : Nat → Prop} {p : Program} {l : Launch} {e : Env} {s : State} {m : MethodId} {args : Array Value} {below : List Frame} {meth : Method} {c : Code} {K : Nat} {r : Int} {F9 : zF} {B9 : zB} (X : zX D ca L aS vS A p s m args meth c prog_15_method_73_code 6 (Option.none : Option Jvm.ClassFile.FieldType) "StaveHouseModel") : ∀ {n : Nat} {l3 : Int} {l2 : Int} {l1 : Int} {F : zF} {B : zB} {H : Heap} {locs : List Loc} {ls : Array Slot}, f_M_judge_48 K n l3 l2 l1 F B = some (r, F9, B9) → zH D ca ad lnM nM L F B A H → va_S A s.heap H locs → lv_has ls 6 [(3, .int (iI l3)), (2, .int (iI l2)), (1, .int (iI l1)), (0, .ref (ad 14 0 0))] → W p l e ({ frames := 9, cells := 0, slots := 0, locals := 305 } : Room) s m args below meth c H locs 0 0 (MQ below (Q_M_judge D ca ad L r F9 B9 A) args s 0 0 A) (F0 m 48 ls []) := by
  obtain ⟨hx, hb, hr, hml, hown, hts, hlk, hK, hA, hL, hX⟩ := id X
  intro n
  induction n with
  | zero =>
    intros
    rename_i hf _ _ _
    cases hf
  | succ n ih =>
    intro l3 l2 l1 F B H locs ls hf hZ hS hl
    replace hf : (if r32 l3 then if r32 (F 14 0 36) then (if (F 14 0 36) ≤ l3 then f_M_judge_265 K l2 F B else zbind (f_M_good K F B) (fun r10 F10 B10 => if r32 r10 then (if r10 = 0 then f_M_judge_265 K l2 F10 B10 else if 0 ≤ (F10 14 0 6) ∧ (F10 14 0 6) < 3 then if 0 ≤ (l1 + l3) ∧ (l1 + l3) < 4000 then if r32 (B10 13 (F10 14 0 6) 25 (l1 + l3)) then (if (B10 13 (F10 14 0 6) 25 (l1 + l3)) ≤ 0 then f_M_judge_115 (f_M_judge_48 K n) K (l1 + l3) l3 l2 l1 F10 B10 else (if l3 = 0 then f_M_judge_110 (f_M_judge_48 K n) K (l1 + l3) l3 l2 l1 F10 B10 else if 0 ≤ ((l1 + l3) - 1) ∧ ((l1 + l3) - 1) < 4000 then if r32 (B10 13 (F10 14 0 6) 25 ((l1 + l3) - 1)) then (if (B10 13 (F10 14 0 6) 25 ((l1 + l3) - 1)) = (B10 13 (F10 14 0 6) 25 (l1 + l3)) then f_M_judge_115 (f_M_judge_48 K n) K (l1 + l3) l3 l2 l1 F10 B10 else f_M_judge_110 (f_M_judge_48 K n) K (l1 + l3) l3 l2 l1 F10 B10) else none else none)) else none else none else none) else none)) else none else none) = some (r, F9, B9) := hf
    refine lv_iload_n hx hb (D_29 W_prog_15_method_73_code_32 16 rfl rfl) rfl (lv_at hl 0 rfl) ?_
    refine lv_aload_n hx hb (D_42 W_prog_15_method_73_code_32 17 rfl rfl) rfl (lv_at hl 3 rfl) ?_
    refine zget (ci := 14) (C := RX14) (T := TX14) (v := .int (iI (F 14 0 36))) (k := 36) hx hb hts inW_14 hown hK hZ (by decide) (by decide) rfl (by decide) k_11_34 rfl (D_180 W_prog_15_method_73_code_32 18 rfl rfl rfl) ?_
    obtain ⟨g7, hf⟩ := gif hf
    obtain ⟨g8, hf⟩ := gif hf
    refine zge (tgt := 265) hx hb g7 g8 (D_162 W_prog_15_method_73_code_32 21 rfl rfl rfl) (by decide) (fun h9 => ?_) (fun h9 => ?_)
    · replace hf := gpos hf h9
      exact b_M_judge_265 X hf hZ hS (lv_sub hl [1, 3] rfl)
    · replace hf := gneg hf h9
      refine lv_aload_n hx hb (D_42 W_prog_15_method_73_code_32 24 rfl rfl) rfl (lv_at hl 3 rfl) ?_
      obtain ⟨r10, F10, B10, hc10, hf⟩ := gbind hf
      refine va_calli (va_runV (As := []) (rest := []) ⟨hx, hb, hml, hown, hts⟩ (c_M_good (l := l) hc10) (cwV 0 hts (gdV k_13_15 k_13_17 ks_152 k_1_9 k_13_18) rfl rfl rfl (by decide +kernel) ⟨Nat.le_of_ble_eq_true rfl, Nat.le_of_ble_eq_true rfl⟩) (zPV X hZ hS (ci := 14) (by decide) (by decide) (r := (RX14, TX14, 107)) rfl []) rfl rfl hl.1 rfl (lv_room (Nat.le_of_ble_eq_true rfl)) (D_182 W_prog_15_method_73_code_32 25 rfl rfl rfl) ⟨Nat.le_of_ble_eq_true rfl, Nat.le_of_ble_eq_true rfl⟩) hS (fun q _ h => zAin X hS q h) (zAin X hS) (fun p10 u10 t10 H10 locs10 ht10 hv10 hw10 hB10 hz10 hk10 hS10 => ?_)
      have hZ10 := zBack X ht10 hB10
      subst hw10
      obtain ⟨g11, hf⟩ := gif hf
      refine z0eq (tgt := 265) hx hb g11 (D_153 W_prog_15_method_73_code_32 28 rfl rfl rfl) (by decide) (fun h12 => ?_) (fun h12 => ?_)
      · replace hf := gpos hf h12
        exact b_M_judge_265 X hf hZ10 hS10 (lv_sub hl [1, 3] rfl)
      · replace hf := gneg hf h12
        refine lv_iload_n hx hb (D_27 W_prog_15_method_73_code_32 31 rfl rfl) rfl (lv_at hl 2 rfl) ?_
        refine lv_iload_n hx hb (D_29 W_prog_15_method_73_code_64 0 rfl rfl) rfl (lv_at hl 0 rfl) ?_
        refine zadd hx hb (D_96 W_prog_15_method_73_code_64 1 rfl rfl) ?_
        refine lv_istore (lv' := [(4, .int (iI (l1 + l3))), (3, .int (iI l3)), (2, .int (iI l2)), (1, .int (iI l1)), (0, .ref (ad 14 0 0))]) hx hb (D_54 W_prog_15_method_73_code_64 2 rfl rfl) hl (by decide) rfl (fun ls hl => ?_)
        refine lv_aload_n hx hb (D_42 W_prog_15_method_73_code_64 4 rfl rfl) rfl (lv_at hl 4 rfl) ?_
        refine zget (ci := 14) (C := RX14) (T := TX14) (v := va_rf (zrf ad 13 (F10 14 0 6))) (k := 6) hx hb hts inW_14 hown hK hZ10 (by decide) (by decide) rfl (by decide) k_11_4 rfl (D_180 W_prog_15_method_73_code_64 5 rfl rfl rfl) ?_
        obtain ⟨g13, hf⟩ := gif hf
        refine zunrf g13.1 ?_
        refine zget (ci := 13) (C := RX13) (T := TX13) (v := .ref (ad 13 (F10 14 0 6) (25 + 1))) (k := 25) hx hb hts inW_13 hown hK hZ10 g13.1 g13.2 rfl (by decide) k_9_168 rfl (D_180 W_prog_15_method_73_code_64 8 rfl rfl rfl) ?_
        refine lv_iload hx hb (D_21 W_prog_15_method_73_code_64 11 rfl rfl) (lv_at hl 0 rfl) ?_
        obtain ⟨g14, hf⟩ := gif hf
        refine zald (ci := 13) (k := 25) hx hb hK rfl hZ10 g13.1 g13.2 rfl (Nat.le_of_ble_eq_true rfl) g14.1 g14.2 (D_46 W_prog_15_method_73_code_64 13 rfl rfl) ?_
        obtain ⟨g15, hf⟩ := gif hf
        refine z0le (tgt := 115) hx hb g15 (D_158 W_prog_15_method_73_code_64 14 rfl rfl rfl) (by decide) (fun h16 => ?_) (fun h16 => ?_)
        · replace hf := gpos hf h16
          exact b_M_judge_115 X ih hf hZ10 hS10 (lv_sub hl [0, 1, 2, 3, 4] rfl)
        · replace hf := gneg hf h16
          refine lv_iload_n hx hb (D_29 W_prog_15_method_73_code_64 17 rfl rfl) rfl (lv_at hl 1 rfl) ?_
          refine z0eq (tgt := 110) hx hb g7 (D_153 W_prog_15_method_73_code_64 18 rfl rfl rfl) (by decide) (fun h17 => ?_) (fun h17 => ?_)
          · replace hf := gpos hf h17
            exact b_M_judge_110 X ih hf hZ10 hS10 (lv_sub hl [0, 1, 2, 3, 4] rfl)
          · replace hf := gneg hf h17
            refine lv_aload_n hx hb (D_42 W_prog_15_method_73_code_64 21 rfl rfl) rfl (lv_at hl 4 rfl) ?_
            refine zget (ci := 14) (C := RX14) (T := TX14) (v := va_rf (zrf ad 13 (F10 14 0 6))) (k := 6) hx hb hts inW_14 hown hK hZ10 (by decide) (by decide) rfl (by decide) k_11_4 rfl (D_180 W_prog_15_method_73_code_64 22 rfl rfl rfl) ?_
            refine zunrf g13.1 ?_
            refine zget (ci := 13) (C := RX13) (T := TX13) (v := .ref (ad 13 (F10 14 0 6) (25 + 1))) (k := 25) hx hb hts inW_13 hown hK hZ10 g13.1 g13.2 rfl (by decide) k_9_168 rfl (D_180 W_prog_15_method_73_code_64 25 rfl rfl rfl) ?_
            refine lv_iload hx hb (D_21 W_prog_15_method_73_code_64 28 rfl rfl) (lv_at hl 0 rfl) ?_
            refine lv_iconst (v := iI 1) hx hb (D_4 W_prog_15_method_73_code_64 30 rfl rfl) rfl ?_
            refine zsub hx hb (D_100 W_prog_15_method_73_code_64 31 rfl rfl) ?_
            obtain ⟨g18, hf⟩ := gif hf
            refine zald (ci := 13) (k := 25) hx hb hK rfl hZ10 g13.1 g13.2 rfl (Nat.le_of_ble_eq_true rfl) g18.1 g18.2 (D_46 W_prog_15_method_73_code_96 0 rfl rfl) ?_
            refine lv_aload_n hx hb (D_42 W_prog_15_method_73_code_96 1 rfl rfl) rfl (lv_at hl 4 rfl) ?_
            refine zget (ci := 14) (C := RX14) (T := TX14) (v := va_rf (zrf ad 13 (F10 14 0 6))) (k := 6) hx hb hts inW_14 hown hK hZ10 (by decide) (by decide) rfl (by decide) k_11_4 rfl (D_180 W_prog_15_method_73_code_96 2 rfl rfl rfl) ?_
            refine zunrf g13.1 ?_
            refine zget (ci := 13) (C := RX13) (T := TX13) (v := .ref (ad 13 (F10 14 0 6) (25 + 1))) (k := 25) hx hb hts inW_13 hown hK hZ10 g13.1 g13.2 rfl (by decide) k_9_168 rfl (D_180 W_prog_15_method_73_code_96 5 rfl rfl rfl) ?_
            refine lv_iload hx hb (D_21 W_prog_15_method_73_code_96 8 rfl rfl) (lv_at hl 0 rfl) ?_
            refine zald (ci := 13) (k := 25) hx hb hK rfl hZ10 g13.1 g13.2 rfl (Nat.le_of_ble_eq_true rfl) g14.1 g14.2 (D_46 W_prog_15_method_73_code_96 10 rfl rfl) ?_
            obtain ⟨g19, hf⟩ := gif hf
            refine zeq (tgt := 115) hx hb g19 g15 (D_159 W_prog_15_method_73_code_96 11 rfl rfl rfl) (by decide) (fun h20 => ?_) (fun h20 => ?_)
            · replace hf := gpos hf h20
              exact b_M_judge_115 X ih hf hZ10 hS10 (lv_sub hl [0, 1, 2, 3, 4] rfl)
            · replace hf := gneg hf h20
              exact b_M_judge_110 X ih hf hZ10 hS10 (lv_sub hl [0, 1, 2, 3, 4] rfl)

def f_M_judge (K : Nat)  (F : zF) (B : zB) : zO := if r32 (F 14 0 36) then (if (F 14 0 36) = 0 then if 0 ≤ (F 14 0 35) ∧ (F 14 0 35) < 4 then zbind (f_M_failAt K 15 (B 14 0 28 (F 14 0 35)) F B) (fun r6 F6 B6 => some (0, F6, B6)) else none else if 0 ≤ (F 14 0 6) ∧ (F 14 0 6) < 3 then zbind (f_M_places K (F 14 0 6) (F 14 0 35) F B) (fun r4 F4 B4 => f_M_judge_48 K K 0 0 (1000 * (F 14 0 35)) F4 B4) else none) else none
set_option maxHeartbeats 4000000 in
set_option maxRecDepth 100000 in
theorem c_M_judge {l : Launch} {D : va_G} {ca : Nat → ClassId} {ad : Nat → Int → Nat → Nat} {L : List Nat} {aS vS : Nat → Nat} {sz K : Nat}   {F F9 : zF} {B B9 : zB} {r : Int} (hf : f_M_judge K  F B = some (r, F9, B9)) : Met l ({ cls := "StaveHouseModel", name := "judge", desc := "()V" } : Jvm.MethodName) (Cond.code ({ cls := "StaveHouseModel", name := "judge", desc := "()V" } : Jvm.MethodName) prog_15_method_73_code 6 (Option.none : Option Jvm.ClassFile.FieldType) :: wAll) ({ frames := 9, cells := 0, slots := 0, locals := 305 } : Room) (va_Pc [.ref (ad 14 0 0)] (zPre D ca ad lnM nM L aS vS F B sz)) (Q_M_judge D ca ad L r F9 B9 (zA L sz)) 0 0 (zA L sz) := by
  refine zMet (Qc := Q_M_judge D ca ad L r F9 B9) (lv := [(0, .ref (ad 14 0 0))]) (by decide) (Nat.le_of_ble_eq_true rfl) rfl (fun A p e s m below meth c ls X hZ hS hl => ?_)
  obtain ⟨hx, hb, hr, hml, hown, hts, hlk, hK, hA, hL, hX⟩ := id X
  replace hf : (if r32 (F 14 0 36) then (if (F 14 0 36) = 0 then if 0 ≤ (F 14 0 35) ∧ (F 14 0 35) < 4 then zbind (f_M_failAt K 15 (B 14 0 28 (F 14 0 35)) F B) (fun r6 F6 B6 => some (0, F6, B6)) else none else if 0 ≤ (F 14 0 6) ∧ (F 14 0 6) < 3 then zbind (f_M_places K (F 14 0 6) (F 14 0 35) F B) (fun r4 F4 B4 => f_M_judge_48 K K 0 0 (1000 * (F 14 0 35)) F4 B4) else none) else none) = some (r, F9, B9) := hf
  refine lv_sipush (v := iI 1000) hx hb (D_17 W_prog_15_method_73_code_0 0 rfl rfl rfl) (by decide) ?_
  refine lv_aload_n hx hb (D_42 W_prog_15_method_73_code_0 3 rfl rfl) rfl (lv_at hl 0 rfl) ?_
  refine zget (ci := 14) (C := RX14) (T := TX14) (v := .int (iI (F 14 0 35))) (k := 35) hx hb hts inW_14 hown hK hZ (by decide) (by decide) rfl (by decide) k_11_33 rfl (D_180 W_prog_15_method_73_code_0 4 rfl rfl rfl) ?_
  refine zmul hx hb (D_104 W_prog_15_method_73_code_0 7 rfl rfl) ?_
  refine lv_istore_n (lv' := [(1, .int (iI (1000 * (F 14 0 35)))), (0, .ref (ad 14 0 0))]) hx hb (D_60 W_prog_15_method_73_code_0 8 rfl rfl) rfl hl (by decide) rfl (fun ls hl => ?_)
  refine lv_aload_n hx hb (D_42 W_prog_15_method_73_code_0 9 rfl rfl) rfl (lv_at hl 1 rfl) ?_
  refine zget (ci := 14) (C := RX14) (T := TX14) (v := .int (iI (F 14 0 36))) (k := 36) hx hb hts inW_14 hown hK hZ (by decide) (by decide) rfl (by decide) k_11_34 rfl (D_180 W_prog_15_method_73_code_0 10 rfl rfl rfl) ?_
  obtain ⟨g1, hf⟩ := gif hf
  refine z0ne (tgt := 32) hx hb g1 (D_154 W_prog_15_method_73_code_0 13 rfl rfl rfl) (by decide) (fun h2 => ?_) (fun h2 => ?_)
  · replace hf := gneg hf h2
    refine lv_aload_n hx hb (D_42 W_prog_15_method_73_code_32 0 rfl rfl) rfl (lv_at hl 1 rfl) ?_
    refine lv_aload_n hx hb (D_42 W_prog_15_method_73_code_32 1 rfl rfl) rfl (lv_at hl 1 rfl) ?_
    refine zget (ci := 14) (C := RX14) (T := TX14) (v := va_rf (zrf ad 13 (F 14 0 6))) (k := 6) hx hb hts inW_14 hown hK hZ (by decide) (by decide) rfl (by decide) k_11_4 rfl (D_180 W_prog_15_method_73_code_32 2 rfl rfl rfl) ?_
    refine lv_aload_n hx hb (D_42 W_prog_15_method_73_code_32 5 rfl rfl) rfl (lv_at hl 1 rfl) ?_
    refine zget (ci := 14) (C := RX14) (T := TX14) (v := .int (iI (F 14 0 35))) (k := 35) hx hb hts inW_14 hown hK hZ (by decide) (by decide) rfl (by decide) k_11_33 rfl (D_180 W_prog_15_method_73_code_32 6 rfl rfl rfl) ?_
    obtain ⟨g3, hf⟩ := gif hf
    refine W.eq (g2 := F0 m 41 ls [.int (iI (F 14 0 35)), .ref (ad 13 (F 14 0 6) 0), .ref (ad 14 0 0)]) (by rw [zrf_pos (ad := ad) (t := 13) g3.1]; try rfl) ?_
    obtain ⟨r4, F4, B4, hc4, hf⟩ := gbind hf
    refine va_callv (va_runV (As := [.ref (ad 13 (F 14 0 6) 0), .int (iI (F 14 0 35))]) (rest := []) ⟨hx, hb, hml, hown, hts⟩ (c_M_places (l := l) hc4) (cwV 2 hts (gdV k_13_128 k_13_130 ks_173 k_1_9 k_13_131) rfl rfl rfl (by decide +kernel) ⟨Nat.le_of_ble_eq_true rfl, Nat.le_of_ble_eq_true rfl⟩) (zPV X hZ hS (ci := 14) (by decide) (by decide) (r := (RX14, TX14, 107)) rfl [.ref (ad 13 (F 14 0 6) 0), .int (iI (F 14 0 35))]) rfl rfl hl.1 rfl (lv_room (Nat.le_of_ble_eq_true rfl)) (D_182 W_prog_15_method_73_code_32 9 rfl rfl rfl) ⟨Nat.le_of_ble_eq_true rfl, Nat.le_of_ble_eq_true rfl⟩) hS (fun q _ h => zAin X hS q h) (zAin X hS) (fun u4 t4 H4 locs4 ht4 hv4 hw4 hB4 hz4 hk4 hS4 => ?_)
    have hZ4 := zBack X ht4 hB4
    refine lv_iconst (v := iI 0) hx hb (D_3 W_prog_15_method_73_code_32 12 rfl rfl) rfl ?_
    refine lv_istore_n (lv' := [(2, .int (iI 0)), (1, .int (iI (1000 * (F 14 0 35)))), (0, .ref (ad 14 0 0))]) hx hb (D_61 W_prog_15_method_73_code_32 13 rfl rfl) rfl hl (by decide) rfl (fun ls hl => ?_)
    refine lv_iconst (v := iI 0) hx hb (D_3 W_prog_15_method_73_code_32 14 rfl rfl) rfl ?_
    refine lv_istore_n (lv' := [(3, .int (iI 0)), (2, .int (iI 0)), (1, .int (iI (1000 * (F 14 0 35)))), (0, .ref (ad 14 0 0))]) hx hb (D_62 W_prog_15_method_73_code_32 15 rfl rfl) rfl hl (by decide) rfl (fun ls hl => ?_)
    exact b_M_judge_48 X hf hZ4 hS4 (lv_sub hl [0, 1, 2, 3] rfl)
  · replace hf := gpos hf h2
    refine lv_aload_n hx hb (D_42 W_prog_15_method_73_code_0 16 rfl rfl) rfl (lv_at hl 1 rfl) ?_
    refine lv_bipush (v := iI 15) hx hb (D_16 W_prog_15_method_73_code_0 17 rfl rfl rfl) (by decide) ?_
    refine lv_aload_n hx hb (D_42 W_prog_15_method_73_code_0 19 rfl rfl) rfl (lv_at hl 1 rfl) ?_
    refine zget (ci := 14) (C := RX14) (T := TX14) (v := .ref (ad 14 0 (28 + 1))) (k := 28) hx hb hts inW_14 hown hK hZ (by decide) (by decide) rfl (by decide) k_11_26 rfl (D_180 W_prog_15_method_73_code_0 20 rfl rfl rfl) ?_
    refine lv_aload_n hx hb (D_42 W_prog_15_method_73_code_0 23 rfl rfl) rfl (lv_at hl 1 rfl) ?_
    refine zget (ci := 14) (C := RX14) (T := TX14) (v := .int (iI (F 14 0 35))) (k := 35) hx hb hts inW_14 hown hK hZ (by decide) (by decide) rfl (by decide) k_11_33 rfl (D_180 W_prog_15_method_73_code_0 24 rfl rfl rfl) ?_
    obtain ⟨g5, hf⟩ := gif hf
    refine zald (ci := 14) (k := 28) hx hb hK rfl hZ (by decide) (by decide) rfl (Nat.le_of_ble_eq_true rfl) g5.1 g5.2 (D_46 W_prog_15_method_73_code_0 27 rfl rfl) ?_
    obtain ⟨r6, F6, B6, hc6, hf⟩ := gbind hf
    refine va_callv (va_runV (As := [.int (iI 15), .int (iI (B 14 0 28 (F 14 0 35)))]) (rest := []) ⟨hx, hb, hml, hown, hts⟩ (c_M_failAt (l := l) hc6) (cwV 2 hts (gdV k_14_132 k_14_134 ks_205 k_1_9 k_14_135) rfl rfl rfl (by decide +kernel) ⟨Nat.le_of_ble_eq_true rfl, Nat.le_of_ble_eq_true rfl⟩) (zPV X hZ hS (ci := 14) (by decide) (by decide) (r := (RX14, TX14, 107)) rfl [.int (iI 15), .int (iI (B 14 0 28 (F 14 0 35)))]) rfl rfl hl.1 rfl (lv_room (Nat.le_of_ble_eq_true rfl)) (D_182 W_prog_15_method_73_code_0 28 rfl rfl rfl) ⟨Nat.le_of_ble_eq_true rfl, Nat.le_of_ble_eq_true rfl⟩) hS (fun q _ h => zAin X hS q h) (zAin X hS) (fun u6 t6 H6 locs6 ht6 hv6 hw6 hB6 hz6 hk6 hS6 => ?_)
    have hZ6 := zBack X ht6 hB6
    cases hf
    exact W.vret hx hb hr (fun t ht hW => ⟨⟨(), rfl, trivial, by rw [ht]; exact hZ6, va_K.moved hW.alike hK⟩, hS6.F ht⟩) hS6.2.2 (D_177 W_prog_15_method_73_code_0 31 rfl rfl) hlk

